section
-- ===== PART A: goes FIRST, ahead of the names: the tables' words, and 'selects' of the private methods out of them =====
/-- a private method of a class that the tables say can be made, by its rows of tables_1 -/
def lw_okq (q : MethodName × Nat) : Prop := (q.1.cls ≠ "java/lang/invoke/MethodHandle" ∧ q.1.cls ≠ "java/lang/invoke/VarHandle") ∧ Cond.instantiable q.1.cls q.2 ∈ tables_1 ∧ Cond.privateMethod q.1 ∈ tables_1 ∧ Cond.instanceMethod q.1 ∈ tables_1
theorem lw_p0 : lw_okq (⟨"CommitCouncil", "howManyUp", "(II)I"⟩, 7) := ⟨⟨by decide +kernel, by decide +kernel⟩, List.mem_of_getElem? (i := 19) (by decide +kernel), List.mem_of_getElem? (i := 185) (by decide +kernel), List.mem_of_getElem? (i := 186) (by decide +kernel)⟩
theorem lw_p1 : lw_okq (⟨"CommitCouncil", "memberOf", "(II)LCommitCouncil$Member;"⟩, 7) := ⟨⟨by decide +kernel, by decide +kernel⟩, List.mem_of_getElem? (i := 19) (by decide +kernel), List.mem_of_getElem? (i := 189) (by decide +kernel), List.mem_of_getElem? (i := 190) (by decide +kernel)⟩
theorem lw_p2 : lw_okq (⟨"java/lang/Throwable", "fillInStackTrace", "(I)Ljava/lang/Throwable;"⟩, 6) := ⟨⟨by decide +kernel, by decide +kernel⟩, List.mem_of_getElem? (i := 233) (by decide +kernel), List.mem_of_getElem? (i := 231) (by decide +kernel), List.mem_of_getElem? (i := 232) (by decide +kernel)⟩
theorem lw_p3 : lw_okq (⟨"CommitCouncil", "howManyManagers", "(I)I"⟩, 7) := ⟨⟨by decide +kernel, by decide +kernel⟩, List.mem_of_getElem? (i := 19) (by decide +kernel), List.mem_of_getElem? (i := 279) (by decide +kernel), List.mem_of_getElem? (i := 280) (by decide +kernel)⟩
theorem lw_p4 : lw_okq (⟨"CommitCouncil", "isBackedByChosen", "(I)Z"⟩, 7) := ⟨⟨by decide +kernel, by decide +kernel⟩, List.mem_of_getElem? (i := 19) (by decide +kernel), List.mem_of_getElem? (i := 287) (by decide +kernel), List.mem_of_getElem? (i := 288) (by decide +kernel)⟩
theorem lw_p5 : lw_okq (⟨"CommitCouncil", "propose", "(III)Z"⟩, 7) := ⟨⟨by decide +kernel, by decide +kernel⟩, List.mem_of_getElem? (i := 19) (by decide +kernel), List.mem_of_getElem? (i := 302) (by decide +kernel), List.mem_of_getElem? (i := 303) (by decide +kernel)⟩
theorem lw_p6 : lw_okq (⟨"CommitCouncil", "sendVotes", "(III)V"⟩, 7) := ⟨⟨by decide +kernel, by decide +kernel⟩, List.mem_of_getElem? (i := 19) (by decide +kernel), List.mem_of_getElem? (i := 310) (by decide +kernel), List.mem_of_getElem? (i := 311) (by decide +kernel)⟩
theorem lw_p7 : lw_okq (⟨"CommitCouncil", "sendDecisions", "(I)V"⟩, 7) := ⟨⟨by decide +kernel, by decide +kernel⟩, List.mem_of_getElem? (i := 19) (by decide +kernel), List.mem_of_getElem? (i := 356) (by decide +kernel), List.mem_of_getElem? (i := 357) (by decide +kernel)⟩
theorem lw_p8 : lw_okq (⟨"CommitCouncil", "bring", "(I)I"⟩, 7) := ⟨⟨by decide +kernel, by decide +kernel⟩, List.mem_of_getElem? (i := 19) (by decide +kernel), List.mem_of_getElem? (i := 367) (by decide +kernel), List.mem_of_getElem? (i := 368) (by decide +kernel)⟩
theorem lw_p9 : lw_okq (⟨"CommitCouncil", "isUp", "(II)Z"⟩, 7) := ⟨⟨by decide +kernel, by decide +kernel⟩, List.mem_of_getElem? (i := 19) (by decide +kernel), List.mem_of_getElem? (i := 375) (by decide +kernel), List.mem_of_getElem? (i := 376) (by decide +kernel)⟩
theorem lw_p10 : lw_okq (⟨"CommitCouncil", "answersTo", "(III)I"⟩, 7) := ⟨⟨by decide +kernel, by decide +kernel⟩, List.mem_of_getElem? (i := 19) (by decide +kernel), List.mem_of_getElem? (i := 379) (by decide +kernel), List.mem_of_getElem? (i := 380) (by decide +kernel)⟩
theorem lw_p11 : lw_okq (⟨"CommitCouncil$Leader", "outcomeAfter", "(III)I"⟩, 10) := ⟨⟨by decide +kernel, by decide +kernel⟩, List.mem_of_getElem? (i := 74) (by decide +kernel), List.mem_of_getElem? (i := 390) (by decide +kernel), List.mem_of_getElem? (i := 391) (by decide +kernel)⟩
theorem lw_p12 : lw_okq (⟨"CommitCouncil", "take", "(III)V"⟩, 7) := ⟨⟨by decide +kernel, by decide +kernel⟩, List.mem_of_getElem? (i := 19) (by decide +kernel), List.mem_of_getElem? (i := 418) (by decide +kernel), List.mem_of_getElem? (i := 419) (by decide +kernel)⟩
theorem lw_p13 : lw_okq (⟨"CommitCouncil", "takeVote", "(II)V"⟩, 7) := ⟨⟨by decide +kernel, by decide +kernel⟩, List.mem_of_getElem? (i := 19) (by decide +kernel), List.mem_of_getElem? (i := 422) (by decide +kernel), List.mem_of_getElem? (i := 423) (by decide +kernel)⟩
theorem lw_p14 : lw_okq (⟨"CommitCouncil", "takeVoted", "(ILCommitCouncil$Leader;)V"⟩, 7) := ⟨⟨by decide +kernel, by decide +kernel⟩, List.mem_of_getElem? (i := 19) (by decide +kernel), List.mem_of_getElem? (i := 436) (by decide +kernel), List.mem_of_getElem? (i := 437) (by decide +kernel)⟩
theorem lw_p15 : lw_okq (⟨"CommitCouncil", "takeAsk", "(II)V"⟩, 7) := ⟨⟨by decide +kernel, by decide +kernel⟩, List.mem_of_getElem? (i := 19) (by decide +kernel), List.mem_of_getElem? (i := 448) (by decide +kernel), List.mem_of_getElem? (i := 449) (by decide +kernel)⟩
def lw_privs_1 : List (MethodName × Nat) := [(⟨"CommitCouncil", "howManyUp", "(II)I"⟩, 7), (⟨"CommitCouncil", "memberOf", "(II)LCommitCouncil$Member;"⟩, 7), (⟨"java/lang/Throwable", "fillInStackTrace", "(I)Ljava/lang/Throwable;"⟩, 6), (⟨"CommitCouncil", "howManyManagers", "(I)I"⟩, 7), (⟨"CommitCouncil", "isBackedByChosen", "(I)Z"⟩, 7), (⟨"CommitCouncil", "propose", "(III)Z"⟩, 7), (⟨"CommitCouncil", "sendVotes", "(III)V"⟩, 7), (⟨"CommitCouncil", "sendDecisions", "(I)V"⟩, 7), (⟨"CommitCouncil", "bring", "(I)I"⟩, 7), (⟨"CommitCouncil", "isUp", "(II)Z"⟩, 7), (⟨"CommitCouncil", "answersTo", "(III)I"⟩, 7), (⟨"CommitCouncil$Leader", "outcomeAfter", "(III)I"⟩, 10), (⟨"CommitCouncil", "take", "(III)V"⟩, 7), (⟨"CommitCouncil", "takeVote", "(II)V"⟩, 7), (⟨"CommitCouncil", "takeVoted", "(ILCommitCouncil$Leader;)V"⟩, 7), (⟨"CommitCouncil", "takeAsk", "(II)V"⟩, 7)]
theorem lw_r1 : ∀ q ∈ lw_privs_1, lw_okq q := List.forall_mem_cons.mpr ⟨lw_p0, List.forall_mem_cons.mpr ⟨lw_p1, List.forall_mem_cons.mpr ⟨lw_p2, List.forall_mem_cons.mpr ⟨lw_p3, List.forall_mem_cons.mpr ⟨lw_p4, List.forall_mem_cons.mpr ⟨lw_p5, List.forall_mem_cons.mpr ⟨lw_p6, List.forall_mem_cons.mpr ⟨lw_p7, List.forall_mem_cons.mpr ⟨lw_p8, List.forall_mem_cons.mpr ⟨lw_p9, List.forall_mem_cons.mpr ⟨lw_p10, List.forall_mem_cons.mpr ⟨lw_p11, List.forall_mem_cons.mpr ⟨lw_p12, List.forall_mem_cons.mpr ⟨lw_p13, List.forall_mem_cons.mpr ⟨lw_p14, List.forall_mem_cons.mpr ⟨lw_p15, fun _ h => absurd h List.not_mem_nil⟩⟩⟩⟩⟩⟩⟩⟩⟩⟩⟩⟩⟩⟩⟩⟩
theorem lw_p16 : lw_okq (⟨"CommitCouncil", "takeTold", "(ILCommitCouncil$Leader;)V"⟩, 7) := ⟨⟨by decide +kernel, by decide +kernel⟩, List.mem_of_getElem? (i := 19) (by decide +kernel), List.mem_of_getElem? (i := 465) (by decide +kernel), List.mem_of_getElem? (i := 466) (by decide +kernel)⟩
theorem lw_p17 : lw_okq (⟨"CommitCouncil", "startVoting", "(LCommitCouncil$Leader;)V"⟩, 7) := ⟨⟨by decide +kernel, by decide +kernel⟩, List.mem_of_getElem? (i := 19) (by decide +kernel), List.mem_of_getElem? (i := 473) (by decide +kernel), List.mem_of_getElem? (i := 474) (by decide +kernel)⟩
theorem lw_p18 : lw_okq (⟨"CommitCouncil", "takeQuestion", "(II)V"⟩, 7) := ⟨⟨by decide +kernel, by decide +kernel⟩, List.mem_of_getElem? (i := 19) (by decide +kernel), List.mem_of_getElem? (i := 478) (by decide +kernel), List.mem_of_getElem? (i := 479) (by decide +kernel)⟩
theorem lw_p19 : lw_okq (⟨"CommitCouncilModel", "becomes", "(II)Z"⟩, 26) := ⟨⟨by decide +kernel, by decide +kernel⟩, List.mem_of_getElem? (i := 595) (by decide +kernel), List.mem_of_getElem? (i := 690) (by decide +kernel), List.mem_of_getElem? (i := 691) (by decide +kernel)⟩
theorem lw_p20 : lw_okq (⟨"CommitCouncilModel", "isManager", "(I)Z"⟩, 26) := ⟨⟨by decide +kernel, by decide +kernel⟩, List.mem_of_getElem? (i := 595) (by decide +kernel), List.mem_of_getElem? (i := 694) (by decide +kernel), List.mem_of_getElem? (i := 695) (by decide +kernel)⟩
theorem lw_p21 : lw_okq (⟨"CommitCouncilModel", "lacks", "(Z)Z"⟩, 26) := ⟨⟨by decide +kernel, by decide +kernel⟩, List.mem_of_getElem? (i := 595) (by decide +kernel), List.mem_of_getElem? (i := 698) (by decide +kernel), List.mem_of_getElem? (i := 699) (by decide +kernel)⟩
theorem lw_p22 : lw_okq (⟨"CommitCouncilModel", "hasRoom", "(I)Z"⟩, 26) := ⟨⟨by decide +kernel, by decide +kernel⟩, List.mem_of_getElem? (i := 595) (by decide +kernel), List.mem_of_getElem? (i := 702) (by decide +kernel), List.mem_of_getElem? (i := 703) (by decide +kernel)⟩
theorem lw_p23 : lw_okq (⟨"CommitCouncilModel", "votes", "(III)V"⟩, 26) := ⟨⟨by decide +kernel, by decide +kernel⟩, List.mem_of_getElem? (i := 595) (by decide +kernel), List.mem_of_getElem? (i := 706) (by decide +kernel), List.mem_of_getElem? (i := 707) (by decide +kernel)⟩
theorem lw_p24 : lw_okq (⟨"CommitCouncilModel", "sends", "(IIIIII)V"⟩, 26) := ⟨⟨by decide +kernel, by decide +kernel⟩, List.mem_of_getElem? (i := 595) (by decide +kernel), List.mem_of_getElem? (i := 710) (by decide +kernel), List.mem_of_getElem? (i := 711) (by decide +kernel)⟩
theorem lw_p25 : lw_okq (⟨"CommitCouncilModel", "isMessage", "(I)Z"⟩, 26) := ⟨⟨by decide +kernel, by decide +kernel⟩, List.mem_of_getElem? (i := 595) (by decide +kernel), List.mem_of_getElem? (i := 737) (by decide +kernel), List.mem_of_getElem? (i := 738) (by decide +kernel)⟩
theorem lw_p26 : lw_okq (⟨"CommitCouncilModel", "comes", "(I)I"⟩, 26) := ⟨⟨by decide +kernel, by decide +kernel⟩, List.mem_of_getElem? (i := 595) (by decide +kernel), List.mem_of_getElem? (i := 741) (by decide +kernel), List.mem_of_getElem? (i := 742) (by decide +kernel)⟩
theorem lw_p27 : lw_okq (⟨"CommitCouncilModel", "of", "(II)I"⟩, 26) := ⟨⟨by decide +kernel, by decide +kernel⟩, List.mem_of_getElem? (i := 595) (by decide +kernel), List.mem_of_getElem? (i := 745) (by decide +kernel), List.mem_of_getElem? (i := 746) (by decide +kernel)⟩
theorem lw_p28 : lw_okq (⟨"CommitCouncilModel", "leadsTo", "(I)I"⟩, 26) := ⟨⟨by decide +kernel, by decide +kernel⟩, List.mem_of_getElem? (i := 595) (by decide +kernel), List.mem_of_getElem? (i := 749) (by decide +kernel), List.mem_of_getElem? (i := 750) (by decide +kernel)⟩
theorem lw_p29 : lw_okq (⟨"CommitCouncilModel", "isMost", "(I)Z"⟩, 26) := ⟨⟨by decide +kernel, by decide +kernel⟩, List.mem_of_getElem? (i := 595) (by decide +kernel), List.mem_of_getElem? (i := 756) (by decide +kernel), List.mem_of_getElem? (i := 757) (by decide +kernel)⟩
theorem lw_p30 : lw_okq (⟨"CommitCouncilModel", "decides", "(I)Z"⟩, 26) := ⟨⟨by decide +kernel, by decide +kernel⟩, List.mem_of_getElem? (i := 595) (by decide +kernel), List.mem_of_getElem? (i := 760) (by decide +kernel), List.mem_of_getElem? (i := 761) (by decide +kernel)⟩
theorem lw_p31 : lw_okq (⟨"CommitCouncilModel", "decided", "(II)I"⟩, 26) := ⟨⟨by decide +kernel, by decide +kernel⟩, List.mem_of_getElem? (i := 595) (by decide +kernel), List.mem_of_getElem? (i := 764) (by decide +kernel), List.mem_of_getElem? (i := 765) (by decide +kernel)⟩
def lw_privs_2 : List (MethodName × Nat) := [(⟨"CommitCouncil", "takeTold", "(ILCommitCouncil$Leader;)V"⟩, 7), (⟨"CommitCouncil", "startVoting", "(LCommitCouncil$Leader;)V"⟩, 7), (⟨"CommitCouncil", "takeQuestion", "(II)V"⟩, 7), (⟨"CommitCouncilModel", "becomes", "(II)Z"⟩, 26), (⟨"CommitCouncilModel", "isManager", "(I)Z"⟩, 26), (⟨"CommitCouncilModel", "lacks", "(Z)Z"⟩, 26), (⟨"CommitCouncilModel", "hasRoom", "(I)Z"⟩, 26), (⟨"CommitCouncilModel", "votes", "(III)V"⟩, 26), (⟨"CommitCouncilModel", "sends", "(IIIIII)V"⟩, 26), (⟨"CommitCouncilModel", "isMessage", "(I)Z"⟩, 26), (⟨"CommitCouncilModel", "comes", "(I)I"⟩, 26), (⟨"CommitCouncilModel", "of", "(II)I"⟩, 26), (⟨"CommitCouncilModel", "leadsTo", "(I)I"⟩, 26), (⟨"CommitCouncilModel", "isMost", "(I)Z"⟩, 26), (⟨"CommitCouncilModel", "decides", "(I)Z"⟩, 26), (⟨"CommitCouncilModel", "decided", "(II)I"⟩, 26)]
theorem lw_r2 : ∀ q ∈ lw_privs_2, lw_okq q := List.forall_mem_cons.mpr ⟨lw_p16, List.forall_mem_cons.mpr ⟨lw_p17, List.forall_mem_cons.mpr ⟨lw_p18, List.forall_mem_cons.mpr ⟨lw_p19, List.forall_mem_cons.mpr ⟨lw_p20, List.forall_mem_cons.mpr ⟨lw_p21, List.forall_mem_cons.mpr ⟨lw_p22, List.forall_mem_cons.mpr ⟨lw_p23, List.forall_mem_cons.mpr ⟨lw_p24, List.forall_mem_cons.mpr ⟨lw_p25, List.forall_mem_cons.mpr ⟨lw_p26, List.forall_mem_cons.mpr ⟨lw_p27, List.forall_mem_cons.mpr ⟨lw_p28, List.forall_mem_cons.mpr ⟨lw_p29, List.forall_mem_cons.mpr ⟨lw_p30, List.forall_mem_cons.mpr ⟨lw_p31, fun _ h => absurd h List.not_mem_nil⟩⟩⟩⟩⟩⟩⟩⟩⟩⟩⟩⟩⟩⟩⟩⟩
theorem lw_p32 : lw_okq (⟨"CommitCouncilModel", "settled", "(III)I"⟩, 26) := ⟨⟨by decide +kernel, by decide +kernel⟩, List.mem_of_getElem? (i := 595) (by decide +kernel), List.mem_of_getElem? (i := 768) (by decide +kernel), List.mem_of_getElem? (i := 769) (by decide +kernel)⟩
theorem lw_p33 : lw_okq (⟨"CommitCouncilModel", "ballotSeen", "(IIII)I"⟩, 26) := ⟨⟨by decide +kernel, by decide +kernel⟩, List.mem_of_getElem? (i := 595) (by decide +kernel), List.mem_of_getElem? (i := 772) (by decide +kernel), List.mem_of_getElem? (i := 773) (by decide +kernel)⟩
theorem lw_p34 : lw_okq (⟨"CommitCouncilModel", "isNew", "(IIII)Z"⟩, 26) := ⟨⟨by decide +kernel, by decide +kernel⟩, List.mem_of_getElem? (i := 595) (by decide +kernel), List.mem_of_getElem? (i := 776) (by decide +kernel), List.mem_of_getElem? (i := 777) (by decide +kernel)⟩
theorem lw_p35 : lw_okq (⟨"CommitCouncilModel", "seenAt", "(III)I"⟩, 26) := ⟨⟨by decide +kernel, by decide +kernel⟩, List.mem_of_getElem? (i := 595) (by decide +kernel), List.mem_of_getElem? (i := 780) (by decide +kernel), List.mem_of_getElem? (i := 781) (by decide +kernel)⟩
theorem lw_p36 : lw_okq (⟨"CommitCouncilModel", "remove", "(I)V"⟩, 26) := ⟨⟨by decide +kernel, by decide +kernel⟩, List.mem_of_getElem? (i := 595) (by decide +kernel), List.mem_of_getElem? (i := 784) (by decide +kernel), List.mem_of_getElem? (i := 785) (by decide +kernel)⟩
theorem lw_p37 : lw_okq (⟨"CommitCouncilModel", "voteComes", "(I)V"⟩, 26) := ⟨⟨by decide +kernel, by decide +kernel⟩, List.mem_of_getElem? (i := 595) (by decide +kernel), List.mem_of_getElem? (i := 788) (by decide +kernel), List.mem_of_getElem? (i := 789) (by decide +kernel)⟩
theorem lw_p38 : lw_okq (⟨"CommitCouncilModel", "askComes", "(I)V"⟩, 26) := ⟨⟨by decide +kernel, by decide +kernel⟩, List.mem_of_getElem? (i := 595) (by decide +kernel), List.mem_of_getElem? (i := 792) (by decide +kernel), List.mem_of_getElem? (i := 793) (by decide +kernel)⟩
theorem lw_p39 : lw_okq (⟨"CommitCouncilModel", "toldComes", "(I)V"⟩, 26) := ⟨⟨by decide +kernel, by decide +kernel⟩, List.mem_of_getElem? (i := 595) (by decide +kernel), List.mem_of_getElem? (i := 796) (by decide +kernel), List.mem_of_getElem? (i := 797) (by decide +kernel)⟩
theorem lw_p40 : lw_okq (⟨"CommitCouncilModel", "votedComes", "(IZ)V"⟩, 26) := ⟨⟨by decide +kernel, by decide +kernel⟩, List.mem_of_getElem? (i := 595) (by decide +kernel), List.mem_of_getElem? (i := 801) (by decide +kernel), List.mem_of_getElem? (i := 802) (by decide +kernel)⟩
theorem lw_p41 : lw_okq (⟨"CommitCouncilModel", "turns", "(IIZ)Z"⟩, 26) := ⟨⟨by decide +kernel, by decide +kernel⟩, List.mem_of_getElem? (i := 595) (by decide +kernel), List.mem_of_getElem? (i := 821) (by decide +kernel), List.mem_of_getElem? (i := 822) (by decide +kernel)⟩
theorem lw_p42 : lw_okq (⟨"CommitCouncilModel", "manyOf", "(I)I"⟩, 26) := ⟨⟨by decide +kernel, by decide +kernel⟩, List.mem_of_getElem? (i := 595) (by decide +kernel), List.mem_of_getElem? (i := 825) (by decide +kernel), List.mem_of_getElem? (i := 826) (by decide +kernel)⟩
theorem lw_p43 : lw_okq (⟨"CommitCouncilModel", "isAcceptor", "(I)Z"⟩, 26) := ⟨⟨by decide +kernel, by decide +kernel⟩, List.mem_of_getElem? (i := 595) (by decide +kernel), List.mem_of_getElem? (i := 849) (by decide +kernel), List.mem_of_getElem? (i := 850) (by decide +kernel)⟩
def lw_privs_3 : List (MethodName × Nat) := [(⟨"CommitCouncilModel", "settled", "(III)I"⟩, 26), (⟨"CommitCouncilModel", "ballotSeen", "(IIII)I"⟩, 26), (⟨"CommitCouncilModel", "isNew", "(IIII)Z"⟩, 26), (⟨"CommitCouncilModel", "seenAt", "(III)I"⟩, 26), (⟨"CommitCouncilModel", "remove", "(I)V"⟩, 26), (⟨"CommitCouncilModel", "voteComes", "(I)V"⟩, 26), (⟨"CommitCouncilModel", "askComes", "(I)V"⟩, 26), (⟨"CommitCouncilModel", "toldComes", "(I)V"⟩, 26), (⟨"CommitCouncilModel", "votedComes", "(IZ)V"⟩, 26), (⟨"CommitCouncilModel", "turns", "(IIZ)Z"⟩, 26), (⟨"CommitCouncilModel", "manyOf", "(I)I"⟩, 26), (⟨"CommitCouncilModel", "isAcceptor", "(I)Z"⟩, 26)]
theorem lw_r3 : ∀ q ∈ lw_privs_3, lw_okq q := List.forall_mem_cons.mpr ⟨lw_p32, List.forall_mem_cons.mpr ⟨lw_p33, List.forall_mem_cons.mpr ⟨lw_p34, List.forall_mem_cons.mpr ⟨lw_p35, List.forall_mem_cons.mpr ⟨lw_p36, List.forall_mem_cons.mpr ⟨lw_p37, List.forall_mem_cons.mpr ⟨lw_p38, List.forall_mem_cons.mpr ⟨lw_p39, List.forall_mem_cons.mpr ⟨lw_p40, List.forall_mem_cons.mpr ⟨lw_p41, List.forall_mem_cons.mpr ⟨lw_p42, List.forall_mem_cons.mpr ⟨lw_p43, fun _ h => absurd h List.not_mem_nil⟩⟩⟩⟩⟩⟩⟩⟩⟩⟩⟩⟩
def lw_privs : List (MethodName × Nat) := lw_privs_1 ++ (lw_privs_2 ++ (lw_privs_3))
def lw_tbl : List Cond := k2_sels lw_privs ++ tables_1
theorem lw_privs_ok : ∀ q ∈ lw_privs, lw_okq q := by
  show ∀ q ∈ lw_privs_1 ++ (lw_privs_2 ++ (lw_privs_3)), lw_okq q
  exact List.forall_mem_append.mpr ⟨lw_r1, List.forall_mem_append.mpr ⟨lw_r2, lw_r3⟩⟩
end
section
/-! ===== BEGIN words of one list among another's, by their places ===== -/
theorem goodIn_r {big : List Cond} (ws : List Cond) (ps : List Nat) (hp : ws = ps.filterMap (fun i => big[i]?)) (h : ws.all goodWord = true) : GoodIn big ws := by
  intro w hw
  have h1 := List.all_eq_true.mp h w hw
  rw [hp] at hw
  obtain ⟨i, -, hi⟩ := List.mem_filterMap.mp hw
  have hm : w ∈ big := by first | exact List.mem_of_getElem? hi | exact List.getElem?_mem hi
  exact ⟨hm, good_of_word h1⟩
theorem goodIn_app {big a b : List Cond} (ha : GoodIn big a) (hb : GoodIn big b) : GoodIn big (a ++ b) := fun w h => (List.mem_append.mp h).elim (ha w) (hb w)
theorem goodIn_ca {big a b : List Cond} {c : Cond} (ha : GoodIn big (c :: a)) (hb : GoodIn big b) : GoodIn big (c :: (a ++ b)) := fun w h => (List.mem_cons.mp h).elim (fun e => ha w (List.mem_cons.mpr (Or.inl e))) (fun h => (List.mem_append.mp h).elim (fun h => ha w (List.mem_cons.mpr (Or.inr h))) (hb w))
theorem goodIn_sub {big ws : List Cond} (hm : ∀ w ∈ ws, w ∈ big) (h : ws.all goodWord = true) : GoodIn big ws := fun w hw => ⟨hm w hw, good_of_word (List.all_eq_true.mp h w hw)⟩
/-! ===== END ===== -/


/-! ===== BEGIN exceptions that leave a method, and their catching by the caller (launches without stack traces) ===== -/
section VXA
/-! The laws vx_back, vx_callV, vx_callS, vx_callSW, vx_throw0, vx_throwS follow proofs of the library, with one case more: JvmDerived/Free/Laws.lean (Back.of_free), Shelf42/LK1.lean (callV, callS), Shelf/KitTraced.lean (throwNew0V, throwNewS). -/
/-- where a method has thrown q: the class by its name, the cell, what was written, the world -/
def vx_T (XC : String → State → State → Prop) (st : State) (q : Addr) (t : State) (mc ms : Nat) (free : Addr → Prop) : Prop :=
  ∃ (E : String) (ce : Cell) (L : List Loc), XC E st t ∧ t.heap[q]? = some ce ∧ ce.vm = .none ∧ st.vm.findClass E = some ce.cls ∧ st.WarmedH t.vm ∧ st.sameButNew ({ t with vm := st.vm } : State) L mc ms ∧ ∀ z ∈ L, free z.base
def vx_Q (Qc : Array Value → State → Outcome → State → Prop) (XC : String → State → State → Prop) (mc ms : Nat) (free : Addr → Prop) : Array Value → State → Outcome → State → Prop := fun a st o t =>
  (Qc a st o t ∧ ∃ L, FrameEnd st o t L mc ms ∧ ∀ q ∈ L, free q.base) ∨ ∃ q, o = .threw q ∧ vx_T XC st q t mc ms free
/-- a callee that returns or throws -/
def vx_Met (l : Launch) (y : MethodName) (ws : List Cond) (rm : Room) (Pc : Array Value → State → Prop) (Qc : Array Value → State → Outcome → State → Prop) (XC : String → State → State → Prop) (mc ms : Nat) (free : Addr → Prop) : Prop :=
  MetFree l y (headSpec ws rm) Pc (fun _ _ _ _ _ => True) (vx_Q Qc XC mc ms free)
def vx_Post (XC : String → State → State → Prop) (mc ms : Nat) (free : Addr → Prop) : Pt → Array Value → Addr → Pt → Prop := fun A a q B =>
  ∃ (g : JFrame) (mk : MethodId) (t : State) (L : List Loc) (E : String) (ce : Cell), B.U.heap = t.heap ∧ B.U.vm = t.vm ∧ XC E (A.U.calling g mk a) t ∧ t.heap[q]? = some ce ∧ ce.vm = .none ∧ A.U.vm.findClass E = some ce.cls ∧ B.locs = A.locs ++ L ∧ (∀ z ∈ L, free z.base) ∧ B.cells = A.cells + mc ∧ B.slots = A.slots + ms
def vx_Back (l : Launch) (R : Room) (p : Program) (e : Env) (below : List Frame) (s : State) (sargs : Array Value) (y : MethodName) (len W9 : Nat)
    (Pre : Pt → Array Value → Prop) (Post : Pt → Array Value → Option Value → Pt → Prop) (PostX : Pt → Array Value → Addr → Pt → Prop) : Prop :=
  ∀ (m : MethodId) (meth : Method) (c : Code) (A : Pt) (g : JFrame) (ig : Instr) (mk : MethodId) (a : Array Value),
    Stand p l e R s m sargs below meth c A.U A.locs A.cells A.slots → g.method = m → g.locals.size = c.maxLocals → decode c.code g.pc = .ok (ig, len) →
    2 * g.monitorRoom + (g.stack.map fun v => v.category).sum ≤ W9 → A.U.methodNamed? y = some mk → Pre A a →
    (∃ (v : Option Value) (B : Pt), Stand p l e R s m sargs below meth c B.U B.locs B.cells B.slots ∧ Post A a v B ∧
      Steps p.tables e below (doInvoke e (A.U.setTop g) [] mk a).1 (B.U.setTop { g with pc := g.pc + len, stack := v.toList ++ g.stack })) ∨
    (∃ (q : Addr) (B : Pt), Stand p l e R s m sargs below meth c B.U B.locs B.cells B.slots ∧ PostX A a q B ∧
      Steps p.tables e below (doInvoke e (A.U.setTop g) [] mk a).1 ((B.U.setTop g).pushFrame (.throwing q)))
section Payer
variable {l : Launch} {R : Room} {p : Program} {e : Env} {below : List Frame} {s : State} {sargs : Array Value} {y : MethodName} {len W9 : Nat}
theorem vx_back {ws : List Cond} {rm : Room} {Pc : Array Value → State → Prop} {Qc : Array Value → State → Outcome → State → Prop} {XC : String → State → State → Prop} {mc ms : Nat} {free : Addr → Prop} {bytes : ByteArray} {maxL : Nat} {ret : Option FieldType}
    (hM : vx_Met l y ws rm Pc Qc XC mc ms free) (hblind : FrameBlind Pc) (hrc : rm.cells = mc) (hrs : rm.slots = ms)
    (hframes : rm.frames + 1 ≤ R.frames) (hlocals : W9 + (maxL + 11) + rm.locals ≤ R.locals)
    (hws : ∀ w ∈ ws, ∀ a' U, s.WarmedH U.vm → w.before a' U = true) (hcode : Cond.code y bytes maxL ret ∈ ws) (hinit : ∀ a' U, s.WarmedH U.vm → (Cond.initialized y.cls).before a' U = true) :
    vx_Back l R p e below s sargs y len W9 (PreOf R mc ms Pc) (PostOf Qc mc ms free) (vx_Post XC mc ms free) := by
  intro m meth c A g ig mk a X hg hsize hdg hW hn hp
  have h1 : (headSpec ws rm).pre.before a A.U = true := atoms_intro fun w hw => hws w hw _ _ X.warmed
  have h2 : (Cond.code y bytes maxL ret).before a A.U = true := hws _ hcode _ _ X.warmed
  have h3 : (Cond.initialized y.cls).before a A.U = true := hinit _ _ X.warmed
  have h4 : A.cells + (headSpec ws rm).room.cells ≤ R.cells := by rw [show (headSpec ws rm).room.cells = mc from hrc]; exact hp.1
  have h5 : A.slots + (headSpec ws rm).room.slots ≤ R.slots := by rw [show (headSpec ws rm).room.slots = ms from hrs]; exact hp.2.1
  have hPc : Pc a (A.U.calling g mk a) := hblind _ _ _ _ hp.2.2
  obtain ⟨U, Ls, c0, s0⟩ := A
  dsimp only [Pt.U, Pt.locs, Pt.cells, Pt.slots] at h1 h2 h3 h4 h5 X hn hPc ⊢
  obtain ⟨methY, cY, hmY, hcY, -, hlY, -, -, -, -⟩ := Cond.code_spec hn h2
  obtain ⟨kY, hkY, -⟩ := className_of_methodNamed hn
  have hinitY : kY.init = .initialized := Cond.initialized_spec (findClass_of_methodNamed hn) hkY h3
  have h : At U g.method c below := by rw [hg]; exact X.here
  have hlocals9 : W9 + (maxL + 11) + (headSpec ws rm).room.locals ≤ R.locals := hlocals
  have happ : (headSpec ws rm).appliesLoose y e.platform (U.calling g mk a) = true :=
    Spec.appliesLoose_calling (g := g) h hdg hn hkY hinitY
      (X.room_calling (g := g) (R' := (headSpec ws rm).room) hsize hmY hcY hframes (by rw [hlY]; omega) h4 h5) h1
  obtain ⟨mid, hmid⟩ := h.above
  have hfr : (U.setTop g).frames = (.java g :: mid) ++ below := by rw [State.frames_setTop' g h.top, hmid]; rfl
  obtain ⟨o, s₂, hsteps, -, hend, hq⟩ := Steps.callFree hM p X.admits X.cas X.clock (acts := []) hfr happ hPc trivial
  have hq' : vx_Q Qc XC mc ms free a (U.calling g mk a) o s₂ := hq
  rw [State.frames_setTop' g h.top] at hend
  obtain ⟨g₀, hg0⟩ := Option.isSome_iff_exists.mp h.top
  obtain ⟨r, hr⟩ := State.topJava?_eq_some.mp hg0
  have hr' : (({ U with heap := s₂.heap, slotsUsed := s₂.slotsUsed } : State).setVm s₂.vm).frames = .java g₀ :: r := hr
  rcases hq' with ⟨hqc, L, hfe, hL⟩ | ⟨q, rfl, E, ce, L, hx, hce, hcv, hcl, hW₂, hsm, hL⟩
  · obtain ⟨⟨v, rfl⟩, hW₂, e2, q2, q3, q4, q5, q6⟩ := id hfe
    have e3 : s₂ = ({ (U.calling g mk a).setFrames s₂.frames with heap := s₂.heap, slotsUsed := s₂.slotsUsed } : State).setVm s₂.vm := by
      have : s₂ = ({ s₂ with vm := (U.calling g mk a).vm } : State).setVm s₂.vm := rfl
      rw [e2] at this
      exact this
    obtain ⟨c₂, i₂, len₂, hc₂, hd₂, hf₂⟩ := hend
    have hW' : U.WarmedH s₂.vm := hW₂
    have hcc : c₂ = c := by
      have h1 : s₂.code? g.method = U.code? g.method := by
        rw [State.code?_eq, State.code?_eq, hW'.alike.method?]
      exact Option.some.inj (hc₂.symm.trans (h1.trans h.code))
    subst hcc
    have hlen : len₂ = len := by rw [hdg] at hd₂; cases hd₂; rfl
    subst hlen
    have hs₂ : s₂ = (({ U with heap := s₂.heap, slotsUsed := s₂.slotsUsed } : State).setVm s₂.vm).setTop { g with pc := g.pc + len₂, stack := v.toList ++ g.stack } := by
      refine e3.trans ?_
      rw [hf₂, State.calling_eq h.top, State.setFrames_setFrames, State.setTop_of_frames _ hr', hr]
      rfl
    have hsame : U.sameButNew ({ U with heap := s₂.heap, slotsUsed := s₂.slotsUsed } : State) L mc ms := by
      refine ⟨?_, q2, q3, q4, q5, q6⟩
      obtain ⟨t, ht, -⟩ := State.frames_cons hr
      show ({ U with heap := s₂.heap, slotsUsed := s₂.slotsUsed } : State) = { U.setFrames U.frames with heap := s₂.heap, slotsUsed := s₂.slotsUsed }
      rw [State.setFrames_self ht]
    subst hg
    refine Or.inl ⟨v, ⟨(({ U with heap := s₂.heap, slotsUsed := s₂.slotsUsed } : State).setVm s₂.vm), Ls ++ L, c0 + mc, s0 + ms⟩,
      ⟨X.admits, X.cas, X.clock, X.frames, X.room, X.hears, X.method, X.code, (X.here.setHeapUsed s₂.heap s₂.slotsUsed).setVm hW'.alike, X.tail, State.WarmedH.trans X.warmed hW', X.limits, X.bytes, X.same.trans (hsame.setVm s.vm)⟩,
      ⟨g, mk, s₂, L, rfl, rfl, hqc, rfl, hL, rfl, rfl⟩, ?_⟩
    show Steps p.tables e below _ ((({ U with heap := s₂.heap, slotsUsed := s₂.slotsUsed } : State).setVm s₂.vm).setTop { g with pc := g.pc + len₂, stack := v.toList ++ g.stack })
    rw [← hs₂]
    exact hsteps
  · obtain ⟨e2, q2, q3, q4, q5, q6⟩ := id hsm
    have e3 : s₂ = ({ (U.calling g mk a).setFrames s₂.frames with heap := s₂.heap, slotsUsed := s₂.slotsUsed } : State).setVm s₂.vm := by
      have : s₂ = ({ s₂ with vm := (U.calling g mk a).vm } : State).setVm s₂.vm := rfl
      rw [e2] at this
      exact this
    have hf₂ : s₂.frames = .throwing q :: .java g :: U.frames.tail := hend
    have hW' : U.WarmedH s₂.vm := hW₂
    have hs₂ : s₂ = ((({ U with heap := s₂.heap, slotsUsed := s₂.slotsUsed } : State).setVm s₂.vm).setTop g).pushFrame (.throwing q) := by
      refine e3.trans ?_
      rw [hf₂, State.calling_eq h.top, State.setFrames_setFrames, State.pushFrame, State.frames_setTop _ hr', State.setTop_of_frames _ hr', State.setFrames_setFrames, hr]
      rfl
    have hsame : U.sameButNew ({ U with heap := s₂.heap, slotsUsed := s₂.slotsUsed } : State) L mc ms := by
      refine ⟨?_, q2, q3, q4, q5, q6⟩
      obtain ⟨t, ht, -⟩ := State.frames_cons hr
      show ({ U with heap := s₂.heap, slotsUsed := s₂.slotsUsed } : State) = { U.setFrames U.frames with heap := s₂.heap, slotsUsed := s₂.slotsUsed }
      rw [State.setFrames_self ht]
    subst hg
    refine Or.inr ⟨q, ⟨(({ U with heap := s₂.heap, slotsUsed := s₂.slotsUsed } : State).setVm s₂.vm), Ls ++ L, c0 + mc, s0 + ms⟩,
      ⟨X.admits, X.cas, X.clock, X.frames, X.room, X.hears, X.method, X.code, (X.here.setHeapUsed s₂.heap s₂.slotsUsed).setVm hW'.alike, X.tail, State.WarmedH.trans X.warmed hW', X.limits, X.bytes, X.same.trans (hsame.setVm s.vm)⟩,
      ⟨g, mk, s₂, L, E, ce, rfl, rfl, hx, hce, hcv, hcl, rfl, hL, rfl, rfl⟩, ?_⟩
    show Steps p.tables e below _ (((({ U with heap := s₂.heap, slotsUsed := s₂.slotsUsed } : State).setVm s₂.vm).setTop g).pushFrame (.throwing q))
    rw [← hs₂]
    exact hsteps
end Payer
section Calls
variable {p : Program} {l : Launch} {e : Env} {R : Room} {s : State} {m : MethodId} {args : Array Value} {below : List Frame} {meth : Method} {c : Code} {T : State} {locs : List Loc} {cells slots : Nat}
theorem vx_callV (X : Stand p l e R s m args below meth c T locs cells slots) (hexec : p.tables.exec = Jvm.exec) {own C : String} {index : Nat} {y : MethodName} {bytes : ByteArray} {maxL : Nat} {ret : Option FieldType}
    (hown : s.vm.findClass own = some m.cls) (hlink : (Cond.methodLink own index y).before args s = true) (hinst : (Cond.instanceMethod y).before args s = true) (hsel : (Cond.selects C y y).before args s = true)
    (hcode : (Cond.code y bytes maxL ret).before args s = true) (hy : y.cls ≠ "java/lang/invoke/MethodHandle" ∧ y.cls ≠ "java/lang/invoke/VarHandle")
    {W9 : Nat} {Pre : Pt → Array Value → Prop} {Post : Pt → Array Value → Option Value → Pt → Prop} {PostX : Pt → Array Value → Addr → Pt → Prop} (hK : vx_Back l R p e below s args y 3 W9 Pre Post PostX)
    {b : Addr} {cellB : Cell} (hcell : T.heap[b]? = some cellB) (hobj : cellB.vm.isStatics = false) (hcls : s.vm.findClass C = some cellB.cls)
    {g : JFrame} (hg : g.method = m) (hsize : g.locals.size = c.maxLocals) {argsL rest : List Value} (hlen : ∀ sig, parseMethodDescriptor y.desc = some sig → argsL.length = sig.parameters.length)
    (hstack : g.stack = argsL.reverse ++ .ref b :: rest) (hW : 2 * g.monitorRoom + (rest.map fun v => v.category).sum ≤ W9) (hdg : decode c.code g.pc = .ok (.invokevirtual index, 3))
    (hpre : ∀ vm₁, s.WarmedH vm₁ → Pre ⟨T.setVm vm₁, locs, cells, slots⟩ (Value.ref b :: argsL).toArray) :
    (∃ (v : Option Value) (vm₁ : Vm) (B : Pt), s.WarmedH vm₁ ∧ Stand p l e R s m args below meth c B.U B.locs B.cells B.slots ∧ Post ⟨T.setVm vm₁, locs, cells, slots⟩ (Value.ref b :: argsL).toArray v B ∧
      ∀ target, Steps p.tables e below (B.U.setTop { g with pc := g.pc + 3, stack := v.toList ++ rest }) target → Steps p.tables e below (T.setTop g) target) ∨
    (∃ (q : Addr) (vm₁ : Vm) (B : Pt), s.WarmedH vm₁ ∧ Stand p l e R s m args below meth c B.U B.locs B.cells B.slots ∧ PostX ⟨T.setVm vm₁, locs, cells, slots⟩ (Value.ref b :: argsL).toArray q B ∧
      Steps p.tables e below (T.setTop g) ((B.U.setTop { g with stack := rest }).pushFrame (.throwing q))) := by
  obtain ⟨mk, methM, hnamed, hmethM, hstM, habM⟩ := Cond.instanceMethod_spec hinst
  obtain ⟨methM', cM, hmethM', -, -, -, -, -, -, hsigM⟩ := Cond.code_spec hnamed hcode
  cases hmethM.symm.trans hmethM'
  obtain ⟨c2, r2, m2, q1, q2, q3, q4, kP, hkP, hkPi⟩ := Cond.selects_spec hsel
  cases hcls.symm.trans q1
  cases (State.methodFound?_of_named hnamed hy).symm.trans q2
  cases hnamed.symm.trans q3
  have hselP : selectMethod e.platform s.vm cellB.cls mk = .method mk := by rw [Launch.admits_selectMethod X.admits]; exact q4
  obtain ⟨vm₁, X₁, hstep₁⟩ := X.invokevirtual hexec hown hlink hnamed hmethM hstM hkP hkPi hy (a := b) (cell := cellB) hcell
    (fun z h => by rw [h] at hobj; cases hobj) hselP hmethM habM hkP hkPi (g := g) hg (argsL := argsL) (rest := rest) (hlen _ hsigM) hstack hdg
  rcases hK m meth c ⟨T.setVm vm₁, locs, cells, slots⟩ { g with stack := rest } (.invokevirtual index) mk (Value.ref b :: argsL).toArray X₁ hg hsize hdg hW (X₁.named hnamed) (hpre vm₁ X₁.warmed) with ⟨v, B, X', hpost, hsteps⟩ | ⟨q, B, X', hpost, hsteps⟩
  · exact Or.inl ⟨v, vm₁, B, X₁.warmed, X', hpost, fun target h => hstep₁ _ fun acts => by rw [doInvoke_state]; exact hsteps.trans h⟩
  · exact Or.inr ⟨q, vm₁, B, X₁.warmed, X', hpost, hstep₁ _ fun acts => by rw [doInvoke_state]; exact hsteps⟩
theorem vx_callS (X : Stand p l e R s m args below meth c T locs cells slots) (hexec : p.tables.exec = Jvm.exec) {own : String} {index : Nat} {y : MethodName} {bytes : ByteArray} {maxL : Nat} {ret : Option FieldType}
    (hown : s.vm.findClass own = some m.cls) (hlink : (Cond.methodLink own index y).before args s = true) (hstat : (Cond.static y).before args s = true) (hinit : (Cond.initialized y.cls).before args s = true)
    (hcode : (Cond.code y bytes maxL ret).before args s = true) (hy : y.cls ≠ "java/lang/invoke/MethodHandle" ∧ y.cls ≠ "java/lang/invoke/VarHandle")
    {W9 : Nat} {Pre : Pt → Array Value → Prop} {Post : Pt → Array Value → Option Value → Pt → Prop} {PostX : Pt → Array Value → Addr → Pt → Prop} (hK : vx_Back l R p e below s args y 3 W9 Pre Post PostX)
    {g : JFrame} (hg : g.method = m) (hsize : g.locals.size = c.maxLocals) {argsL rest : List Value} (hlen : ∀ sig, parseMethodDescriptor y.desc = some sig → argsL.length = sig.parameters.length)
    (hstack : g.stack = argsL.reverse ++ rest) (hW : 2 * g.monitorRoom + (rest.map fun v => v.category).sum ≤ W9) (hdg : decode c.code g.pc = .ok (.invokestatic index, 3))
    (hpre : ∀ vm₁, s.WarmedH vm₁ → Pre ⟨T.setVm vm₁, locs, cells, slots⟩ argsL.toArray) :
    (∃ (v : Option Value) (vm₁ : Vm) (B : Pt), s.WarmedH vm₁ ∧ Stand p l e R s m args below meth c B.U B.locs B.cells B.slots ∧ Post ⟨T.setVm vm₁, locs, cells, slots⟩ argsL.toArray v B ∧
      ∀ target, Steps p.tables e below (B.U.setTop { g with pc := g.pc + 3, stack := v.toList ++ rest }) target → Steps p.tables e below (T.setTop g) target) ∨
    (∃ (q : Addr) (vm₁ : Vm) (B : Pt), s.WarmedH vm₁ ∧ Stand p l e R s m args below meth c B.U B.locs B.cells B.slots ∧ PostX ⟨T.setVm vm₁, locs, cells, slots⟩ argsL.toArray q B ∧
      Steps p.tables e below (T.setTop g) ((B.U.setTop { g with stack := rest }).pushFrame (.throwing q))) := by
  obtain ⟨mk, hnamed⟩ := Cond.code_named hcode
  obtain ⟨methM, cM, hmethM, -, -, -, -, -, -, hsigM⟩ := Cond.code_spec hnamed hcode
  have hstatic : methM.isStatic = true := Cond.static_spec hnamed hmethM hstat
  obtain ⟨kP, hkP, -⟩ := className_of_methodNamed hnamed
  have hinitP : kP.init = .initialized := Cond.initialized_spec (findClass_of_methodNamed hnamed) hkP hinit
  obtain ⟨vm₁, X₁, hstep₁⟩ := X.invokestatic hexec hown hlink hnamed hmethM hstatic hkP hinitP hy (g := g) hg (argsL := argsL) (rest := rest) (hlen _ hsigM) hstack hdg
  rcases hK m meth c ⟨T.setVm vm₁, locs, cells, slots⟩ { g with stack := rest } (.invokestatic index) mk argsL.toArray X₁ hg hsize hdg hW (X₁.named hnamed) (hpre vm₁ X₁.warmed) with ⟨v, B, X', hpost, hsteps⟩ | ⟨q, B, X', hpost, hsteps⟩
  · exact Or.inl ⟨v, vm₁, B, X₁.warmed, X', hpost, fun target h => hstep₁ _ fun acts => by rw [doInvoke_state]; exact hsteps.trans h⟩
  · exact Or.inr ⟨q, vm₁, B, X₁.warmed, X', hpost, hstep₁ _ fun acts => by rw [doInvoke_state]; exact hsteps⟩
end Calls
theorem vx_cls {s : State} {T : State} {vm₁ : Vm} {E : String} {k : ClassId} (hW : s.WarmedH vm₁) (h : (T.setVm vm₁).vm.findClass E = some k) : s.vm.findClass E = some k := by
  have h1 : vm₁.findClass E = some k := h
  rw [hW.alike.findClass] at h1
  exact h1
/-- the method's frame g, with q thrown over it -/
def vx_W (p : Program) (l : Launch) (e : Env) (R : Room) (s : State) (m : MethodId) (args : Array Value) (below : List Frame) (meth : Method) (c : Code) (H : Heap) (locs : List Loc) (cells slots : Nat) (Q : State → Prop) (g : JFrame) (q : Addr) : Prop :=
  ∀ T : State, T.heap = H → Stand p l e R s m args below meth c T locs cells slots → ∃ t, Steps p.tables e below ((T.setTop g).pushFrame (.throwing q)) t ∧ Q t
def vx_Run (p : Program) (l : Launch) (e : Env) (R : Room) (s : State) (m : MethodId) (args : Array Value) (below : List Frame) (meth : Method) (c : Code) (H : Heap) (locs : List Loc) (cells slots mc ms : Nat) (g : JFrame) (rest : List Value) (Qa : State → Outcome → State → Prop) (XC : String → State → State → Prop) (free : Addr → Prop) : Prop :=
  ∀ T : State, T.heap = H → Stand p l e R s m args below meth c T locs cells slots →
    (∃ (v : Option Value) (st₀ t T' : State) (L : List Loc), st₀.heap = H ∧ Stand p l e R s m args below meth c T' (locs ++ L) (cells + mc) (slots + ms) ∧ (∀ q ∈ L, free q.base) ∧ T'.heap = t.heap ∧ T'.vm = t.vm ∧ Qa st₀ (.returned v) t ∧
      Goes p e below T g T' { g with pc := g.pc + 3, stack := v.toList ++ rest }) ∨
    (∃ (q : Addr) (st₀ t T' : State) (L : List Loc) (E : String) (ce : Cell), st₀.heap = H ∧ Stand p l e R s m args below meth c T' (locs ++ L) (cells + mc) (slots + ms) ∧ (∀ z ∈ L, free z.base) ∧ T'.heap = t.heap ∧ T'.vm = t.vm ∧ XC E st₀ t ∧ t.heap[q]? = some ce ∧ ce.vm = .none ∧ s.vm.findClass E = some ce.cls ∧
      Steps p.tables e below (T.setTop g) ((T'.setTop { g with stack := rest }).pushFrame (.throwing q)))
def vx_X {S : Type} (px : S → Prop) (B : String → S → State → Prop) (A : Nat → Prop) : String → State → State → Prop := fun E st t => ∃ u : S, px u ∧ B E u t ∧ va_F A st t
section Runs
variable {p : Program} {l : Launch} {e : Env} {R : Room} {s : State} {m : MethodId} {args : Array Value} {below : List Frame} {meth : Method} {c : Code} {H : Heap} {locs : List Loc} {cells slots : Nat}
variable {y : MethodName} {bytes cc : ByteArray} {maxL nL mc ms n index : Nat} {ret : Option FieldType} {ws : List Cond} {rm : Room} {Pc : Array Value → State → Prop} {Qc : Array Value → State → Outcome → State → Prop} {XC : String → State → State → Prop} {free : Addr → Prop} {Ts : List Cond} {own C : String} {b : Addr} {As rest : List Value} {g : JFrame}
theorem vx_callBack (cb : CallB R s args own index y bytes maxL ret ws rm mc ms n) (hM : vx_Met l y ws rm Pc Qc XC mc ms free) (hbl : FrameBlind Pc) : vx_Back l R p e below s args y 3 8 (PreOf R mc ms Pc) (PostOf Qc mc ms free) (vx_Post XC mc ms free) := by
  obtain ⟨hrc, hrs, hfr, hlo, hws, hcw, -, hini, -⟩ := cb
  exact vx_back (bytes := bytes) (maxL := maxL) (ret := ret) hM hbl hrc hrs hfr hlo hws hcw (fun a' U hW => word_at hW (Or.inl (by first | rfl | simp [Cond.onTables, Cond.keeps, Cond.steady])) hini)
theorem vx_runV (S : CallFix p m c cc nL s args Ts own) (hM : vx_Met l y ws rm Pc Qc XC mc ms free) (cw : CallW R s args own C index y bytes maxL ret ws rm mc ms n) (hp : PreV s H C b Pc As)
    (hg : g.method = m) (hn : As.length = n) (hsize : g.locals.size = nL) (hstack : g.stack = As.reverse ++ .ref b :: rest) (hW : 2 * g.monitorRoom + (rest.map fun v => v.category).sum ≤ 8) (hdg : decode cc g.pc = .ok (.invokevirtual index, 3)) (hf : cells + mc ≤ R.cells ∧ slots + ms ≤ R.slots) :
    vx_Run p l e R s m args below meth c H locs cells slots mc ms g rest (Qc (Value.ref b :: As).toArray) XC free := by
  have hK : vx_Back l R p e below s args y 3 8 (PreOf R mc ms Pc) (PostOf Qc mc ms free) (vx_Post XC mc ms free) := vx_callBack cw.1 hM hp.1
  obtain ⟨⟨-, -, -, -, -, -, hcode, -, hy, hlen, hl⟩, hin, hse⟩ := cw
  obtain ⟨hx, hb, hml, ho, -⟩ := S
  obtain ⟨-, ⟨cellB, hcB, hoB, hclB⟩, hPc⟩ := hp
  intro T hT X
  rcases vx_callV X hx (C := C) (bytes := bytes) (maxL := maxL) (ret := ret) ho hl hin hse hcode hy hK (by rw [hT]; exact hcB) hoB hclB hg (hsize.trans hml.symm) (argsL := As) (rest := rest) (fun sig h => hn.trans (hlen sig h)) hstack hW (by rw [hb]; exact hdg)
    (fun vm₁ hW₁ => ⟨hf.1, hf.2, hPc (T.setVm vm₁) hT hW₁⟩) with ⟨v, vm₁, ⟨U', l2, c2, s2⟩, hW₁, X', ⟨g', mk, t, L, e1, e2, hq, h1, hL, h2, h3⟩, st⟩ | ⟨q, vm₁, ⟨U', l2, c2, s2⟩, hW₁, X', ⟨g', mk, t, L, E, ce, e1, e2, hq, hce, hcv, hcl, h1, hL, h2, h3⟩, st⟩
  · dsimp only [Pt.U, Pt.locs, Pt.cells, Pt.slots] at X' e1 e2 h1 h2 h3 st
    subst h1; subst h2; subst h3
    exact Or.inl ⟨v, (T.setVm vm₁).calling g' mk (Value.ref b :: As).toArray, t, U', L, hT, X', hL, e1, e2, hq, st⟩
  · dsimp only [Pt.U, Pt.locs, Pt.cells, Pt.slots] at X' e1 e2 h1 h2 h3 st hcl
    subst h1; subst h2; subst h3
    exact Or.inr ⟨q, (T.setVm vm₁).calling g' mk (Value.ref b :: As).toArray, t, U', L, E, ce, hT, X', hL, e1, e2, hq, hce, hcv, vx_cls hW₁ hcl, st⟩
theorem vx_runS (S : CallFix p m c cc nL s args Ts own) (hM : vx_Met l y ws rm Pc Qc XC mc ms free) (cw : CallB R s args own index y bytes maxL ret ws rm mc ms n ∧ (Cond.static y).before args s = true) (hp : PreS s H Pc As)
    (hg : g.method = m) (hn : As.length = n) (hsize : g.locals.size = nL) (hstack : g.stack = As.reverse ++ rest) (hW : 2 * g.monitorRoom + (rest.map fun v => v.category).sum ≤ 8) (hdg : decode cc g.pc = .ok (.invokestatic index, 3)) (hf : cells + mc ≤ R.cells ∧ slots + ms ≤ R.slots) :
    vx_Run p l e R s m args below meth c H locs cells slots mc ms g rest (Qc As.toArray) XC free := by
  have hK : vx_Back l R p e below s args y 3 8 (PreOf R mc ms Pc) (PostOf Qc mc ms free) (vx_Post XC mc ms free) := vx_callBack cw.1 hM hp.1
  obtain ⟨⟨-, -, -, -, -, -, hcode, hini, hy, hlen, hl⟩, hstt⟩ := cw
  obtain ⟨hx, hb, hml, ho, -⟩ := S
  intro T hT X
  rcases vx_callS X hx (bytes := bytes) (maxL := maxL) (ret := ret) ho hl hstt hini hcode hy hK hg (hsize.trans hml.symm) (argsL := As) (rest := rest) (fun sig h => hn.trans (hlen sig h)) hstack hW (by rw [hb]; exact hdg)
    (fun vm₁ hW₁ => ⟨hf.1, hf.2, hp.2 (T.setVm vm₁) hT hW₁⟩) with ⟨v, vm₁, ⟨U', l2, c2, s2⟩, hW₁, X', ⟨g', mk, t, L, e1, e2, hq, h1, hL, h2, h3⟩, st⟩ | ⟨q, vm₁, ⟨U', l2, c2, s2⟩, hW₁, X', ⟨g', mk, t, L, E, ce, e1, e2, hq, hce, hcv, hcl, h1, hL, h2, h3⟩, st⟩
  · dsimp only [Pt.U, Pt.locs, Pt.cells, Pt.slots] at X' e1 e2 h1 h2 h3 st
    subst h1; subst h2; subst h3
    exact Or.inl ⟨v, (T.setVm vm₁).calling g' mk As.toArray, t, U', L, hT, X', hL, e1, e2, hq, st⟩
  · dsimp only [Pt.U, Pt.locs, Pt.cells, Pt.slots] at X' e1 e2 h1 h2 h3 st hcl
    subst h1; subst h2; subst h3
    exact Or.inr ⟨q, (T.setVm vm₁).calling g' mk As.toArray, t, U', L, E, ce, hT, X', hL, e1, e2, hq, hce, hcv, vx_cls hW₁ hcl, st⟩
end Runs
section Rows
variable {p : Program} {l : Launch} {e : Env} {R : Room} {s : State} {m : MethodId} {args : Array Value} {below : List Frame} {meth : Method} {c : Code} {H : Heap} {locs : List Loc} {cells slots : Nat} {Q : State → Prop}
variable {mc ms : Nat} {free : Addr → Prop} {A0 A1 : Nat → Prop} {H0 : Heap} {a : Array Value} {pc : Nat} {ls : Array Slot} {st0 rest : List Value}
theorem vx_keep {st₀ t T' : State} {L : List Loc} (h0 : st₀.heap = H) (e1 : T'.heap = t.heap) (hS : va_S A0 H0 H locs) (hA : ∀ q, q < H.size → A1 q → A0 q) (hf : ∀ q, free q → A0 q) (hL : ∀ q ∈ L, free q.base) (hF : va_F A1 st₀ t) :
    H.size ≤ T'.heap.size ∧ (∀ q : Nat, q < H.size → ¬ A1 q → T'.heap[q]? = H[q]?) ∧ va_S A0 H0 T'.heap (locs ++ L) := by
  obtain ⟨hz, hk⟩ := hF
  rw [h0] at hz hk
  exact ⟨by rw [e1]; exact hz, fun q h1 h2 => by rw [e1]; exact hk q h1 h2,
    ⟨Nat.le_trans hS.1 (by rw [e1]; exact hz), fun q h1 h2 => by rw [e1, hk q (Nat.lt_of_lt_of_le h1 hS.1) (fun z => h2 (hA q (Nat.lt_of_lt_of_le h1 hS.1) z))]; exact hS.2.1 q h1 h2, fun q hq => by
      rcases List.mem_append.mp hq with h | h
      · exact hS.2.2 q h
      · exact hf _ (hL q h)⟩⟩
theorem vx_calli {S SX : Type} {post : Int32 → S → Prop} {px : SX → Prop} {B : S → State → Prop} {BX : String → SX → State → Prop} {AX : Nat → Prop} (hr : vx_Run p l e R s m args below meth c H locs cells slots mc ms (F0 m pc ls st0) rest (va_Qi post B A1 a) (vx_X px BX AX) free) (hS : va_S A0 H0 H locs) (hA : ∀ q, q < H.size → A1 q → A0 q) (hf : ∀ q, free q → A0 q) (hAX : ∀ q, q < H.size → AX q → A0 q)
    (kx : ∀ (E : String) (ce : Cell) (q9 : Addr) (u : SX) (t : State) (H1 : Heap) (locs1 : List Loc), t.heap = H1 → s.vm.Alike t.vm → px u → BX E u t → H.size ≤ H1.size → (∀ q : Nat, q < H.size → ¬ AX q → H1[q]? = H[q]?) → va_S A0 H0 H1 locs1 → H1[q9]? = some ce → ce.vm = .none → s.vm.findClass E = some ce.cls → vx_W p l e R s m args below meth c H1 locs1 (cells + mc) (slots + ms) Q (F0 m pc ls rest) q9)
    (kk : ∀ (r : Int32) (u : S) (t : State) (H1 : Heap) (locs1 : List Loc), t.heap = H1 → s.vm.Alike t.vm → post r u → B u t → H.size ≤ H1.size → (∀ q : Nat, q < H.size → ¬ A1 q → H1[q]? = H[q]?) → va_S A0 H0 H1 locs1 → W p l e R s m args below meth c H1 locs1 (cells + mc) (slots + ms) Q (F0 m (pc + 3) ls (.int r :: rest))) : W p l e R s m args below meth c H locs cells slots Q (F0 m pc ls st0) := by
  intro T hT X
  rcases hr T hT X with ⟨v, st₀, t, T', L, h0, X', hL, e1, e2, ⟨⟨r, u, hv, hp, hb⟩, hF⟩, st⟩ | ⟨q, st₀, t, T', L, E, ce, h0, X', hL, e1, e2, ⟨u, hp, hb, hF⟩, hce, hcv, hcl, st⟩
  · cases hv
    obtain ⟨k1, k2, k3⟩ := vx_keep h0 e1 hS hA hf hL hF
    obtain ⟨t2, a1, b1⟩ := kk r u t T'.heap (locs ++ L) e1.symm (by rw [← e2]; exact X'.warmed.alike) hp hb k1 k2 k3 T' rfl X'
    exact ⟨t2, st t2 a1, b1⟩
  · obtain ⟨k1, k2, k3⟩ := vx_keep h0 e1 hS hAX hf hL hF
    obtain ⟨t2, a1, b1⟩ := kx E ce q u t T'.heap (locs ++ L) e1.symm (by rw [← e2]; exact X'.warmed.alike) hp hb k1 k2 k3 (by rw [e1]; exact hce) hcv hcl T' rfl X'
    exact ⟨t2, st.trans a1, b1⟩
theorem vx_calll {S SX : Type} {post : Int64 → S → Prop} {px : SX → Prop} {B : S → State → Prop} {BX : String → SX → State → Prop} {AX : Nat → Prop} (hr : vx_Run p l e R s m args below meth c H locs cells slots mc ms (F0 m pc ls st0) rest (va_Ql post B A1 a) (vx_X px BX AX) free) (hS : va_S A0 H0 H locs) (hA : ∀ q, q < H.size → A1 q → A0 q) (hf : ∀ q, free q → A0 q) (hAX : ∀ q, q < H.size → AX q → A0 q)
    (kx : ∀ (E : String) (ce : Cell) (q9 : Addr) (u : SX) (t : State) (H1 : Heap) (locs1 : List Loc), t.heap = H1 → s.vm.Alike t.vm → px u → BX E u t → H.size ≤ H1.size → (∀ q : Nat, q < H.size → ¬ AX q → H1[q]? = H[q]?) → va_S A0 H0 H1 locs1 → H1[q9]? = some ce → ce.vm = .none → s.vm.findClass E = some ce.cls → vx_W p l e R s m args below meth c H1 locs1 (cells + mc) (slots + ms) Q (F0 m pc ls rest) q9)
    (kk : ∀ (r : Int64) (u : S) (t : State) (H1 : Heap) (locs1 : List Loc), t.heap = H1 → s.vm.Alike t.vm → post r u → B u t → H.size ≤ H1.size → (∀ q : Nat, q < H.size → ¬ A1 q → H1[q]? = H[q]?) → va_S A0 H0 H1 locs1 → W p l e R s m args below meth c H1 locs1 (cells + mc) (slots + ms) Q (F0 m (pc + 3) ls (.long r :: rest))) : W p l e R s m args below meth c H locs cells slots Q (F0 m pc ls st0) := by
  intro T hT X
  rcases hr T hT X with ⟨v, st₀, t, T', L, h0, X', hL, e1, e2, ⟨⟨r, u, hv, hp, hb⟩, hF⟩, st⟩ | ⟨q, st₀, t, T', L, E, ce, h0, X', hL, e1, e2, ⟨u, hp, hb, hF⟩, hce, hcv, hcl, st⟩
  · cases hv
    obtain ⟨k1, k2, k3⟩ := vx_keep h0 e1 hS hA hf hL hF
    obtain ⟨t2, a1, b1⟩ := kk r u t T'.heap (locs ++ L) e1.symm (by rw [← e2]; exact X'.warmed.alike) hp hb k1 k2 k3 T' rfl X'
    exact ⟨t2, st t2 a1, b1⟩
  · obtain ⟨k1, k2, k3⟩ := vx_keep h0 e1 hS hAX hf hL hF
    obtain ⟨t2, a1, b1⟩ := kx E ce q u t T'.heap (locs ++ L) e1.symm (by rw [← e2]; exact X'.warmed.alike) hp hb k1 k2 k3 (by rw [e1]; exact hce) hcv hcl T' rfl X'
    exact ⟨t2, st.trans a1, b1⟩
theorem vx_callf {S SX : Type} {post : UInt32 → S → Prop} {px : SX → Prop} {B : S → State → Prop} {BX : String → SX → State → Prop} {AX : Nat → Prop} (hr : vx_Run p l e R s m args below meth c H locs cells slots mc ms (F0 m pc ls st0) rest (va_Qf post B A1 a) (vx_X px BX AX) free) (hS : va_S A0 H0 H locs) (hA : ∀ q, q < H.size → A1 q → A0 q) (hf : ∀ q, free q → A0 q) (hAX : ∀ q, q < H.size → AX q → A0 q)
    (kx : ∀ (E : String) (ce : Cell) (q9 : Addr) (u : SX) (t : State) (H1 : Heap) (locs1 : List Loc), t.heap = H1 → s.vm.Alike t.vm → px u → BX E u t → H.size ≤ H1.size → (∀ q : Nat, q < H.size → ¬ AX q → H1[q]? = H[q]?) → va_S A0 H0 H1 locs1 → H1[q9]? = some ce → ce.vm = .none → s.vm.findClass E = some ce.cls → vx_W p l e R s m args below meth c H1 locs1 (cells + mc) (slots + ms) Q (F0 m pc ls rest) q9)
    (kk : ∀ (r : UInt32) (u : S) (t : State) (H1 : Heap) (locs1 : List Loc), t.heap = H1 → s.vm.Alike t.vm → post r u → B u t → H.size ≤ H1.size → (∀ q : Nat, q < H.size → ¬ A1 q → H1[q]? = H[q]?) → va_S A0 H0 H1 locs1 → W p l e R s m args below meth c H1 locs1 (cells + mc) (slots + ms) Q (F0 m (pc + 3) ls (.float r :: rest))) : W p l e R s m args below meth c H locs cells slots Q (F0 m pc ls st0) := by
  intro T hT X
  rcases hr T hT X with ⟨v, st₀, t, T', L, h0, X', hL, e1, e2, ⟨⟨r, u, hv, hp, hb⟩, hF⟩, st⟩ | ⟨q, st₀, t, T', L, E, ce, h0, X', hL, e1, e2, ⟨u, hp, hb, hF⟩, hce, hcv, hcl, st⟩
  · cases hv
    obtain ⟨k1, k2, k3⟩ := vx_keep h0 e1 hS hA hf hL hF
    obtain ⟨t2, a1, b1⟩ := kk r u t T'.heap (locs ++ L) e1.symm (by rw [← e2]; exact X'.warmed.alike) hp hb k1 k2 k3 T' rfl X'
    exact ⟨t2, st t2 a1, b1⟩
  · obtain ⟨k1, k2, k3⟩ := vx_keep h0 e1 hS hAX hf hL hF
    obtain ⟨t2, a1, b1⟩ := kx E ce q u t T'.heap (locs ++ L) e1.symm (by rw [← e2]; exact X'.warmed.alike) hp hb k1 k2 k3 (by rw [e1]; exact hce) hcv hcl T' rfl X'
    exact ⟨t2, st.trans a1, b1⟩
theorem vx_calld {S SX : Type} {post : UInt64 → S → Prop} {px : SX → Prop} {B : S → State → Prop} {BX : String → SX → State → Prop} {AX : Nat → Prop} (hr : vx_Run p l e R s m args below meth c H locs cells slots mc ms (F0 m pc ls st0) rest (va_Qd post B A1 a) (vx_X px BX AX) free) (hS : va_S A0 H0 H locs) (hA : ∀ q, q < H.size → A1 q → A0 q) (hf : ∀ q, free q → A0 q) (hAX : ∀ q, q < H.size → AX q → A0 q)
    (kx : ∀ (E : String) (ce : Cell) (q9 : Addr) (u : SX) (t : State) (H1 : Heap) (locs1 : List Loc), t.heap = H1 → s.vm.Alike t.vm → px u → BX E u t → H.size ≤ H1.size → (∀ q : Nat, q < H.size → ¬ AX q → H1[q]? = H[q]?) → va_S A0 H0 H1 locs1 → H1[q9]? = some ce → ce.vm = .none → s.vm.findClass E = some ce.cls → vx_W p l e R s m args below meth c H1 locs1 (cells + mc) (slots + ms) Q (F0 m pc ls rest) q9)
    (kk : ∀ (r : UInt64) (u : S) (t : State) (H1 : Heap) (locs1 : List Loc), t.heap = H1 → s.vm.Alike t.vm → post r u → B u t → H.size ≤ H1.size → (∀ q : Nat, q < H.size → ¬ A1 q → H1[q]? = H[q]?) → va_S A0 H0 H1 locs1 → W p l e R s m args below meth c H1 locs1 (cells + mc) (slots + ms) Q (F0 m (pc + 3) ls (.double r :: rest))) : W p l e R s m args below meth c H locs cells slots Q (F0 m pc ls st0) := by
  intro T hT X
  rcases hr T hT X with ⟨v, st₀, t, T', L, h0, X', hL, e1, e2, ⟨⟨r, u, hv, hp, hb⟩, hF⟩, st⟩ | ⟨q, st₀, t, T', L, E, ce, h0, X', hL, e1, e2, ⟨u, hp, hb, hF⟩, hce, hcv, hcl, st⟩
  · cases hv
    obtain ⟨k1, k2, k3⟩ := vx_keep h0 e1 hS hA hf hL hF
    obtain ⟨t2, a1, b1⟩ := kk r u t T'.heap (locs ++ L) e1.symm (by rw [← e2]; exact X'.warmed.alike) hp hb k1 k2 k3 T' rfl X'
    exact ⟨t2, st t2 a1, b1⟩
  · obtain ⟨k1, k2, k3⟩ := vx_keep h0 e1 hS hAX hf hL hF
    obtain ⟨t2, a1, b1⟩ := kx E ce q u t T'.heap (locs ++ L) e1.symm (by rw [← e2]; exact X'.warmed.alike) hp hb k1 k2 k3 (by rw [e1]; exact hce) hcv hcl T' rfl X'
    exact ⟨t2, st.trans a1, b1⟩
theorem vx_callv {S SX : Type} {post : S → Prop} {px : SX → Prop} {B : S → State → Prop} {BX : String → SX → State → Prop} {AX : Nat → Prop} (hr : vx_Run p l e R s m args below meth c H locs cells slots mc ms (F0 m pc ls st0) rest (va_Qv post B A1 a) (vx_X px BX AX) free) (hS : va_S A0 H0 H locs) (hA : ∀ q, q < H.size → A1 q → A0 q) (hf : ∀ q, free q → A0 q) (hAX : ∀ q, q < H.size → AX q → A0 q)
    (kx : ∀ (E : String) (ce : Cell) (q9 : Addr) (u : SX) (t : State) (H1 : Heap) (locs1 : List Loc), t.heap = H1 → s.vm.Alike t.vm → px u → BX E u t → H.size ≤ H1.size → (∀ q : Nat, q < H.size → ¬ AX q → H1[q]? = H[q]?) → va_S A0 H0 H1 locs1 → H1[q9]? = some ce → ce.vm = .none → s.vm.findClass E = some ce.cls → vx_W p l e R s m args below meth c H1 locs1 (cells + mc) (slots + ms) Q (F0 m pc ls rest) q9)
    (kk : ∀ (u : S) (t : State) (H1 : Heap) (locs1 : List Loc), t.heap = H1 → s.vm.Alike t.vm → post u → B u t → H.size ≤ H1.size → (∀ q : Nat, q < H.size → ¬ A1 q → H1[q]? = H[q]?) → va_S A0 H0 H1 locs1 → W p l e R s m args below meth c H1 locs1 (cells + mc) (slots + ms) Q (F0 m (pc + 3) ls (rest))) : W p l e R s m args below meth c H locs cells slots Q (F0 m pc ls st0) := by
  intro T hT X
  rcases hr T hT X with ⟨v, st₀, t, T', L, h0, X', hL, e1, e2, ⟨⟨u, hv, hp, hb⟩, hF⟩, st⟩ | ⟨q, st₀, t, T', L, E, ce, h0, X', hL, e1, e2, ⟨u, hp, hb, hF⟩, hce, hcv, hcl, st⟩
  · cases hv
    obtain ⟨k1, k2, k3⟩ := vx_keep h0 e1 hS hA hf hL hF
    obtain ⟨t2, a1, b1⟩ := kk u t T'.heap (locs ++ L) e1.symm (by rw [← e2]; exact X'.warmed.alike) hp hb k1 k2 k3 T' rfl X'
    exact ⟨t2, st t2 a1, b1⟩
  · obtain ⟨k1, k2, k3⟩ := vx_keep h0 e1 hS hAX hf hL hF
    obtain ⟨t2, a1, b1⟩ := kx E ce q u t T'.heap (locs ++ L) e1.symm (by rw [← e2]; exact X'.warmed.alike) hp hb k1 k2 k3 (by rw [e1]; exact hce) hcv hcl T' rfl X'
    exact ⟨t2, st.trans a1, b1⟩
end Rows
section Ends
variable {p : Program} {l : Launch} {e : Env} {R : Room} {s : State} {m : MethodId} {args : Array Value} {below : List Frame} {meth : Method} {c : Code} {H : Heap} {locs : List Loc} {cells slots : Nat} {Q : State → Prop}
variable {mc ms : Nat} {free : Addr → Prop} {A0 A1 : Nat → Prop} {H0 : Heap} {a : Array Value} {ls : Array Slot} {st0 rest : List Value}
variable {Qc : Array Value → State → Outcome → State → Prop} {XC : String → State → State → Prop}
/-- what a body that may throw owes at its end -/
def vx_MQ (below : List Frame) (Qc : Array Value → State → Outcome → State → Prop) (XC : String → State → State → Prop) (a : Array Value) (s : State) (mc ms : Nat) (free : Addr → Prop) : State → Prop := fun t =>
  ∃ o, t.status = .running ∧ Ended t below o ∧ vx_Q Qc XC mc ms free a s o t
theorem vx_ret {g : JFrame} {mc ms : Nat} (k : W p l e R s m args below meth c H locs cells slots (MQ below Qc args s mc ms free) g) : W p l e R s m args below meth c H locs cells slots (vx_MQ below Qc XC args s mc ms free) g := by
  intro T hT X
  obtain ⟨t, a1, o, b1, b2, b3, b4⟩ := k T hT X
  exact ⟨t, a1, o, b1, b2, Or.inl ⟨b3, b4⟩⟩
/-- not caught here: it goes on to the caller -/
theorem vx_widen {g : JFrame} {q : Addr} {k n : Nat} (h1 : cells ≤ k) (h2 : slots ≤ n) (kk : vx_W p l e R s m args below meth c H locs k n Q g q) : vx_W p l e R s m args below meth c H locs cells slots Q g q := fun T hT X => kk T hT (stand_widen X h1 h2)
theorem vx_out {pc : Nat} {E : String} {ce : Cell} {q : Addr} {mc ms : Nat} (hout : ∀ x ∈ c.exceptionTable.toList, covers x pc = false) (hlocks : meth.locks = false) (hcell : H[q]? = some ce) (hv : ce.vm = .none) (hcl : s.vm.findClass E = some ce.cls)
    (hx : ∀ t : State, t.heap = H → s.vm.Alike t.vm → XC E s t) (hf : ∀ z ∈ locs, free z.base) (hc : cells ≤ mc) (hs : slots ≤ ms) :
    vx_W p l e R s m args below meth c H locs cells slots (vx_MQ below Qc XC args s mc ms free) (F0 m pc ls rest) q := by
  intro T hT X
  obtain ⟨st1, hrun, hend, hW, hsm⟩ := X.leaveThrown q (g := F0 m pc ls rest) rfl rfl rfl hout hlocks
  have hcell9 : (T.setFrames (.throwing q :: below)).heap[q]? = some ce := by
    show T.heap[q]? = some ce
    rw [hT]; exact hcell
  exact ⟨_, st1, .threw q, hrun, hend, Or.inr ⟨q, rfl, E, ce, locs, hx _ hT hW.alike, hcell9, hv, hcl, hW, hsm.mono hc hs, hf⟩⟩
theorem vx_frame {U : State} {k n : Nat} (h : s.sameButNew ({ U with vm := s.vm } : State) locs k n) : s.heap.size ≤ U.heap.size ∧ ∀ q : Nat, q < s.heap.size → (∀ z ∈ locs, z.base ≠ q) → U.heap[q]? = s.heap[q]? := by
  obtain ⟨-, h2, -, -, -, h6⟩ := h
  refine ⟨h2, fun q hq hz => ?_⟩
  obtain ⟨c9, e1, e2, e3, e4⟩ := h6 q _ (Array.getElem?_eq_getElem hq)
  have hs : c9.slots = (s.heap[q]).slots := Array.ext_getElem? fun i => e4 i fun hm => hz _ hm rfl
  have h9 : c9 = s.heap[q] := by
    rw [hs] at e2
    exact e2
  have e5 : U.heap[q]? = some c9 := e1
  rw [e5, h9, Array.getElem?_eq_getElem hq]
/-- the words of a throw but the four that speak of the heap -/
def vx_no (w : Cond) : Bool := decide (w ≠ .isRef (.static Bundle.tN "UNASSIGNED_STACK" Bundle.steD)) && decide (w ≠ .isRef (.static Bundle.tN "SUPPRESSED_SENTINEL" Bundle.listD)) && decide (w ≠ .laysStatic Bundle.tN "UNASSIGNED_STACK" Bundle.steD) && decide (w ≠ .laysStatic Bundle.tN "SUPPRESSED_SENTINEL" Bundle.listD)
def vx_at0 (own : String) (ic : Nat) (X : String) (names : List String) : List Cond := (Bundle.ownAtoms0 own ic X names).filter vx_no
def vx_atS (own : String) (ic : Nat) (X : String) (names : List String) : List Cond := (Bundle.ownAtoms own ic X names).filter vx_no
/-- a word that the tables alone decide, or a good one -/
def vx_ot (w : Cond) : Bool := w.onTables || goodWord w
theorem vx_ot_at {args a' : Array Value} {s U : State} {w : Cond} (hW : s.WarmedH U.vm) (hvm : s.vm = U.vm) (hg : vx_ot w = true) (h : w.before args s = true) : w.before a' U = true := by
  simp only [vx_ot, Bool.or_eq_true] at hg
  rcases hg with hg | hg
  · exact va_tabs hg hvm h
  · exact word_at hW (good_of_word hg) h
/-- a list's words: the good ones out of the method's own list, the others by premises of their own -/
theorem vx_hat {args : Array Value} {s : State} {L B : List Cond} (h1 : ∀ w ∈ L.filter goodWord, w.before args s = true) (h2 : ∀ w ∈ L.filter (fun w => !goodWord w), w ∈ B) (h3 : ∀ w ∈ B, w.before args s = true) : ∀ w ∈ L, w.before args s = true := by
  intro w hw
  by_cases g : goodWord w = true
  · exact h1 w (List.mem_filter.mpr ⟨hw, g⟩)
  · refine h3 w (h2 w (List.mem_filter.mpr ⟨hw, ?_⟩))
    show (!goodWord w) = true
    cases hgw : goodWord w
    · rfl
    · exact absurd hgw g
theorem vx_c {args : Array Value} {s : State} {w : Cond} {B : List Cond} (h : w.before args s = true) (t : ∀ w ∈ B, w.before args s = true) : ∀ w' ∈ w :: B, w'.before args s = true := fun w' h' => (List.mem_cons.mp h').elim (fun e => by rw [e]; exact h) (t w')
theorem vx_n {args : Array Value} {s : State} : ∀ w ∈ ([] : List Cond), w.before args s = true := fun _ h => nomatch h
theorem vx_own {args : Array Value} {s : State} {L : List Cond} (h1 : ∀ w ∈ L.filter vx_no, w.before args s = true)
    (hU : (Cond.isRef (.static Bundle.tN "UNASSIGNED_STACK" Bundle.steD)).before args s = true) (hN : (Cond.isRef (.static Bundle.tN "SUPPRESSED_SENTINEL" Bundle.listD)).before args s = true)
    (lU : (Cond.laysStatic Bundle.tN "UNASSIGNED_STACK" Bundle.steD).before args s = true) (lN : (Cond.laysStatic Bundle.tN "SUPPRESSED_SENTINEL" Bundle.listD).before args s = true) : ∀ w ∈ L, w.before args s = true := by
  intro w hw
  by_cases e1 : w = .isRef (.static Bundle.tN "UNASSIGNED_STACK" Bundle.steD)
  · rw [e1]; exact hU
  · by_cases e2 : w = .isRef (.static Bundle.tN "SUPPRESSED_SENTINEL" Bundle.listD)
    · rw [e2]; exact hN
    · by_cases e3 : w = .laysStatic Bundle.tN "UNASSIGNED_STACK" Bundle.steD
      · rw [e3]; exact lU
      · by_cases e4 : w = .laysStatic Bundle.tN "SUPPRESSED_SENTINEL" Bundle.listD
        · rw [e4]; exact lN
        · exact h1 w (List.mem_filter.mpr ⟨hw, by unfold vx_no; rw [decide_eq_true e1, decide_eq_true e2, decide_eq_true e3, decide_eq_true e4]; rfl⟩)
/-- where a static field lies, its class's statics cell in H -/
def vx_L (C n d : String) (A : Nat → Prop) (U : State) (H : Heap) : Prop := ∃ (c : ClassId) (k : Class) (i : Nat) (f : Field) (a : Nat) (cell : Cell), U.vm.findClass C = some c ∧ U.fieldFound? C n d = some (c, k, i, f) ∧ f.isStatic = true ∧ k.statics = some a ∧ H[a]? = some cell ∧ cell.vm.isStatics = true ∧ cell.cls = c ∧ f.slot < cell.slots.size ∧ k.staticTypes[f.slot]? = some f.type ∧ ¬ A a
theorem vx_L.moved {C n d : String} {A : Nat → Prop} {u U : State} {H : Heap} (hvm : u.vm.Alike U.vm) (h : vx_L C n d A u H) : vx_L C n d A U H := by
  obtain ⟨c, k, i, f, a, cell, h1, h2, h3, h4, h5, h6, h7, h8, h9, h10⟩ := h
  obtain ⟨k', hi', he⟩ := State.fieldFound?_setVm hvm h2
  exact ⟨c, k', i, f, a, cell, by rw [hvm.findClass]; exact h1, hi', h3, by rw [he]; exact h4, h5, h6, h7, h8, by rw [he]; exact h9, h10⟩
theorem vx_L.kept {C n d : String} {A : Nat → Prop} {U : State} {H H1 : Heap} (h : vx_L C n d A U H) (hq : ∀ a : Nat, a < H.size → ¬ A a → H1[a]? = H[a]?) : vx_L C n d A U H1 := by
  obtain ⟨c, k, i, f, a, cell, h1, h2, h3, h4, h5, h6, h7, h8, h9, h10⟩ := h
  exact ⟨c, k, i, f, a, cell, h1, h2, h3, h4, by rw [hq a (Array.getElem?_eq_some_iff.mp h5).1 h10]; exact h5, h6, h7, h8, h9, h10⟩
theorem vx_L.narrow {C n d : String} {A B : Nat → Prop} {U : State} {H : Heap} (h : vx_L C n d A U H) (hAB : ∀ q, B q → A q) : vx_L C n d B U H := by
  obtain ⟨c, k, i, f, a, cell, h1, h2, h3, h4, h5, h6, h7, h8, h9, h10⟩ := h
  exact ⟨c, k, i, f, a, cell, h1, h2, h3, h4, h5, h6, h7, h8, h9, fun z => h10 (hAB _ z)⟩
theorem vx_L.word {C n d : String} {A : Nat → Prop} {s : State} {args : Array Value} (h : vx_L C n d A s s.heap) : (Cond.laysStatic C n d).before args s = true := by
  obtain ⟨c, k, i, f, a, cell, h1, h2, h3, h4, h5, h6, h7, h8, h9, -⟩ := h
  show (Cond.laysStatic C n d).holds args s none s [] = true
  exact Cond.laysStatic_of h1 h2 h3 h4 h5 h6 h7 h8 h9
/-- .. and what it holds: null or some reference -/
def vx_Zq (C n d : String) (A : Nat → Prop) (U : State) (H : Heap) : Prop := va_Zq C n d A U H ∧ vx_L C n d A U H
theorem vx_Zq.moved {C n d : String} {A : Nat → Prop} {u U : State} {H : Heap} (hvm : u.vm.Alike U.vm) (h : vx_Zq C n d A u H) : vx_Zq C n d A U H := ⟨va_Zq.moved hvm h.1, vx_L.moved hvm h.2⟩
theorem vx_Zq.kept {C n d : String} {A : Nat → Prop} {U : State} {H H1 : Heap} (h : vx_Zq C n d A U H) (hq : ∀ a : Nat, a < H.size → ¬ A a → H1[a]? = H[a]?) : vx_Zq C n d A U H1 := ⟨va_Zq.kept h.1 hq, vx_L.kept h.2 hq⟩
theorem vx_Zq.narrow {C n d : String} {A B : Nat → Prop} {U : State} {H : Heap} (h : vx_Zq C n d A U H) (hAB : ∀ q, B q → A q) : vx_Zq C n d B U H := ⟨va_Zq.narrow h.1 hAB, vx_L.narrow h.2 hAB⟩
theorem vx_Zqof {args : Array Value} {s : State} {C n d : String} {A : Nat → Prop} (hl : (Cond.laysStatic C n d).before args s = true) (hini : (Cond.initialized C).before args s = true) (h : (Cond.isRef (.static C n d)).before args s = true) (hA : ∀ a : Nat, a < s.heap.size → ¬ A a) : vx_Zq C n d A s s.heap := by
  refine ⟨va_Zqof hl hini h hA, ?_⟩
  obtain ⟨c, k, i, f, a, cell, h1, h2, h3, h4, h5, h6, h7, h8, h9⟩ := Cond.laysStatic_spec hl
  exact ⟨c, k, i, f, a, cell, h1, h2, h3, h4, h5, h6, h7, h8, h9, hA a (Array.getElem?_eq_some_iff.mp h5).1⟩
theorem vx_isRef {C n d : String} {v : Value} {A : Nat → Prop} {s : State} {args : Array Value} (h : va_Z C n d v A s s.heap) (hv : v.isRef = true) : (Cond.isRef (.static C n d)).before args s = true := by
  obtain ⟨cf, kf, fi, f, a, cell, h1, h2, h3, h4, h5, h6, h7, -⟩ := h
  have he : (Term.static C n d).eval args s none [] s = some v := by
    simp [Term.eval, State.fieldNamed?, h1, h2, h4, h5, h6, h7]
  simp only [Cond.before, Cond.holds, Cond.value, he]
  cases v <;> simp_all [Value.isRef]
theorem vx_isRefq {C n d : String} {A : Nat → Prop} {s : State} {args : Array Value} (h : va_Zq C n d A s s.heap) : (Cond.isRef (.static C n d)).before args s = true := by
  rcases h with h | ⟨t, h⟩
  · exact vx_isRef h rfl
  · exact vx_isRef h rfl
/-- the same frame, seen from here: as if the method were called anew in this heap -/
theorem vx_rebase {T : State} (X : Stand p l e R s m args below meth c T locs cells slots) {R' : Room} (hf : R'.frames ≤ R.frames) (hl : R'.locals ≤ R.locals) (hc : cells + R'.cells ≤ R.cells) (hs : slots + R'.slots ≤ R.slots) :
    Stand p l e R' ((T.setVm s.vm).setFrames (.invoking m args :: below)) m args below meth c T [] 0 0 := by
  have htop : (T.setVm s.vm).topJava?.isSome := X.here.top
  have hF : ((T.setVm s.vm).setFrames (.invoking m args :: below)).frames = .invoking m args :: below := State.frames_setFrames _ (State.cur_lt_of_top htop)
  obtain ⟨g₀, hg0⟩ := Option.isSome_iff_exists.mp htop
  obtain ⟨r, hr⟩ := State.topJava?_eq_some.mp hg0
  have hl9 : e.platform.stackLimits (T.setVm s.vm).me = e.platform.stackLimits s.me := X.limits
  have hb9 : (T.setVm s.vm).me.stackBytes = s.me.stackBytes := X.bytes
  refine ⟨X.admits, X.cas, X.clock, hF, ?_, X.hears, X.method, X.code, X.here, X.tail, X.warmed, ?_, ?_, ?_⟩
  · have h := X.room
    have hU : ((T.setVm s.vm).setFrames (.invoking m args :: below)).localsInUse = s.localsInUse := by
      rw [State.localsInUse_invoking hF (meth := meth) (c := c) X.method X.code, State.localsInUse_invoking X.frames X.method X.code]
    simp only [State.hasRoom, Bool.and_eq_true, decide_eq_true_eq] at h ⊢
    obtain ⟨⟨⟨⟨h1, h2, h3, h4, h5, h6⟩, h7⟩, h8⟩, h9⟩ := h
    rw [X.frames, List.length_cons] at h2 h3
    have q1 := X.heapSize
    have q2 := X.used
    simp only [hF, hU, List.length_cons, State.stackLimits_setFrames, State.stackBytes_setFrames, hl9, hb9]
    refine ⟨⟨⟨⟨by omega, by omega, by omega, by omega, by omega, h6⟩, ?_⟩, ?_⟩, X.book⟩
    · show T.heap.size + R'.cells ≤ e.platform.maxCells
      omega
    · show T.slotsUsed + R'.slots ≤ e.platform.maxSlots
      omega
  · rw [State.stackLimits_setFrames]; rfl
  · rw [State.stackBytes_setFrames]; rfl
  · refine ⟨?_, Nat.le_refl _, Nat.le_refl _, ?_, ?_, fun a c9 h9 => ⟨c9, h9, rfl, rfl, fun _ _ => rfl⟩⟩
    · obtain ⟨t, ht, -⟩ := State.frames_cons hr
      show T.setVm s.vm = { ((T.setVm s.vm).setFrames (.invoking m args :: below)).setFrames (T.setVm s.vm).frames with heap := T.heap, slotsUsed := T.slotsUsed }
      rw [State.setFrames_setFrames, State.setFrames_self ht]
      rfl
    · show T.slotsUsed = T.slotsUsed + ((T.heap.toList.drop T.heap.size).map (·.slots.size)).sum
      rw [List.drop_eq_nil_of_le (Nat.le_of_eq Array.length_toList)]
      rfl
    · show ((T.heap.toList.drop T.heap.size).map (·.slots.size)).sum ≤ 0
      rw [List.drop_eq_nil_of_le (Nat.le_of_eq Array.length_toList)]
      exact Nat.le_refl _
/-- 'throw new E()': new; dup; invokespecial; athrow -/
theorem vx_throw0 {cc : ByteArray} {pc : Nat} (hexec : p.tables.exec = Jvm.exec) (hb : c.code = cc) (hl : l.stackTraces = false) {own cls : String} {names : List String} {ik ic mc ms : Nat} {A : Nat → Prop}
    (hown : s.vm.findClass own = some m.cls) (hcls : Bundle.fit cls = true) (hnames : ∀ n ∈ names, Bundle.fit n = true)
    (hk : (Cond.classLink own ik cls).before args s = true) (hini : (Cond.initialized cls).before args s = true) (hat : ∀ w ∈ vx_at0 own ic cls names, w.before args s = true)
    (hgood : ∀ w ∈ Cond.classLink own ik cls :: Cond.initialized cls :: vx_at0 own ic cls names, vx_ot w = true)
    (hU : vx_Zq Bundle.tN "UNASSIGNED_STACK" Bundle.steD A s s.heap) (hN : vx_Zq Bundle.tN "SUPPRESSED_SENTINEL" Bundle.listD A s s.heap) (hS : va_S A s.heap H locs) (hsize : ls.size = c.maxLocals)
    (d0 : decode cc pc = .ok (.new ik, 3)) (d3 : decode cc (pc + 3) = .ok (.dup, 1)) (d4 : decode cc (pc + 4) = .ok (.invokespecial ic, 3)) (d7 : decode cc (pc + 7) = .ok (.athrow, 1))
    (hout : ∀ x ∈ c.exceptionTable.toList, covers x (pc + 7) = false)
    (hRframes : names.length + 3 < R.frames) (hRlocals : (rest.map fun v => v.category).sum + (13 * (names.length + 1) + 42) ≤ R.locals) (hRcells : cells + 1 ≤ R.cells) (hRslots : slots + 6 ≤ R.slots) (hlocks : meth.locks = false)
    (hx : ∀ t : State, s.vm.Alike t.vm → H.size ≤ t.heap.size → (∀ q : Nat, q < H.size → t.heap[q]? = H[q]?) → XC cls s t)
    (hf : ∀ z ∈ locs, free z.base) (hc : cells + 1 ≤ mc) (hs : slots + 6 ≤ ms) :
    W p l e R s m args below meth c H locs cells slots (vx_MQ below Qc XC args s mc ms free) (F0 m pc ls rest) := by
  intro T hT X
  have htr : e.platform.stackTraces = false := (show e.platform.stackTraces = l.stackTraces by rw [X.admits.platform]).trans hl
  have Y := vx_rebase X (R' := { frames := R.frames, locals := R.locals, cells := 1, slots := 6 }) (Nat.le_refl _) (Nat.le_refl _) hRcells hRslots
  obtain ⟨s', hA⟩ : ∃ z, z = (T.setVm s.vm).setFrames (.invoking m args :: below) := ⟨_, rfl⟩
  rw [← hA] at Y
  have hvm : s'.vm = s.vm := by rw [hA]; rfl
  have hhp : s'.heap = H := by rw [hA]; exact hT
  have hW0 : s.WarmedH s'.vm := by rw [hvm]; exact State.WarmedH.refl s
  have hat' : ∀ w ∈ vx_at0 own ic cls names, w.before args s' = true := fun w hw => vx_ot_at hW0 hvm.symm (hgood w (List.mem_cons_of_mem _ (List.mem_cons_of_mem _ hw))) (hat w hw)
  have hk' : (Cond.classLink own ik cls).before args s' = true := vx_ot_at hW0 hvm.symm (hgood _ List.mem_cons_self) hk
  have hini' : (Cond.initialized cls).before args s' = true := vx_ot_at hW0 hvm.symm (hgood _ (List.mem_cons_of_mem _ List.mem_cons_self)) hini
  have hU' : vx_Zq Bundle.tN "UNASSIGNED_STACK" Bundle.steD A s' s'.heap := by rw [hhp]; exact vx_Zq.moved hW0.alike (hU.kept hS.2.1)
  have hN' : vx_Zq Bundle.tN "SUPPRESSED_SENTINEL" Bundle.listD A s' s'.heap := by rw [hhp]; exact vx_Zq.moved hW0.alike (hN.kept hS.2.1)
  have h : ∀ w ∈ Bundle.ownAtoms0 own ic cls names, w.before args s' = true := vx_own hat' (vx_isRefq hU'.1) (vx_isRefq hN'.1) hU'.2.word hN'.2.word
  have hown' : s'.vm.findClass own = some m.cls := by rw [hvm]; exact hown
  have hins : (Cond.instantiable cls 6).before args s' = true := h _ (by simp [Bundle.ownAtoms0])
  obtain ⟨vm₁, cX, kX, hfX, hkX, -, -, X₁, st1⟩ := Y.newCold hexec (own := own) (C := cls) (index := ik) (n := 6) hown' hk' hins hini'
    (g := F0 m pc ls rest) rfl (by rw [hb]; exact d0) (Nat.le_refl _) (Nat.le_refl _)
  generalize hT1 : (T.setVm vm₁).pushCell { cls := cX, slots := kX.instanceTypes.map defaultValue, vm := .none } = T1 at X₁ st1
  have hcat : (Value.ref T.heap.size).category = 1 := rfl
  have hcellA : T1.heap[T.heap.size]? = some (freshCell cX kX) := by rw [← hT1]; exact State.heap_pushCell_size _ _
  have d3' : decode c.code (pc + 3) = .ok (.dup, 1) := by rw [hb]; exact d3
  obtain ⟨U, hsteps, hrun, hend, hW, hsame, ce, hce, hO⟩ := X₁.ctorThrow0 hexec htr (own := own) (cls := cls) (names := names) (ic := ic) hown' hcls hnames h (fun x hx => nomatch hx) hfX hkX hcellA (by rw [hhp, hT]; exact Nat.le_refl _)
    (g := { method := m, pc := pc + 4, locals := ls, stack := .ref T.heap.size :: .ref T.heap.size :: rest, locked := none }) rfl hsize rfl rfl (rest := rest) rfl
    (by rw [hb]; exact d4) (by rw [hb]; exact d7) hout hRframes (by simp only [List.map_cons, List.sum_cons, hcat]; omega) hlocks
  obtain ⟨f1, f2⟩ := vx_frame hsame
  rw [hhp] at f1 f2
  have hWs : s.WarmedH U.vm := State.WarmedH.trans hW0 hW
  have hcl : s.vm.findClass cls = some ce.cls := by
    have h9 := hO.cls
    rw [hvm] at h9
    exact h9
  have hall : s.sameButNew ({ U with vm := s.vm } : State) locs mc ms := by
    subst hA
    obtain ⟨e1, e2⟩ := hsame
    rw [State.setFrames_setFrames] at e1
    have h2 : (T.setVm s.vm).sameButNew ({ U with vm := s.vm } : State) [] (0 + 1) (0 + 6) := ⟨e1, e2⟩
    have h3 := X.same.trans h2
    rw [List.append_nil] at h3
    exact h3.mono hc hs
  refine ⟨U, ?_, .threw T.heap.size, hrun, hend, Or.inr ⟨T.heap.size, rfl, cls, ce, locs, hx U hWs.alike f1 (fun q hq => f2 q hq (fun z hz => nomatch hz)), hce, hO.vm, hcl, hWs, hall, hf⟩⟩
  refine st1 _ ?_
  show Steps p.tables e below (T1.setTop { method := m, pc := pc + 3, locals := ls, stack := .ref T.heap.size :: rest, locked := none }) _
  jvm_step X₁.here [X₁.here.top, hexec, d3', Value.category]
  exact hsteps
/-- 'throw new E("text")': new; dup; ldc; invokespecial; athrow -/
theorem vx_throwS {cc : ByteArray} {pc : Nat} (hexec : p.tables.exec = Jvm.exec) (hb : c.code = cc) (hl : l.stackTraces = false) {own cls text : String} {names : List String} {ik is ic mc ms sa : Nat} {A : Nat → Prop}
    (hown : s.vm.findClass own = some m.cls) (hcls : Bundle.fit cls = true) (hnames : ∀ n ∈ names, Bundle.fit n = true)
    (hk : (Cond.classLink own ik cls).before args s = true) (hini : (Cond.initialized cls).before args s = true) (hstr : vk_R own is text sa s) (hat : ∀ w ∈ vx_atS own ic cls names, w.before args s = true)
    (hgood : ∀ w ∈ Cond.classLink own ik cls :: Cond.initialized cls :: vx_atS own ic cls names, vx_ot w = true)
    (hU : vx_Zq Bundle.tN "UNASSIGNED_STACK" Bundle.steD A s s.heap) (hN : vx_Zq Bundle.tN "SUPPRESSED_SENTINEL" Bundle.listD A s s.heap) (hS : va_S A s.heap H locs) (hsize : ls.size = c.maxLocals)
    (d0 : decode cc pc = .ok (.new ik, 3)) (d3 : decode cc (pc + 3) = .ok (.dup, 1)) (d4 : decode cc (pc + 4) = .ok (.ldc is, 2)) (d6 : decode cc (pc + 6) = .ok (.invokespecial ic, 3)) (d9 : decode cc (pc + 9) = .ok (.athrow, 1))
    (hout : ∀ x ∈ c.exceptionTable.toList, covers x (pc + 9) = false)
    (hRframes : names.length + 3 < R.frames) (hRlocals : (rest.map fun v => v.category).sum + (13 * (names.length + 1) + 43) ≤ R.locals) (hRcells : cells + 1 ≤ R.cells) (hRslots : slots + 6 ≤ R.slots) (hlocks : meth.locks = false)
    (hx : ∀ t : State, s.vm.Alike t.vm → H.size ≤ t.heap.size → (∀ q : Nat, q < H.size → t.heap[q]? = H[q]?) → XC cls s t)
    (hf : ∀ z ∈ locs, free z.base) (hc : cells + 1 ≤ mc) (hs : slots + 6 ≤ ms) :
    W p l e R s m args below meth c H locs cells slots (vx_MQ below Qc XC args s mc ms free) (F0 m pc ls rest) := by
  intro T hT X
  have htr : e.platform.stackTraces = false := (show e.platform.stackTraces = l.stackTraces by rw [X.admits.platform]).trans hl
  have Y := vx_rebase X (R' := { frames := R.frames, locals := R.locals, cells := 1, slots := 6 }) (Nat.le_refl _) (Nat.le_refl _) hRcells hRslots
  obtain ⟨s', hA⟩ : ∃ z, z = (T.setVm s.vm).setFrames (.invoking m args :: below) := ⟨_, rfl⟩
  rw [← hA] at Y
  have hvm : s'.vm = s.vm := by rw [hA]; rfl
  have hhp : s'.heap = H := by rw [hA]; exact hT
  have hW0 : s.WarmedH s'.vm := by rw [hvm]; exact State.WarmedH.refl s
  have hat' : ∀ w ∈ vx_atS own ic cls names, w.before args s' = true := fun w hw => vx_ot_at hW0 hvm.symm (hgood w (List.mem_cons_of_mem _ (List.mem_cons_of_mem _ hw))) (hat w hw)
  have hk' : (Cond.classLink own ik cls).before args s' = true := vx_ot_at hW0 hvm.symm (hgood _ List.mem_cons_self) hk
  have hini' : (Cond.initialized cls).before args s' = true := vx_ot_at hW0 hvm.symm (hgood _ (List.mem_cons_of_mem _ List.mem_cons_self)) hini
  have hU' : vx_Zq Bundle.tN "UNASSIGNED_STACK" Bundle.steD A s' s'.heap := by rw [hhp]; exact vx_Zq.moved hW0.alike (hU.kept hS.2.1)
  have hN' : vx_Zq Bundle.tN "SUPPRESSED_SENTINEL" Bundle.listD A s' s'.heap := by rw [hhp]; exact vx_Zq.moved hW0.alike (hN.kept hS.2.1)
  have h : ∀ w ∈ Bundle.ownAtoms own ic cls names, w.before args s' = true := vx_own hat' (vx_isRefq hU'.1) (vx_isRefq hN'.1) hU'.2.word hN'.2.word
  have hown' : s'.vm.findClass own = some m.cls := by rw [hvm]; exact hown
  have hins : (Cond.instantiable cls 6).before args s' = true := h _ (by simp [Bundle.ownAtoms])
  obtain ⟨vm₁, cX, kX, hfX, hkX, -, -, X₁, st1⟩ := Y.newCold hexec (own := own) (C := cls) (index := ik) (n := 6) hown' hk' hins hini'
    (g := F0 m pc ls rest) rfl (by rw [hb]; exact d0) (Nat.le_refl _) (Nat.le_refl _)
  generalize hT1 : (T.setVm vm₁).pushCell { cls := cX, slots := kX.instanceTypes.map defaultValue, vm := .none } = T1 at X₁ st1
  have hcat : (Value.ref T.heap.size).category = 1 := rfl
  have hcellA : T1.heap[T.heap.size]? = some (freshCell cX kX) := by rw [← hT1]; exact State.heap_pushCell_size _ _
  have d3' : decode c.code (pc + 3) = .ok (.dup, 1) := by rw [hb]; exact d3
  have d4' : decode c.code (pc + 4) = .ok (.ldc is, 2) := by rw [hb]; exact d4
  have hstr' : vk_R own is text sa s' := vk_R.warm hW0 hstr
  obtain ⟨U, hsteps, hrun, hend, hW, hsame, ce, hce, hO⟩ := X₁.ctorThrowS hexec htr (own := own) (cls := cls) (names := names) (ic := ic) hown' hcls hnames h (fun x hx => nomatch hx) hfX hkX hcellA (by rw [hhp, hT]; exact Nat.le_refl _) (msg := .ref sa) rfl
    (g := { method := m, pc := pc + 6, locals := ls, stack := .ref sa :: .ref T.heap.size :: .ref T.heap.size :: rest, locked := none }) rfl hsize rfl rfl (rest := rest) rfl
    (by rw [hb]; exact d6) (by rw [hb]; exact d9) hout hRframes (by simp only [List.map_cons, List.sum_cons, hcat]; omega) hlocks
  obtain ⟨f1, f2⟩ := vx_frame hsame
  rw [hhp] at f1 f2
  have hWs : s.WarmedH U.vm := State.WarmedH.trans hW0 hW
  have hcl : s.vm.findClass cls = some ce.cls := by
    have h9 := hO.cls
    rw [hvm] at h9
    exact h9
  have hall : s.sameButNew ({ U with vm := s.vm } : State) locs mc ms := by
    subst hA
    obtain ⟨e1, e2⟩ := hsame
    rw [State.setFrames_setFrames] at e1
    have h2 : (T.setVm s.vm).sameButNew ({ U with vm := s.vm } : State) [] (0 + 1) (0 + 6) := ⟨e1, e2⟩
    have h3 := X.same.trans h2
    rw [List.append_nil] at h3
    exact h3.mono hc hs
  refine ⟨U, ?_, .threw T.heap.size, hrun, hend, Or.inr ⟨T.heap.size, rfl, cls, ce, locs, hx U hWs.alike f1 (fun q hq => f2 q hq (fun z hz => nomatch hz)), hce, hO.vm, hcl, hWs, hall, hf⟩⟩
  refine st1 _ ?_
  show Steps p.tables e below (T1.setTop { method := m, pc := pc + 3, locals := ls, stack := .ref T.heap.size :: rest, locked := none }) _
  jvm_step X₁.here [X₁.here.top, hexec, d3', Value.category]
  exact X₁.ldcString hexec (own := own) (text := text) (index := is) (a := sa) hown' hstr'.1 hstr'.2
    (g := { method := m, pc := pc + 4, locals := ls, stack := .ref T.heap.size :: .ref T.heap.size :: rest, locked := none }) rfl d4' _ hsteps
/-- 'throw new E("text")', the text by a wide index -/
theorem vx_throwSW {cc : ByteArray} {pc : Nat} (hexec : p.tables.exec = Jvm.exec) (hb : c.code = cc) (hl : l.stackTraces = false) {own cls text : String} {names : List String} {ik is ic mc ms sa : Nat} {A : Nat → Prop}
    (hown : s.vm.findClass own = some m.cls) (hcls : Bundle.fit cls = true) (hnames : ∀ n ∈ names, Bundle.fit n = true)
    (hk : (Cond.classLink own ik cls).before args s = true) (hini : (Cond.initialized cls).before args s = true) (hstr : vk_R own is text sa s) (hat : ∀ w ∈ vx_atS own ic cls names, w.before args s = true)
    (hgood : ∀ w ∈ Cond.classLink own ik cls :: Cond.initialized cls :: vx_atS own ic cls names, vx_ot w = true)
    (hU : vx_Zq Bundle.tN "UNASSIGNED_STACK" Bundle.steD A s s.heap) (hN : vx_Zq Bundle.tN "SUPPRESSED_SENTINEL" Bundle.listD A s s.heap) (hS : va_S A s.heap H locs) (hsize : ls.size = c.maxLocals)
    (d0 : decode cc pc = .ok (.new ik, 3)) (d3 : decode cc (pc + 3) = .ok (.dup, 1)) (d4 : decode cc (pc + 4) = .ok (.ldc_w is, 3)) (d7 : decode cc (pc + 7) = .ok (.invokespecial ic, 3)) (d10 : decode cc (pc + 10) = .ok (.athrow, 1))
    (hout : ∀ x ∈ c.exceptionTable.toList, covers x (pc + 10) = false)
    (hRframes : names.length + 3 < R.frames) (hRlocals : (rest.map fun v => v.category).sum + (13 * (names.length + 1) + 43) ≤ R.locals) (hRcells : cells + 1 ≤ R.cells) (hRslots : slots + 6 ≤ R.slots) (hlocks : meth.locks = false)
    (hx : ∀ t : State, s.vm.Alike t.vm → H.size ≤ t.heap.size → (∀ q : Nat, q < H.size → t.heap[q]? = H[q]?) → XC cls s t)
    (hf : ∀ z ∈ locs, free z.base) (hc : cells + 1 ≤ mc) (hs : slots + 6 ≤ ms) :
    W p l e R s m args below meth c H locs cells slots (vx_MQ below Qc XC args s mc ms free) (F0 m pc ls rest) := by
  intro T hT X
  have htr : e.platform.stackTraces = false := (show e.platform.stackTraces = l.stackTraces by rw [X.admits.platform]).trans hl
  have Y := vx_rebase X (R' := { frames := R.frames, locals := R.locals, cells := 1, slots := 6 }) (Nat.le_refl _) (Nat.le_refl _) hRcells hRslots
  obtain ⟨s', hA⟩ : ∃ z, z = (T.setVm s.vm).setFrames (.invoking m args :: below) := ⟨_, rfl⟩
  rw [← hA] at Y
  have hvm : s'.vm = s.vm := by rw [hA]; rfl
  have hhp : s'.heap = H := by rw [hA]; exact hT
  have hW0 : s.WarmedH s'.vm := by rw [hvm]; exact State.WarmedH.refl s
  have hat' : ∀ w ∈ vx_atS own ic cls names, w.before args s' = true := fun w hw => vx_ot_at hW0 hvm.symm (hgood w (List.mem_cons_of_mem _ (List.mem_cons_of_mem _ hw))) (hat w hw)
  have hk' : (Cond.classLink own ik cls).before args s' = true := vx_ot_at hW0 hvm.symm (hgood _ List.mem_cons_self) hk
  have hini' : (Cond.initialized cls).before args s' = true := vx_ot_at hW0 hvm.symm (hgood _ (List.mem_cons_of_mem _ List.mem_cons_self)) hini
  have hU' : vx_Zq Bundle.tN "UNASSIGNED_STACK" Bundle.steD A s' s'.heap := by rw [hhp]; exact vx_Zq.moved hW0.alike (hU.kept hS.2.1)
  have hN' : vx_Zq Bundle.tN "SUPPRESSED_SENTINEL" Bundle.listD A s' s'.heap := by rw [hhp]; exact vx_Zq.moved hW0.alike (hN.kept hS.2.1)
  have h : ∀ w ∈ Bundle.ownAtoms own ic cls names, w.before args s' = true := vx_own hat' (vx_isRefq hU'.1) (vx_isRefq hN'.1) hU'.2.word hN'.2.word
  have hown' : s'.vm.findClass own = some m.cls := by rw [hvm]; exact hown
  have hins : (Cond.instantiable cls 6).before args s' = true := h _ (by simp [Bundle.ownAtoms])
  obtain ⟨vm₁, cX, kX, hfX, hkX, -, -, X₁, st1⟩ := Y.newCold hexec (own := own) (C := cls) (index := ik) (n := 6) hown' hk' hins hini'
    (g := F0 m pc ls rest) rfl (by rw [hb]; exact d0) (Nat.le_refl _) (Nat.le_refl _)
  generalize hT1 : (T.setVm vm₁).pushCell { cls := cX, slots := kX.instanceTypes.map defaultValue, vm := .none } = T1 at X₁ st1
  have hcat : (Value.ref T.heap.size).category = 1 := rfl
  have hcellA : T1.heap[T.heap.size]? = some (freshCell cX kX) := by rw [← hT1]; exact State.heap_pushCell_size _ _
  have d3' : decode c.code (pc + 3) = .ok (.dup, 1) := by rw [hb]; exact d3
  have d4' : decode c.code (pc + 4) = .ok (.ldc_w is, 3) := by rw [hb]; exact d4
  have hstr' : vk_R own is text sa s' := vk_R.warm hW0 hstr
  obtain ⟨U, hsteps, hrun, hend, hW, hsame, ce, hce, hO⟩ := X₁.ctorThrowS hexec htr (own := own) (cls := cls) (names := names) (ic := ic) hown' hcls hnames h (fun x hx => nomatch hx) hfX hkX hcellA (by rw [hhp, hT]; exact Nat.le_refl _) (msg := .ref sa) rfl
    (g := { method := m, pc := pc + 7, locals := ls, stack := .ref sa :: .ref T.heap.size :: .ref T.heap.size :: rest, locked := none }) rfl hsize rfl rfl (rest := rest) rfl
    (by rw [hb]; exact d7) (by rw [hb]; exact d10) hout hRframes (by simp only [List.map_cons, List.sum_cons, hcat]; omega) hlocks
  obtain ⟨f1, f2⟩ := vx_frame hsame
  rw [hhp] at f1 f2
  have hWs : s.WarmedH U.vm := State.WarmedH.trans hW0 hW
  have hcl : s.vm.findClass cls = some ce.cls := by
    have h9 := hO.cls
    rw [hvm] at h9
    exact h9
  have hall : s.sameButNew ({ U with vm := s.vm } : State) locs mc ms := by
    subst hA
    obtain ⟨e1, e2⟩ := hsame
    rw [State.setFrames_setFrames] at e1
    have h2 : (T.setVm s.vm).sameButNew ({ U with vm := s.vm } : State) [] (0 + 1) (0 + 6) := ⟨e1, e2⟩
    have h3 := X.same.trans h2
    rw [List.append_nil] at h3
    exact h3.mono hc hs
  refine ⟨U, ?_, .threw T.heap.size, hrun, hend, Or.inr ⟨T.heap.size, rfl, cls, ce, locs, hx U hWs.alike f1 (fun q hq => f2 q hq (fun z hz => nomatch hz)), hce, hO.vm, hcl, hWs, hall, hf⟩⟩
  refine st1 _ ?_
  show Steps p.tables e below (T1.setTop { method := m, pc := pc + 3, locals := ls, stack := .ref T.heap.size :: rest, locked := none }) _
  jvm_step X₁.here [X₁.here.top, hexec, d3', Value.category]
  exact X₁.ldcStringW hexec (own := own) (text := text) (index := is) (a := sa) hown' hstr'.1 hstr'.2
    (g := { method := m, pc := pc + 4, locals := ls, stack := .ref T.heap.size :: .ref T.heap.size :: rest, locked := none }) rfl d4' _ hsteps
end Ends
section Bodies
variable {l : Launch}
theorem vx_ofW {y : MethodName} {ws ws' : List Cond} {rm : Room} {Pc : Array Value → State → Prop} {Qc : Array Value → State → Outcome → State → Prop} {XC : String → State → State → Prop} {mc ms : Nat} {free : Addr → Prop} {cc : ByteArray} {maxL : Nat} {ret : Option FieldType}
    (hy : plainName y.cls = true) (hw : ws = Cond.code y cc maxL ret :: ws')
    (body : ∀ p e s m args below meth c s₁, BodyLoose p l y (headSpec ws rm) cc maxL ret e s m args below meth c s₁ → c.maxLocals = maxL → (∀ x ∈ c.exceptionTable.toList, False) → Pc args s →
      W p l e (headSpec ws rm).room s m args below meth c s.heap [] 0 0 (vx_MQ below Qc XC args s mc ms free) (entryFrame m args maxL)) : vx_Met l y ws rm Pc Qc XC mc ms free := by
  refine MetFree.of_bodyS (code := cc) (maxLocals := maxL) (ret := ret) hy ?_ ?_
  · intro args s m h hn
    obtain ⟨meth, c, h1, h2, h3, h4, h5, h6, -, -⟩ := Cond.code_spec hn (atoms_spec (ws := ws) h _ (by rw [hw]; exact List.mem_cons_self))
    exact ⟨meth, c, h1, h2, h3, h4, h5, h6⟩
  · intro p e s m args below meth c s₁ B hml hP _
    have hh0 : s₁.heap = s.heap := by rw [B.state]; rfl
    have ht : ∀ x ∈ c.exceptionTable.toList, False := by
      obtain ⟨meth9, c9, h1, h2, -, -, -, -, h7, -⟩ := Cond.code_spec B.named (atoms_spec (ws := ws) B.pre _ (by rw [hw]; exact List.mem_cons_self))
      cases Option.some.inj (h1.symm.trans B.method)
      cases Option.some.inj (h2.symm.trans (Stand.of_body B).code)
      intro x hx
      rw [Array.isEmpty_iff.mp h7] at hx
      cases hx
    obtain ⟨t, a1, o, b1, b2, b3⟩ := body p e s m args below meth c s₁ B hml ht hP s₁ hh0 (Stand.of_body B)
    exact ⟨t, o, a1, b1, b2, b3⟩
/-- the table of a body with handlers -/
theorem vx_table {p : Program} {x y : MethodName} {S : Spec} {cc bytes : ByteArray} {maxL maxL' : Nat} {ret ret' : Option FieldType} {e : Env} {s s₁ : State} {m : MethodId} {args : Array Value} {below : List Frame} {meth : Method} {c : Code} {hh : List (Nat × Nat × Nat × Nat)}
    (B : BodyLoose p l y S cc maxL ret e s m args below meth c s₁) (h : (Cond.codeWith y bytes maxL' ret' hh).before args s = true) : c.exceptionTable.toList = tableOf hh := by
  obtain ⟨m9, meth9, c9, hn9, h1, h2, -, -, h6, -⟩ := Cond.codeWith_spec h
  cases Option.some.inj (hn9.symm.trans B.named)
  cases Option.some.inj (h1.symm.trans B.method)
  cases Option.some.inj (h2.symm.trans (Stand.of_body B).code)
  rw [← h6, table_eq]
end Bodies
end VXA
/-! ===== END ===== -/
/-! ===== BEGIN a static call of a method with an exception table ===== -/
section VXS
variable {p : Program} {l : Launch} {e : Env} {R : Room} {s : State} {m : MethodId} {args : Array Value} {below : List Frame} {meth : Method} {c : Code} {T : State} {H : Heap} {locs : List Loc} {cells slots : Nat}
abbrev vx_CSW (R : Room) (s : State) (args : Array Value) (own : String) (index : Nat) (y : MethodName) (bytes : ByteArray) (maxL : Nat) (ret : Option FieldType) (hh : List (Nat × Nat × Nat × Nat)) (ws : List Cond) (rm : Room) (mc ms n : Nat) : Prop :=
  (rm.cells = mc ∧ rm.slots = ms ∧ rm.frames + 1 ≤ R.frames ∧ 8 + (maxL + 11) + rm.locals ≤ R.locals ∧ (∀ w ∈ ws, ∀ (a' : Array Value) (U : State), s.WarmedH U.vm → w.before a' U = true) ∧ Cond.codeWith y bytes maxL ret hh ∈ ws) ∧
  (Cond.codeWith y bytes maxL ret hh).before args s = true ∧ (Cond.initialized y.cls).before args s = true ∧ (y.cls ≠ "java/lang/invoke/MethodHandle" ∧ y.cls ≠ "java/lang/invoke/VarHandle") ∧
  (∀ sig, parseMethodDescriptor y.desc = some sig → n = sig.parameters.length) ∧ (Cond.methodLink own index y).before args s = true ∧ (Cond.static y).before args s = true
theorem vx_cwSW {own : String} {index maxL mc ms : Nat} {y : MethodName} {bytes : ByteArray} {ret : Option FieldType} {hh : List (Nat × Nat × Nat × Nat)} {Ts ws ws' : List Cond} {rm : Room} (n : Nat) (ht : ∀ w ∈ Ts, w.before args s = true) (hT : GoodIn Ts (va_wsS own index y ws)) (hw : ws = Cond.codeWith y bytes maxL ret hh :: ws') (hrc : rm.cells = mc) (hrs : rm.slots = ms)
    (hd : y.cls ≠ "java/lang/invoke/MethodHandle" ∧ y.cls ≠ "java/lang/invoke/VarHandle" ∧ (parseMethodDescriptor y.desc).map (fun d => d.parameters.length) = some n) (hR : rm.frames + 1 ≤ R.frames ∧ 8 + (maxL + 11) + rm.locals ≤ R.locals) :
    vx_CSW R s args own index y bytes maxL ret hh ws rm mc ms n := by
  have ok : ∀ w ∈ va_wsS own index y ws, w.before args s = true := fun w h => ht w (hT w h).1
  have hG : GoodIn Ts ws := fun w h => hT w (by unfold va_wsS; exact List.mem_append_right _ h)
  have hc : Cond.codeWith y bytes maxL ret hh ∈ ws := by rw [hw]; exact List.mem_cons_self
  refine ⟨⟨hrc, hrs, hR.1, hR.2, pay_in ht hG, hc⟩, ht _ (hG _ hc).1, ok _ (by simp [va_wsS]), ⟨hd.1, hd.2.1⟩, fun sig h => ?_, ok _ (by simp [va_wsS]), ok _ (by simp [va_wsS])⟩
  have h2 := hd.2.2
  rw [h] at h2
  exact (Option.some.inj h2).symm
theorem vx_callSW (X : Stand p l e R s m args below meth c T locs cells slots) (hexec : p.tables.exec = Jvm.exec) {own : String} {index : Nat} {y : MethodName} {bytes : ByteArray} {maxL : Nat} {ret : Option FieldType} {hh : List (Nat × Nat × Nat × Nat)}
    (hown : s.vm.findClass own = some m.cls) (hlink : (Cond.methodLink own index y).before args s = true) (hstat : (Cond.static y).before args s = true) (hinit : (Cond.initialized y.cls).before args s = true)
    (hcode : (Cond.codeWith y bytes maxL ret hh).before args s = true) (hy : y.cls ≠ "java/lang/invoke/MethodHandle" ∧ y.cls ≠ "java/lang/invoke/VarHandle")
    {W9 : Nat} {Pre : Pt → Array Value → Prop} {Post : Pt → Array Value → Option Value → Pt → Prop} (hK : Back l R p e below s args y 3 W9 Pre Post)
    {g : JFrame} (hg : g.method = m) (hsize : g.locals.size = c.maxLocals) {argsL rest : List Value} (hlen : ∀ sig, parseMethodDescriptor y.desc = some sig → argsL.length = sig.parameters.length)
    (hstack : g.stack = argsL.reverse ++ rest) (hW : 2 * g.monitorRoom + (rest.map fun v => v.category).sum ≤ W9) (hdg : decode c.code g.pc = .ok (.invokestatic index, 3))
    (hpre : ∀ vm₁, s.WarmedH vm₁ → Pre ⟨T.setVm vm₁, locs, cells, slots⟩ argsL.toArray) :
    ∃ (v : Option Value) (vm₁ : Vm) (B : Pt), s.WarmedH vm₁ ∧ Stand p l e R s m args below meth c B.U B.locs B.cells B.slots ∧ Post ⟨T.setVm vm₁, locs, cells, slots⟩ argsL.toArray v B ∧
      ∀ target, Steps p.tables e below (B.U.setTop { g with pc := g.pc + 3, stack := v.toList ++ rest }) target → Steps p.tables e below (T.setTop g) target := by
  obtain ⟨mk, methM, cM, hnamed, hmethM, -, -, -, -, -, -, hsigM⟩ := Cond.codeWith_spec hcode
  have hstatic : methM.isStatic = true := Cond.static_spec hnamed hmethM hstat
  obtain ⟨kP, hkP, -⟩ := className_of_methodNamed hnamed
  have hinitP : kP.init = .initialized := Cond.initialized_spec (findClass_of_methodNamed hnamed) hkP hinit
  obtain ⟨vm₁, X₁, hstep₁⟩ := X.invokestatic hexec hown hlink hnamed hmethM hstatic hkP hinitP hy (g := g) hg (argsL := argsL) (rest := rest) (hlen _ hsigM) hstack hdg
  obtain ⟨v, B, X', hpost, hsteps⟩ := hK m meth c ⟨T.setVm vm₁, locs, cells, slots⟩ { g with stack := rest } (.invokestatic index) mk argsL.toArray X₁ hg hsize hdg hW (X₁.named hnamed) (hpre vm₁ X₁.warmed)
  exact ⟨v, vm₁, B, X₁.warmed, X', hpost, fun target h => hstep₁ _ fun acts => by rw [doInvoke_state]; exact hsteps.trans h⟩
theorem vx_runSW {y : MethodName} {bytes cc : ByteArray} {maxL nL mc ms n index : Nat} {ret : Option FieldType} {hh : List (Nat × Nat × Nat × Nat)} {ws : List Cond} {rm : Room} {Pc : Array Value → State → Prop} {Qc : Array Value → State → Outcome → State → Prop} {free : Addr → Prop} {Ts : List Cond} {own : String} {As rest : List Value} {g : JFrame}
    (S : CallFix p m c cc nL s args Ts own) (hM : Met l y ws rm Pc Qc mc ms free) (cw : vx_CSW R s args own index y bytes maxL ret hh ws rm mc ms n) (hp : PreS s H Pc As)
    (hg : g.method = m) (hn : As.length = n) (hsize : g.locals.size = nL) (hstack : g.stack = As.reverse ++ rest) (hW : 2 * g.monitorRoom + (rest.map fun v => v.category).sum ≤ 8) (hdg : decode cc g.pc = .ok (.invokestatic index, 3)) (hf : cells + mc ≤ R.cells ∧ slots + ms ≤ R.slots) :
    va_Run p l e R s m args below meth c H locs cells slots mc ms g rest (Qc As.toArray) (free) := by
  obtain ⟨⟨hrc, hrs, hfr, hlo, hws, hcw⟩, hcode, hini, hy, hlen, hl, hstt⟩ := cw
  have hK : Back l R p e below s args y 3 8 (PreOf R mc ms Pc) (PostOf Qc mc ms free) := va_backW (hh := hh) (bytes := bytes) (maxL := maxL) (ret := ret) hM hp.1 hrc hrs hfr hlo hws hcw (fun a' U hW => word_at hW (Or.inl (by first | rfl | simp [Cond.onTables, Cond.keeps, Cond.steady])) hini)
  obtain ⟨hx, hb, hml, ho, -⟩ := S
  intro T hT X
  obtain ⟨v, vm₁, ⟨U', l2, c2, s2⟩, hW₁, X', ⟨g', mk, t, L, e1, e2, hq, h1, hL, h2, h3⟩, st⟩ := vx_callSW X hx (hh := hh) (bytes := bytes) (maxL := maxL) (ret := ret) ho hl hstt hini hcode hy hK hg (hsize.trans hml.symm) (argsL := As) (rest := rest) (fun sig h => hn.trans (hlen sig h)) hstack hW (by rw [hb]; exact hdg)
    (fun vm₁ hW₁ => ⟨hf.1, hf.2, hp.2 (T.setVm vm₁) hT hW₁⟩)
  dsimp only [Pt.U, Pt.locs, Pt.cells, Pt.slots] at X' e1 e2 h1 h2 h3 st
  subst h1; subst h2; subst h3
  exact ⟨v, (T.setVm vm₁).calling g' mk As.toArray, t, U', L, hT, X', hL, e1, e2, hq, st⟩
/-- a thing of a world lies in the heap -/
theorem vx_lt {D : va_G} {cl : List vw_C} {ws : va_W} {H1 : Heap} (h : va_P D cl ws H1) {k : Nat} {q : Nat × va_E} (hk : ws[k]? = some q) : q.1 < H1.size := (h k q hk).lt
end VXS
/-! ===== END ===== -/
/-! ===== BEGIN methods with a table of their own: called by a name, returning or throwing ===== -/
section VXH
/-! vx_backW, vx_callVX, vx_callSX, vx_callVW, vx_runVW, vx_runVX, vx_runSX, vx_ofWH follow the same proofs as their sisters above (Free/Laws.lean, Shelf42/LK1.lean); vx_outP calls Shelf42/NT130.lean (outThrough). -/
section
variable {l : Launch} {R : Room} {p : Program} {e : Env} {below : List Frame} {s : State} {sargs : Array Value} {y : MethodName} {len W9 : Nat}
theorem vx_backW {ws : List Cond} {rm : Room} {Pc : Array Value → State → Prop} {Qc : Array Value → State → Outcome → State → Prop} {XC : String → State → State → Prop} {mc ms : Nat} {free : Addr → Prop} {bytes : ByteArray} {maxL : Nat} {ret : Option FieldType} {hh : List (Nat × Nat × Nat × Nat)}
    (hM : vx_Met l y ws rm Pc Qc XC mc ms free) (hblind : FrameBlind Pc) (hrc : rm.cells = mc) (hrs : rm.slots = ms)
    (hframes : rm.frames + 1 ≤ R.frames) (hlocals : W9 + (maxL + 11) + rm.locals ≤ R.locals)
    (hws : ∀ w ∈ ws, ∀ a' U, s.WarmedH U.vm → w.before a' U = true) (hcode : Cond.codeWith y bytes maxL ret hh ∈ ws) (hinit : ∀ a' U, s.WarmedH U.vm → (Cond.initialized y.cls).before a' U = true) :
    vx_Back l R p e below s sargs y len W9 (PreOf R mc ms Pc) (PostOf Qc mc ms free) (vx_Post XC mc ms free) := by
  intro m meth c A g ig mk a X hg hsize hdg hW hn hp
  have h1 : (headSpec ws rm).pre.before a A.U = true := atoms_intro fun w hw => hws w hw _ _ X.warmed
  have h2 : (Cond.codeWith y bytes maxL ret hh).before a A.U = true := hws _ hcode _ _ X.warmed
  have h3 : (Cond.initialized y.cls).before a A.U = true := hinit _ _ X.warmed
  have h4 : A.cells + (headSpec ws rm).room.cells ≤ R.cells := by rw [show (headSpec ws rm).room.cells = mc from hrc]; exact hp.1
  have h5 : A.slots + (headSpec ws rm).room.slots ≤ R.slots := by rw [show (headSpec ws rm).room.slots = ms from hrs]; exact hp.2.1
  have hPc : Pc a (A.U.calling g mk a) := hblind _ _ _ _ hp.2.2
  obtain ⟨U, Ls, c0, s0⟩ := A
  dsimp only [Pt.U, Pt.locs, Pt.cells, Pt.slots] at h1 h2 h3 h4 h5 X hn hPc ⊢
  obtain ⟨m9, methY, cY, hn9, hmY, hcY, -, hlY, -⟩ := Cond.codeWith_spec h2
  cases Option.some.inj (hn9.symm.trans hn)
  obtain ⟨kY, hkY, -⟩ := className_of_methodNamed hn
  have hinitY : kY.init = .initialized := Cond.initialized_spec (findClass_of_methodNamed hn) hkY h3
  have h : At U g.method c below := by rw [hg]; exact X.here
  have hlocals9 : W9 + (maxL + 11) + (headSpec ws rm).room.locals ≤ R.locals := hlocals
  have happ : (headSpec ws rm).appliesLoose y e.platform (U.calling g mk a) = true :=
    Spec.appliesLoose_calling (g := g) h hdg hn hkY hinitY
      (X.room_calling (g := g) (R' := (headSpec ws rm).room) hsize hmY hcY hframes (by rw [hlY]; omega) h4 h5) h1
  obtain ⟨mid, hmid⟩ := h.above
  have hfr : (U.setTop g).frames = (.java g :: mid) ++ below := by rw [State.frames_setTop' g h.top, hmid]; rfl
  obtain ⟨o, s₂, hsteps, -, hend, hq⟩ := Steps.callFree hM p X.admits X.cas X.clock (acts := []) hfr happ hPc trivial
  have hq' : vx_Q Qc XC mc ms free a (U.calling g mk a) o s₂ := hq
  rw [State.frames_setTop' g h.top] at hend
  obtain ⟨g₀, hg0⟩ := Option.isSome_iff_exists.mp h.top
  obtain ⟨r, hr⟩ := State.topJava?_eq_some.mp hg0
  have hr' : (({ U with heap := s₂.heap, slotsUsed := s₂.slotsUsed } : State).setVm s₂.vm).frames = .java g₀ :: r := hr
  rcases hq' with ⟨hqc, L, hfe, hL⟩ | ⟨q, rfl, E, ce, L, hx, hce, hcv, hcl, hW₂, hsm, hL⟩
  · obtain ⟨⟨v, rfl⟩, hW₂, e2, q2, q3, q4, q5, q6⟩ := id hfe
    have e3 : s₂ = ({ (U.calling g mk a).setFrames s₂.frames with heap := s₂.heap, slotsUsed := s₂.slotsUsed } : State).setVm s₂.vm := by
      have : s₂ = ({ s₂ with vm := (U.calling g mk a).vm } : State).setVm s₂.vm := rfl
      rw [e2] at this
      exact this
    obtain ⟨c₂, i₂, len₂, hc₂, hd₂, hf₂⟩ := hend
    have hW' : U.WarmedH s₂.vm := hW₂
    have hcc : c₂ = c := by
      have h1 : s₂.code? g.method = U.code? g.method := by
        rw [State.code?_eq, State.code?_eq, hW'.alike.method?]
      exact Option.some.inj (hc₂.symm.trans (h1.trans h.code))
    subst hcc
    have hlen : len₂ = len := by rw [hdg] at hd₂; cases hd₂; rfl
    subst hlen
    have hs₂ : s₂ = (({ U with heap := s₂.heap, slotsUsed := s₂.slotsUsed } : State).setVm s₂.vm).setTop { g with pc := g.pc + len₂, stack := v.toList ++ g.stack } := by
      refine e3.trans ?_
      rw [hf₂, State.calling_eq h.top, State.setFrames_setFrames, State.setTop_of_frames _ hr', hr]
      rfl
    have hsame : U.sameButNew ({ U with heap := s₂.heap, slotsUsed := s₂.slotsUsed } : State) L mc ms := by
      refine ⟨?_, q2, q3, q4, q5, q6⟩
      obtain ⟨t, ht, -⟩ := State.frames_cons hr
      show ({ U with heap := s₂.heap, slotsUsed := s₂.slotsUsed } : State) = { U.setFrames U.frames with heap := s₂.heap, slotsUsed := s₂.slotsUsed }
      rw [State.setFrames_self ht]
    subst hg
    refine Or.inl ⟨v, ⟨(({ U with heap := s₂.heap, slotsUsed := s₂.slotsUsed } : State).setVm s₂.vm), Ls ++ L, c0 + mc, s0 + ms⟩,
      ⟨X.admits, X.cas, X.clock, X.frames, X.room, X.hears, X.method, X.code, (X.here.setHeapUsed s₂.heap s₂.slotsUsed).setVm hW'.alike, X.tail, State.WarmedH.trans X.warmed hW', X.limits, X.bytes, X.same.trans (hsame.setVm s.vm)⟩,
      ⟨g, mk, s₂, L, rfl, rfl, hqc, rfl, hL, rfl, rfl⟩, ?_⟩
    show Steps p.tables e below _ ((({ U with heap := s₂.heap, slotsUsed := s₂.slotsUsed } : State).setVm s₂.vm).setTop { g with pc := g.pc + len₂, stack := v.toList ++ g.stack })
    rw [← hs₂]
    exact hsteps
  · obtain ⟨e2, q2, q3, q4, q5, q6⟩ := id hsm
    have e3 : s₂ = ({ (U.calling g mk a).setFrames s₂.frames with heap := s₂.heap, slotsUsed := s₂.slotsUsed } : State).setVm s₂.vm := by
      have : s₂ = ({ s₂ with vm := (U.calling g mk a).vm } : State).setVm s₂.vm := rfl
      rw [e2] at this
      exact this
    have hf₂ : s₂.frames = .throwing q :: .java g :: U.frames.tail := hend
    have hW' : U.WarmedH s₂.vm := hW₂
    have hs₂ : s₂ = ((({ U with heap := s₂.heap, slotsUsed := s₂.slotsUsed } : State).setVm s₂.vm).setTop g).pushFrame (.throwing q) := by
      refine e3.trans ?_
      rw [hf₂, State.calling_eq h.top, State.setFrames_setFrames, State.pushFrame, State.frames_setTop _ hr', State.setTop_of_frames _ hr', State.setFrames_setFrames, hr]
      rfl
    have hsame : U.sameButNew ({ U with heap := s₂.heap, slotsUsed := s₂.slotsUsed } : State) L mc ms := by
      refine ⟨?_, q2, q3, q4, q5, q6⟩
      obtain ⟨t, ht, -⟩ := State.frames_cons hr
      show ({ U with heap := s₂.heap, slotsUsed := s₂.slotsUsed } : State) = { U.setFrames U.frames with heap := s₂.heap, slotsUsed := s₂.slotsUsed }
      rw [State.setFrames_self ht]
    subst hg
    refine Or.inr ⟨q, ⟨(({ U with heap := s₂.heap, slotsUsed := s₂.slotsUsed } : State).setVm s₂.vm), Ls ++ L, c0 + mc, s0 + ms⟩,
      ⟨X.admits, X.cas, X.clock, X.frames, X.room, X.hears, X.method, X.code, (X.here.setHeapUsed s₂.heap s₂.slotsUsed).setVm hW'.alike, X.tail, State.WarmedH.trans X.warmed hW', X.limits, X.bytes, X.same.trans (hsame.setVm s.vm)⟩,
      ⟨g, mk, s₂, L, E, ce, rfl, rfl, hx, hce, hcv, hcl, rfl, hL, rfl, rfl⟩, ?_⟩
    show Steps p.tables e below _ (((({ U with heap := s₂.heap, slotsUsed := s₂.slotsUsed } : State).setVm s₂.vm).setTop g).pushFrame (.throwing q))
    rw [← hs₂]
    exact hsteps
end
variable {p : Program} {l : Launch} {e : Env} {R : Room} {s : State} {m : MethodId} {args : Array Value} {below : List Frame} {meth : Method} {c : Code} {T : State} {H : Heap} {locs : List Loc} {cells slots : Nat}
theorem vx_callVX (X : Stand p l e R s m args below meth c T locs cells slots) (hexec : p.tables.exec = Jvm.exec) {own C : String} {index : Nat} {y : MethodName} {bytes : ByteArray} {maxL : Nat} {ret : Option FieldType} {hh : List (Nat × Nat × Nat × Nat)}
    (hown : s.vm.findClass own = some m.cls) (hlink : (Cond.methodLink own index y).before args s = true) (hinst : (Cond.instanceMethod y).before args s = true) (hsel : (Cond.selects C y y).before args s = true)
    (hcode : (Cond.codeWith y bytes maxL ret hh).before args s = true) (hy : y.cls ≠ "java/lang/invoke/MethodHandle" ∧ y.cls ≠ "java/lang/invoke/VarHandle")
    {W9 : Nat} {Pre : Pt → Array Value → Prop} {Post : Pt → Array Value → Option Value → Pt → Prop} {PostX : Pt → Array Value → Addr → Pt → Prop} (hK : vx_Back l R p e below s args y 3 W9 Pre Post PostX)
    {b : Addr} {cellB : Cell} (hcell : T.heap[b]? = some cellB) (hobj : cellB.vm.isStatics = false) (hcls : s.vm.findClass C = some cellB.cls)
    {g : JFrame} (hg : g.method = m) (hsize : g.locals.size = c.maxLocals) {argsL rest : List Value} (hlen : ∀ sig, parseMethodDescriptor y.desc = some sig → argsL.length = sig.parameters.length)
    (hstack : g.stack = argsL.reverse ++ .ref b :: rest) (hW : 2 * g.monitorRoom + (rest.map fun v => v.category).sum ≤ W9) (hdg : decode c.code g.pc = .ok (.invokevirtual index, 3))
    (hpre : ∀ vm₁, s.WarmedH vm₁ → Pre ⟨T.setVm vm₁, locs, cells, slots⟩ (Value.ref b :: argsL).toArray) :
    (∃ (v : Option Value) (vm₁ : Vm) (B : Pt), s.WarmedH vm₁ ∧ Stand p l e R s m args below meth c B.U B.locs B.cells B.slots ∧ Post ⟨T.setVm vm₁, locs, cells, slots⟩ (Value.ref b :: argsL).toArray v B ∧
      ∀ target, Steps p.tables e below (B.U.setTop { g with pc := g.pc + 3, stack := v.toList ++ rest }) target → Steps p.tables e below (T.setTop g) target) ∨
    (∃ (q : Addr) (vm₁ : Vm) (B : Pt), s.WarmedH vm₁ ∧ Stand p l e R s m args below meth c B.U B.locs B.cells B.slots ∧ PostX ⟨T.setVm vm₁, locs, cells, slots⟩ (Value.ref b :: argsL).toArray q B ∧
      Steps p.tables e below (T.setTop g) ((B.U.setTop { g with stack := rest }).pushFrame (.throwing q))) := by
  obtain ⟨mk, methM, hnamed, hmethM, hstM, habM⟩ := Cond.instanceMethod_spec hinst
  obtain ⟨m8, methM', cM, hn8, hmethM', -, -, -, -, -, -, hsigM⟩ := Cond.codeWith_spec hcode
  cases Option.some.inj (hn8.symm.trans hnamed)
  cases hmethM.symm.trans hmethM'
  obtain ⟨c2, r2, m2, q1, q2, q3, q4, kP, hkP, hkPi⟩ := Cond.selects_spec hsel
  cases hcls.symm.trans q1
  cases (State.methodFound?_of_named hnamed hy).symm.trans q2
  cases hnamed.symm.trans q3
  have hselP : selectMethod e.platform s.vm cellB.cls mk = .method mk := by rw [Launch.admits_selectMethod X.admits]; exact q4
  obtain ⟨vm₁, X₁, hstep₁⟩ := X.invokevirtual hexec hown hlink hnamed hmethM hstM hkP hkPi hy (a := b) (cell := cellB) hcell
    (fun z h => by rw [h] at hobj; cases hobj) hselP hmethM habM hkP hkPi (g := g) hg (argsL := argsL) (rest := rest) (hlen _ hsigM) hstack hdg
  rcases hK m meth c ⟨T.setVm vm₁, locs, cells, slots⟩ { g with stack := rest } (.invokevirtual index) mk (Value.ref b :: argsL).toArray X₁ hg hsize hdg hW (X₁.named hnamed) (hpre vm₁ X₁.warmed) with ⟨v, B, X', hpost, hsteps⟩ | ⟨q, B, X', hpost, hsteps⟩
  · exact Or.inl ⟨v, vm₁, B, X₁.warmed, X', hpost, fun target h => hstep₁ _ fun acts => by rw [doInvoke_state]; exact hsteps.trans h⟩
  · exact Or.inr ⟨q, vm₁, B, X₁.warmed, X', hpost, hstep₁ _ fun acts => by rw [doInvoke_state]; exact hsteps⟩
theorem vx_callSX (X : Stand p l e R s m args below meth c T locs cells slots) (hexec : p.tables.exec = Jvm.exec) {own : String} {index : Nat} {y : MethodName} {bytes : ByteArray} {maxL : Nat} {ret : Option FieldType} {hh : List (Nat × Nat × Nat × Nat)}
    (hown : s.vm.findClass own = some m.cls) (hlink : (Cond.methodLink own index y).before args s = true) (hstat : (Cond.static y).before args s = true) (hinit : (Cond.initialized y.cls).before args s = true)
    (hcode : (Cond.codeWith y bytes maxL ret hh).before args s = true) (hy : y.cls ≠ "java/lang/invoke/MethodHandle" ∧ y.cls ≠ "java/lang/invoke/VarHandle")
    {W9 : Nat} {Pre : Pt → Array Value → Prop} {Post : Pt → Array Value → Option Value → Pt → Prop} {PostX : Pt → Array Value → Addr → Pt → Prop} (hK : vx_Back l R p e below s args y 3 W9 Pre Post PostX)
    {g : JFrame} (hg : g.method = m) (hsize : g.locals.size = c.maxLocals) {argsL rest : List Value} (hlen : ∀ sig, parseMethodDescriptor y.desc = some sig → argsL.length = sig.parameters.length)
    (hstack : g.stack = argsL.reverse ++ rest) (hW : 2 * g.monitorRoom + (rest.map fun v => v.category).sum ≤ W9) (hdg : decode c.code g.pc = .ok (.invokestatic index, 3))
    (hpre : ∀ vm₁, s.WarmedH vm₁ → Pre ⟨T.setVm vm₁, locs, cells, slots⟩ argsL.toArray) :
    (∃ (v : Option Value) (vm₁ : Vm) (B : Pt), s.WarmedH vm₁ ∧ Stand p l e R s m args below meth c B.U B.locs B.cells B.slots ∧ Post ⟨T.setVm vm₁, locs, cells, slots⟩ argsL.toArray v B ∧
      ∀ target, Steps p.tables e below (B.U.setTop { g with pc := g.pc + 3, stack := v.toList ++ rest }) target → Steps p.tables e below (T.setTop g) target) ∨
    (∃ (q : Addr) (vm₁ : Vm) (B : Pt), s.WarmedH vm₁ ∧ Stand p l e R s m args below meth c B.U B.locs B.cells B.slots ∧ PostX ⟨T.setVm vm₁, locs, cells, slots⟩ argsL.toArray q B ∧
      Steps p.tables e below (T.setTop g) ((B.U.setTop { g with stack := rest }).pushFrame (.throwing q))) := by
  obtain ⟨mk, methM, cM, hnamed, hmethM, -, -, -, -, -, -, hsigM⟩ := Cond.codeWith_spec hcode
  have hstatic : methM.isStatic = true := Cond.static_spec hnamed hmethM hstat
  obtain ⟨kP, hkP, -⟩ := className_of_methodNamed hnamed
  have hinitP : kP.init = .initialized := Cond.initialized_spec (findClass_of_methodNamed hnamed) hkP hinit
  obtain ⟨vm₁, X₁, hstep₁⟩ := X.invokestatic hexec hown hlink hnamed hmethM hstatic hkP hinitP hy (g := g) hg (argsL := argsL) (rest := rest) (hlen _ hsigM) hstack hdg
  rcases hK m meth c ⟨T.setVm vm₁, locs, cells, slots⟩ { g with stack := rest } (.invokestatic index) mk argsL.toArray X₁ hg hsize hdg hW (X₁.named hnamed) (hpre vm₁ X₁.warmed) with ⟨v, B, X', hpost, hsteps⟩ | ⟨q, B, X', hpost, hsteps⟩
  · exact Or.inl ⟨v, vm₁, B, X₁.warmed, X', hpost, fun target h => hstep₁ _ fun acts => by rw [doInvoke_state]; exact hsteps.trans h⟩
  · exact Or.inr ⟨q, vm₁, B, X₁.warmed, X', hpost, hstep₁ _ fun acts => by rw [doInvoke_state]; exact hsteps⟩
theorem vx_callVW (X : Stand p l e R s m args below meth c T locs cells slots) (hexec : p.tables.exec = Jvm.exec) {own C : String} {index : Nat} {y : MethodName} {bytes : ByteArray} {maxL : Nat} {ret : Option FieldType} {hh : List (Nat × Nat × Nat × Nat)}
    (hown : s.vm.findClass own = some m.cls) (hlink : (Cond.methodLink own index y).before args s = true) (hinst : (Cond.instanceMethod y).before args s = true) (hsel : (Cond.selects C y y).before args s = true)
    (hcode : (Cond.codeWith y bytes maxL ret hh).before args s = true) (hy : y.cls ≠ "java/lang/invoke/MethodHandle" ∧ y.cls ≠ "java/lang/invoke/VarHandle")
    {W9 : Nat} {Pre : Pt → Array Value → Prop} {Post : Pt → Array Value → Option Value → Pt → Prop} (hK : Back l R p e below s args y 3 W9 Pre Post)
    {b : Addr} {cellB : Cell} (hcell : T.heap[b]? = some cellB) (hobj : cellB.vm.isStatics = false) (hcls : s.vm.findClass C = some cellB.cls)
    {g : JFrame} (hg : g.method = m) (hsize : g.locals.size = c.maxLocals) {argsL rest : List Value} (hlen : ∀ sig, parseMethodDescriptor y.desc = some sig → argsL.length = sig.parameters.length)
    (hstack : g.stack = argsL.reverse ++ .ref b :: rest) (hW : 2 * g.monitorRoom + (rest.map fun v => v.category).sum ≤ W9) (hdg : decode c.code g.pc = .ok (.invokevirtual index, 3))
    (hpre : ∀ vm₁, s.WarmedH vm₁ → Pre ⟨T.setVm vm₁, locs, cells, slots⟩ (Value.ref b :: argsL).toArray) :
    ∃ (v : Option Value) (vm₁ : Vm) (B : Pt), s.WarmedH vm₁ ∧ Stand p l e R s m args below meth c B.U B.locs B.cells B.slots ∧ Post ⟨T.setVm vm₁, locs, cells, slots⟩ (Value.ref b :: argsL).toArray v B ∧
      ∀ target, Steps p.tables e below (B.U.setTop { g with pc := g.pc + 3, stack := v.toList ++ rest }) target → Steps p.tables e below (T.setTop g) target := by
  obtain ⟨mk, methM, hnamed, hmethM, hstM, habM⟩ := Cond.instanceMethod_spec hinst
  obtain ⟨m8, methM', cM, hn8, hmethM', -, -, -, -, -, -, hsigM⟩ := Cond.codeWith_spec hcode
  cases Option.some.inj (hn8.symm.trans hnamed)
  cases hmethM.symm.trans hmethM'
  obtain ⟨c2, r2, m2, q1, q2, q3, q4, kP, hkP, hkPi⟩ := Cond.selects_spec hsel
  cases hcls.symm.trans q1
  cases (State.methodFound?_of_named hnamed hy).symm.trans q2
  cases hnamed.symm.trans q3
  have hselP : selectMethod e.platform s.vm cellB.cls mk = .method mk := by rw [Launch.admits_selectMethod X.admits]; exact q4
  obtain ⟨vm₁, X₁, hstep₁⟩ := X.invokevirtual hexec hown hlink hnamed hmethM hstM hkP hkPi hy (a := b) (cell := cellB) hcell
    (fun z h => by rw [h] at hobj; cases hobj) hselP hmethM habM hkP hkPi (g := g) hg (argsL := argsL) (rest := rest) (hlen _ hsigM) hstack hdg
  obtain ⟨v, B, X', hpost, hsteps⟩ := hK m meth c ⟨T.setVm vm₁, locs, cells, slots⟩ { g with stack := rest } (.invokevirtual index) mk (Value.ref b :: argsL).toArray X₁ hg hsize hdg hW (X₁.named hnamed) (hpre vm₁ X₁.warmed)
  exact ⟨v, vm₁, B, X₁.warmed, X', hpost, fun target h => hstep₁ _ fun acts => by rw [doInvoke_state]; exact hsteps.trans h⟩
abbrev vx_CVW (R : Room) (s : State) (args : Array Value) (own C : String) (index : Nat) (y : MethodName) (bytes : ByteArray) (maxL : Nat) (ret : Option FieldType) (hh : List (Nat × Nat × Nat × Nat)) (ws : List Cond) (rm : Room) (mc ms n : Nat) : Prop :=
  (rm.cells = mc ∧ rm.slots = ms ∧ rm.frames + 1 ≤ R.frames ∧ 8 + (maxL + 11) + rm.locals ≤ R.locals ∧ (∀ w ∈ ws, ∀ (a' : Array Value) (U : State), s.WarmedH U.vm → w.before a' U = true) ∧ Cond.codeWith y bytes maxL ret hh ∈ ws) ∧
  (Cond.codeWith y bytes maxL ret hh).before args s = true ∧ (Cond.initialized y.cls).before args s = true ∧ (y.cls ≠ "java/lang/invoke/MethodHandle" ∧ y.cls ≠ "java/lang/invoke/VarHandle") ∧
  (∀ sig, parseMethodDescriptor y.desc = some sig → n = sig.parameters.length) ∧ (Cond.methodLink own index y).before args s = true ∧ (Cond.instanceMethod y).before args s = true ∧ (Cond.selects C y y).before args s = true
theorem vx_cwVW {own C : String} {index maxL mc ms : Nat} {y : MethodName} {bytes : ByteArray} {ret : Option FieldType} {hh : List (Nat × Nat × Nat × Nat)} {Ts ws ws' : List Cond} {rm : Room} (n : Nat) (ht : ∀ w ∈ Ts, w.before args s = true) (hT : GoodIn Ts (wsV own index C y ws)) (hw : ws = Cond.codeWith y bytes maxL ret hh :: ws') (hrc : rm.cells = mc) (hrs : rm.slots = ms)
    (hd : y.cls = C ∧ y.cls ≠ "java/lang/invoke/MethodHandle" ∧ y.cls ≠ "java/lang/invoke/VarHandle" ∧ (parseMethodDescriptor y.desc).map (fun d => d.parameters.length) = some n) (hR : rm.frames + 1 ≤ R.frames ∧ 8 + (maxL + 11) + rm.locals ≤ R.locals) :
    vx_CVW R s args own C index y bytes maxL ret hh ws rm mc ms n := by
  obtain ⟨hC, hd⟩ := hd
  subst hC
  have ok : ∀ w ∈ wsV own index y.cls y ws, w.before args s = true := fun w h => ht w (hT w h).1
  have hG : GoodIn Ts ws := fun w h => hT w (by unfold wsV; exact List.mem_append_right _ h)
  have hc : Cond.codeWith y bytes maxL ret hh ∈ ws := by rw [hw]; exact List.mem_cons_self
  refine ⟨⟨hrc, hrs, hR.1, hR.2, pay_in ht hG, hc⟩, ht _ (hG _ hc).1, ok _ (by simp [wsV]), ⟨hd.1, hd.2.1⟩, fun sig h => ?_, ok _ (by simp [wsV]), ok _ (by simp [wsV]), ok _ (by simp [wsV])⟩
  have h2 := hd.2.2
  rw [h] at h2
  exact (Option.some.inj h2).symm
theorem vx_runVW {y : MethodName} {bytes cc : ByteArray} {maxL nL mc ms n index : Nat} {ret : Option FieldType} {hh : List (Nat × Nat × Nat × Nat)} {ws : List Cond} {rm : Room} {Pc : Array Value → State → Prop} {Qc : Array Value → State → Outcome → State → Prop} {free : Addr → Prop} {Ts : List Cond} {own C : String} {b : Addr} {As rest : List Value} {g : JFrame}
    (S : CallFix p m c cc nL s args Ts own) (hM : Met l y ws rm Pc Qc mc ms free) (cw : vx_CVW R s args own C index y bytes maxL ret hh ws rm mc ms n) (hp : PreV s H C b Pc As)
    (hg : g.method = m) (hn : As.length = n) (hsize : g.locals.size = nL) (hstack : g.stack = As.reverse ++ .ref b :: rest) (hW : 2 * g.monitorRoom + (rest.map fun v => v.category).sum ≤ 8) (hdg : decode cc g.pc = .ok (.invokevirtual index, 3)) (hf : cells + mc ≤ R.cells ∧ slots + ms ≤ R.slots) :
    va_Run p l e R s m args below meth c H locs cells slots mc ms g rest (Qc (Value.ref b :: As).toArray) free := by
  obtain ⟨⟨hrc, hrs, hfr, hlo, hws, hcw⟩, hcode, hini, hy, hlen, hl, hin, hse⟩ := cw
  have hK : Back l R p e below s args y 3 8 (PreOf R mc ms Pc) (PostOf Qc mc ms free) := va_backW (hh := hh) (bytes := bytes) (maxL := maxL) (ret := ret) hM hp.1 hrc hrs hfr hlo hws hcw (fun a' U hW => word_at hW (Or.inl (by first | rfl | simp [Cond.onTables, Cond.keeps, Cond.steady])) hini)
  obtain ⟨hx, hb, hml, ho, -⟩ := S
  obtain ⟨-, ⟨cellB, hcB, hoB, hclB⟩, hPc⟩ := hp
  intro T hT X
  obtain ⟨v, vm₁, ⟨U', l2, c2, s2⟩, hW₁, X', ⟨g', mk, t, L, e1, e2, hq, h1, hL, h2, h3⟩, st⟩ := vx_callVW X hx (C := C) (hh := hh) (bytes := bytes) (maxL := maxL) (ret := ret) ho hl hin hse hcode hy hK (by rw [hT]; exact hcB) hoB hclB hg (hsize.trans hml.symm) (argsL := As) (rest := rest) (fun sig h => hn.trans (hlen sig h)) hstack hW (by rw [hb]; exact hdg)
    (fun vm₁ hW₁ => ⟨hf.1, hf.2, hPc (T.setVm vm₁) hT hW₁⟩)
  dsimp only [Pt.U, Pt.locs, Pt.cells, Pt.slots] at X' e1 e2 h1 h2 h3 st
  subst h1; subst h2; subst h3
  exact ⟨v, (T.setVm vm₁).calling g' mk (Value.ref b :: As).toArray, t, U', L, hT, X', hL, e1, e2, hq, st⟩
section
variable {y : MethodName} {bytes cc : ByteArray} {maxL nL mc ms n index : Nat} {ret : Option FieldType} {ws : List Cond} {rm : Room} {Pc : Array Value → State → Prop} {Qc : Array Value → State → Outcome → State → Prop} {XC : String → State → State → Prop} {free : Addr → Prop} {Ts : List Cond} {own C : String} {b : Addr} {As rest : List Value} {g : JFrame}
theorem vx_runVX {hh : List (Nat × Nat × Nat × Nat)} (S : CallFix p m c cc nL s args Ts own) (hM : vx_Met l y ws rm Pc Qc XC mc ms free) (cw : vx_CVW R s args own C index y bytes maxL ret hh ws rm mc ms n) (hp : PreV s H C b Pc As)
    (hg : g.method = m) (hn : As.length = n) (hsize : g.locals.size = nL) (hstack : g.stack = As.reverse ++ .ref b :: rest) (hW : 2 * g.monitorRoom + (rest.map fun v => v.category).sum ≤ 8) (hdg : decode cc g.pc = .ok (.invokevirtual index, 3)) (hf : cells + mc ≤ R.cells ∧ slots + ms ≤ R.slots) :
    vx_Run p l e R s m args below meth c H locs cells slots mc ms g rest (Qc (Value.ref b :: As).toArray) XC free := by
  obtain ⟨⟨hrc, hrs, hfr, hlo, hws, hcw⟩, hcode, hini, hy, hlen, hl, hin, hse⟩ := cw
  have hK : vx_Back l R p e below s args y 3 8 (PreOf R mc ms Pc) (PostOf Qc mc ms free) (vx_Post XC mc ms free) := vx_backW (hh := hh) (bytes := bytes) (maxL := maxL) (ret := ret) hM hp.1 hrc hrs hfr hlo hws hcw (fun a' U hW => word_at hW (Or.inl (by first | rfl | simp [Cond.onTables, Cond.keeps, Cond.steady])) hini)
  obtain ⟨hx, hb, hml, ho, -⟩ := S
  obtain ⟨-, ⟨cellB, hcB, hoB, hclB⟩, hPc⟩ := hp
  intro T hT X
  rcases vx_callVX X hx (C := C) (hh := hh) (bytes := bytes) (maxL := maxL) (ret := ret) ho hl hin hse hcode hy hK (by rw [hT]; exact hcB) hoB hclB hg (hsize.trans hml.symm) (argsL := As) (rest := rest) (fun sig h => hn.trans (hlen sig h)) hstack hW (by rw [hb]; exact hdg)
    (fun vm₁ hW₁ => ⟨hf.1, hf.2, hPc (T.setVm vm₁) hT hW₁⟩) with ⟨v, vm₁, ⟨U', l2, c2, s2⟩, hW₁, X', ⟨g', mk, t, L, e1, e2, hq, h1, hL, h2, h3⟩, st⟩ | ⟨q, vm₁, ⟨U', l2, c2, s2⟩, hW₁, X', ⟨g', mk, t, L, E, ce, e1, e2, hq, hce, hcv, hcl, h1, hL, h2, h3⟩, st⟩
  · dsimp only [Pt.U, Pt.locs, Pt.cells, Pt.slots] at X' e1 e2 h1 h2 h3 st
    subst h1; subst h2; subst h3
    exact Or.inl ⟨v, (T.setVm vm₁).calling g' mk (Value.ref b :: As).toArray, t, U', L, hT, X', hL, e1, e2, hq, st⟩
  · dsimp only [Pt.U, Pt.locs, Pt.cells, Pt.slots] at X' e1 e2 h1 h2 h3 st hcl
    subst h1; subst h2; subst h3
    exact Or.inr ⟨q, (T.setVm vm₁).calling g' mk (Value.ref b :: As).toArray, t, U', L, E, ce, hT, X', hL, e1, e2, hq, hce, hcv, vx_cls hW₁ hcl, st⟩
theorem vx_runSX {hh : List (Nat × Nat × Nat × Nat)} (S : CallFix p m c cc nL s args Ts own) (hM : vx_Met l y ws rm Pc Qc XC mc ms free) (cw : vx_CSW R s args own index y bytes maxL ret hh ws rm mc ms n) (hp : PreS s H Pc As)
    (hg : g.method = m) (hn : As.length = n) (hsize : g.locals.size = nL) (hstack : g.stack = As.reverse ++ rest) (hW : 2 * g.monitorRoom + (rest.map fun v => v.category).sum ≤ 8) (hdg : decode cc g.pc = .ok (.invokestatic index, 3)) (hf : cells + mc ≤ R.cells ∧ slots + ms ≤ R.slots) :
    vx_Run p l e R s m args below meth c H locs cells slots mc ms g rest (Qc As.toArray) XC free := by
  obtain ⟨⟨hrc, hrs, hfr, hlo, hws, hcw⟩, hcode, hini, hy, hlen, hl, hstt⟩ := cw
  have hK : vx_Back l R p e below s args y 3 8 (PreOf R mc ms Pc) (PostOf Qc mc ms free) (vx_Post XC mc ms free) := vx_backW (hh := hh) (bytes := bytes) (maxL := maxL) (ret := ret) hM hp.1 hrc hrs hfr hlo hws hcw (fun a' U hW => word_at hW (Or.inl (by first | rfl | simp [Cond.onTables, Cond.keeps, Cond.steady])) hini)
  obtain ⟨hx, hb, hml, ho, -⟩ := S
  intro T hT X
  rcases vx_callSX X hx (hh := hh) (bytes := bytes) (maxL := maxL) (ret := ret) ho hl hstt hini hcode hy hK hg (hsize.trans hml.symm) (argsL := As) (rest := rest) (fun sig h => hn.trans (hlen sig h)) hstack hW (by rw [hb]; exact hdg)
    (fun vm₁ hW₁ => ⟨hf.1, hf.2, hp.2 (T.setVm vm₁) hT hW₁⟩) with ⟨v, vm₁, ⟨U', l2, c2, s2⟩, hW₁, X', ⟨g', mk, t, L, e1, e2, hq, h1, hL, h2, h3⟩, st⟩ | ⟨q, vm₁, ⟨U', l2, c2, s2⟩, hW₁, X', ⟨g', mk, t, L, E, ce, e1, e2, hq, hce, hcv, hcl, h1, hL, h2, h3⟩, st⟩
  · dsimp only [Pt.U, Pt.locs, Pt.cells, Pt.slots] at X' e1 e2 h1 h2 h3 st
    subst h1; subst h2; subst h3
    exact Or.inl ⟨v, (T.setVm vm₁).calling g' mk As.toArray, t, U', L, hT, X', hL, e1, e2, hq, st⟩
  · dsimp only [Pt.U, Pt.locs, Pt.cells, Pt.slots] at X' e1 e2 h1 h2 h3 st hcl
    subst h1; subst h2; subst h3
    exact Or.inr ⟨q, (T.setVm vm₁).calling g' mk As.toArray, t, U', L, E, ce, hT, X', hL, e1, e2, hq, hce, hcv, vx_cls hW₁ hcl, st⟩
end
end VXH
theorem vx_ofWH {l : Launch} {y : MethodName} {ws ws' : List Cond} {rm : Room} {Pc : Array Value → State → Prop} {Qc : Array Value → State → Outcome → State → Prop} {XC : String → State → State → Prop} {mc ms : Nat} {free : Addr → Prop} {cc : ByteArray} {maxL : Nat} {ret : Option FieldType} {hh : List (Nat × Nat × Nat × Nat)}
    (hy : plainName y.cls = true) (hw : ws = Cond.codeWith y cc maxL ret hh :: ws')
    (body : ∀ p e s m args below meth c s₁, BodyLoose p l y (headSpec ws rm) cc maxL ret e s m args below meth c s₁ → c.maxLocals = maxL → Pc args s →
      W p l e (headSpec ws rm).room s m args below meth c s.heap [] 0 0 (vx_MQ below Qc XC args s mc ms free) (entryFrame m args maxL)) : vx_Met l y ws rm Pc Qc XC mc ms free := by
  refine MetFree.of_bodyS (code := cc) (maxLocals := maxL) (ret := ret) hy ?_ ?_
  · intro args s m h hn
    obtain ⟨m9, meth, c, hn9, h1, h2, h3, h4, -, h5, h6, -⟩ := Cond.codeWith_spec (atoms_spec (ws := ws) h _ (by rw [hw]; exact List.mem_cons_self))
    cases hn.symm.trans hn9
    exact ⟨meth, c, h1, h2, h3, h4, h5, h6⟩
  · intro p e s m args below meth c s₁ B hml hP _
    have hh0 : s₁.heap = s.heap := by rw [B.state]; rfl
    obtain ⟨t, a1, o, b1, b2, b3⟩ := body p e s m args below meth c s₁ B hml hP s₁ hh0 (Stand.of_body B)
    exact ⟨t, o, a1, b1, b2, b3⟩
/-! ===== END ===== -/
end
section
/-! ===== BEGIN printed: names, fields, word lists, decode rows ===== -/
def RX0 : String := "CommitCouncil$Acceptor"
def TX0 : u_T := fun k => match k with
  | 0 => ("CommitCouncil$Member", "up", "Z", false)
  | 1 => ("CommitCouncil$Acceptor", "promised", "I", false)
  | _ => ("CommitCouncil$Acceptor", "accepted", "[I", true)
def tyX0 : Nat → FieldType := fun k => match k with
  | 0 => .boolean
  | 1 => .int
  | _ => .array .int
theorem nmX0 : ∀ a, a < 3 → ∀ b, b < 3 → a ≠ b → (TX0 a).2.1 ≠ (TX0 b).2.1 := by decide +kernel
theorem tyX0_ok : ∀ k, k < 3 → parseFieldDescriptor (TX0 k).2.2.1 = some (tyX0 k) := by decide +kernel
abbrev cX0_init : ByteArray := prog_2_method_1_code
def yX0_init : MethodName := ⟨RX0, "<init>", "(I)V"⟩
abbrev cX0_accept : ByteArray := prog_2_method_2_code
def yX0_accept : MethodName := ⟨RX0, "accept", "(III)V"⟩
def RX1 : String := "CommitCouncil$Leader"
def TX1 : u_T := fun k => match k with
  | 0 => ("CommitCouncil$Member", "up", "Z", false)
  | 1 => ("CommitCouncil$Leader", "ballot", "I", false)
  | 2 => ("CommitCouncil$Leader", "phase", "I", false)
  | 3 => ("CommitCouncil$Leader", "highest", "I", false)
  | 4 => ("CommitCouncil$Leader", "decision", "I", false)
  | 5 => ("CommitCouncil$Leader", "toldBy", "I", false)
  | 6 => ("CommitCouncil$Leader", "latest", "[I", true)
  | 7 => ("CommitCouncil$Leader", "outcomes", "[I", true)
  | 8 => ("CommitCouncil$Leader", "acceptorCount", "I", true)
  | _ => ("CommitCouncil$Leader", "sights", "[I", true)
def tyX1 : Nat → FieldType := fun k => match k with
  | 0 => .boolean
  | 1 => .int
  | 2 => .int
  | 3 => .int
  | 4 => .int
  | 5 => .int
  | 6 => .array .int
  | 7 => .array .int
  | 8 => .int
  | _ => .array .int
theorem nmX1 : ∀ a, a < 10 → ∀ b, b < 10 → a ≠ b → (TX1 a).2.1 ≠ (TX1 b).2.1 := by decide +kernel
theorem tyX1_ok : ∀ k, k < 10 → parseFieldDescriptor (TX1 k).2.2.1 = some (tyX1 k) := by decide +kernel
abbrev cX1_init : ByteArray := prog_3_method_1_code
def yX1_init : MethodName := ⟨RX1, "<init>", "(II)V"⟩
abbrev cX1_startAsking : ByteArray := prog_3_method_2_code
def yX1_startAsking : MethodName := ⟨RX1, "startAsking", "(I)V"⟩
abbrev cX1_keeps : ByteArray := prog_3_method_3_code
def yX1_keeps : MethodName := ⟨RX1, "keeps", "(II)Z"⟩
abbrev cX1_oneMoreIsEnough : ByteArray := prog_3_method_4_code
def yX1_oneMoreIsEnough : MethodName := ⟨RX1, "oneMoreIsEnough", "()Z"⟩
abbrev cX1_sightOf : ByteArray := prog_3_method_5_code
def yX1_sightOf : MethodName := ⟨RX1, "sightOf", "(II)I"⟩
abbrev cX1_decisionAfter : ByteArray := prog_3_method_6_code
def yX1_decisionAfter : MethodName := ⟨RX1, "decisionAfter", "(III)I"⟩
abbrev cX1_see : ByteArray := prog_3_method_7_code
def yX1_see : MethodName := ⟨RX1, "see", "(III)V"⟩
abbrev cX1_outcomeAfter : ByteArray := prog_3_method_8_code
def yX1_outcomeAfter : MethodName := ⟨RX1, "outcomeAfter", "(III)I"⟩
abbrev cX1_forget : ByteArray := prog_3_method_9_code
def yX1_forget : MethodName := ⟨RX1, "forget", "()V"⟩
def RX2 : String := "CommitCouncil$Ledger"
def TX2 : u_T := fun k => match k with
  | 0 => ("CommitCouncil$Ledger", "words", "[I", true)
  | 1 => ("CommitCouncil$Ledger", "unlike", "[Z", true)
  | 2 => ("CommitCouncil$Ledger", "acceptorCount", "I", true)
  | _ => ("CommitCouncil$Ledger", "takers", "[I", true)
def tyX2 : Nat → FieldType := fun k => match k with
  | 0 => .array .int
  | 1 => .array .boolean
  | 2 => .int
  | _ => .array .int
theorem nmX2 : ∀ a, a < 4 → ∀ b, b < 4 → a ≠ b → (TX2 a).2.1 ≠ (TX2 b).2.1 := by decide +kernel
theorem tyX2_ok : ∀ k, k < 4 → parseFieldDescriptor (TX2 k).2.2.1 = some (tyX2 k) := by decide +kernel
abbrev cX2_init : ByteArray := prog_4_method_1_code
def yX2_init : MethodName := ⟨RX2, "<init>", "(II)V"⟩
abbrev cX2_enter : ByteArray := prog_4_method_2_code
def yX2_enter : MethodName := ⟨RX2, "enter", "(IIII)V"⟩
def RX3 : String := "CommitCouncil$Mail"
def TX3 : u_T := fun k => match k with
  | 0 => ("CommitCouncil$Mail", "size", "I", false)
  | 1 => ("CommitCouncil$Mail", "sent", "I", false)
  | 2 => ("CommitCouncil$Mail", "width", "I", true)
  | _ => ("CommitCouncil$Mail", "cells", "[I", true)
def tyX3 : Nat → FieldType := fun k => match k with
  | 0 => .int
  | 1 => .int
  | 2 => .int
  | _ => .array .int
theorem nmX3 : ∀ a, a < 4 → ∀ b, b < 4 → a ≠ b → (TX3 a).2.1 ≠ (TX3 b).2.1 := by decide +kernel
theorem tyX3_ok : ∀ k, k < 4 → parseFieldDescriptor (TX3 k).2.2.1 = some (tyX3 k) := by decide +kernel
abbrev cX3_init : ByteArray := prog_5_method_1_code
def yX3_init : MethodName := ⟨RX3, "<init>", "(I)V"⟩
abbrev cX3_hasRoomFor : ByteArray := prog_5_method_2_code
def yX3_hasRoomFor : MethodName := ⟨RX3, "hasRoomFor", "(I)Z"⟩
abbrev cX3_send : ByteArray := prog_5_method_3_code
def yX3_send : MethodName := ⟨RX3, "send", "(IIIIII)V"⟩
abbrev cX3_attach : ByteArray := prog_5_method_4_code
def yX3_attach : MethodName := ⟨RX3, "attach", "([I)V"⟩
abbrev cX3_sendLike : ByteArray := prog_5_method_5_code
def yX3_sendLike : MethodName := ⟨RX3, "sendLike", "(I)V"⟩
abbrev cX3_remove : ByteArray := prog_5_method_6_code
def yX3_remove : MethodName := ⟨RX3, "remove", "(I)V"⟩
abbrev cX3_part : ByteArray := prog_5_method_7_code
def yX3_part : MethodName := ⟨RX3, "part", "(II)I"⟩
abbrev cX3_tidings : ByteArray := prog_5_method_8_code
def yX3_tidings : MethodName := ⟨RX3, "tidings", "(II)I"⟩
def RX4 : String := "CommitCouncil$Manager"
def TX4 : u_T := fun k => match k with
  | 0 => ("CommitCouncil$Member", "up", "Z", false)
  | 1 => ("CommitCouncil$Manager", "state", "I", false)
  | _ => ("CommitCouncil$Manager", "proposed", "I", false)
def tyX4 : Nat → FieldType := fun k => match k with
  | 0 => .boolean
  | 1 => .int
  | _ => .int
theorem nmX4 : ∀ a, a < 3 → ∀ b, b < 3 → a ≠ b → (TX4 a).2.1 ≠ (TX4 b).2.1 := by decide +kernel
theorem tyX4_ok : ∀ k, k < 3 → parseFieldDescriptor (TX4 k).2.2.1 = some (tyX4 k) := by decide +kernel
abbrev cX4_init : ByteArray := prog_6_method_1_code
def yX4_init : MethodName := ⟨RX4, "<init>", "()V"⟩
def RX5 : String := "CommitCouncil$Member"
def TX5 : u_T := fun k => match k with
  | _ => ("", "", "", false)
def tyX5 : Nat → FieldType := fun k => match k with
  | _ => .int
theorem nmX5 : ∀ a, a < 0 → ∀ b, b < 0 → a ≠ b → (TX5 a).2.1 ≠ (TX5 b).2.1 := by decide +kernel
theorem tyX5_ok : ∀ k, k < 0 → parseFieldDescriptor (TX5 k).2.2.1 = some (tyX5 k) := by decide +kernel
abbrev cX5_init : ByteArray := prog_7_method_1_code
def yX5_init : MethodName := ⟨RX5, "<init>", "()V"⟩
abbrev cX5_forget : ByteArray := prog_7_method_2_code
def yX5_forget : MethodName := ⟨RX5, "forget", "()V"⟩
def RX6 : String := "CommitCouncil"
def TX6 : u_T := fun k => match k with
  | 0 => ("CommitCouncil", "managers", "[LCommitCouncil$Manager;", true)
  | 1 => ("CommitCouncil", "acceptors", "[LCommitCouncil$Acceptor;", true)
  | 2 => ("CommitCouncil", "leaders", "[LCommitCouncil$Leader;", true)
  | 3 => ("CommitCouncil", "mail", "LCommitCouncil$Mail;", true)
  | 4 => ("CommitCouncil", "ledger", "LCommitCouncil$Ledger;", true)
  | 5 => ("CommitCouncil", "came", "I", false)
  | _ => ("CommitCouncil", "begun", "I", false)
def tyX6 : Nat → FieldType := fun k => match k with
  | 0 => .array (.object "CommitCouncil$Manager")
  | 1 => .array (.object "CommitCouncil$Acceptor")
  | 2 => .array (.object "CommitCouncil$Leader")
  | 3 => .object "CommitCouncil$Mail"
  | 4 => .object "CommitCouncil$Ledger"
  | 5 => .int
  | _ => .int
theorem nmX6 : ∀ a, a < 7 → ∀ b, b < 7 → a ≠ b → (TX6 a).2.1 ≠ (TX6 b).2.1 := by decide +kernel
theorem tyX6_ok : ∀ k, k < 7 → parseFieldDescriptor (TX6 k).2.2.1 = some (tyX6 k) := by decide +kernel
abbrev cX6_init : ByteArray := prog_1_method_1_code
def yX6_init : MethodName := ⟨RX6, "<init>", "(II)V"⟩
abbrev cX6_prepare : ByteArray := prog_1_method_2_code
def yX6_prepare : MethodName := ⟨RX6, "prepare", "(I)Z"⟩
abbrev cX6_refuse : ByteArray := prog_1_method_3_code
def yX6_refuse : MethodName := ⟨RX6, "refuse", "(I)Z"⟩
abbrev cX6_resend : ByteArray := prog_1_method_4_code
def yX6_resend : MethodName := ⟨RX6, "resend", "(I)Z"⟩
abbrev cX6_question : ByteArray := prog_1_method_5_code
def yX6_question : MethodName := ⟨RX6, "question", "(I)Z"⟩
abbrev cX6_begin : ByteArray := prog_1_method_6_code
def yX6_begin : MethodName := ⟨RX6, "begin", "(I)I"⟩
abbrev cX6_deliver : ByteArray := prog_1_method_7_code
def yX6_deliver : MethodName := ⟨RX6, "deliver", "(I)I"⟩
abbrev cX6_drop : ByteArray := prog_1_method_8_code
def yX6_drop : MethodName := ⟨RX6, "drop", "(I)V"⟩
abbrev cX6_copy : ByteArray := prog_1_method_9_code
def yX6_copy : MethodName := ⟨RX6, "copy", "(I)I"⟩
abbrev cX6_calm : ByteArray := prog_1_method_10_code
def yX6_calm : MethodName := ⟨RX6, "calm", "(I)I"⟩
abbrev cX6_crash : ByteArray := prog_1_method_11_code
def yX6_crash : MethodName := ⟨RX6, "crash", "(II)Z"⟩
abbrev cX6_recover : ByteArray := prog_1_method_12_code
def yX6_recover : MethodName := ⟨RX6, "recover", "(II)Z"⟩
abbrev cX6_message : ByteArray := prog_1_method_13_code
def yX6_message : MethodName := ⟨RX6, "message", "(II)I"⟩
abbrev cX6_told : ByteArray := prog_1_method_14_code
def yX6_told : MethodName := ⟨RX6, "told", "(IIZ)I"⟩
abbrev cX6_manager : ByteArray := prog_1_method_15_code
def yX6_manager : MethodName := ⟨RX6, "manager", "(II)I"⟩
abbrev cX6_acceptor : ByteArray := prog_1_method_16_code
def yX6_acceptor : MethodName := ⟨RX6, "acceptor", "(III)I"⟩
abbrev cX6_leader : ByteArray := prog_1_method_17_code
def yX6_leader : MethodName := ⟨RX6, "leader", "(II)I"⟩
abbrev cX6_outcome : ByteArray := prog_1_method_18_code
def yX6_outcome : MethodName := ⟨RX6, "outcome", "(II)I"⟩
abbrev cX6_seen : ByteArray := prog_1_method_19_code
def yX6_seen : MethodName := ⟨RX6, "seen", "(III)I"⟩
abbrev cX6_chosen : ByteArray := prog_1_method_20_code
def yX6_chosen : MethodName := ⟨RX6, "chosen", "(I)I"⟩
abbrev cX6_count : ByteArray := prog_1_method_21_code
def yX6_count : MethodName := ⟨RX6, "count", "(I)I"⟩
abbrev cX6_astray : ByteArray := prog_1_method_22_code
def yX6_astray : MethodName := ⟨RX6, "astray", "()I"⟩
abbrev cX6_checkOne : ByteArray := prog_1_method_23_code
def yX6_checkOne : MethodName := ⟨RX6, "checkOne", "(II)V"⟩
abbrev cX6_voteOf : ByteArray := prog_1_method_24_code
def yX6_voteOf : MethodName := ⟨RX6, "voteOf", "(II)I"⟩
abbrev cX6_ballotOf : ByteArray := prog_1_method_25_code
def yX6_ballotOf : MethodName := ⟨RX6, "ballotOf", "(I)I"⟩
abbrev cX6_wordOf : ByteArray := prog_1_method_26_code
def yX6_wordOf : MethodName := ⟨RX6, "wordOf", "(I)I"⟩
abbrev cX6_leastOwnAbove : ByteArray := prog_1_method_27_code
def yX6_leastOwnAbove : MethodName := ⟨RX6, "leastOwnAbove", "(II)I"⟩
abbrev cX6_leaderOf : ByteArray := prog_1_method_28_code
def yX6_leaderOf : MethodName := ⟨RX6, "leaderOf", "(I)I"⟩
abbrev cX6_howManyUp : ByteArray := prog_1_method_29_code
def yX6_howManyUp : MethodName := ⟨RX6, "howManyUp", "(II)I"⟩
abbrev cX6_howManyManagers : ByteArray := prog_1_method_30_code
def yX6_howManyManagers : MethodName := ⟨RX6, "howManyManagers", "(I)I"⟩
abbrev cX6_isBackedByChosen : ByteArray := prog_1_method_31_code
def yX6_isBackedByChosen : MethodName := ⟨RX6, "isBackedByChosen", "(I)Z"⟩
abbrev cX6_memberOf : ByteArray := prog_1_method_32_code
def yX6_memberOf : MethodName := ⟨RX6, "memberOf", "(II)LCommitCouncil$Member;"⟩
abbrev cX6_propose : ByteArray := prog_1_method_33_code
def yX6_propose : MethodName := ⟨RX6, "propose", "(III)Z"⟩
abbrev cX6_sendVotes : ByteArray := prog_1_method_34_code
def yX6_sendVotes : MethodName := ⟨RX6, "sendVotes", "(III)V"⟩
abbrev cX6_sendDecisions : ByteArray := prog_1_method_35_code
def yX6_sendDecisions : MethodName := ⟨RX6, "sendDecisions", "(I)V"⟩
abbrev cX6_bring : ByteArray := prog_1_method_36_code
def yX6_bring : MethodName := ⟨RX6, "bring", "(I)I"⟩
abbrev cX6_isUp : ByteArray := prog_1_method_37_code
def yX6_isUp : MethodName := ⟨RX6, "isUp", "(II)Z"⟩
abbrev cX6_answersTo : ByteArray := prog_1_method_38_code
def yX6_answersTo : MethodName := ⟨RX6, "answersTo", "(III)I"⟩
abbrev cX6_take : ByteArray := prog_1_method_39_code
def yX6_take : MethodName := ⟨RX6, "take", "(III)V"⟩
abbrev cX6_takeVote : ByteArray := prog_1_method_40_code
def yX6_takeVote : MethodName := ⟨RX6, "takeVote", "(II)V"⟩
abbrev cX6_takeAsk : ByteArray := prog_1_method_41_code
def yX6_takeAsk : MethodName := ⟨RX6, "takeAsk", "(II)V"⟩
abbrev cX6_takeVoted : ByteArray := prog_1_method_42_code
def yX6_takeVoted : MethodName := ⟨RX6, "takeVoted", "(ILCommitCouncil$Leader;)V"⟩
abbrev cX6_takeTold : ByteArray := prog_1_method_43_code
def yX6_takeTold : MethodName := ⟨RX6, "takeTold", "(ILCommitCouncil$Leader;)V"⟩
abbrev cX6_startVoting : ByteArray := prog_1_method_44_code
def yX6_startVoting : MethodName := ⟨RX6, "startVoting", "(LCommitCouncil$Leader;)V"⟩
abbrev cX6_takeQuestion : ByteArray := prog_1_method_45_code
def yX6_takeQuestion : MethodName := ⟨RX6, "takeQuestion", "(II)V"⟩
def RX7 : String := "CommitCouncilModel"
def TX7 : u_T := fun k => match k with
  | 0 => ("CommitCouncilModel", "thrown", "I", false)
  | 1 => ("CommitCouncilModel", "managers", "I", true)
  | 2 => ("CommitCouncilModel", "acceptors", "I", true)
  | 3 => ("CommitCouncilModel", "message", "[I", true)
  | 4 => ("CommitCouncilModel", "made", "[I", true)
  | 5 => ("CommitCouncilModel", "many", "I", false)
  | 6 => ("CommitCouncilModel", "sent", "I", false)
  | 7 => ("CommitCouncilModel", "came", "I", false)
  | 8 => ("CommitCouncilModel", "begun", "I", false)
  | 9 => ("CommitCouncilModel", "how", "[I", true)
  | 10 => ("CommitCouncilModel", "up", "[[Z", true)
  | 11 => ("CommitCouncilModel", "promised", "[I", true)
  | 12 => ("CommitCouncilModel", "acceptedBallot", "[I", true)
  | 13 => ("CommitCouncilModel", "acceptedWord", "[I", true)
  | 14 => ("CommitCouncilModel", "ever", "[I", true)
  | 15 => ("CommitCouncilModel", "everWord", "[I", true)
  | 16 => ("CommitCouncilModel", "ballot", "[I", true)
  | 17 => ("CommitCouncilModel", "phase", "[I", true)
  | 18 => ("CommitCouncilModel", "highest", "[I", true)
  | 19 => ("CommitCouncilModel", "decision", "[I", true)
  | 20 => ("CommitCouncilModel", "told", "[I", true)
  | 21 => ("CommitCouncilModel", "toldBallot", "[I", true)
  | 22 => ("CommitCouncilModel", "toldWord", "[I", true)
  | 23 => ("CommitCouncilModel", "seenBallot", "[I", true)
  | 24 => ("CommitCouncilModel", "seenWord", "[I", true)
  | _ => ("CommitCouncilModel", "outcome", "[I", true)
def tyX7 : Nat → FieldType := fun k => match k with
  | 0 => .int
  | 1 => .int
  | 2 => .int
  | 3 => .array .int
  | 4 => .array .int
  | 5 => .int
  | 6 => .int
  | 7 => .int
  | 8 => .int
  | 9 => .array .int
  | 10 => .array (.array .boolean)
  | 11 => .array .int
  | 12 => .array .int
  | 13 => .array .int
  | 14 => .array .int
  | 15 => .array .int
  | 16 => .array .int
  | 17 => .array .int
  | 18 => .array .int
  | 19 => .array .int
  | 20 => .array .int
  | 21 => .array .int
  | 22 => .array .int
  | 23 => .array .int
  | 24 => .array .int
  | _ => .array .int
theorem nmX7 : ∀ a, a < 26 → ∀ b, b < 26 → a ≠ b → (TX7 a).2.1 ≠ (TX7 b).2.1 := by decide +kernel
theorem tyX7_ok : ∀ k, k < 26 → parseFieldDescriptor (TX7 k).2.2.1 = some (tyX7 k) := by decide +kernel
abbrev cX7_init : ByteArray := prog_9_method_1_code
def yX7_init : MethodName := ⟨RX7, "<init>", "(II)V"⟩
abbrev cX7_thrown : ByteArray := prog_9_method_2_code
def yX7_thrown : MethodName := ⟨RX7, "thrown", "()I"⟩
abbrev cX7_lacks : ByteArray := prog_9_method_3_code
def yX7_lacks : MethodName := ⟨RX7, "lacks", "(Z)Z"⟩
abbrev cX7_isManager : ByteArray := prog_9_method_4_code
def yX7_isManager : MethodName := ⟨RX7, "isManager", "(I)Z"⟩
abbrev cX7_isAcceptor : ByteArray := prog_9_method_5_code
def yX7_isAcceptor : MethodName := ⟨RX7, "isAcceptor", "(I)Z"⟩
abbrev cX7_isLeader : ByteArray := prog_9_method_6_code
def yX7_isLeader : MethodName := ⟨RX7, "isLeader", "(I)Z"⟩
abbrev cX7_isMessage : ByteArray := prog_9_method_7_code
def yX7_isMessage : MethodName := ⟨RX7, "isMessage", "(I)Z"⟩
abbrev cX7_of : ByteArray := prog_9_method_8_code
def yX7_of : MethodName := ⟨RX7, "of", "(II)I"⟩
abbrev cX7_sends : ByteArray := prog_9_method_9_code
def yX7_sends : MethodName := ⟨RX7, "sends", "(IIIIII)V"⟩
abbrev cX7_votes : ByteArray := prog_9_method_10_code
def yX7_votes : MethodName := ⟨RX7, "votes", "(III)V"⟩
abbrev cX7_hasRoom : ByteArray := prog_9_method_11_code
def yX7_hasRoom : MethodName := ⟨RX7, "hasRoom", "(I)Z"⟩
abbrev cX7_becomes : ByteArray := prog_9_method_12_code
def yX7_becomes : MethodName := ⟨RX7, "becomes", "(II)Z"⟩
abbrev cX7_prepare : ByteArray := prog_9_method_13_code
def yX7_prepare : MethodName := ⟨RX7, "prepare", "(I)Z"⟩
abbrev cX7_refuse : ByteArray := prog_9_method_14_code
def yX7_refuse : MethodName := ⟨RX7, "refuse", "(I)Z"⟩
abbrev cX7_resend : ByteArray := prog_9_method_15_code
def yX7_resend : MethodName := ⟨RX7, "resend", "(I)Z"⟩
abbrev cX7_question : ByteArray := prog_9_method_16_code
def yX7_question : MethodName := ⟨RX7, "question", "(I)Z"⟩
abbrev cX7_begin : ByteArray := prog_9_method_17_code
def yX7_begin : MethodName := ⟨RX7, "begin", "(I)I"⟩
abbrev cX7_remove : ByteArray := prog_9_method_18_code
def yX7_remove : MethodName := ⟨RX7, "remove", "(I)V"⟩
abbrev cX7_bits : ByteArray := prog_9_method_19_code
def yX7_bits : MethodName := ⟨RX7, "bits", "(I)I"⟩
abbrev cX7_isMost : ByteArray := prog_9_method_20_code
def yX7_isMost : MethodName := ⟨RX7, "isMost", "(I)Z"⟩
abbrev cX7_leadsTo : ByteArray := prog_9_method_21_code
def yX7_leadsTo : MethodName := ⟨RX7, "leadsTo", "(I)I"⟩
abbrev cX7_seenAt : ByteArray := prog_9_method_22_code
def yX7_seenAt : MethodName := ⟨RX7, "seenAt", "(III)I"⟩
abbrev cX7_settled : ByteArray := prog_9_method_23_code
def yX7_settled : MethodName := ⟨RX7, "settled", "(III)I"⟩
abbrev cX7_isNew : ByteArray := prog_9_method_24_code
def yX7_isNew : MethodName := ⟨RX7, "isNew", "(IIII)Z"⟩
abbrev cX7_ballotSeen : ByteArray := prog_9_method_25_code
def yX7_ballotSeen : MethodName := ⟨RX7, "ballotSeen", "(IIII)I"⟩
abbrev cX7_decided : ByteArray := prog_9_method_26_code
def yX7_decided : MethodName := ⟨RX7, "decided", "(II)I"⟩
abbrev cX7_decides : ByteArray := prog_9_method_27_code
def yX7_decides : MethodName := ⟨RX7, "decides", "(I)Z"⟩
abbrev cX7_deliver : ByteArray := prog_9_method_28_code
def yX7_deliver : MethodName := ⟨RX7, "deliver", "(I)I"⟩
abbrev cX7_comes : ByteArray := prog_9_method_29_code
def yX7_comes : MethodName := ⟨RX7, "comes", "(I)I"⟩
abbrev cX7_voteComes : ByteArray := prog_9_method_30_code
def yX7_voteComes : MethodName := ⟨RX7, "voteComes", "(I)V"⟩
abbrev cX7_askComes : ByteArray := prog_9_method_31_code
def yX7_askComes : MethodName := ⟨RX7, "askComes", "(I)V"⟩
abbrev cX7_toldComes : ByteArray := prog_9_method_32_code
def yX7_toldComes : MethodName := ⟨RX7, "toldComes", "(I)V"⟩
abbrev cX7_votedComes : ByteArray := prog_9_method_33_code
def yX7_votedComes : MethodName := ⟨RX7, "votedComes", "(IZ)V"⟩
abbrev cX7_drop : ByteArray := prog_9_method_34_code
def yX7_drop : MethodName := ⟨RX7, "drop", "(I)V"⟩
abbrev cX7_copy : ByteArray := prog_9_method_35_code
def yX7_copy : MethodName := ⟨RX7, "copy", "(I)I"⟩
abbrev cX7_calm : ByteArray := prog_9_method_36_code
def yX7_calm : MethodName := ⟨RX7, "calm", "(I)I"⟩
abbrev cX7_manyOf : ByteArray := prog_9_method_37_code
def yX7_manyOf : MethodName := ⟨RX7, "manyOf", "(I)I"⟩
abbrev cX7_turns : ByteArray := prog_9_method_38_code
def yX7_turns : MethodName := ⟨RX7, "turns", "(IIZ)Z"⟩
abbrev cX7_crash : ByteArray := prog_9_method_39_code
def yX7_crash : MethodName := ⟨RX7, "crash", "(II)Z"⟩
abbrev cX7_recover : ByteArray := prog_9_method_40_code
def yX7_recover : MethodName := ⟨RX7, "recover", "(II)Z"⟩
abbrev cX7_message : ByteArray := prog_9_method_41_code
def yX7_message : MethodName := ⟨RX7, "message", "(II)I"⟩
abbrev cX7_told : ByteArray := prog_9_method_42_code
def yX7_told : MethodName := ⟨RX7, "told", "(IIZ)I"⟩
abbrev cX7_manager : ByteArray := prog_9_method_43_code
def yX7_manager : MethodName := ⟨RX7, "manager", "(II)I"⟩
abbrev cX7_acceptor : ByteArray := prog_9_method_44_code
def yX7_acceptor : MethodName := ⟨RX7, "acceptor", "(III)I"⟩
abbrev cX7_leader : ByteArray := prog_9_method_45_code
def yX7_leader : MethodName := ⟨RX7, "leader", "(II)I"⟩
abbrev cX7_outcome : ByteArray := prog_9_method_46_code
def yX7_outcome : MethodName := ⟨RX7, "outcome", "(II)I"⟩
abbrev cX7_seen : ByteArray := prog_9_method_47_code
def yX7_seen : MethodName := ⟨RX7, "seen", "(III)I"⟩
abbrev cX7_chosen : ByteArray := prog_9_method_48_code
def yX7_chosen : MethodName := ⟨RX7, "chosen", "(I)I"⟩
abbrev cX7_count : ByteArray := prog_9_method_49_code
def yX7_count : MethodName := ⟨RX7, "count", "(I)I"⟩
abbrev cX7_astray : ByteArray := prog_9_method_50_code
def yX7_astray : MethodName := ⟨RX7, "astray", "()I"⟩
def RJ6 : String := "java/lang/Integer"
def TJ6 : u_T := fun k => match k with
  | _ => ("", "", "", false)
def tyJ6 : Nat → FieldType := fun k => match k with
  | _ => .int
theorem nmJ6 : ∀ a, a < 0 → ∀ b, b < 0 → a ≠ b → (TJ6 a).2.1 ≠ (TJ6 b).2.1 := by decide +kernel
theorem tyJ6_ok : ∀ k, k < 0 → parseFieldDescriptor (TJ6 k).2.2.1 = some (tyJ6 k) := by decide +kernel
abbrev cJ6_bitCount_0f7a4 : ByteArray := prog_13_method_49_code
def yJ6_bitCount_0f7a4 : MethodName := ⟨RJ6, "bitCount", "(I)I"⟩
def RJ9 : String := "java/lang/Math"
def TJ9 : u_T := fun k => match k with
  | _ => ("", "", "", false)
def tyJ9 : Nat → FieldType := fun k => match k with
  | _ => .int
theorem nmJ9 : ∀ a, a < 0 → ∀ b, b < 0 → a ≠ b → (TJ9 a).2.1 ≠ (TJ9 b).2.1 := by decide +kernel
theorem tyJ9_ok : ∀ k, k < 0 → parseFieldDescriptor (TJ9 k).2.2.1 = some (tyJ9 k) := by decide +kernel
abbrev cJ9_floorMod_7cf53 : ByteArray := prog_14_method_50_code
def yJ9_floorMod_7cf53 : MethodName := ⟨RJ9, "floorMod", "(II)I"⟩
abbrev cJ9_max_7cf53 : ByteArray := prog_14_method_65_code
def yJ9_max_7cf53 : MethodName := ⟨RJ9, "max", "(II)I"⟩
def RJ0 : String := "java/lang/String"
def TJ0 : u_T := fun k => match k with
  | _ => ("", "", "", false)
def tyJ0 : Nat → FieldType := fun k => match k with
  | _ => .int
theorem nmJ0 : ∀ a, a < 0 → ∀ b, b < 0 → a ≠ b → (TJ0 a).2.1 ≠ (TJ0 b).2.1 := by decide +kernel
theorem tyJ0_ok : ∀ k, k < 0 → parseFieldDescriptor (TJ0 k).2.2.1 = some (tyJ0 k) := by decide +kernel
def RJ10 : String := "java/lang/System"
def TJ10 : u_T := fun k => match k with
  | _ => ("", "", "", false)
def tyJ10 : Nat → FieldType := fun k => match k with
  | _ => .int
theorem nmJ10 : ∀ a, a < 0 → ∀ b, b < 0 → a ≠ b → (TJ10 a).2.1 ≠ (TJ10 b).2.1 := by decide +kernel
theorem tyJ10_ok : ∀ k, k < 0 → parseFieldDescriptor (TJ10 k).2.2.1 = some (tyJ10 k) := by decide +kernel
def RJ7 : String := "java/util/Arrays"
def TJ7 : u_T := fun k => match k with
  | _ => ("", "", "", false)
def tyJ7 : Nat → FieldType := fun k => match k with
  | _ => .int
theorem nmJ7 : ∀ a, a < 0 → ∀ b, b < 0 → a ≠ b → (TJ7 a).2.1 ≠ (TJ7 b).2.1 := by decide +kernel
theorem tyJ7_ok : ∀ k, k < 0 → parseFieldDescriptor (TJ7 k).2.2.1 = some (tyJ7 k) := by decide +kernel
abbrev cJ7_fill_53178 : ByteArray := prog_19_method_103_code
def yJ7_fill_53178 : MethodName := ⟨RJ7, "fill", "([II)V"⟩
def RL : String := "CommitCouncilLaw"
abbrev cL_cell : ByteArray := method_2_code
def yL_cell : MethodName := ⟨RL, "cell", "([II)I"⟩
abbrev cL_prepare : ByteArray := method_3_code
def yL_prepare : MethodName := ⟨RL, "prepare", "(LCommitCouncil;I[J)I"⟩
abbrev cL_refuse : ByteArray := method_4_code
def yL_refuse : MethodName := ⟨RL, "refuse", "(LCommitCouncil;I[J)I"⟩
abbrev cL_resend : ByteArray := method_5_code
def yL_resend : MethodName := ⟨RL, "resend", "(LCommitCouncil;I[J)I"⟩
abbrev cL_question : ByteArray := method_6_code
def yL_question : MethodName := ⟨RL, "question", "(LCommitCouncil;I[J)I"⟩
abbrev cL_begin : ByteArray := method_7_code
def yL_begin : MethodName := ⟨RL, "begin", "(LCommitCouncil;I[J)I"⟩
abbrev cL_deliver : ByteArray := method_8_code
def yL_deliver : MethodName := ⟨RL, "deliver", "(LCommitCouncil;I[J)I"⟩
abbrev cL_drop : ByteArray := method_9_code
def yL_drop : MethodName := ⟨RL, "drop", "(LCommitCouncil;I)I"⟩
abbrev cL_copy : ByteArray := method_10_code
def yL_copy : MethodName := ⟨RL, "copy", "(LCommitCouncil;I[J)I"⟩
abbrev cL_calm : ByteArray := method_11_code
def yL_calm : MethodName := ⟨RL, "calm", "(LCommitCouncil;I[J)I"⟩
abbrev cL_crash : ByteArray := method_12_code
def yL_crash : MethodName := ⟨RL, "crash", "(LCommitCouncil;II[J)I"⟩
abbrev cL_recover : ByteArray := method_13_code
def yL_recover : MethodName := ⟨RL, "recover", "(LCommitCouncil;II[J)I"⟩
abbrev cL_message : ByteArray := method_14_code
def yL_message : MethodName := ⟨RL, "message", "(LCommitCouncil;II[J)I"⟩
abbrev cL_told : ByteArray := method_15_code
def yL_told : MethodName := ⟨RL, "told", "(LCommitCouncil;IIZ[J)I"⟩
abbrev cL_manager : ByteArray := method_16_code
def yL_manager : MethodName := ⟨RL, "manager", "(LCommitCouncil;II[J)I"⟩
abbrev cL_acceptor : ByteArray := method_17_code
def yL_acceptor : MethodName := ⟨RL, "acceptor", "(LCommitCouncil;III[J)I"⟩
abbrev cL_leader : ByteArray := method_18_code
def yL_leader : MethodName := ⟨RL, "leader", "(LCommitCouncil;II[J)I"⟩
abbrev cL_outcome : ByteArray := method_19_code
def yL_outcome : MethodName := ⟨RL, "outcome", "(LCommitCouncil;II[J)I"⟩
abbrev cL_seen : ByteArray := method_20_code
def yL_seen : MethodName := ⟨RL, "seen", "(LCommitCouncil;III[J)I"⟩
abbrev cL_chosen : ByteArray := method_21_code
def yL_chosen : MethodName := ⟨RL, "chosen", "(LCommitCouncil;I[J)I"⟩
abbrev cL_law : ByteArray := code
def yL_law : MethodName := ⟨RL, "law", "([I)Z"⟩
abbrev vwCl : List vw_C := [(RX0, TX0, 3), (RX1, TX1, 10), (RX2, TX2, 4), (RX3, TX3, 4), (RX4, TX4, 3), (RX6, TX6, 7), (RX7, TX7, 26)]
end
section
theorem dX0_init_0 : decode cX0_init 0 = .ok (.aload_n 0, 1) := by decide +kernel
theorem dX0_init_1 : decode cX0_init 1 = .ok (.invokespecial 1, 3) := by decide +kernel
theorem dX0_init_4 : decode cX0_init 4 = .ok (.aload_n 0, 1) := by decide +kernel
theorem dX0_init_5 : decode cX0_init 5 = .ok (.iload_n 1, 1) := by decide +kernel
theorem dX0_init_6 : decode cX0_init 6 = .ok (.newarray .int, 2) := by decide +kernel
theorem dX0_init_8 : decode cX0_init 8 = .ok (.putfield 7, 3) := by decide +kernel
theorem dX0_init_11 : decode cX0_init 11 = .ok (.return_, 1) := by decide +kernel
theorem dX0_accept_0 : decode cX0_accept 0 = .ok (.aload_n 0, 1) := by decide +kernel
theorem dX0_accept_1 : decode cX0_accept 1 = .ok (.iload_n 2, 1) := by decide +kernel
theorem dX0_accept_2 : decode cX0_accept 2 = .ok (.putfield 13, 3) := by decide +kernel
theorem dX0_accept_5 : decode cX0_accept 5 = .ok (.iload_n 1, 1) := by decide +kernel
theorem dX0_accept_6 : decode cX0_accept 6 = .ok (.ifCond .lt 23, 3) := by decide +kernel
theorem dX0_accept_9 : decode cX0_accept 9 = .ok (.iload_n 1, 1) := by decide +kernel
theorem dX0_accept_10 : decode cX0_accept 10 = .ok (.aload_n 0, 1) := by decide +kernel
theorem dX0_accept_11 : decode cX0_accept 11 = .ok (.getfield 7, 3) := by decide +kernel
theorem dX0_accept_14 : decode cX0_accept 14 = .ok (.arraylength, 1) := by decide +kernel
theorem dX0_accept_15 : decode cX0_accept 15 = .ok (.if_icmp .ge 14, 3) := by decide +kernel
theorem dX0_accept_18 : decode cX0_accept 18 = .ok (.aload_n 0, 1) := by decide +kernel
theorem dX0_accept_19 : decode cX0_accept 19 = .ok (.getfield 7, 3) := by decide +kernel
theorem dX0_accept_22 : decode cX0_accept 22 = .ok (.iload_n 1, 1) := by decide +kernel
theorem dX0_accept_23 : decode cX0_accept 23 = .ok (.iload_n 2, 1) := by decide +kernel
theorem dX0_accept_24 : decode cX0_accept 24 = .ok (.iload_n 3, 1) := by decide +kernel
theorem dX0_accept_25 : decode cX0_accept 25 = .ok (.invokestatic 17, 3) := by decide +kernel
theorem dX0_accept_28 : decode cX0_accept 28 = .ok (.iastore, 1) := by decide +kernel
theorem dX0_accept_29 : decode cX0_accept 29 = .ok (.return_, 1) := by decide +kernel
theorem dX1_init_0 : decode cX1_init 0 = .ok (.aload_n 0, 1) := by decide +kernel
theorem dX1_init_1 : decode cX1_init 1 = .ok (.invokespecial 3, 3) := by decide +kernel
theorem dX1_init_4 : decode cX1_init 4 = .ok (.aload_n 0, 1) := by decide +kernel
theorem dX1_init_5 : decode cX1_init 5 = .ok (.iload_n 2, 1) := by decide +kernel
theorem dX1_init_6 : decode cX1_init 6 = .ok (.putfield 9, 3) := by decide +kernel
theorem dX1_init_9 : decode cX1_init 9 = .ok (.aload_n 0, 1) := by decide +kernel
theorem dX1_init_10 : decode cX1_init 10 = .ok (.iload_n 1, 1) := by decide +kernel
theorem dX1_init_11 : decode cX1_init 11 = .ok (.newarray .int, 2) := by decide +kernel
theorem dX1_init_13 : decode cX1_init 13 = .ok (.putfield 15, 3) := by decide +kernel
theorem dX1_init_16 : decode cX1_init 16 = .ok (.aload_n 0, 1) := by decide +kernel
theorem dX1_init_17 : decode cX1_init 17 = .ok (.iload_n 1, 1) := by decide +kernel
theorem dX1_init_18 : decode cX1_init 18 = .ok (.newarray .int, 2) := by decide +kernel
theorem dX1_init_20 : decode cX1_init 20 = .ok (.putfield 19, 3) := by decide +kernel
theorem dX1_init_23 : decode cX1_init 23 = .ok (.aload_n 0, 1) := by decide +kernel
theorem dX1_init_24 : decode cX1_init 24 = .ok (.iload_n 1, 1) := by decide +kernel
theorem dX1_init_25 : decode cX1_init 25 = .ok (.iload_n 2, 1) := by decide +kernel
theorem dX1_init_26 : decode cX1_init 26 = .ok (.imul, 1) := by decide +kernel
theorem dX1_init_27 : decode cX1_init 27 = .ok (.newarray .int, 2) := by decide +kernel
theorem dX1_init_29 : decode cX1_init 29 = .ok (.putfield 22, 3) := by decide +kernel
theorem dX1_init_32 : decode cX1_init 32 = .ok (.return_, 1) := by decide +kernel
theorem dX1_startAsking_0 : decode cX1_startAsking 0 = .ok (.aload_n 0, 1) := by decide +kernel
theorem dX1_startAsking_1 : decode cX1_startAsking 1 = .ok (.iload_n 1, 1) := by decide +kernel
theorem dX1_startAsking_2 : decode cX1_startAsking 2 = .ok (.putfield 25, 3) := by decide +kernel
theorem dX1_startAsking_5 : decode cX1_startAsking 5 = .ok (.aload_n 0, 1) := by decide +kernel
theorem dX1_startAsking_6 : decode cX1_startAsking 6 = .ok (.iload_n 1, 1) := by decide +kernel
theorem dX1_startAsking_7 : decode cX1_startAsking 7 = .ok (.putfield 28, 3) := by decide +kernel
theorem dX1_startAsking_10 : decode cX1_startAsking 10 = .ok (.aload_n 0, 1) := by decide +kernel
theorem dX1_startAsking_11 : decode cX1_startAsking 11 = .ok (.iconst 1, 1) := by decide +kernel
theorem dX1_startAsking_12 : decode cX1_startAsking 12 = .ok (.putfield 31, 3) := by decide +kernel
theorem dX1_startAsking_15 : decode cX1_startAsking 15 = .ok (.aload_n 0, 1) := by decide +kernel
theorem dX1_startAsking_16 : decode cX1_startAsking 16 = .ok (.iconst 0, 1) := by decide +kernel
theorem dX1_startAsking_17 : decode cX1_startAsking 17 = .ok (.putfield 34, 3) := by decide +kernel
theorem dX1_startAsking_20 : decode cX1_startAsking 20 = .ok (.aload_n 0, 1) := by decide +kernel
theorem dX1_startAsking_21 : decode cX1_startAsking 21 = .ok (.getfield 15, 3) := by decide +kernel
theorem dX1_startAsking_24 : decode cX1_startAsking 24 = .ok (.iconst 0, 1) := by decide +kernel
theorem dX1_startAsking_25 : decode cX1_startAsking 25 = .ok (.invokestatic 37, 3) := by decide +kernel
theorem dX1_startAsking_28 : decode cX1_startAsking 28 = .ok (.return_, 1) := by decide +kernel
theorem dX1_keeps_0 : decode cX1_keeps 0 = .ok (.aload_n 0, 1) := by decide +kernel
theorem dX1_keeps_1 : decode cX1_keeps 1 = .ok (.getfield 31, 3) := by decide +kernel
theorem dX1_keeps_4 : decode cX1_keeps 4 = .ok (.iconst 1, 1) := by decide +kernel
theorem dX1_keeps_5 : decode cX1_keeps 5 = .ok (.if_icmp .ne 26, 3) := by decide +kernel
theorem dX1_keeps_8 : decode cX1_keeps 8 = .ok (.iload_n 1, 1) := by decide +kernel
theorem dX1_keeps_9 : decode cX1_keeps 9 = .ok (.aload_n 0, 1) := by decide +kernel
theorem dX1_keeps_10 : decode cX1_keeps 10 = .ok (.getfield 25, 3) := by decide +kernel
theorem dX1_keeps_13 : decode cX1_keeps 13 = .ok (.if_icmp .ne 18, 3) := by decide +kernel
theorem dX1_keeps_16 : decode cX1_keeps 16 = .ok (.aload_n 0, 1) := by decide +kernel
theorem dX1_keeps_17 : decode cX1_keeps 17 = .ok (.getfield 34, 3) := by decide +kernel
theorem dX1_keeps_20 : decode cX1_keeps 20 = .ok (.iload_n 2, 1) := by decide +kernel
theorem dX1_keeps_21 : decode cX1_keeps 21 = .ok (.ishr, 1) := by decide +kernel
theorem dX1_keeps_22 : decode cX1_keeps 22 = .ok (.iconst 1, 1) := by decide +kernel
theorem dX1_keeps_23 : decode cX1_keeps 23 = .ok (.iand, 1) := by decide +kernel
theorem dX1_keeps_24 : decode cX1_keeps 24 = .ok (.ifCond .ne 7, 3) := by decide +kernel
theorem dX1_keeps_27 : decode cX1_keeps 27 = .ok (.iconst 1, 1) := by decide +kernel
theorem dX1_keeps_28 : decode cX1_keeps 28 = .ok (.goto 4, 3) := by decide +kernel
theorem dX1_keeps_31 : decode cX1_keeps 31 = .ok (.iconst 0, 1) := by decide +kernel
theorem dX1_keeps_32 : decode cX1_keeps 32 = .ok (.ireturn, 1) := by decide +kernel
theorem dX1_oneMoreIsEnough_0 : decode cX1_oneMoreIsEnough 0 = .ok (.aload_n 0, 1) := by decide +kernel
theorem dX1_oneMoreIsEnough_1 : decode cX1_oneMoreIsEnough 1 = .ok (.getfield 34, 3) := by decide +kernel
theorem dX1_oneMoreIsEnough_4 : decode cX1_oneMoreIsEnough 4 = .ok (.invokestatic 43, 3) := by decide +kernel
theorem dX1_oneMoreIsEnough_7 : decode cX1_oneMoreIsEnough 7 = .ok (.iconst 1, 1) := by decide +kernel
theorem dX1_oneMoreIsEnough_8 : decode cX1_oneMoreIsEnough 8 = .ok (.iadd, 1) := by decide +kernel
theorem dX1_oneMoreIsEnough_9 : decode cX1_oneMoreIsEnough 9 = .ok (.iconst 2, 1) := by decide +kernel
theorem dX1_oneMoreIsEnough_10 : decode cX1_oneMoreIsEnough 10 = .ok (.imul, 1) := by decide +kernel
theorem dX1_oneMoreIsEnough_11 : decode cX1_oneMoreIsEnough 11 = .ok (.aload_n 0, 1) := by decide +kernel
theorem dX1_oneMoreIsEnough_12 : decode cX1_oneMoreIsEnough 12 = .ok (.getfield 9, 3) := by decide +kernel
theorem dX1_oneMoreIsEnough_15 : decode cX1_oneMoreIsEnough 15 = .ok (.if_icmp .le 7, 3) := by decide +kernel
theorem dX1_oneMoreIsEnough_18 : decode cX1_oneMoreIsEnough 18 = .ok (.iconst 1, 1) := by decide +kernel
theorem dX1_oneMoreIsEnough_19 : decode cX1_oneMoreIsEnough 19 = .ok (.goto 4, 3) := by decide +kernel
theorem dX1_oneMoreIsEnough_22 : decode cX1_oneMoreIsEnough 22 = .ok (.iconst 0, 1) := by decide +kernel
theorem dX1_oneMoreIsEnough_23 : decode cX1_oneMoreIsEnough 23 = .ok (.ireturn, 1) := by decide +kernel
theorem dX1_sightOf_0 : decode cX1_sightOf 0 = .ok (.iload_n 1, 1) := by decide +kernel
theorem dX1_sightOf_1 : decode cX1_sightOf 1 = .ok (.aload_n 0, 1) := by decide +kernel
theorem dX1_sightOf_2 : decode cX1_sightOf 2 = .ok (.getfield 9, 3) := by decide +kernel
theorem dX1_sightOf_5 : decode cX1_sightOf 5 = .ok (.imul, 1) := by decide +kernel
theorem dX1_sightOf_6 : decode cX1_sightOf 6 = .ok (.iload_n 2, 1) := by decide +kernel
theorem dX1_sightOf_7 : decode cX1_sightOf 7 = .ok (.iadd, 1) := by decide +kernel
theorem dX1_sightOf_8 : decode cX1_sightOf 8 = .ok (.istore_n 3, 1) := by decide +kernel
theorem dX1_sightOf_9 : decode cX1_sightOf 9 = .ok (.iload_n 3, 1) := by decide +kernel
theorem dX1_sightOf_10 : decode cX1_sightOf 10 = .ok (.ifCond .lt 21, 3) := by decide +kernel
theorem dX1_sightOf_13 : decode cX1_sightOf 13 = .ok (.iload_n 3, 1) := by decide +kernel
theorem dX1_sightOf_14 : decode cX1_sightOf 14 = .ok (.aload_n 0, 1) := by decide +kernel
theorem dX1_sightOf_15 : decode cX1_sightOf 15 = .ok (.getfield 22, 3) := by decide +kernel
theorem dX1_sightOf_18 : decode cX1_sightOf 18 = .ok (.arraylength, 1) := by decide +kernel
theorem dX1_sightOf_19 : decode cX1_sightOf 19 = .ok (.if_icmp .ge 12, 3) := by decide +kernel
theorem dX1_sightOf_22 : decode cX1_sightOf 22 = .ok (.aload_n 0, 1) := by decide +kernel
theorem dX1_sightOf_23 : decode cX1_sightOf 23 = .ok (.getfield 22, 3) := by decide +kernel
theorem dX1_sightOf_26 : decode cX1_sightOf 26 = .ok (.iload_n 3, 1) := by decide +kernel
theorem dX1_sightOf_27 : decode cX1_sightOf 27 = .ok (.iaload, 1) := by decide +kernel
theorem dX1_sightOf_28 : decode cX1_sightOf 28 = .ok (.goto 4, 3) := by decide +kernel
theorem dX1_sightOf_31 : decode cX1_sightOf 31 = .ok (.iconst 0, 1) := by decide +kernel
theorem dX1_sightOf_32 : decode cX1_sightOf 32 = .ok (.ireturn, 1) := by decide +kernel
theorem dX1_decisionAfter_0 : decode cX1_decisionAfter 0 = .ok (.aload_n 0, 1) := by decide +kernel
theorem dX1_decisionAfter_1 : decode cX1_decisionAfter 1 = .ok (.getfield 49, 3) := by decide +kernel
theorem dX1_decisionAfter_4 : decode cX1_decisionAfter 4 = .ok (.ifCond .eq 8, 3) := by decide +kernel
theorem dX1_decisionAfter_7 : decode cX1_decisionAfter 7 = .ok (.aload_n 0, 1) := by decide +kernel
theorem dX1_decisionAfter_8 : decode cX1_decisionAfter 8 = .ok (.getfield 49, 3) := by decide +kernel
theorem dX1_decisionAfter_11 : decode cX1_decisionAfter 11 = .ok (.ireturn, 1) := by decide +kernel
theorem dX1_decisionAfter_12 : decode cX1_decisionAfter 12 = .ok (.aload_n 0, 1) := by decide +kernel
theorem dX1_decisionAfter_13 : decode cX1_decisionAfter 13 = .ok (.iload_n 1, 1) := by decide +kernel
theorem dX1_decisionAfter_14 : decode cX1_decisionAfter 14 = .ok (.iload_n 2, 1) := by decide +kernel
theorem dX1_decisionAfter_15 : decode cX1_decisionAfter 15 = .ok (.iload_n 3, 1) := by decide +kernel
theorem dX1_decisionAfter_16 : decode cX1_decisionAfter 16 = .ok (.invokevirtual 52, 3) := by decide +kernel
theorem dX1_decisionAfter_19 : decode cX1_decisionAfter 19 = .ok (.istore 4, 2) := by decide +kernel
theorem dX1_decisionAfter_21 : decode cX1_decisionAfter 21 = .ok (.iload 4, 2) := by decide +kernel
theorem dX1_decisionAfter_23 : decode cX1_decisionAfter 23 = .ok (.iconst 1, 1) := by decide +kernel
theorem dX1_decisionAfter_24 : decode cX1_decisionAfter 24 = .ok (.if_icmp .eq 15, 3) := by decide +kernel
theorem dX1_decisionAfter_27 : decode cX1_decisionAfter 27 = .ok (.iload 4, 2) := by decide +kernel
theorem dX1_decisionAfter_29 : decode cX1_decisionAfter 29 = .ok (.iconst 2, 1) := by decide +kernel
theorem dX1_decisionAfter_30 : decode cX1_decisionAfter 30 = .ok (.if_icmp .ne 7, 3) := by decide +kernel
theorem dX1_decisionAfter_33 : decode cX1_decisionAfter 33 = .ok (.iconst 2, 1) := by decide +kernel
theorem dX1_decisionAfter_34 : decode cX1_decisionAfter 34 = .ok (.goto 4, 3) := by decide +kernel
theorem dX1_decisionAfter_37 : decode cX1_decisionAfter 37 = .ok (.iconst 0, 1) := by decide +kernel
theorem dX1_decisionAfter_38 : decode cX1_decisionAfter 38 = .ok (.ireturn, 1) := by decide +kernel
theorem dX1_decisionAfter_39 : decode cX1_decisionAfter 39 = .ok (.iconst 0, 1) := by decide +kernel
theorem dX1_decisionAfter_40 : decode cX1_decisionAfter 40 = .ok (.istore 5, 2) := by decide +kernel
theorem dX1_decisionAfter_42 : decode cX1_decisionAfter 42 = .ok (.iload 5, 2) := by decide +kernel
theorem dX1_decisionAfter_44 : decode cX1_decisionAfter 44 = .ok (.aload_n 0, 1) := by decide +kernel
theorem dX1_decisionAfter_45 : decode cX1_decisionAfter 45 = .ok (.getfield 19, 3) := by decide +kernel
theorem dX1_decisionAfter_48 : decode cX1_decisionAfter 48 = .ok (.arraylength, 1) := by decide +kernel
theorem dX1_decisionAfter_49 : decode cX1_decisionAfter 49 = .ok (.if_icmp .ge 28, 3) := by decide +kernel
theorem dX1_decisionAfter_52 : decode cX1_decisionAfter 52 = .ok (.iload 5, 2) := by decide +kernel
theorem dX1_decisionAfter_54 : decode cX1_decisionAfter 54 = .ok (.iload_n 1, 1) := by decide +kernel
theorem dX1_decisionAfter_55 : decode cX1_decisionAfter 55 = .ok (.if_icmp .eq 16, 3) := by decide +kernel
theorem dX1_decisionAfter_58 : decode cX1_decisionAfter 58 = .ok (.aload_n 0, 1) := by decide +kernel
theorem dX1_decisionAfter_59 : decode cX1_decisionAfter 59 = .ok (.getfield 19, 3) := by decide +kernel
theorem dX1_decisionAfter_62 : decode cX1_decisionAfter 62 = .ok (.iload 5, 2) := by decide +kernel
theorem dX1_decisionAfter_64 : decode cX1_decisionAfter 64 = .ok (.iaload, 1) := by decide +kernel
theorem dX1_decisionAfter_65 : decode cX1_decisionAfter 65 = .ok (.iconst 1, 1) := by decide +kernel
theorem dX1_decisionAfter_66 : decode cX1_decisionAfter 66 = .ok (.if_icmp .eq 5, 3) := by decide +kernel
theorem dX1_decisionAfter_69 : decode cX1_decisionAfter 69 = .ok (.iconst 0, 1) := by decide +kernel
theorem dX1_decisionAfter_70 : decode cX1_decisionAfter 70 = .ok (.ireturn, 1) := by decide +kernel
theorem dX1_decisionAfter_71 : decode cX1_decisionAfter 71 = .ok (.iinc 5 1, 3) := by decide +kernel
theorem dX1_decisionAfter_74 : decode cX1_decisionAfter 74 = .ok (.goto (-32), 3) := by decide +kernel
theorem dX1_decisionAfter_77 : decode cX1_decisionAfter 77 = .ok (.iconst 1, 1) := by decide +kernel
theorem dX1_decisionAfter_78 : decode cX1_decisionAfter 78 = .ok (.ireturn, 1) := by decide +kernel
theorem dX1_see_0 : decode cX1_see 0 = .ok (.iload_n 1, 1) := by decide +kernel
theorem dX1_see_1 : decode cX1_see 1 = .ok (.aload_n 0, 1) := by decide +kernel
theorem dX1_see_2 : decode cX1_see 2 = .ok (.getfield 9, 3) := by decide +kernel
theorem dX1_see_5 : decode cX1_see 5 = .ok (.imul, 1) := by decide +kernel
theorem dX1_see_6 : decode cX1_see 6 = .ok (.iload_n 2, 1) := by decide +kernel
theorem dX1_see_7 : decode cX1_see 7 = .ok (.iadd, 1) := by decide +kernel
theorem dX1_see_8 : decode cX1_see 8 = .ok (.istore 4, 2) := by decide +kernel
theorem dX1_see_10 : decode cX1_see 10 = .ok (.iload_n 1, 1) := by decide +kernel
theorem dX1_see_11 : decode cX1_see 11 = .ok (.ifCond .lt 27, 3) := by decide +kernel
theorem dX1_see_14 : decode cX1_see 14 = .ok (.iload_n 1, 1) := by decide +kernel
theorem dX1_see_15 : decode cX1_see 15 = .ok (.aload_n 0, 1) := by decide +kernel
theorem dX1_see_16 : decode cX1_see 16 = .ok (.getfield 19, 3) := by decide +kernel
theorem dX1_see_19 : decode cX1_see 19 = .ok (.arraylength, 1) := by decide +kernel
theorem dX1_see_20 : decode cX1_see 20 = .ok (.if_icmp .ge 18, 3) := by decide +kernel
theorem dX1_see_23 : decode cX1_see 23 = .ok (.iload 4, 2) := by decide +kernel
theorem dX1_see_25 : decode cX1_see 25 = .ok (.ifCond .lt 13, 3) := by decide +kernel
theorem dX1_see_28 : decode cX1_see 28 = .ok (.iload 4, 2) := by decide +kernel
theorem dX1_see_30 : decode cX1_see 30 = .ok (.aload_n 0, 1) := by decide +kernel
theorem dX1_see_31 : decode cX1_see 31 = .ok (.getfield 22, 3) := by decide +kernel
theorem dX1_see_34 : decode cX1_see 34 = .ok (.arraylength, 1) := by decide +kernel
theorem dX1_see_35 : decode cX1_see 35 = .ok (.if_icmp .lt 4, 3) := by decide +kernel
theorem dX1_see_38 : decode cX1_see 38 = .ok (.return_, 1) := by decide +kernel
theorem dX1_see_39 : decode cX1_see 39 = .ok (.aload_n 0, 1) := by decide +kernel
theorem dX1_see_40 : decode cX1_see 40 = .ok (.iload_n 1, 1) := by decide +kernel
theorem dX1_see_41 : decode cX1_see 41 = .ok (.iload_n 2, 1) := by decide +kernel
theorem dX1_see_42 : decode cX1_see 42 = .ok (.iload_n 3, 1) := by decide +kernel
theorem dX1_see_43 : decode cX1_see 43 = .ok (.invokevirtual 52, 3) := by decide +kernel
theorem dX1_see_46 : decode cX1_see 46 = .ok (.istore 5, 2) := by decide +kernel
theorem dX1_see_48 : decode cX1_see 48 = .ok (.aload_n 0, 1) := by decide +kernel
theorem dX1_see_49 : decode cX1_see 49 = .ok (.iload_n 1, 1) := by decide +kernel
theorem dX1_see_50 : decode cX1_see 50 = .ok (.iload_n 2, 1) := by decide +kernel
theorem dX1_see_51 : decode cX1_see 51 = .ok (.iload_n 3, 1) := by decide +kernel
theorem dX1_see_52 : decode cX1_see 52 = .ok (.invokevirtual 56, 3) := by decide +kernel
theorem dX1_see_55 : decode cX1_see 55 = .ok (.istore 6, 2) := by decide +kernel
theorem dX1_see_57 : decode cX1_see 57 = .ok (.iload_n 3, 1) := by decide +kernel
theorem dX1_see_58 : decode cX1_see 58 = .ok (.invokestatic 59, 3) := by decide +kernel
theorem dX1_see_61 : decode cX1_see 61 = .ok (.aload_n 0, 1) := by decide +kernel
theorem dX1_see_62 : decode cX1_see 62 = .ok (.getfield 22, 3) := by decide +kernel
theorem dX1_see_65 : decode cX1_see 65 = .ok (.iload 4, 2) := by decide +kernel
theorem dX1_see_67 : decode cX1_see 67 = .ok (.iaload, 1) := by decide +kernel
theorem dX1_see_68 : decode cX1_see 68 = .ok (.invokestatic 59, 3) := by decide +kernel
theorem dX1_see_71 : decode cX1_see 71 = .ok (.if_icmp .le 11, 3) := by decide +kernel
theorem dX1_see_74 : decode cX1_see 74 = .ok (.aload_n 0, 1) := by decide +kernel
theorem dX1_see_75 : decode cX1_see 75 = .ok (.getfield 22, 3) := by decide +kernel
theorem dX1_see_78 : decode cX1_see 78 = .ok (.iload 4, 2) := by decide +kernel
theorem dX1_see_80 : decode cX1_see 80 = .ok (.iload_n 3, 1) := by decide +kernel
theorem dX1_see_81 : decode cX1_see 81 = .ok (.iastore, 1) := by decide +kernel
theorem dX1_see_82 : decode cX1_see 82 = .ok (.aload_n 0, 1) := by decide +kernel
theorem dX1_see_83 : decode cX1_see 83 = .ok (.getfield 19, 3) := by decide +kernel
theorem dX1_see_86 : decode cX1_see 86 = .ok (.iload_n 1, 1) := by decide +kernel
theorem dX1_see_87 : decode cX1_see 87 = .ok (.iload 5, 2) := by decide +kernel
theorem dX1_see_89 : decode cX1_see 89 = .ok (.iastore, 1) := by decide +kernel
theorem dX1_see_90 : decode cX1_see 90 = .ok (.aload_n 0, 1) := by decide +kernel
theorem dX1_see_91 : decode cX1_see 91 = .ok (.iload 6, 2) := by decide +kernel
theorem dX1_see_93 : decode cX1_see 93 = .ok (.putfield 49, 3) := by decide +kernel
theorem dX1_see_96 : decode cX1_see 96 = .ok (.return_, 1) := by decide +kernel
theorem dX1_outcomeAfter_0 : decode cX1_outcomeAfter 0 = .ok (.iload_n 1, 1) := by decide +kernel
theorem dX1_outcomeAfter_1 : decode cX1_outcomeAfter 1 = .ok (.ifCond .lt 12, 3) := by decide +kernel
theorem dX1_outcomeAfter_4 : decode cX1_outcomeAfter 4 = .ok (.iload_n 1, 1) := by decide +kernel
theorem dX1_outcomeAfter_5 : decode cX1_outcomeAfter 5 = .ok (.aload_n 0, 1) := by decide +kernel
theorem dX1_outcomeAfter_6 : decode cX1_outcomeAfter 6 = .ok (.getfield 19, 3) := by decide +kernel
theorem dX1_outcomeAfter_9 : decode cX1_outcomeAfter 9 = .ok (.arraylength, 1) := by decide +kernel
theorem dX1_outcomeAfter_10 : decode cX1_outcomeAfter 10 = .ok (.if_icmp .lt 5, 3) := by decide +kernel
theorem dX1_outcomeAfter_13 : decode cX1_outcomeAfter 13 = .ok (.iconst 0, 1) := by decide +kernel
theorem dX1_outcomeAfter_14 : decode cX1_outcomeAfter 14 = .ok (.ireturn, 1) := by decide +kernel
theorem dX1_outcomeAfter_15 : decode cX1_outcomeAfter 15 = .ok (.aload_n 0, 1) := by decide +kernel
theorem dX1_outcomeAfter_16 : decode cX1_outcomeAfter 16 = .ok (.getfield 19, 3) := by decide +kernel
theorem dX1_outcomeAfter_19 : decode cX1_outcomeAfter 19 = .ok (.iload_n 1, 1) := by decide +kernel
theorem dX1_outcomeAfter_20 : decode cX1_outcomeAfter 20 = .ok (.iaload, 1) := by decide +kernel
theorem dX1_outcomeAfter_21 : decode cX1_outcomeAfter 21 = .ok (.ifCond .ne 19, 3) := by decide +kernel
theorem dX1_outcomeAfter_24 : decode cX1_outcomeAfter 24 = .ok (.iload_n 3, 1) := by decide +kernel
theorem dX1_outcomeAfter_25 : decode cX1_outcomeAfter 25 = .ok (.invokestatic 59, 3) := by decide +kernel
theorem dX1_outcomeAfter_28 : decode cX1_outcomeAfter 28 = .ok (.aload_n 0, 1) := by decide +kernel
theorem dX1_outcomeAfter_29 : decode cX1_outcomeAfter 29 = .ok (.iload_n 1, 1) := by decide +kernel
theorem dX1_outcomeAfter_30 : decode cX1_outcomeAfter 30 = .ok (.iload_n 2, 1) := by decide +kernel
theorem dX1_outcomeAfter_31 : decode cX1_outcomeAfter 31 = .ok (.invokevirtual 62, 3) := by decide +kernel
theorem dX1_outcomeAfter_34 : decode cX1_outcomeAfter 34 = .ok (.invokestatic 59, 3) := by decide +kernel
theorem dX1_outcomeAfter_37 : decode cX1_outcomeAfter 37 = .ok (.if_icmp .gt 10, 3) := by decide +kernel
theorem dX1_outcomeAfter_40 : decode cX1_outcomeAfter 40 = .ok (.aload_n 0, 1) := by decide +kernel
theorem dX1_outcomeAfter_41 : decode cX1_outcomeAfter 41 = .ok (.getfield 19, 3) := by decide +kernel
theorem dX1_outcomeAfter_44 : decode cX1_outcomeAfter 44 = .ok (.iload_n 1, 1) := by decide +kernel
theorem dX1_outcomeAfter_45 : decode cX1_outcomeAfter 45 = .ok (.iaload, 1) := by decide +kernel
theorem dX1_outcomeAfter_46 : decode cX1_outcomeAfter 46 = .ok (.ireturn, 1) := by decide +kernel
theorem dX1_outcomeAfter_47 : decode cX1_outcomeAfter 47 = .ok (.iconst 1, 1) := by decide +kernel
theorem dX1_outcomeAfter_48 : decode cX1_outcomeAfter 48 = .ok (.istore 4, 2) := by decide +kernel
theorem dX1_outcomeAfter_50 : decode cX1_outcomeAfter 50 = .ok (.iconst 0, 1) := by decide +kernel
theorem dX1_outcomeAfter_51 : decode cX1_outcomeAfter 51 = .ok (.istore 5, 2) := by decide +kernel
theorem dX1_outcomeAfter_53 : decode cX1_outcomeAfter 53 = .ok (.iload 5, 2) := by decide +kernel
theorem dX1_outcomeAfter_55 : decode cX1_outcomeAfter 55 = .ok (.aload_n 0, 1) := by decide +kernel
theorem dX1_outcomeAfter_56 : decode cX1_outcomeAfter 56 = .ok (.getfield 9, 3) := by decide +kernel
theorem dX1_outcomeAfter_59 : decode cX1_outcomeAfter 59 = .ok (.if_icmp .ge 35, 3) := by decide +kernel
theorem dX1_outcomeAfter_62 : decode cX1_outcomeAfter 62 = .ok (.iload 5, 2) := by decide +kernel
theorem dX1_outcomeAfter_64 : decode cX1_outcomeAfter 64 = .ok (.iload_n 2, 1) := by decide +kernel
theorem dX1_outcomeAfter_65 : decode cX1_outcomeAfter 65 = .ok (.if_icmp .eq 23, 3) := by decide +kernel
theorem dX1_outcomeAfter_68 : decode cX1_outcomeAfter 68 = .ok (.aload_n 0, 1) := by decide +kernel
theorem dX1_outcomeAfter_69 : decode cX1_outcomeAfter 69 = .ok (.iload_n 1, 1) := by decide +kernel
theorem dX1_outcomeAfter_70 : decode cX1_outcomeAfter 70 = .ok (.iload 5, 2) := by decide +kernel
theorem dX1_outcomeAfter_72 : decode cX1_outcomeAfter 72 = .ok (.invokevirtual 62, 3) := by decide +kernel
theorem dX1_outcomeAfter_75 : decode cX1_outcomeAfter 75 = .ok (.invokestatic 59, 3) := by decide +kernel
theorem dX1_outcomeAfter_78 : decode cX1_outcomeAfter 78 = .ok (.iload_n 3, 1) := by decide +kernel
theorem dX1_outcomeAfter_79 : decode cX1_outcomeAfter 79 = .ok (.invokestatic 59, 3) := by decide +kernel
theorem dX1_outcomeAfter_82 : decode cX1_outcomeAfter 82 = .ok (.if_icmp .ne 6, 3) := by decide +kernel
theorem dX1_outcomeAfter_85 : decode cX1_outcomeAfter 85 = .ok (.iinc 4 1, 3) := by decide +kernel
theorem dX1_outcomeAfter_88 : decode cX1_outcomeAfter 88 = .ok (.iinc 5 1, 3) := by decide +kernel
theorem dX1_outcomeAfter_91 : decode cX1_outcomeAfter 91 = .ok (.goto (-38), 3) := by decide +kernel
theorem dX1_outcomeAfter_94 : decode cX1_outcomeAfter 94 = .ok (.iload 4, 2) := by decide +kernel
theorem dX1_outcomeAfter_96 : decode cX1_outcomeAfter 96 = .ok (.iconst 2, 1) := by decide +kernel
theorem dX1_outcomeAfter_97 : decode cX1_outcomeAfter 97 = .ok (.imul, 1) := by decide +kernel
theorem dX1_outcomeAfter_98 : decode cX1_outcomeAfter 98 = .ok (.aload_n 0, 1) := by decide +kernel
theorem dX1_outcomeAfter_99 : decode cX1_outcomeAfter 99 = .ok (.getfield 9, 3) := by decide +kernel
theorem dX1_outcomeAfter_102 : decode cX1_outcomeAfter 102 = .ok (.if_icmp .le 10, 3) := by decide +kernel
theorem dX1_outcomeAfter_105 : decode cX1_outcomeAfter 105 = .ok (.iload_n 3, 1) := by decide +kernel
theorem dX1_outcomeAfter_106 : decode cX1_outcomeAfter 106 = .ok (.invokestatic 66, 3) := by decide +kernel
theorem dX1_outcomeAfter_109 : decode cX1_outcomeAfter 109 = .ok (.goto 4, 3) := by decide +kernel
theorem dX1_outcomeAfter_112 : decode cX1_outcomeAfter 112 = .ok (.iconst 0, 1) := by decide +kernel
theorem dX1_outcomeAfter_113 : decode cX1_outcomeAfter 113 = .ok (.ireturn, 1) := by decide +kernel
theorem dX1_forget_0 : decode cX1_forget 0 = .ok (.aload_n 0, 1) := by decide +kernel
theorem dX1_forget_1 : decode cX1_forget 1 = .ok (.iconst 0, 1) := by decide +kernel
theorem dX1_forget_2 : decode cX1_forget 2 = .ok (.putfield 31, 3) := by decide +kernel
theorem dX1_forget_5 : decode cX1_forget 5 = .ok (.aload_n 0, 1) := by decide +kernel
theorem dX1_forget_6 : decode cX1_forget 6 = .ok (.iconst 0, 1) := by decide +kernel
theorem dX1_forget_7 : decode cX1_forget 7 = .ok (.putfield 49, 3) := by decide +kernel
theorem dX1_forget_10 : decode cX1_forget 10 = .ok (.aload_n 0, 1) := by decide +kernel
theorem dX1_forget_11 : decode cX1_forget 11 = .ok (.iconst 0, 1) := by decide +kernel
theorem dX1_forget_12 : decode cX1_forget 12 = .ok (.putfield 34, 3) := by decide +kernel
theorem dX1_forget_15 : decode cX1_forget 15 = .ok (.aload_n 0, 1) := by decide +kernel
theorem dX1_forget_16 : decode cX1_forget 16 = .ok (.getfield 15, 3) := by decide +kernel
theorem dX1_forget_19 : decode cX1_forget 19 = .ok (.iconst 0, 1) := by decide +kernel
theorem dX1_forget_20 : decode cX1_forget 20 = .ok (.invokestatic 37, 3) := by decide +kernel
theorem dX1_forget_23 : decode cX1_forget 23 = .ok (.aload_n 0, 1) := by decide +kernel
theorem dX1_forget_24 : decode cX1_forget 24 = .ok (.getfield 19, 3) := by decide +kernel
theorem dX1_forget_27 : decode cX1_forget 27 = .ok (.iconst 0, 1) := by decide +kernel
theorem dX1_forget_28 : decode cX1_forget 28 = .ok (.invokestatic 37, 3) := by decide +kernel
theorem dX1_forget_31 : decode cX1_forget 31 = .ok (.aload_n 0, 1) := by decide +kernel
theorem dX1_forget_32 : decode cX1_forget 32 = .ok (.getfield 22, 3) := by decide +kernel
theorem dX1_forget_35 : decode cX1_forget 35 = .ok (.iconst 0, 1) := by decide +kernel
theorem dX1_forget_36 : decode cX1_forget 36 = .ok (.invokestatic 37, 3) := by decide +kernel
theorem dX1_forget_39 : decode cX1_forget 39 = .ok (.return_, 1) := by decide +kernel
theorem dX2_init_0 : decode cX2_init 0 = .ok (.aload_n 0, 1) := by decide +kernel
theorem dX2_init_1 : decode cX2_init 1 = .ok (.invokespecial 3, 3) := by decide +kernel
theorem dX2_init_4 : decode cX2_init 4 = .ok (.aload_n 0, 1) := by decide +kernel
theorem dX2_init_5 : decode cX2_init 5 = .ok (.iload_n 2, 1) := by decide +kernel
theorem dX2_init_6 : decode cX2_init 6 = .ok (.putfield 9, 3) := by decide +kernel
theorem dX2_init_9 : decode cX2_init 9 = .ok (.aload_n 0, 1) := by decide +kernel
theorem dX2_init_10 : decode cX2_init 10 = .ok (.iload_n 1, 1) := by decide +kernel
theorem dX2_init_11 : decode cX2_init 11 = .ok (.newarray .int, 2) := by decide +kernel
theorem dX2_init_13 : decode cX2_init 13 = .ok (.putfield 15, 3) := by decide +kernel
theorem dX2_init_16 : decode cX2_init 16 = .ok (.aload_n 0, 1) := by decide +kernel
theorem dX2_init_17 : decode cX2_init 17 = .ok (.iload_n 1, 1) := by decide +kernel
theorem dX2_init_18 : decode cX2_init 18 = .ok (.newarray .boolean, 2) := by decide +kernel
theorem dX2_init_20 : decode cX2_init 20 = .ok (.putfield 19, 3) := by decide +kernel
theorem dX2_init_23 : decode cX2_init 23 = .ok (.aload_n 0, 1) := by decide +kernel
theorem dX2_init_24 : decode cX2_init 24 = .ok (.sipush 1537, 3) := by decide +kernel
theorem dX2_init_27 : decode cX2_init 27 = .ok (.newarray .int, 2) := by decide +kernel
theorem dX2_init_29 : decode cX2_init 29 = .ok (.putfield 23, 3) := by decide +kernel
theorem dX2_init_32 : decode cX2_init 32 = .ok (.return_, 1) := by decide +kernel
theorem dX2_enter_0 : decode cX2_enter 0 = .ok (.iload_n 1, 1) := by decide +kernel
theorem dX2_enter_1 : decode cX2_enter 1 = .ok (.ifCond .lt 25, 3) := by decide +kernel
theorem dX2_enter_4 : decode cX2_enter 4 = .ok (.iload_n 1, 1) := by decide +kernel
theorem dX2_enter_5 : decode cX2_enter 5 = .ok (.aload_n 0, 1) := by decide +kernel
theorem dX2_enter_6 : decode cX2_enter 6 = .ok (.getfield 15, 3) := by decide +kernel
theorem dX2_enter_9 : decode cX2_enter 9 = .ok (.arraylength, 1) := by decide +kernel
theorem dX2_enter_10 : decode cX2_enter 10 = .ok (.if_icmp .ge 16, 3) := by decide +kernel
theorem dX2_enter_13 : decode cX2_enter 13 = .ok (.iload_n 2, 1) := by decide +kernel
theorem dX2_enter_14 : decode cX2_enter 14 = .ok (.ifCond .lt 12, 3) := by decide +kernel
theorem dX2_enter_17 : decode cX2_enter 17 = .ok (.iload_n 2, 1) := by decide +kernel
theorem dX2_enter_18 : decode cX2_enter 18 = .ok (.aload_n 0, 1) := by decide +kernel
theorem dX2_enter_19 : decode cX2_enter 19 = .ok (.getfield 23, 3) := by decide +kernel
theorem dX2_enter_22 : decode cX2_enter 22 = .ok (.arraylength, 1) := by decide +kernel
theorem dX2_enter_23 : decode cX2_enter 23 = .ok (.if_icmp .lt 4, 3) := by decide +kernel
theorem dX2_enter_26 : decode cX2_enter 26 = .ok (.return_, 1) := by decide +kernel
theorem dX2_enter_27 : decode cX2_enter 27 = .ok (.iload_n 1, 1) := by decide +kernel
theorem dX2_enter_28 : decode cX2_enter 28 = .ok (.iconst 5, 1) := by decide +kernel
theorem dX2_enter_29 : decode cX2_enter 29 = .ok (.imul, 1) := by decide +kernel
theorem dX2_enter_30 : decode cX2_enter 30 = .ok (.istore 5, 2) := by decide +kernel
theorem dX2_enter_32 : decode cX2_enter 32 = .ok (.aload_n 0, 1) := by decide +kernel
theorem dX2_enter_33 : decode cX2_enter 33 = .ok (.getfield 23, 3) := by decide +kernel
theorem dX2_enter_36 : decode cX2_enter 36 = .ok (.iload_n 2, 1) := by decide +kernel
theorem dX2_enter_37 : decode cX2_enter 37 = .ok (.dup2, 1) := by decide +kernel
theorem dX2_enter_38 : decode cX2_enter 38 = .ok (.iaload, 1) := by decide +kernel
theorem dX2_enter_39 : decode cX2_enter 39 = .ok (.iconst 1, 1) := by decide +kernel
theorem dX2_enter_40 : decode cX2_enter 40 = .ok (.iload 5, 2) := by decide +kernel
theorem dX2_enter_42 : decode cX2_enter 42 = .ok (.iload 4, 2) := by decide +kernel
theorem dX2_enter_44 : decode cX2_enter 44 = .ok (.iadd, 1) := by decide +kernel
theorem dX2_enter_45 : decode cX2_enter 45 = .ok (.ishl, 1) := by decide +kernel
theorem dX2_enter_46 : decode cX2_enter 46 = .ok (.ior, 1) := by decide +kernel
theorem dX2_enter_47 : decode cX2_enter 47 = .ok (.iastore, 1) := by decide +kernel
theorem dX2_enter_48 : decode cX2_enter 48 = .ok (.aload_n 0, 1) := by decide +kernel
theorem dX2_enter_49 : decode cX2_enter 49 = .ok (.getfield 23, 3) := by decide +kernel
theorem dX2_enter_52 : decode cX2_enter 52 = .ok (.iload_n 2, 1) := by decide +kernel
theorem dX2_enter_53 : decode cX2_enter 53 = .ok (.iaload, 1) := by decide +kernel
theorem dX2_enter_54 : decode cX2_enter 54 = .ok (.iload 5, 2) := by decide +kernel
theorem dX2_enter_56 : decode cX2_enter 56 = .ok (.ishr, 1) := by decide +kernel
theorem dX2_enter_57 : decode cX2_enter 57 = .ok (.bipush 31, 2) := by decide +kernel
theorem dX2_enter_59 : decode cX2_enter 59 = .ok (.iand, 1) := by decide +kernel
theorem dX2_enter_60 : decode cX2_enter 60 = .ok (.invokestatic 26, 3) := by decide +kernel
theorem dX2_enter_63 : decode cX2_enter 63 = .ok (.istore 6, 2) := by decide +kernel
theorem dX2_enter_65 : decode cX2_enter 65 = .ok (.iload 6, 2) := by decide +kernel
theorem dX2_enter_67 : decode cX2_enter 67 = .ok (.iconst 2, 1) := by decide +kernel
theorem dX2_enter_68 : decode cX2_enter 68 = .ok (.imul, 1) := by decide +kernel
theorem dX2_enter_69 : decode cX2_enter 69 = .ok (.aload_n 0, 1) := by decide +kernel
theorem dX2_enter_70 : decode cX2_enter 70 = .ok (.getfield 9, 3) := by decide +kernel
theorem dX2_enter_73 : decode cX2_enter 73 = .ok (.if_icmp .gt 4, 3) := by decide +kernel
theorem dX2_enter_76 : decode cX2_enter 76 = .ok (.return_, 1) := by decide +kernel
theorem dX2_enter_77 : decode cX2_enter 77 = .ok (.aload_n 0, 1) := by decide +kernel
theorem dX2_enter_78 : decode cX2_enter 78 = .ok (.getfield 15, 3) := by decide +kernel
theorem dX2_enter_81 : decode cX2_enter 81 = .ok (.iload_n 1, 1) := by decide +kernel
theorem dX2_enter_82 : decode cX2_enter 82 = .ok (.iaload, 1) := by decide +kernel
theorem dX2_enter_83 : decode cX2_enter 83 = .ok (.ifCond .ne 13, 3) := by decide +kernel
theorem dX2_enter_86 : decode cX2_enter 86 = .ok (.aload_n 0, 1) := by decide +kernel
theorem dX2_enter_87 : decode cX2_enter 87 = .ok (.getfield 15, 3) := by decide +kernel
theorem dX2_enter_90 : decode cX2_enter 90 = .ok (.iload_n 1, 1) := by decide +kernel
theorem dX2_enter_91 : decode cX2_enter 91 = .ok (.iload_n 3, 1) := by decide +kernel
theorem dX2_enter_92 : decode cX2_enter 92 = .ok (.iastore, 1) := by decide +kernel
theorem dX2_enter_93 : decode cX2_enter 93 = .ok (.goto 20, 3) := by decide +kernel
theorem dX2_enter_96 : decode cX2_enter 96 = .ok (.aload_n 0, 1) := by decide +kernel
theorem dX2_enter_97 : decode cX2_enter 97 = .ok (.getfield 15, 3) := by decide +kernel
theorem dX2_enter_100 : decode cX2_enter 100 = .ok (.iload_n 1, 1) := by decide +kernel
theorem dX2_enter_101 : decode cX2_enter 101 = .ok (.iaload, 1) := by decide +kernel
theorem dX2_enter_102 : decode cX2_enter 102 = .ok (.iload_n 3, 1) := by decide +kernel
theorem dX2_enter_103 : decode cX2_enter 103 = .ok (.if_icmp .eq 10, 3) := by decide +kernel
theorem dX2_enter_106 : decode cX2_enter 106 = .ok (.aload_n 0, 1) := by decide +kernel
theorem dX2_enter_107 : decode cX2_enter 107 = .ok (.getfield 19, 3) := by decide +kernel
theorem dX2_enter_110 : decode cX2_enter 110 = .ok (.iload_n 1, 1) := by decide +kernel
theorem dX2_enter_111 : decode cX2_enter 111 = .ok (.iconst 1, 1) := by decide +kernel
theorem dX2_enter_112 : decode cX2_enter 112 = .ok (.bastore, 1) := by decide +kernel
theorem dX2_enter_113 : decode cX2_enter 113 = .ok (.return_, 1) := by decide +kernel
theorem dX3_init_0 : decode cX3_init 0 = .ok (.aload_n 0, 1) := by decide +kernel
theorem dX3_init_1 : decode cX3_init 1 = .ok (.invokespecial 5, 3) := by decide +kernel
theorem dX3_init_4 : decode cX3_init 4 = .ok (.aload_n 0, 1) := by decide +kernel
theorem dX3_init_5 : decode cX3_init 5 = .ok (.bipush 6, 2) := by decide +kernel
theorem dX3_init_7 : decode cX3_init 7 = .ok (.iload_n 1, 1) := by decide +kernel
theorem dX3_init_8 : decode cX3_init 8 = .ok (.iadd, 1) := by decide +kernel
theorem dX3_init_9 : decode cX3_init 9 = .ok (.putfield 11, 3) := by decide +kernel
theorem dX3_init_12 : decode cX3_init 12 = .ok (.aload_n 0, 1) := by decide +kernel
theorem dX3_init_13 : decode cX3_init 13 = .ok (.sipush 401, 3) := by decide +kernel
theorem dX3_init_16 : decode cX3_init 16 = .ok (.aload_n 0, 1) := by decide +kernel
theorem dX3_init_17 : decode cX3_init 17 = .ok (.getfield 11, 3) := by decide +kernel
theorem dX3_init_20 : decode cX3_init 20 = .ok (.imul, 1) := by decide +kernel
theorem dX3_init_21 : decode cX3_init 21 = .ok (.newarray .int, 2) := by decide +kernel
theorem dX3_init_23 : decode cX3_init 23 = .ok (.putfield 15, 3) := by decide +kernel
theorem dX3_init_26 : decode cX3_init 26 = .ok (.return_, 1) := by decide +kernel
theorem dX3_hasRoomFor_0 : decode cX3_hasRoomFor 0 = .ok (.aload_n 0, 1) := by decide +kernel
theorem dX3_hasRoomFor_1 : decode cX3_hasRoomFor 1 = .ok (.getfield 19, 3) := by decide +kernel
theorem dX3_hasRoomFor_4 : decode cX3_hasRoomFor 4 = .ok (.iload_n 1, 1) := by decide +kernel
theorem dX3_hasRoomFor_5 : decode cX3_hasRoomFor 5 = .ok (.iadd, 1) := by decide +kernel
theorem dX3_hasRoomFor_6 : decode cX3_hasRoomFor 6 = .ok (.sipush 400, 3) := by decide +kernel
theorem dX3_hasRoomFor_9 : decode cX3_hasRoomFor 9 = .ok (.if_icmp .gt 7, 3) := by decide +kernel
theorem dX3_hasRoomFor_12 : decode cX3_hasRoomFor 12 = .ok (.iconst 1, 1) := by decide +kernel
theorem dX3_hasRoomFor_13 : decode cX3_hasRoomFor 13 = .ok (.goto 4, 3) := by decide +kernel
theorem dX3_hasRoomFor_16 : decode cX3_hasRoomFor 16 = .ok (.iconst 0, 1) := by decide +kernel
theorem dX3_hasRoomFor_17 : decode cX3_hasRoomFor 17 = .ok (.ireturn, 1) := by decide +kernel
theorem dX3_send_0 : decode cX3_send 0 = .ok (.aload_n 0, 1) := by decide +kernel
theorem dX3_send_1 : decode cX3_send 1 = .ok (.getfield 19, 3) := by decide +kernel
theorem dX3_send_4 : decode cX3_send 4 = .ok (.sipush 401, 3) := by decide +kernel
theorem dX3_send_7 : decode cX3_send 7 = .ok (.if_icmp .lt 4, 3) := by decide +kernel
theorem dX3_send_10 : decode cX3_send 10 = .ok (.return_, 1) := by decide +kernel
theorem dX3_send_11 : decode cX3_send 11 = .ok (.aload_n 0, 1) := by decide +kernel
theorem dX3_send_12 : decode cX3_send 12 = .ok (.getfield 19, 3) := by decide +kernel
theorem dX3_send_15 : decode cX3_send 15 = .ok (.aload_n 0, 1) := by decide +kernel
theorem dX3_send_16 : decode cX3_send 16 = .ok (.getfield 11, 3) := by decide +kernel
theorem dX3_send_19 : decode cX3_send 19 = .ok (.imul, 1) := by decide +kernel
theorem dX3_send_20 : decode cX3_send 20 = .ok (.istore 7, 2) := by decide +kernel
theorem dX3_send_22 : decode cX3_send 22 = .ok (.aload_n 0, 1) := by decide +kernel
theorem dX3_send_23 : decode cX3_send 23 = .ok (.getfield 15, 3) := by decide +kernel
theorem dX3_send_26 : decode cX3_send 26 = .ok (.iload 7, 2) := by decide +kernel
theorem dX3_send_28 : decode cX3_send 28 = .ok (.iconst 0, 1) := by decide +kernel
theorem dX3_send_29 : decode cX3_send 29 = .ok (.iadd, 1) := by decide +kernel
theorem dX3_send_30 : decode cX3_send 30 = .ok (.iload_n 1, 1) := by decide +kernel
theorem dX3_send_31 : decode cX3_send 31 = .ok (.iastore, 1) := by decide +kernel
theorem dX3_send_32 : decode cX3_send 32 = .ok (.aload_n 0, 1) := by decide +kernel
theorem dX3_send_33 : decode cX3_send 33 = .ok (.getfield 15, 3) := by decide +kernel
theorem dX3_send_36 : decode cX3_send 36 = .ok (.iload 7, 2) := by decide +kernel
theorem dX3_send_38 : decode cX3_send 38 = .ok (.iconst 1, 1) := by decide +kernel
theorem dX3_send_39 : decode cX3_send 39 = .ok (.iadd, 1) := by decide +kernel
theorem dX3_send_40 : decode cX3_send 40 = .ok (.iload_n 2, 1) := by decide +kernel
theorem dX3_send_41 : decode cX3_send 41 = .ok (.iastore, 1) := by decide +kernel
theorem dX3_send_42 : decode cX3_send 42 = .ok (.aload_n 0, 1) := by decide +kernel
theorem dX3_send_43 : decode cX3_send 43 = .ok (.getfield 15, 3) := by decide +kernel
theorem dX3_send_46 : decode cX3_send 46 = .ok (.iload 7, 2) := by decide +kernel
theorem dX3_send_48 : decode cX3_send 48 = .ok (.iconst 2, 1) := by decide +kernel
theorem dX3_send_49 : decode cX3_send 49 = .ok (.iadd, 1) := by decide +kernel
theorem dX3_send_50 : decode cX3_send 50 = .ok (.iload_n 3, 1) := by decide +kernel
theorem dX3_send_51 : decode cX3_send 51 = .ok (.iastore, 1) := by decide +kernel
theorem dX3_send_52 : decode cX3_send 52 = .ok (.aload_n 0, 1) := by decide +kernel
theorem dX3_send_53 : decode cX3_send 53 = .ok (.getfield 15, 3) := by decide +kernel
theorem dX3_send_56 : decode cX3_send 56 = .ok (.iload 7, 2) := by decide +kernel
theorem dX3_send_58 : decode cX3_send 58 = .ok (.iconst 3, 1) := by decide +kernel
theorem dX3_send_59 : decode cX3_send 59 = .ok (.iadd, 1) := by decide +kernel
theorem dX3_send_60 : decode cX3_send 60 = .ok (.iload 4, 2) := by decide +kernel
theorem dX3_send_62 : decode cX3_send 62 = .ok (.iastore, 1) := by decide +kernel
theorem dX3_send_63 : decode cX3_send 63 = .ok (.aload_n 0, 1) := by decide +kernel
theorem dX3_send_64 : decode cX3_send 64 = .ok (.getfield 15, 3) := by decide +kernel
theorem dX3_send_67 : decode cX3_send 67 = .ok (.iload 7, 2) := by decide +kernel
theorem dX3_send_69 : decode cX3_send 69 = .ok (.iconst 4, 1) := by decide +kernel
theorem dX3_send_70 : decode cX3_send 70 = .ok (.iadd, 1) := by decide +kernel
theorem dX3_send_71 : decode cX3_send 71 = .ok (.iload 5, 2) := by decide +kernel
theorem dX3_send_73 : decode cX3_send 73 = .ok (.iastore, 1) := by decide +kernel
theorem dX3_send_74 : decode cX3_send 74 = .ok (.aload_n 0, 1) := by decide +kernel
theorem dX3_send_75 : decode cX3_send 75 = .ok (.getfield 15, 3) := by decide +kernel
theorem dX3_send_78 : decode cX3_send 78 = .ok (.iload 7, 2) := by decide +kernel
theorem dX3_send_80 : decode cX3_send 80 = .ok (.iconst 5, 1) := by decide +kernel
theorem dX3_send_81 : decode cX3_send 81 = .ok (.iadd, 1) := by decide +kernel
theorem dX3_send_82 : decode cX3_send 82 = .ok (.iload 6, 2) := by decide +kernel
theorem dX3_send_84 : decode cX3_send 84 = .ok (.iastore, 1) := by decide +kernel
theorem dX3_send_85 : decode cX3_send 85 = .ok (.aload_n 0, 1) := by decide +kernel
theorem dX3_send_86 : decode cX3_send 86 = .ok (.dup, 1) := by decide +kernel
theorem dX3_send_87 : decode cX3_send 87 = .ok (.getfield 19, 3) := by decide +kernel
theorem dX3_send_90 : decode cX3_send 90 = .ok (.iconst 1, 1) := by decide +kernel
theorem dX3_send_91 : decode cX3_send 91 = .ok (.iadd, 1) := by decide +kernel
theorem dX3_send_92 : decode cX3_send 92 = .ok (.putfield 19, 3) := by decide +kernel
theorem dX3_send_95 : decode cX3_send 95 = .ok (.aload_n 0, 1) := by decide +kernel
theorem dX3_send_96 : decode cX3_send 96 = .ok (.dup, 1) := by decide +kernel
theorem dX3_send_97 : decode cX3_send 97 = .ok (.getfield 22, 3) := by decide +kernel
theorem dX3_send_100 : decode cX3_send 100 = .ok (.iconst 1, 1) := by decide +kernel
theorem dX3_send_101 : decode cX3_send 101 = .ok (.iadd, 1) := by decide +kernel
theorem dX3_send_102 : decode cX3_send 102 = .ok (.putfield 22, 3) := by decide +kernel
theorem dX3_send_105 : decode cX3_send 105 = .ok (.return_, 1) := by decide +kernel
theorem dX3_attach_0 : decode cX3_attach 0 = .ok (.aload_n 0, 1) := by decide +kernel
theorem dX3_attach_1 : decode cX3_attach 1 = .ok (.getfield 19, 3) := by decide +kernel
theorem dX3_attach_4 : decode cX3_attach 4 = .ok (.ifCond .le 40, 3) := by decide +kernel
theorem dX3_attach_7 : decode cX3_attach 7 = .ok (.aload_n 1, 1) := by decide +kernel
theorem dX3_attach_8 : decode cX3_attach 8 = .ok (.arraylength, 1) := by decide +kernel
theorem dX3_attach_9 : decode cX3_attach 9 = .ok (.aload_n 0, 1) := by decide +kernel
theorem dX3_attach_10 : decode cX3_attach 10 = .ok (.getfield 11, 3) := by decide +kernel
theorem dX3_attach_13 : decode cX3_attach 13 = .ok (.bipush 6, 2) := by decide +kernel
theorem dX3_attach_15 : decode cX3_attach 15 = .ok (.isub, 1) := by decide +kernel
theorem dX3_attach_16 : decode cX3_attach 16 = .ok (.if_icmp .gt 28, 3) := by decide +kernel
theorem dX3_attach_19 : decode cX3_attach 19 = .ok (.aload_n 1, 1) := by decide +kernel
theorem dX3_attach_20 : decode cX3_attach 20 = .ok (.iconst 0, 1) := by decide +kernel
theorem dX3_attach_21 : decode cX3_attach 21 = .ok (.aload_n 0, 1) := by decide +kernel
theorem dX3_attach_22 : decode cX3_attach 22 = .ok (.getfield 15, 3) := by decide +kernel
theorem dX3_attach_25 : decode cX3_attach 25 = .ok (.aload_n 0, 1) := by decide +kernel
theorem dX3_attach_26 : decode cX3_attach 26 = .ok (.getfield 19, 3) := by decide +kernel
theorem dX3_attach_29 : decode cX3_attach 29 = .ok (.iconst 1, 1) := by decide +kernel
theorem dX3_attach_30 : decode cX3_attach 30 = .ok (.isub, 1) := by decide +kernel
theorem dX3_attach_31 : decode cX3_attach 31 = .ok (.aload_n 0, 1) := by decide +kernel
theorem dX3_attach_32 : decode cX3_attach 32 = .ok (.getfield 11, 3) := by decide +kernel
theorem dX3_attach_35 : decode cX3_attach 35 = .ok (.imul, 1) := by decide +kernel
theorem dX3_attach_36 : decode cX3_attach 36 = .ok (.bipush 6, 2) := by decide +kernel
theorem dX3_attach_38 : decode cX3_attach 38 = .ok (.iadd, 1) := by decide +kernel
theorem dX3_attach_39 : decode cX3_attach 39 = .ok (.aload_n 1, 1) := by decide +kernel
theorem dX3_attach_40 : decode cX3_attach 40 = .ok (.arraylength, 1) := by decide +kernel
theorem dX3_attach_41 : decode cX3_attach 41 = .ok (.invokestatic 25, 3) := by decide +kernel
theorem dX3_attach_44 : decode cX3_attach 44 = .ok (.return_, 1) := by decide +kernel
theorem dX3_sendLike_0 : decode cX3_sendLike 0 = .ok (.iload_n 1, 1) := by decide +kernel
theorem dX3_sendLike_1 : decode cX3_sendLike 1 = .ok (.ifCond .lt 21, 3) := by decide +kernel
theorem dX3_sendLike_4 : decode cX3_sendLike 4 = .ok (.iload_n 1, 1) := by decide +kernel
theorem dX3_sendLike_5 : decode cX3_sendLike 5 = .ok (.aload_n 0, 1) := by decide +kernel
theorem dX3_sendLike_6 : decode cX3_sendLike 6 = .ok (.getfield 19, 3) := by decide +kernel
theorem dX3_sendLike_9 : decode cX3_sendLike 9 = .ok (.if_icmp .ge 13, 3) := by decide +kernel
theorem dX3_sendLike_12 : decode cX3_sendLike 12 = .ok (.aload_n 0, 1) := by decide +kernel
theorem dX3_sendLike_13 : decode cX3_sendLike 13 = .ok (.getfield 19, 3) := by decide +kernel
theorem dX3_sendLike_16 : decode cX3_sendLike 16 = .ok (.sipush 401, 3) := by decide +kernel
theorem dX3_sendLike_19 : decode cX3_sendLike 19 = .ok (.if_icmp .lt 4, 3) := by decide +kernel
theorem dX3_sendLike_22 : decode cX3_sendLike 22 = .ok (.return_, 1) := by decide +kernel
theorem dX3_sendLike_23 : decode cX3_sendLike 23 = .ok (.aload_n 0, 1) := by decide +kernel
theorem dX3_sendLike_24 : decode cX3_sendLike 24 = .ok (.getfield 15, 3) := by decide +kernel
theorem dX3_sendLike_27 : decode cX3_sendLike 27 = .ok (.iload_n 1, 1) := by decide +kernel
theorem dX3_sendLike_28 : decode cX3_sendLike 28 = .ok (.aload_n 0, 1) := by decide +kernel
theorem dX3_sendLike_29 : decode cX3_sendLike 29 = .ok (.getfield 11, 3) := by decide +kernel
theorem dX3_sendLike_32 : decode cX3_sendLike 32 = .ok (.imul, 1) := by decide +kernel
theorem dX3_sendLike_33 : decode cX3_sendLike 33 = .ok (.aload_n 0, 1) := by decide +kernel
theorem dX3_sendLike_34 : decode cX3_sendLike 34 = .ok (.getfield 15, 3) := by decide +kernel
theorem dX3_sendLike_37 : decode cX3_sendLike 37 = .ok (.aload_n 0, 1) := by decide +kernel
theorem dX3_sendLike_38 : decode cX3_sendLike 38 = .ok (.getfield 19, 3) := by decide +kernel
theorem dX3_sendLike_41 : decode cX3_sendLike 41 = .ok (.aload_n 0, 1) := by decide +kernel
theorem dX3_sendLike_42 : decode cX3_sendLike 42 = .ok (.getfield 11, 3) := by decide +kernel
theorem dX3_sendLike_45 : decode cX3_sendLike 45 = .ok (.imul, 1) := by decide +kernel
theorem dX3_sendLike_46 : decode cX3_sendLike 46 = .ok (.aload_n 0, 1) := by decide +kernel
theorem dX3_sendLike_47 : decode cX3_sendLike 47 = .ok (.getfield 11, 3) := by decide +kernel
theorem dX3_sendLike_50 : decode cX3_sendLike 50 = .ok (.invokestatic 25, 3) := by decide +kernel
theorem dX3_sendLike_53 : decode cX3_sendLike 53 = .ok (.aload_n 0, 1) := by decide +kernel
theorem dX3_sendLike_54 : decode cX3_sendLike 54 = .ok (.dup, 1) := by decide +kernel
theorem dX3_sendLike_55 : decode cX3_sendLike 55 = .ok (.getfield 19, 3) := by decide +kernel
theorem dX3_sendLike_58 : decode cX3_sendLike 58 = .ok (.iconst 1, 1) := by decide +kernel
theorem dX3_sendLike_59 : decode cX3_sendLike 59 = .ok (.iadd, 1) := by decide +kernel
theorem dX3_sendLike_60 : decode cX3_sendLike 60 = .ok (.putfield 19, 3) := by decide +kernel
theorem dX3_sendLike_63 : decode cX3_sendLike 63 = .ok (.aload_n 0, 1) := by decide +kernel
theorem dX3_sendLike_64 : decode cX3_sendLike 64 = .ok (.dup, 1) := by decide +kernel
theorem dX3_sendLike_65 : decode cX3_sendLike 65 = .ok (.getfield 22, 3) := by decide +kernel
theorem dX3_sendLike_68 : decode cX3_sendLike 68 = .ok (.iconst 1, 1) := by decide +kernel
theorem dX3_sendLike_69 : decode cX3_sendLike 69 = .ok (.iadd, 1) := by decide +kernel
theorem dX3_sendLike_70 : decode cX3_sendLike 70 = .ok (.putfield 22, 3) := by decide +kernel
theorem dX3_sendLike_73 : decode cX3_sendLike 73 = .ok (.return_, 1) := by decide +kernel
theorem dX3_remove_0 : decode cX3_remove 0 = .ok (.iload_n 1, 1) := by decide +kernel
theorem dX3_remove_1 : decode cX3_remove 1 = .ok (.ifCond .lt 11, 3) := by decide +kernel
theorem dX3_remove_4 : decode cX3_remove 4 = .ok (.iload_n 1, 1) := by decide +kernel
theorem dX3_remove_5 : decode cX3_remove 5 = .ok (.aload_n 0, 1) := by decide +kernel
theorem dX3_remove_6 : decode cX3_remove 6 = .ok (.getfield 19, 3) := by decide +kernel
theorem dX3_remove_9 : decode cX3_remove 9 = .ok (.if_icmp .lt 4, 3) := by decide +kernel
theorem dX3_remove_12 : decode cX3_remove 12 = .ok (.return_, 1) := by decide +kernel
theorem dX3_remove_13 : decode cX3_remove 13 = .ok (.aload_n 0, 1) := by decide +kernel
theorem dX3_remove_14 : decode cX3_remove 14 = .ok (.getfield 15, 3) := by decide +kernel
theorem dX3_remove_17 : decode cX3_remove 17 = .ok (.iload_n 1, 1) := by decide +kernel
theorem dX3_remove_18 : decode cX3_remove 18 = .ok (.iconst 1, 1) := by decide +kernel
theorem dX3_remove_19 : decode cX3_remove 19 = .ok (.iadd, 1) := by decide +kernel
theorem dX3_remove_20 : decode cX3_remove 20 = .ok (.aload_n 0, 1) := by decide +kernel
theorem dX3_remove_21 : decode cX3_remove 21 = .ok (.getfield 11, 3) := by decide +kernel
theorem dX3_remove_24 : decode cX3_remove 24 = .ok (.imul, 1) := by decide +kernel
theorem dX3_remove_25 : decode cX3_remove 25 = .ok (.aload_n 0, 1) := by decide +kernel
theorem dX3_remove_26 : decode cX3_remove 26 = .ok (.getfield 15, 3) := by decide +kernel
theorem dX3_remove_29 : decode cX3_remove 29 = .ok (.iload_n 1, 1) := by decide +kernel
theorem dX3_remove_30 : decode cX3_remove 30 = .ok (.aload_n 0, 1) := by decide +kernel
theorem dX3_remove_31 : decode cX3_remove 31 = .ok (.getfield 11, 3) := by decide +kernel
theorem dX3_remove_34 : decode cX3_remove 34 = .ok (.imul, 1) := by decide +kernel
theorem dX3_remove_35 : decode cX3_remove 35 = .ok (.aload_n 0, 1) := by decide +kernel
theorem dX3_remove_36 : decode cX3_remove 36 = .ok (.getfield 19, 3) := by decide +kernel
theorem dX3_remove_39 : decode cX3_remove 39 = .ok (.iconst 1, 1) := by decide +kernel
theorem dX3_remove_40 : decode cX3_remove 40 = .ok (.isub, 1) := by decide +kernel
theorem dX3_remove_41 : decode cX3_remove 41 = .ok (.iload_n 1, 1) := by decide +kernel
theorem dX3_remove_42 : decode cX3_remove 42 = .ok (.isub, 1) := by decide +kernel
theorem dX3_remove_43 : decode cX3_remove 43 = .ok (.aload_n 0, 1) := by decide +kernel
theorem dX3_remove_44 : decode cX3_remove 44 = .ok (.getfield 11, 3) := by decide +kernel
theorem dX3_remove_47 : decode cX3_remove 47 = .ok (.imul, 1) := by decide +kernel
theorem dX3_remove_48 : decode cX3_remove 48 = .ok (.invokestatic 25, 3) := by decide +kernel
theorem dX3_remove_51 : decode cX3_remove 51 = .ok (.aload_n 0, 1) := by decide +kernel
theorem dX3_remove_52 : decode cX3_remove 52 = .ok (.dup, 1) := by decide +kernel
theorem dX3_remove_53 : decode cX3_remove 53 = .ok (.getfield 19, 3) := by decide +kernel
theorem dX3_remove_56 : decode cX3_remove 56 = .ok (.iconst 1, 1) := by decide +kernel
theorem dX3_remove_57 : decode cX3_remove 57 = .ok (.isub, 1) := by decide +kernel
theorem dX3_remove_58 : decode cX3_remove 58 = .ok (.putfield 19, 3) := by decide +kernel
theorem dX3_remove_61 : decode cX3_remove 61 = .ok (.return_, 1) := by decide +kernel
theorem dX3_part_0 : decode cX3_part 0 = .ok (.iload_n 1, 1) := by decide +kernel
theorem dX3_part_1 : decode cX3_part 1 = .ok (.ifCond .lt 21, 3) := by decide +kernel
theorem dX3_part_4 : decode cX3_part 4 = .ok (.iload_n 1, 1) := by decide +kernel
theorem dX3_part_5 : decode cX3_part 5 = .ok (.aload_n 0, 1) := by decide +kernel
theorem dX3_part_6 : decode cX3_part 6 = .ok (.getfield 19, 3) := by decide +kernel
theorem dX3_part_9 : decode cX3_part 9 = .ok (.if_icmp .ge 13, 3) := by decide +kernel
theorem dX3_part_12 : decode cX3_part 12 = .ok (.iload_n 2, 1) := by decide +kernel
theorem dX3_part_13 : decode cX3_part 13 = .ok (.ifCond .lt 9, 3) := by decide +kernel
theorem dX3_part_16 : decode cX3_part 16 = .ok (.iload_n 2, 1) := by decide +kernel
theorem dX3_part_17 : decode cX3_part 17 = .ok (.bipush 6, 2) := by decide +kernel
theorem dX3_part_19 : decode cX3_part 19 = .ok (.if_icmp .lt 5, 3) := by decide +kernel
theorem dX3_part_22 : decode cX3_part 22 = .ok (.iconst (-1), 1) := by decide +kernel
theorem dX3_part_23 : decode cX3_part 23 = .ok (.ireturn, 1) := by decide +kernel
theorem dX3_part_24 : decode cX3_part 24 = .ok (.aload_n 0, 1) := by decide +kernel
theorem dX3_part_25 : decode cX3_part 25 = .ok (.getfield 15, 3) := by decide +kernel
theorem dX3_part_28 : decode cX3_part 28 = .ok (.iload_n 1, 1) := by decide +kernel
theorem dX3_part_29 : decode cX3_part 29 = .ok (.aload_n 0, 1) := by decide +kernel
theorem dX3_part_30 : decode cX3_part 30 = .ok (.getfield 11, 3) := by decide +kernel
theorem dX3_part_33 : decode cX3_part 33 = .ok (.imul, 1) := by decide +kernel
theorem dX3_part_34 : decode cX3_part 34 = .ok (.iload_n 2, 1) := by decide +kernel
theorem dX3_part_35 : decode cX3_part 35 = .ok (.iadd, 1) := by decide +kernel
theorem dX3_part_36 : decode cX3_part 36 = .ok (.iaload, 1) := by decide +kernel
theorem dX3_part_37 : decode cX3_part 37 = .ok (.ireturn, 1) := by decide +kernel
theorem dX3_tidings_0 : decode cX3_tidings 0 = .ok (.iload_n 1, 1) := by decide +kernel
theorem dX3_tidings_1 : decode cX3_tidings 1 = .ok (.ifCond .lt 26, 3) := by decide +kernel
theorem dX3_tidings_4 : decode cX3_tidings 4 = .ok (.iload_n 1, 1) := by decide +kernel
theorem dX3_tidings_5 : decode cX3_tidings 5 = .ok (.aload_n 0, 1) := by decide +kernel
theorem dX3_tidings_6 : decode cX3_tidings 6 = .ok (.getfield 19, 3) := by decide +kernel
theorem dX3_tidings_9 : decode cX3_tidings 9 = .ok (.if_icmp .ge 18, 3) := by decide +kernel
theorem dX3_tidings_12 : decode cX3_tidings 12 = .ok (.iload_n 2, 1) := by decide +kernel
theorem dX3_tidings_13 : decode cX3_tidings 13 = .ok (.ifCond .lt 14, 3) := by decide +kernel
theorem dX3_tidings_16 : decode cX3_tidings 16 = .ok (.iload_n 2, 1) := by decide +kernel
theorem dX3_tidings_17 : decode cX3_tidings 17 = .ok (.aload_n 0, 1) := by decide +kernel
theorem dX3_tidings_18 : decode cX3_tidings 18 = .ok (.getfield 11, 3) := by decide +kernel
theorem dX3_tidings_21 : decode cX3_tidings 21 = .ok (.bipush 6, 2) := by decide +kernel
theorem dX3_tidings_23 : decode cX3_tidings 23 = .ok (.isub, 1) := by decide +kernel
theorem dX3_tidings_24 : decode cX3_tidings 24 = .ok (.if_icmp .lt 5, 3) := by decide +kernel
theorem dX3_tidings_27 : decode cX3_tidings 27 = .ok (.iconst 0, 1) := by decide +kernel
theorem dX3_tidings_28 : decode cX3_tidings 28 = .ok (.ireturn, 1) := by decide +kernel
theorem dX3_tidings_29 : decode cX3_tidings 29 = .ok (.aload_n 0, 1) := by decide +kernel
theorem dX3_tidings_30 : decode cX3_tidings 30 = .ok (.getfield 15, 3) := by decide +kernel
theorem dX3_tidings_33 : decode cX3_tidings 33 = .ok (.iload_n 1, 1) := by decide +kernel
theorem dX3_tidings_34 : decode cX3_tidings 34 = .ok (.aload_n 0, 1) := by decide +kernel
theorem dX3_tidings_35 : decode cX3_tidings 35 = .ok (.getfield 11, 3) := by decide +kernel
theorem dX3_tidings_38 : decode cX3_tidings 38 = .ok (.imul, 1) := by decide +kernel
theorem dX3_tidings_39 : decode cX3_tidings 39 = .ok (.bipush 6, 2) := by decide +kernel
theorem dX3_tidings_41 : decode cX3_tidings 41 = .ok (.iadd, 1) := by decide +kernel
theorem dX3_tidings_42 : decode cX3_tidings 42 = .ok (.iload_n 2, 1) := by decide +kernel
theorem dX3_tidings_43 : decode cX3_tidings 43 = .ok (.iadd, 1) := by decide +kernel
theorem dX3_tidings_44 : decode cX3_tidings 44 = .ok (.iaload, 1) := by decide +kernel
theorem dX3_tidings_45 : decode cX3_tidings 45 = .ok (.ireturn, 1) := by decide +kernel
theorem dX4_init_0 : decode cX4_init 0 = .ok (.aload_n 0, 1) := by decide +kernel
theorem dX4_init_1 : decode cX4_init 1 = .ok (.invokespecial 1, 3) := by decide +kernel
theorem dX4_init_4 : decode cX4_init 4 = .ok (.aload_n 0, 1) := by decide +kernel
theorem dX4_init_5 : decode cX4_init 5 = .ok (.iconst 0, 1) := by decide +kernel
theorem dX4_init_6 : decode cX4_init 6 = .ok (.putfield 9, 3) := by decide +kernel
theorem dX4_init_9 : decode cX4_init 9 = .ok (.return_, 1) := by decide +kernel
theorem dX5_init_0 : decode cX5_init 0 = .ok (.aload_n 0, 1) := by decide +kernel
theorem dX5_init_1 : decode cX5_init 1 = .ok (.invokespecial 1, 3) := by decide +kernel
theorem dX5_init_4 : decode cX5_init 4 = .ok (.aload_n 0, 1) := by decide +kernel
theorem dX5_init_5 : decode cX5_init 5 = .ok (.iconst 1, 1) := by decide +kernel
theorem dX5_init_6 : decode cX5_init 6 = .ok (.putfield 7, 3) := by decide +kernel
theorem dX5_init_9 : decode cX5_init 9 = .ok (.return_, 1) := by decide +kernel
theorem dX5_forget_0 : decode cX5_forget 0 = .ok (.return_, 1) := by decide +kernel
theorem dX6_init_0 : decode cX6_init 0 = .ok (.aload_n 0, 1) := by decide +kernel
theorem dX6_init_1 : decode cX6_init 1 = .ok (.invokespecial 1, 3) := by decide +kernel
theorem dX6_init_4 : decode cX6_init 4 = .ok (.iload_n 1, 1) := by decide +kernel
theorem dX6_init_5 : decode cX6_init 5 = .ok (.iconst 1, 1) := by decide +kernel
theorem dX6_init_6 : decode cX6_init 6 = .ok (.if_icmp .lt 13, 3) := by decide +kernel
theorem dX6_init_9 : decode cX6_init 9 = .ok (.iload_n 1, 1) := by decide +kernel
theorem dX6_init_10 : decode cX6_init 10 = .ok (.bipush 6, 2) := by decide +kernel
theorem dX6_init_12 : decode cX6_init 12 = .ok (.if_icmp .gt 7, 3) := by decide +kernel
theorem dX6_init_15 : decode cX6_init 15 = .ok (.iload_n 1, 1) := by decide +kernel
theorem dX6_init_16 : decode cX6_init 16 = .ok (.goto 4, 3) := by decide +kernel
theorem dX6_init_19 : decode cX6_init 19 = .ok (.iconst 3, 1) := by decide +kernel
theorem dX6_init_20 : decode cX6_init 20 = .ok (.istore_n 3, 1) := by decide +kernel
theorem dX6_init_21 : decode cX6_init 21 = .ok (.iload_n 2, 1) := by decide +kernel
theorem dX6_init_22 : decode cX6_init 22 = .ok (.iconst 2, 1) := by decide +kernel
theorem dX6_init_23 : decode cX6_init 23 = .ok (.if_icmp .ne 7, 3) := by decide +kernel
theorem dX6_init_26 : decode cX6_init 26 = .ok (.iconst 5, 1) := by decide +kernel
theorem dX6_init_27 : decode cX6_init 27 = .ok (.goto 4, 3) := by decide +kernel
theorem dX6_init_30 : decode cX6_init 30 = .ok (.iconst 3, 1) := by decide +kernel
theorem dX6_init_31 : decode cX6_init 31 = .ok (.istore 4, 2) := by decide +kernel
theorem dX6_init_33 : decode cX6_init 33 = .ok (.aload_n 0, 1) := by decide +kernel
theorem dX6_init_34 : decode cX6_init 34 = .ok (.iload_n 3, 1) := by decide +kernel
theorem dX6_init_35 : decode cX6_init 35 = .ok (.anewarray 9, 3) := by decide +kernel
theorem dX6_init_38 : decode cX6_init 38 = .ok (.putfield 11, 3) := by decide +kernel
theorem dX6_init_41 : decode cX6_init 41 = .ok (.iconst 0, 1) := by decide +kernel
theorem dX6_init_42 : decode cX6_init 42 = .ok (.istore 5, 2) := by decide +kernel
theorem dX6_init_44 : decode cX6_init 44 = .ok (.iload 5, 2) := by decide +kernel
theorem dX6_init_46 : decode cX6_init 46 = .ok (.iload_n 3, 1) := by decide +kernel
theorem dX6_init_47 : decode cX6_init 47 = .ok (.if_icmp .ge 23, 3) := by decide +kernel
theorem dX6_init_50 : decode cX6_init 50 = .ok (.aload_n 0, 1) := by decide +kernel
theorem dX6_init_51 : decode cX6_init 51 = .ok (.getfield 11, 3) := by decide +kernel
theorem dX6_init_54 : decode cX6_init 54 = .ok (.iload 5, 2) := by decide +kernel
theorem dX6_init_56 : decode cX6_init 56 = .ok (.new 9, 3) := by decide +kernel
theorem dX6_init_59 : decode cX6_init 59 = .ok (.dup, 1) := by decide +kernel
theorem dX6_init_60 : decode cX6_init 60 = .ok (.invokespecial 15, 3) := by decide +kernel
theorem dX6_init_63 : decode cX6_init 63 = .ok (.aastore, 1) := by decide +kernel
theorem dX6_init_64 : decode cX6_init 64 = .ok (.iinc 5 1, 3) := by decide +kernel
theorem dX6_init_67 : decode cX6_init 67 = .ok (.goto (-23), 3) := by decide +kernel
theorem dX6_init_70 : decode cX6_init 70 = .ok (.aload_n 0, 1) := by decide +kernel
theorem dX6_init_71 : decode cX6_init 71 = .ok (.iload 4, 2) := by decide +kernel
theorem dX6_init_73 : decode cX6_init 73 = .ok (.anewarray 16, 3) := by decide +kernel
theorem dX6_init_76 : decode cX6_init 76 = .ok (.putfield 18, 3) := by decide +kernel
theorem dX6_init_79 : decode cX6_init 79 = .ok (.iconst 0, 1) := by decide +kernel
theorem dX6_init_80 : decode cX6_init 80 = .ok (.istore 5, 2) := by decide +kernel
theorem dX6_init_82 : decode cX6_init 82 = .ok (.iload 5, 2) := by decide +kernel
theorem dX6_init_84 : decode cX6_init 84 = .ok (.iload 4, 2) := by decide +kernel
theorem dX6_init_86 : decode cX6_init 86 = .ok (.if_icmp .ge 24, 3) := by decide +kernel
theorem dX6_init_89 : decode cX6_init 89 = .ok (.aload_n 0, 1) := by decide +kernel
theorem dX6_init_90 : decode cX6_init 90 = .ok (.getfield 18, 3) := by decide +kernel
theorem dX6_init_93 : decode cX6_init 93 = .ok (.iload 5, 2) := by decide +kernel
theorem dX6_init_95 : decode cX6_init 95 = .ok (.new 16, 3) := by decide +kernel
theorem dX6_init_98 : decode cX6_init 98 = .ok (.dup, 1) := by decide +kernel
theorem dX6_init_99 : decode cX6_init 99 = .ok (.iload_n 3, 1) := by decide +kernel
theorem dX6_init_100 : decode cX6_init 100 = .ok (.invokespecial 22, 3) := by decide +kernel
theorem dX6_init_103 : decode cX6_init 103 = .ok (.aastore, 1) := by decide +kernel
theorem dX6_init_104 : decode cX6_init 104 = .ok (.iinc 5 1, 3) := by decide +kernel
theorem dX6_init_107 : decode cX6_init 107 = .ok (.goto (-25), 3) := by decide +kernel
theorem dX6_init_110 : decode cX6_init 110 = .ok (.aload_n 0, 1) := by decide +kernel
theorem dX6_init_111 : decode cX6_init 111 = .ok (.iconst 3, 1) := by decide +kernel
theorem dX6_init_112 : decode cX6_init 112 = .ok (.anewarray 25, 3) := by decide +kernel
theorem dX6_init_115 : decode cX6_init 115 = .ok (.putfield 27, 3) := by decide +kernel
theorem dX6_init_118 : decode cX6_init 118 = .ok (.iconst 0, 1) := by decide +kernel
theorem dX6_init_119 : decode cX6_init 119 = .ok (.istore 5, 2) := by decide +kernel
theorem dX6_init_121 : decode cX6_init 121 = .ok (.iload 5, 2) := by decide +kernel
theorem dX6_init_123 : decode cX6_init 123 = .ok (.iconst 3, 1) := by decide +kernel
theorem dX6_init_124 : decode cX6_init 124 = .ok (.if_icmp .ge 26, 3) := by decide +kernel
theorem dX6_init_127 : decode cX6_init 127 = .ok (.aload_n 0, 1) := by decide +kernel
theorem dX6_init_128 : decode cX6_init 128 = .ok (.getfield 27, 3) := by decide +kernel
theorem dX6_init_131 : decode cX6_init 131 = .ok (.iload 5, 2) := by decide +kernel
theorem dX6_init_133 : decode cX6_init 133 = .ok (.new 25, 3) := by decide +kernel
theorem dX6_init_136 : decode cX6_init 136 = .ok (.dup, 1) := by decide +kernel
theorem dX6_init_137 : decode cX6_init 137 = .ok (.iload_n 3, 1) := by decide +kernel
theorem dX6_init_138 : decode cX6_init 138 = .ok (.iload 4, 2) := by decide +kernel
theorem dX6_init_140 : decode cX6_init 140 = .ok (.invokespecial 31, 3) := by decide +kernel
theorem dX6_init_143 : decode cX6_init 143 = .ok (.aastore, 1) := by decide +kernel
theorem dX6_init_144 : decode cX6_init 144 = .ok (.iinc 5 1, 3) := by decide +kernel
theorem dX6_init_147 : decode cX6_init 147 = .ok (.goto (-26), 3) := by decide +kernel
theorem dX6_init_150 : decode cX6_init 150 = .ok (.aload_n 0, 1) := by decide +kernel
theorem dX6_init_151 : decode cX6_init 151 = .ok (.new 34, 3) := by decide +kernel
theorem dX6_init_154 : decode cX6_init 154 = .ok (.dup, 1) := by decide +kernel
theorem dX6_init_155 : decode cX6_init 155 = .ok (.iload_n 3, 1) := by decide +kernel
theorem dX6_init_156 : decode cX6_init 156 = .ok (.invokespecial 36, 3) := by decide +kernel
theorem dX6_init_159 : decode cX6_init 159 = .ok (.putfield 37, 3) := by decide +kernel
theorem dX6_init_162 : decode cX6_init 162 = .ok (.aload_n 0, 1) := by decide +kernel
theorem dX6_init_163 : decode cX6_init 163 = .ok (.new 41, 3) := by decide +kernel
theorem dX6_init_166 : decode cX6_init 166 = .ok (.dup, 1) := by decide +kernel
theorem dX6_init_167 : decode cX6_init 167 = .ok (.iload_n 3, 1) := by decide +kernel
theorem dX6_init_168 : decode cX6_init 168 = .ok (.iload 4, 2) := by decide +kernel
theorem dX6_init_170 : decode cX6_init 170 = .ok (.invokespecial 43, 3) := by decide +kernel
theorem dX6_init_173 : decode cX6_init 173 = .ok (.putfield 44, 3) := by decide +kernel
theorem dX6_init_176 : decode cX6_init 176 = .ok (.return_, 1) := by decide +kernel
theorem dX6_prepare_0 : decode cX6_prepare 0 = .ok (.iload_n 1, 1) := by decide +kernel
theorem dX6_prepare_1 : decode cX6_prepare 1 = .ok (.aload_n 0, 1) := by decide +kernel
theorem dX6_prepare_2 : decode cX6_prepare 2 = .ok (.getfield 11, 3) := by decide +kernel
theorem dX6_prepare_5 : decode cX6_prepare 5 = .ok (.arraylength, 1) := by decide +kernel
theorem dX6_prepare_6 : decode cX6_prepare 6 = .ok (.invokestatic 48, 3) := by decide +kernel
theorem dX6_prepare_9 : decode cX6_prepare 9 = .ok (.aload_n 0, 1) := by decide +kernel
theorem dX6_prepare_10 : decode cX6_prepare 10 = .ok (.iload_n 1, 1) := by decide +kernel
theorem dX6_prepare_11 : decode cX6_prepare 11 = .ok (.iconst 1, 1) := by decide +kernel
theorem dX6_prepare_12 : decode cX6_prepare 12 = .ok (.iconst 1, 1) := by decide +kernel
theorem dX6_prepare_13 : decode cX6_prepare 13 = .ok (.invokevirtual 51, 3) := by decide +kernel
theorem dX6_prepare_16 : decode cX6_prepare 16 = .ok (.ireturn, 1) := by decide +kernel
theorem dX6_refuse_0 : decode cX6_refuse 0 = .ok (.iload_n 1, 1) := by decide +kernel
theorem dX6_refuse_1 : decode cX6_refuse 1 = .ok (.aload_n 0, 1) := by decide +kernel
theorem dX6_refuse_2 : decode cX6_refuse 2 = .ok (.getfield 11, 3) := by decide +kernel
theorem dX6_refuse_5 : decode cX6_refuse 5 = .ok (.arraylength, 1) := by decide +kernel
theorem dX6_refuse_6 : decode cX6_refuse 6 = .ok (.invokestatic 48, 3) := by decide +kernel
theorem dX6_refuse_9 : decode cX6_refuse 9 = .ok (.aload_n 0, 1) := by decide +kernel
theorem dX6_refuse_10 : decode cX6_refuse 10 = .ok (.iload_n 1, 1) := by decide +kernel
theorem dX6_refuse_11 : decode cX6_refuse 11 = .ok (.iconst 2, 1) := by decide +kernel
theorem dX6_refuse_12 : decode cX6_refuse 12 = .ok (.iconst 2, 1) := by decide +kernel
theorem dX6_refuse_13 : decode cX6_refuse 13 = .ok (.invokevirtual 51, 3) := by decide +kernel
theorem dX6_refuse_16 : decode cX6_refuse 16 = .ok (.ireturn, 1) := by decide +kernel
theorem dX6_resend_0 : decode cX6_resend 0 = .ok (.iload_n 1, 1) := by decide +kernel
theorem dX6_resend_1 : decode cX6_resend 1 = .ok (.aload_n 0, 1) := by decide +kernel
theorem dX6_resend_2 : decode cX6_resend 2 = .ok (.getfield 11, 3) := by decide +kernel
theorem dX6_resend_5 : decode cX6_resend 5 = .ok (.arraylength, 1) := by decide +kernel
theorem dX6_resend_6 : decode cX6_resend 6 = .ok (.invokestatic 48, 3) := by decide +kernel
theorem dX6_resend_9 : decode cX6_resend 9 = .ok (.aload_n 0, 1) := by decide +kernel
theorem dX6_resend_10 : decode cX6_resend 10 = .ok (.getfield 11, 3) := by decide +kernel
theorem dX6_resend_13 : decode cX6_resend 13 = .ok (.iload_n 1, 1) := by decide +kernel
theorem dX6_resend_14 : decode cX6_resend 14 = .ok (.aaload, 1) := by decide +kernel
theorem dX6_resend_15 : decode cX6_resend 15 = .ok (.astore_n 2, 1) := by decide +kernel
theorem dX6_resend_16 : decode cX6_resend 16 = .ok (.aload_n 2, 1) := by decide +kernel
theorem dX6_resend_17 : decode cX6_resend 17 = .ok (.getfield 55, 3) := by decide +kernel
theorem dX6_resend_20 : decode cX6_resend 20 = .ok (.iconst 1, 1) := by decide +kernel
theorem dX6_resend_21 : decode cX6_resend 21 = .ok (.if_icmp .eq 11, 3) := by decide +kernel
theorem dX6_resend_24 : decode cX6_resend 24 = .ok (.aload_n 2, 1) := by decide +kernel
theorem dX6_resend_25 : decode cX6_resend 25 = .ok (.getfield 55, 3) := by decide +kernel
theorem dX6_resend_28 : decode cX6_resend 28 = .ok (.iconst 2, 1) := by decide +kernel
theorem dX6_resend_29 : decode cX6_resend 29 = .ok (.if_icmp .ne 7, 3) := by decide +kernel
theorem dX6_resend_32 : decode cX6_resend 32 = .ok (.iconst 1, 1) := by decide +kernel
theorem dX6_resend_33 : decode cX6_resend 33 = .ok (.goto 4, 3) := by decide +kernel
theorem dX6_resend_36 : decode cX6_resend 36 = .ok (.iconst 0, 1) := by decide +kernel
theorem dX6_resend_37 : decode cX6_resend 37 = .ok (.istore_n 3, 1) := by decide +kernel
theorem dX6_resend_38 : decode cX6_resend 38 = .ok (.aload_n 2, 1) := by decide +kernel
theorem dX6_resend_39 : decode cX6_resend 39 = .ok (.getfield 59, 3) := by decide +kernel
theorem dX6_resend_42 : decode cX6_resend 42 = .ok (.ifCond .eq 22, 3) := by decide +kernel
theorem dX6_resend_45 : decode cX6_resend 45 = .ok (.iload_n 3, 1) := by decide +kernel
theorem dX6_resend_46 : decode cX6_resend 46 = .ok (.ifCond .eq 18, 3) := by decide +kernel
theorem dX6_resend_49 : decode cX6_resend 49 = .ok (.aload_n 0, 1) := by decide +kernel
theorem dX6_resend_50 : decode cX6_resend 50 = .ok (.getfield 37, 3) := by decide +kernel
theorem dX6_resend_53 : decode cX6_resend 53 = .ok (.aload_n 0, 1) := by decide +kernel
theorem dX6_resend_54 : decode cX6_resend 54 = .ok (.getfield 18, 3) := by decide +kernel
theorem dX6_resend_57 : decode cX6_resend 57 = .ok (.arraylength, 1) := by decide +kernel
theorem dX6_resend_58 : decode cX6_resend 58 = .ok (.invokevirtual 63, 3) := by decide +kernel
theorem dX6_resend_61 : decode cX6_resend 61 = .ok (.ifCond .ne 5, 3) := by decide +kernel
theorem dX6_resend_64 : decode cX6_resend 64 = .ok (.iconst 0, 1) := by decide +kernel
theorem dX6_resend_65 : decode cX6_resend 65 = .ok (.ireturn, 1) := by decide +kernel
theorem dX6_resend_66 : decode cX6_resend 66 = .ok (.aload_n 0, 1) := by decide +kernel
theorem dX6_resend_67 : decode cX6_resend 67 = .ok (.iload_n 1, 1) := by decide +kernel
theorem dX6_resend_68 : decode cX6_resend 68 = .ok (.iconst 0, 1) := by decide +kernel
theorem dX6_resend_69 : decode cX6_resend 69 = .ok (.aload_n 2, 1) := by decide +kernel
theorem dX6_resend_70 : decode cX6_resend 70 = .ok (.getfield 67, 3) := by decide +kernel
theorem dX6_resend_73 : decode cX6_resend 73 = .ok (.invokevirtual 70, 3) := by decide +kernel
theorem dX6_resend_76 : decode cX6_resend 76 = .ok (.iconst 1, 1) := by decide +kernel
theorem dX6_resend_77 : decode cX6_resend 77 = .ok (.ireturn, 1) := by decide +kernel
theorem dX6_question_0 : decode cX6_question 0 = .ok (.iload_n 1, 1) := by decide +kernel
theorem dX6_question_1 : decode cX6_question 1 = .ok (.aload_n 0, 1) := by decide +kernel
theorem dX6_question_2 : decode cX6_question 2 = .ok (.getfield 11, 3) := by decide +kernel
theorem dX6_question_5 : decode cX6_question 5 = .ok (.arraylength, 1) := by decide +kernel
theorem dX6_question_6 : decode cX6_question 6 = .ok (.invokestatic 48, 3) := by decide +kernel
theorem dX6_question_9 : decode cX6_question 9 = .ok (.aload_n 0, 1) := by decide +kernel
theorem dX6_question_10 : decode cX6_question 10 = .ok (.getfield 11, 3) := by decide +kernel
theorem dX6_question_13 : decode cX6_question 13 = .ok (.iload_n 1, 1) := by decide +kernel
theorem dX6_question_14 : decode cX6_question 14 = .ok (.aaload, 1) := by decide +kernel
theorem dX6_question_15 : decode cX6_question 15 = .ok (.getfield 59, 3) := by decide +kernel
theorem dX6_question_18 : decode cX6_question 18 = .ok (.ifCond .eq 14, 3) := by decide +kernel
theorem dX6_question_21 : decode cX6_question 21 = .ok (.aload_n 0, 1) := by decide +kernel
theorem dX6_question_22 : decode cX6_question 22 = .ok (.getfield 37, 3) := by decide +kernel
theorem dX6_question_25 : decode cX6_question 25 = .ok (.iconst 3, 1) := by decide +kernel
theorem dX6_question_26 : decode cX6_question 26 = .ok (.invokevirtual 63, 3) := by decide +kernel
theorem dX6_question_29 : decode cX6_question 29 = .ok (.ifCond .ne 5, 3) := by decide +kernel
theorem dX6_question_32 : decode cX6_question 32 = .ok (.iconst 0, 1) := by decide +kernel
theorem dX6_question_33 : decode cX6_question 33 = .ok (.ireturn, 1) := by decide +kernel
theorem dX6_question_34 : decode cX6_question 34 = .ok (.iconst 0, 1) := by decide +kernel
theorem dX6_question_35 : decode cX6_question 35 = .ok (.istore_n 2, 1) := by decide +kernel
theorem dX6_question_36 : decode cX6_question 36 = .ok (.iload_n 2, 1) := by decide +kernel
theorem dX6_question_37 : decode cX6_question 37 = .ok (.iconst 3, 1) := by decide +kernel
theorem dX6_question_38 : decode cX6_question 38 = .ok (.if_icmp .ge 22, 3) := by decide +kernel
theorem dX6_question_41 : decode cX6_question 41 = .ok (.aload_n 0, 1) := by decide +kernel
theorem dX6_question_42 : decode cX6_question 42 = .ok (.getfield 37, 3) := by decide +kernel
theorem dX6_question_45 : decode cX6_question 45 = .ok (.iconst 5, 1) := by decide +kernel
theorem dX6_question_46 : decode cX6_question 46 = .ok (.iload_n 2, 1) := by decide +kernel
theorem dX6_question_47 : decode cX6_question 47 = .ok (.iload_n 1, 1) := by decide +kernel
theorem dX6_question_48 : decode cX6_question 48 = .ok (.iconst (-1), 1) := by decide +kernel
theorem dX6_question_49 : decode cX6_question 49 = .ok (.iconst (-1), 1) := by decide +kernel
theorem dX6_question_50 : decode cX6_question 50 = .ok (.iconst (-1), 1) := by decide +kernel
theorem dX6_question_51 : decode cX6_question 51 = .ok (.invokevirtual 74, 3) := by decide +kernel
theorem dX6_question_54 : decode cX6_question 54 = .ok (.iinc 2 1, 3) := by decide +kernel
theorem dX6_question_57 : decode cX6_question 57 = .ok (.goto (-21), 3) := by decide +kernel
theorem dX6_question_60 : decode cX6_question 60 = .ok (.iconst 1, 1) := by decide +kernel
theorem dX6_question_61 : decode cX6_question 61 = .ok (.ireturn, 1) := by decide +kernel
theorem dX6_begin_0 : decode cX6_begin 0 = .ok (.iload_n 1, 1) := by decide +kernel
theorem dX6_begin_1 : decode cX6_begin 1 = .ok (.iconst 3, 1) := by decide +kernel
theorem dX6_begin_2 : decode cX6_begin 2 = .ok (.invokestatic 48, 3) := by decide +kernel
theorem dX6_begin_5 : decode cX6_begin 5 = .ok (.aload_n 0, 1) := by decide +kernel
theorem dX6_begin_6 : decode cX6_begin 6 = .ok (.getfield 27, 3) := by decide +kernel
theorem dX6_begin_9 : decode cX6_begin 9 = .ok (.iload_n 1, 1) := by decide +kernel
theorem dX6_begin_10 : decode cX6_begin 10 = .ok (.aaload, 1) := by decide +kernel
theorem dX6_begin_11 : decode cX6_begin 11 = .ok (.astore_n 2, 1) := by decide +kernel
theorem dX6_begin_12 : decode cX6_begin 12 = .ok (.iload_n 1, 1) := by decide +kernel
theorem dX6_begin_13 : decode cX6_begin 13 = .ok (.aload_n 2, 1) := by decide +kernel
theorem dX6_begin_14 : decode cX6_begin 14 = .ok (.getfield 78, 3) := by decide +kernel
theorem dX6_begin_17 : decode cX6_begin 17 = .ok (.invokestatic 81, 3) := by decide +kernel
theorem dX6_begin_20 : decode cX6_begin 20 = .ok (.istore_n 3, 1) := by decide +kernel
theorem dX6_begin_21 : decode cX6_begin 21 = .ok (.aload_n 0, 1) := by decide +kernel
theorem dX6_begin_22 : decode cX6_begin 22 = .ok (.getfield 18, 3) := by decide +kernel
theorem dX6_begin_25 : decode cX6_begin 25 = .ok (.arraylength, 1) := by decide +kernel
theorem dX6_begin_26 : decode cX6_begin 26 = .ok (.aload_n 2, 1) := by decide +kernel
theorem dX6_begin_27 : decode cX6_begin 27 = .ok (.getfield 85, 3) := by decide +kernel
theorem dX6_begin_30 : decode cX6_begin 30 = .ok (.ifCond .eq 11, 3) := by decide +kernel
theorem dX6_begin_33 : decode cX6_begin 33 = .ok (.aload_n 0, 1) := by decide +kernel
theorem dX6_begin_34 : decode cX6_begin 34 = .ok (.getfield 11, 3) := by decide +kernel
theorem dX6_begin_37 : decode cX6_begin 37 = .ok (.arraylength, 1) := by decide +kernel
theorem dX6_begin_38 : decode cX6_begin 38 = .ok (.goto 4, 3) := by decide +kernel
theorem dX6_begin_41 : decode cX6_begin 41 = .ok (.iconst 0, 1) := by decide +kernel
theorem dX6_begin_42 : decode cX6_begin 42 = .ok (.iadd, 1) := by decide +kernel
theorem dX6_begin_43 : decode cX6_begin 43 = .ok (.istore 4, 2) := by decide +kernel
theorem dX6_begin_45 : decode cX6_begin 45 = .ok (.aload_n 2, 1) := by decide +kernel
theorem dX6_begin_46 : decode cX6_begin 46 = .ok (.getfield 88, 3) := by decide +kernel
theorem dX6_begin_49 : decode cX6_begin 49 = .ok (.ifCond .eq 22, 3) := by decide +kernel
theorem dX6_begin_52 : decode cX6_begin 52 = .ok (.iload_n 3, 1) := by decide +kernel
theorem dX6_begin_53 : decode cX6_begin 53 = .ok (.sipush 1536, 3) := by decide +kernel
theorem dX6_begin_56 : decode cX6_begin 56 = .ok (.if_icmp .gt 15, 3) := by decide +kernel
theorem dX6_begin_59 : decode cX6_begin 59 = .ok (.aload_n 0, 1) := by decide +kernel
theorem dX6_begin_60 : decode cX6_begin 60 = .ok (.getfield 37, 3) := by decide +kernel
theorem dX6_begin_63 : decode cX6_begin 63 = .ok (.iload 4, 2) := by decide +kernel
theorem dX6_begin_65 : decode cX6_begin 65 = .ok (.invokevirtual 63, 3) := by decide +kernel
theorem dX6_begin_68 : decode cX6_begin 68 = .ok (.ifCond .ne 5, 3) := by decide +kernel
theorem dX6_begin_71 : decode cX6_begin 71 = .ok (.iconst (-1), 1) := by decide +kernel
theorem dX6_begin_72 : decode cX6_begin 72 = .ok (.ireturn, 1) := by decide +kernel
theorem dX6_begin_73 : decode cX6_begin 73 = .ok (.aload_n 2, 1) := by decide +kernel
theorem dX6_begin_74 : decode cX6_begin 74 = .ok (.iload_n 3, 1) := by decide +kernel
theorem dX6_begin_75 : decode cX6_begin 75 = .ok (.invokevirtual 89, 3) := by decide +kernel
theorem dX6_begin_78 : decode cX6_begin 78 = .ok (.aload_n 0, 1) := by decide +kernel
theorem dX6_begin_79 : decode cX6_begin 79 = .ok (.dup, 1) := by decide +kernel
theorem dX6_begin_80 : decode cX6_begin 80 = .ok (.getfield 92, 3) := by decide +kernel
theorem dX6_begin_83 : decode cX6_begin 83 = .ok (.iconst 1, 1) := by decide +kernel
theorem dX6_begin_84 : decode cX6_begin 84 = .ok (.iadd, 1) := by decide +kernel
theorem dX6_begin_85 : decode cX6_begin 85 = .ok (.putfield 92, 3) := by decide +kernel
theorem dX6_begin_88 : decode cX6_begin 88 = .ok (.iconst 0, 1) := by decide +kernel
theorem dX6_begin_89 : decode cX6_begin 89 = .ok (.istore 5, 2) := by decide +kernel
theorem dX6_begin_91 : decode cX6_begin 91 = .ok (.iload 5, 2) := by decide +kernel
theorem dX6_begin_93 : decode cX6_begin 93 = .ok (.aload_n 0, 1) := by decide +kernel
theorem dX6_begin_94 : decode cX6_begin 94 = .ok (.getfield 18, 3) := by decide +kernel
theorem dX6_begin_97 : decode cX6_begin 97 = .ok (.arraylength, 1) := by decide +kernel
theorem dX6_begin_98 : decode cX6_begin 98 = .ok (.if_icmp .ge 23, 3) := by decide +kernel
theorem dX6_begin_101 : decode cX6_begin 101 = .ok (.aload_n 0, 1) := by decide +kernel
theorem dX6_begin_102 : decode cX6_begin 102 = .ok (.getfield 37, 3) := by decide +kernel
theorem dX6_begin_105 : decode cX6_begin 105 = .ok (.iconst 2, 1) := by decide +kernel
theorem dX6_begin_106 : decode cX6_begin 106 = .ok (.iload 5, 2) := by decide +kernel
theorem dX6_begin_108 : decode cX6_begin 108 = .ok (.iconst (-1), 1) := by decide +kernel
theorem dX6_begin_109 : decode cX6_begin 109 = .ok (.iconst (-1), 1) := by decide +kernel
theorem dX6_begin_110 : decode cX6_begin 110 = .ok (.iload_n 3, 1) := by decide +kernel
theorem dX6_begin_111 : decode cX6_begin 111 = .ok (.iconst (-1), 1) := by decide +kernel
theorem dX6_begin_112 : decode cX6_begin 112 = .ok (.invokevirtual 74, 3) := by decide +kernel
theorem dX6_begin_115 : decode cX6_begin 115 = .ok (.iinc 5 1, 3) := by decide +kernel
theorem dX6_begin_118 : decode cX6_begin 118 = .ok (.goto (-27), 3) := by decide +kernel
theorem dX6_begin_121 : decode cX6_begin 121 = .ok (.aload_n 2, 1) := by decide +kernel
theorem dX6_begin_122 : decode cX6_begin 122 = .ok (.getfield 85, 3) := by decide +kernel
theorem dX6_begin_125 : decode cX6_begin 125 = .ok (.ifCond .eq 11, 3) := by decide +kernel
theorem dX6_begin_128 : decode cX6_begin 128 = .ok (.aload_n 0, 1) := by decide +kernel
theorem dX6_begin_129 : decode cX6_begin 129 = .ok (.aload_n 2, 1) := by decide +kernel
theorem dX6_begin_130 : decode cX6_begin 130 = .ok (.getfield 85, 3) := by decide +kernel
theorem dX6_begin_133 : decode cX6_begin 133 = .ok (.invokevirtual 95, 3) := by decide +kernel
theorem dX6_begin_136 : decode cX6_begin 136 = .ok (.iload_n 3, 1) := by decide +kernel
theorem dX6_begin_137 : decode cX6_begin 137 = .ok (.ireturn, 1) := by decide +kernel
theorem dX6_deliver_0 : decode cX6_deliver 0 = .ok (.iload_n 1, 1) := by decide +kernel
theorem dX6_deliver_1 : decode cX6_deliver 1 = .ok (.aload_n 0, 1) := by decide +kernel
theorem dX6_deliver_2 : decode cX6_deliver 2 = .ok (.getfield 37, 3) := by decide +kernel
theorem dX6_deliver_5 : decode cX6_deliver 5 = .ok (.getfield 98, 3) := by decide +kernel
theorem dX6_deliver_8 : decode cX6_deliver 8 = .ok (.invokestatic 48, 3) := by decide +kernel
theorem dX6_deliver_11 : decode cX6_deliver 11 = .ok (.aload_n 0, 1) := by decide +kernel
theorem dX6_deliver_12 : decode cX6_deliver 12 = .ok (.iload_n 1, 1) := by decide +kernel
theorem dX6_deliver_13 : decode cX6_deliver 13 = .ok (.invokevirtual 101, 3) := by decide +kernel
theorem dX6_deliver_16 : decode cX6_deliver 16 = .ok (.ireturn, 1) := by decide +kernel
theorem dX6_drop_0 : decode cX6_drop 0 = .ok (.iload_n 1, 1) := by decide +kernel
theorem dX6_drop_1 : decode cX6_drop 1 = .ok (.aload_n 0, 1) := by decide +kernel
theorem dX6_drop_2 : decode cX6_drop 2 = .ok (.getfield 37, 3) := by decide +kernel
theorem dX6_drop_5 : decode cX6_drop 5 = .ok (.getfield 98, 3) := by decide +kernel
theorem dX6_drop_8 : decode cX6_drop 8 = .ok (.invokestatic 48, 3) := by decide +kernel
theorem dX6_drop_11 : decode cX6_drop 11 = .ok (.aload_n 0, 1) := by decide +kernel
theorem dX6_drop_12 : decode cX6_drop 12 = .ok (.getfield 37, 3) := by decide +kernel
theorem dX6_drop_15 : decode cX6_drop 15 = .ok (.iload_n 1, 1) := by decide +kernel
theorem dX6_drop_16 : decode cX6_drop 16 = .ok (.invokevirtual 105, 3) := by decide +kernel
theorem dX6_drop_19 : decode cX6_drop 19 = .ok (.return_, 1) := by decide +kernel
theorem dX6_copy_0 : decode cX6_copy 0 = .ok (.iload_n 1, 1) := by decide +kernel
theorem dX6_copy_1 : decode cX6_copy 1 = .ok (.aload_n 0, 1) := by decide +kernel
theorem dX6_copy_2 : decode cX6_copy 2 = .ok (.getfield 37, 3) := by decide +kernel
theorem dX6_copy_5 : decode cX6_copy 5 = .ok (.getfield 98, 3) := by decide +kernel
theorem dX6_copy_8 : decode cX6_copy 8 = .ok (.invokestatic 48, 3) := by decide +kernel
theorem dX6_copy_11 : decode cX6_copy 11 = .ok (.aload_n 0, 1) := by decide +kernel
theorem dX6_copy_12 : decode cX6_copy 12 = .ok (.getfield 37, 3) := by decide +kernel
theorem dX6_copy_15 : decode cX6_copy 15 = .ok (.iconst 1, 1) := by decide +kernel
theorem dX6_copy_16 : decode cX6_copy 16 = .ok (.invokevirtual 63, 3) := by decide +kernel
theorem dX6_copy_19 : decode cX6_copy 19 = .ok (.ifCond .ne 5, 3) := by decide +kernel
theorem dX6_copy_22 : decode cX6_copy 22 = .ok (.iconst (-1), 1) := by decide +kernel
theorem dX6_copy_23 : decode cX6_copy 23 = .ok (.ireturn, 1) := by decide +kernel
theorem dX6_copy_24 : decode cX6_copy 24 = .ok (.aload_n 0, 1) := by decide +kernel
theorem dX6_copy_25 : decode cX6_copy 25 = .ok (.getfield 37, 3) := by decide +kernel
theorem dX6_copy_28 : decode cX6_copy 28 = .ok (.iload_n 1, 1) := by decide +kernel
theorem dX6_copy_29 : decode cX6_copy 29 = .ok (.invokevirtual 108, 3) := by decide +kernel
theorem dX6_copy_32 : decode cX6_copy 32 = .ok (.aload_n 0, 1) := by decide +kernel
theorem dX6_copy_33 : decode cX6_copy 33 = .ok (.getfield 37, 3) := by decide +kernel
theorem dX6_copy_36 : decode cX6_copy 36 = .ok (.getfield 98, 3) := by decide +kernel
theorem dX6_copy_39 : decode cX6_copy 39 = .ok (.ireturn, 1) := by decide +kernel
theorem dX6_calm_0 : decode cX6_calm 0 = .ok (.iload_n 1, 1) := by decide +kernel
theorem dX6_calm_1 : decode cX6_calm 1 = .ok (.ifCond .lt 10, 3) := by decide +kernel
theorem dX6_calm_4 : decode cX6_calm 4 = .ok (.iload_n 1, 1) := by decide +kernel
theorem dX6_calm_5 : decode cX6_calm 5 = .ok (.sipush 400, 3) := by decide +kernel
theorem dX6_calm_8 : decode cX6_calm 8 = .ok (.if_icmp .le 13, 3) := by decide +kernel
theorem dX6_calm_11 : decode cX6_calm 11 = .ok (.new 111, 3) := by decide +kernel
theorem dX6_calm_14 : decode cX6_calm 14 = .ok (.dup, 1) := by decide +kernel
theorem dX6_calm_15 : decode cX6_calm 15 = .ok (.ldc 113, 2) := by decide +kernel
theorem dX6_calm_17 : decode cX6_calm 17 = .ok (.invokespecial 115, 3) := by decide +kernel
theorem dX6_calm_20 : decode cX6_calm 20 = .ok (.athrow, 1) := by decide +kernel
theorem dX6_calm_21 : decode cX6_calm 21 = .ok (.iconst 0, 1) := by decide +kernel
theorem dX6_calm_22 : decode cX6_calm 22 = .ok (.istore_n 2, 1) := by decide +kernel
theorem dX6_calm_23 : decode cX6_calm 23 = .ok (.iload_n 2, 1) := by decide +kernel
theorem dX6_calm_24 : decode cX6_calm 24 = .ok (.iload_n 1, 1) := by decide +kernel
theorem dX6_calm_25 : decode cX6_calm 25 = .ok (.if_icmp .ge 28, 3) := by decide +kernel
theorem dX6_calm_28 : decode cX6_calm 28 = .ok (.aload_n 0, 1) := by decide +kernel
theorem dX6_calm_29 : decode cX6_calm 29 = .ok (.getfield 37, 3) := by decide +kernel
theorem dX6_calm_32 : decode cX6_calm 32 = .ok (.getfield 98, 3) := by decide +kernel
theorem dX6_calm_35 : decode cX6_calm 35 = .ok (.ifCond .le 18, 3) := by decide +kernel
theorem dX6_calm_38 : decode cX6_calm 38 = .ok (.aload_n 0, 1) := by decide +kernel
theorem dX6_calm_39 : decode cX6_calm 39 = .ok (.iconst 0, 1) := by decide +kernel
theorem dX6_calm_40 : decode cX6_calm 40 = .ok (.invokevirtual 101, 3) := by decide +kernel
theorem dX6_calm_43 : decode cX6_calm 43 = .ok (.iconst (-1), 1) := by decide +kernel
theorem dX6_calm_44 : decode cX6_calm 44 = .ok (.if_icmp .eq 9, 3) := by decide +kernel
theorem dX6_calm_47 : decode cX6_calm 47 = .ok (.iinc 2 1, 3) := by decide +kernel
theorem dX6_calm_50 : decode cX6_calm 50 = .ok (.goto (-27), 3) := by decide +kernel
theorem dX6_calm_53 : decode cX6_calm 53 = .ok (.iload_n 2, 1) := by decide +kernel
theorem dX6_calm_54 : decode cX6_calm 54 = .ok (.ireturn, 1) := by decide +kernel
theorem dX6_crash_0 : decode cX6_crash 0 = .ok (.aload_n 0, 1) := by decide +kernel
theorem dX6_crash_1 : decode cX6_crash 1 = .ok (.iload_n 1, 1) := by decide +kernel
theorem dX6_crash_2 : decode cX6_crash 2 = .ok (.iload_n 2, 1) := by decide +kernel
theorem dX6_crash_3 : decode cX6_crash 3 = .ok (.invokevirtual 118, 3) := by decide +kernel
theorem dX6_crash_6 : decode cX6_crash 6 = .ok (.astore_n 3, 1) := by decide +kernel
theorem dX6_crash_7 : decode cX6_crash 7 = .ok (.aload_n 3, 1) := by decide +kernel
theorem dX6_crash_8 : decode cX6_crash 8 = .ok (.getfield 122, 3) := by decide +kernel
theorem dX6_crash_11 : decode cX6_crash 11 = .ok (.ifCond .ne 5, 3) := by decide +kernel
theorem dX6_crash_14 : decode cX6_crash 14 = .ok (.iconst 0, 1) := by decide +kernel
theorem dX6_crash_15 : decode cX6_crash 15 = .ok (.ireturn, 1) := by decide +kernel
theorem dX6_crash_16 : decode cX6_crash 16 = .ok (.aload_n 3, 1) := by decide +kernel
theorem dX6_crash_17 : decode cX6_crash 17 = .ok (.iconst 0, 1) := by decide +kernel
theorem dX6_crash_18 : decode cX6_crash 18 = .ok (.putfield 122, 3) := by decide +kernel
theorem dX6_crash_21 : decode cX6_crash 21 = .ok (.aload_n 3, 1) := by decide +kernel
theorem dX6_crash_22 : decode cX6_crash 22 = .ok (.invokevirtual 125, 3) := by decide +kernel
theorem dX6_crash_25 : decode cX6_crash 25 = .ok (.iconst 1, 1) := by decide +kernel
theorem dX6_crash_26 : decode cX6_crash 26 = .ok (.ireturn, 1) := by decide +kernel
theorem dX6_recover_0 : decode cX6_recover 0 = .ok (.aload_n 0, 1) := by decide +kernel
theorem dX6_recover_1 : decode cX6_recover 1 = .ok (.iload_n 1, 1) := by decide +kernel
theorem dX6_recover_2 : decode cX6_recover 2 = .ok (.iload_n 2, 1) := by decide +kernel
theorem dX6_recover_3 : decode cX6_recover 3 = .ok (.invokevirtual 118, 3) := by decide +kernel
theorem dX6_recover_6 : decode cX6_recover 6 = .ok (.astore_n 3, 1) := by decide +kernel
theorem dX6_recover_7 : decode cX6_recover 7 = .ok (.aload_n 3, 1) := by decide +kernel
theorem dX6_recover_8 : decode cX6_recover 8 = .ok (.getfield 122, 3) := by decide +kernel
theorem dX6_recover_11 : decode cX6_recover 11 = .ok (.ifCond .ne 7, 3) := by decide +kernel
theorem dX6_recover_14 : decode cX6_recover 14 = .ok (.iconst 1, 1) := by decide +kernel
theorem dX6_recover_15 : decode cX6_recover 15 = .ok (.goto 4, 3) := by decide +kernel
theorem dX6_recover_18 : decode cX6_recover 18 = .ok (.iconst 0, 1) := by decide +kernel
theorem dX6_recover_19 : decode cX6_recover 19 = .ok (.istore 4, 2) := by decide +kernel
theorem dX6_recover_21 : decode cX6_recover 21 = .ok (.aload_n 3, 1) := by decide +kernel
theorem dX6_recover_22 : decode cX6_recover 22 = .ok (.iconst 1, 1) := by decide +kernel
theorem dX6_recover_23 : decode cX6_recover 23 = .ok (.putfield 122, 3) := by decide +kernel
theorem dX6_recover_26 : decode cX6_recover 26 = .ok (.iload 4, 2) := by decide +kernel
theorem dX6_recover_28 : decode cX6_recover 28 = .ok (.ireturn, 1) := by decide +kernel
theorem dX6_message_0 : decode cX6_message 0 = .ok (.iload_n 1, 1) := by decide +kernel
theorem dX6_message_1 : decode cX6_message 1 = .ok (.aload_n 0, 1) := by decide +kernel
theorem dX6_message_2 : decode cX6_message 2 = .ok (.getfield 37, 3) := by decide +kernel
theorem dX6_message_5 : decode cX6_message 5 = .ok (.getfield 98, 3) := by decide +kernel
theorem dX6_message_8 : decode cX6_message 8 = .ok (.invokestatic 48, 3) := by decide +kernel
theorem dX6_message_11 : decode cX6_message 11 = .ok (.aload_n 0, 1) := by decide +kernel
theorem dX6_message_12 : decode cX6_message 12 = .ok (.getfield 37, 3) := by decide +kernel
theorem dX6_message_15 : decode cX6_message 15 = .ok (.iload_n 1, 1) := by decide +kernel
theorem dX6_message_16 : decode cX6_message 16 = .ok (.iload_n 2, 1) := by decide +kernel
theorem dX6_message_17 : decode cX6_message 17 = .ok (.invokevirtual 128, 3) := by decide +kernel
theorem dX6_message_20 : decode cX6_message 20 = .ok (.ireturn, 1) := by decide +kernel
theorem dX6_told_0 : decode cX6_told 0 = .ok (.iload_n 1, 1) := by decide +kernel
theorem dX6_told_1 : decode cX6_told 1 = .ok (.aload_n 0, 1) := by decide +kernel
theorem dX6_told_2 : decode cX6_told 2 = .ok (.getfield 37, 3) := by decide +kernel
theorem dX6_told_5 : decode cX6_told 5 = .ok (.getfield 98, 3) := by decide +kernel
theorem dX6_told_8 : decode cX6_told 8 = .ok (.invokestatic 48, 3) := by decide +kernel
theorem dX6_told_11 : decode cX6_told 11 = .ok (.iload_n 2, 1) := by decide +kernel
theorem dX6_told_12 : decode cX6_told 12 = .ok (.aload_n 0, 1) := by decide +kernel
theorem dX6_told_13 : decode cX6_told 13 = .ok (.getfield 11, 3) := by decide +kernel
theorem dX6_told_16 : decode cX6_told 16 = .ok (.arraylength, 1) := by decide +kernel
theorem dX6_told_17 : decode cX6_told 17 = .ok (.invokestatic 48, 3) := by decide +kernel
theorem dX6_told_20 : decode cX6_told 20 = .ok (.aload_n 0, 1) := by decide +kernel
theorem dX6_told_21 : decode cX6_told 21 = .ok (.getfield 37, 3) := by decide +kernel
theorem dX6_told_24 : decode cX6_told 24 = .ok (.iload_n 1, 1) := by decide +kernel
theorem dX6_told_25 : decode cX6_told 25 = .ok (.iconst 0, 1) := by decide +kernel
theorem dX6_told_26 : decode cX6_told 26 = .ok (.invokevirtual 128, 3) := by decide +kernel
theorem dX6_told_29 : decode cX6_told 29 = .ok (.iconst 3, 1) := by decide +kernel
theorem dX6_told_30 : decode cX6_told 30 = .ok (.if_icmp .eq 5, 3) := by decide +kernel
theorem dX6_told_33 : decode cX6_told 33 = .ok (.iconst (-1), 1) := by decide +kernel
theorem dX6_told_34 : decode cX6_told 34 = .ok (.ireturn, 1) := by decide +kernel
theorem dX6_told_35 : decode cX6_told 35 = .ok (.aload_n 0, 1) := by decide +kernel
theorem dX6_told_36 : decode cX6_told 36 = .ok (.getfield 37, 3) := by decide +kernel
theorem dX6_told_39 : decode cX6_told 39 = .ok (.iload_n 1, 1) := by decide +kernel
theorem dX6_told_40 : decode cX6_told 40 = .ok (.iload_n 2, 1) := by decide +kernel
theorem dX6_told_41 : decode cX6_told 41 = .ok (.invokevirtual 131, 3) := by decide +kernel
theorem dX6_told_44 : decode cX6_told 44 = .ok (.istore 4, 2) := by decide +kernel
theorem dX6_told_46 : decode cX6_told 46 = .ok (.iload_n 3, 1) := by decide +kernel
theorem dX6_told_47 : decode cX6_told 47 = .ok (.ifCond .eq 11, 3) := by decide +kernel
theorem dX6_told_50 : decode cX6_told 50 = .ok (.iload 4, 2) := by decide +kernel
theorem dX6_told_52 : decode cX6_told 52 = .ok (.invokestatic 134, 3) := by decide +kernel
theorem dX6_told_55 : decode cX6_told 55 = .ok (.goto 8, 3) := by decide +kernel
theorem dX6_told_58 : decode cX6_told 58 = .ok (.iload 4, 2) := by decide +kernel
theorem dX6_told_60 : decode cX6_told 60 = .ok (.invokestatic 137, 3) := by decide +kernel
theorem dX6_told_63 : decode cX6_told 63 = .ok (.ireturn, 1) := by decide +kernel
theorem dX6_manager_0 : decode cX6_manager 0 = .ok (.iload_n 1, 1) := by decide +kernel
theorem dX6_manager_1 : decode cX6_manager 1 = .ok (.aload_n 0, 1) := by decide +kernel
theorem dX6_manager_2 : decode cX6_manager 2 = .ok (.getfield 11, 3) := by decide +kernel
theorem dX6_manager_5 : decode cX6_manager 5 = .ok (.arraylength, 1) := by decide +kernel
theorem dX6_manager_6 : decode cX6_manager 6 = .ok (.invokestatic 48, 3) := by decide +kernel
theorem dX6_manager_9 : decode cX6_manager 9 = .ok (.aload_n 0, 1) := by decide +kernel
theorem dX6_manager_10 : decode cX6_manager 10 = .ok (.getfield 11, 3) := by decide +kernel
theorem dX6_manager_13 : decode cX6_manager 13 = .ok (.iload_n 1, 1) := by decide +kernel
theorem dX6_manager_14 : decode cX6_manager 14 = .ok (.aaload, 1) := by decide +kernel
theorem dX6_manager_15 : decode cX6_manager 15 = .ok (.astore_n 3, 1) := by decide +kernel
theorem dX6_manager_16 : decode cX6_manager 16 = .ok (.iload_n 2, 1) := by decide +kernel
theorem dX6_manager_17 : decode cX6_manager 17 = .ok (.lookupswitch 45 #[(0, 27), (1, 32)], 27) := by decide +kernel
theorem dX6_manager_44 : decode cX6_manager 44 = .ok (.aload_n 3, 1) := by decide +kernel
theorem dX6_manager_45 : decode cX6_manager 45 = .ok (.getfield 55, 3) := by decide +kernel
theorem dX6_manager_48 : decode cX6_manager 48 = .ok (.ireturn, 1) := by decide +kernel
theorem dX6_manager_49 : decode cX6_manager 49 = .ok (.aload_n 3, 1) := by decide +kernel
theorem dX6_manager_50 : decode cX6_manager 50 = .ok (.getfield 59, 3) := by decide +kernel
theorem dX6_manager_53 : decode cX6_manager 53 = .ok (.ifCond .eq 7, 3) := by decide +kernel
theorem dX6_manager_56 : decode cX6_manager 56 = .ok (.iconst 1, 1) := by decide +kernel
theorem dX6_manager_57 : decode cX6_manager 57 = .ok (.goto 4, 3) := by decide +kernel
theorem dX6_manager_60 : decode cX6_manager 60 = .ok (.iconst 0, 1) := by decide +kernel
theorem dX6_manager_61 : decode cX6_manager 61 = .ok (.ireturn, 1) := by decide +kernel
theorem dX6_manager_62 : decode cX6_manager 62 = .ok (.iconst (-1), 1) := by decide +kernel
theorem dX6_manager_63 : decode cX6_manager 63 = .ok (.ireturn, 1) := by decide +kernel
theorem dX6_acceptor_0 : decode cX6_acceptor 0 = .ok (.iload_n 1, 1) := by decide +kernel
theorem dX6_acceptor_1 : decode cX6_acceptor 1 = .ok (.aload_n 0, 1) := by decide +kernel
theorem dX6_acceptor_2 : decode cX6_acceptor 2 = .ok (.getfield 18, 3) := by decide +kernel
theorem dX6_acceptor_5 : decode cX6_acceptor 5 = .ok (.arraylength, 1) := by decide +kernel
theorem dX6_acceptor_6 : decode cX6_acceptor 6 = .ok (.invokestatic 48, 3) := by decide +kernel
theorem dX6_acceptor_9 : decode cX6_acceptor 9 = .ok (.iload_n 2, 1) := by decide +kernel
theorem dX6_acceptor_10 : decode cX6_acceptor 10 = .ok (.aload_n 0, 1) := by decide +kernel
theorem dX6_acceptor_11 : decode cX6_acceptor 11 = .ok (.getfield 11, 3) := by decide +kernel
theorem dX6_acceptor_14 : decode cX6_acceptor 14 = .ok (.arraylength, 1) := by decide +kernel
theorem dX6_acceptor_15 : decode cX6_acceptor 15 = .ok (.invokestatic 48, 3) := by decide +kernel
theorem dX6_acceptor_18 : decode cX6_acceptor 18 = .ok (.aload_n 0, 1) := by decide +kernel
theorem dX6_acceptor_19 : decode cX6_acceptor 19 = .ok (.getfield 18, 3) := by decide +kernel
theorem dX6_acceptor_22 : decode cX6_acceptor 22 = .ok (.iload_n 1, 1) := by decide +kernel
theorem dX6_acceptor_23 : decode cX6_acceptor 23 = .ok (.aaload, 1) := by decide +kernel
theorem dX6_acceptor_24 : decode cX6_acceptor 24 = .ok (.astore 4, 2) := by decide +kernel
theorem dX6_acceptor_26 : decode cX6_acceptor 26 = .ok (.iload_n 3, 1) := by decide +kernel
theorem dX6_acceptor_27 : decode cX6_acceptor 27 = .ok (.tableswitch 71 0 3 #[29, 35, 49, 60], 29) := by decide +kernel
theorem dX6_acceptor_56 : decode cX6_acceptor 56 = .ok (.aload 4, 2) := by decide +kernel
theorem dX6_acceptor_58 : decode cX6_acceptor 58 = .ok (.getfield 140, 3) := by decide +kernel
theorem dX6_acceptor_61 : decode cX6_acceptor 61 = .ok (.ireturn, 1) := by decide +kernel
theorem dX6_acceptor_62 : decode cX6_acceptor 62 = .ok (.aload 4, 2) := by decide +kernel
theorem dX6_acceptor_64 : decode cX6_acceptor 64 = .ok (.getfield 143, 3) := by decide +kernel
theorem dX6_acceptor_67 : decode cX6_acceptor 67 = .ok (.ifCond .eq 7, 3) := by decide +kernel
theorem dX6_acceptor_70 : decode cX6_acceptor 70 = .ok (.iconst 1, 1) := by decide +kernel
theorem dX6_acceptor_71 : decode cX6_acceptor 71 = .ok (.goto 4, 3) := by decide +kernel
theorem dX6_acceptor_74 : decode cX6_acceptor 74 = .ok (.iconst 0, 1) := by decide +kernel
theorem dX6_acceptor_75 : decode cX6_acceptor 75 = .ok (.ireturn, 1) := by decide +kernel
theorem dX6_acceptor_76 : decode cX6_acceptor 76 = .ok (.aload 4, 2) := by decide +kernel
theorem dX6_acceptor_78 : decode cX6_acceptor 78 = .ok (.getfield 144, 3) := by decide +kernel
theorem dX6_acceptor_81 : decode cX6_acceptor 81 = .ok (.iload_n 2, 1) := by decide +kernel
theorem dX6_acceptor_82 : decode cX6_acceptor 82 = .ok (.iaload, 1) := by decide +kernel
theorem dX6_acceptor_83 : decode cX6_acceptor 83 = .ok (.invokestatic 134, 3) := by decide +kernel
theorem dX6_acceptor_86 : decode cX6_acceptor 86 = .ok (.ireturn, 1) := by decide +kernel
theorem dX6_acceptor_87 : decode cX6_acceptor 87 = .ok (.aload 4, 2) := by decide +kernel
theorem dX6_acceptor_89 : decode cX6_acceptor 89 = .ok (.getfield 144, 3) := by decide +kernel
theorem dX6_acceptor_92 : decode cX6_acceptor 92 = .ok (.iload_n 2, 1) := by decide +kernel
theorem dX6_acceptor_93 : decode cX6_acceptor 93 = .ok (.iaload, 1) := by decide +kernel
theorem dX6_acceptor_94 : decode cX6_acceptor 94 = .ok (.invokestatic 137, 3) := by decide +kernel
theorem dX6_acceptor_97 : decode cX6_acceptor 97 = .ok (.ireturn, 1) := by decide +kernel
theorem dX6_acceptor_98 : decode cX6_acceptor 98 = .ok (.iconst (-1), 1) := by decide +kernel
theorem dX6_acceptor_99 : decode cX6_acceptor 99 = .ok (.ireturn, 1) := by decide +kernel
theorem dX6_leader_0 : decode cX6_leader 0 = .ok (.iload_n 1, 1) := by decide +kernel
theorem dX6_leader_1 : decode cX6_leader 1 = .ok (.iconst 3, 1) := by decide +kernel
theorem dX6_leader_2 : decode cX6_leader 2 = .ok (.invokestatic 48, 3) := by decide +kernel
theorem dX6_leader_5 : decode cX6_leader 5 = .ok (.aload_n 0, 1) := by decide +kernel
theorem dX6_leader_6 : decode cX6_leader 6 = .ok (.getfield 27, 3) := by decide +kernel
theorem dX6_leader_9 : decode cX6_leader 9 = .ok (.iload_n 1, 1) := by decide +kernel
theorem dX6_leader_10 : decode cX6_leader 10 = .ok (.aaload, 1) := by decide +kernel
theorem dX6_leader_11 : decode cX6_leader 11 = .ok (.astore_n 3, 1) := by decide +kernel
theorem dX6_leader_12 : decode cX6_leader 12 = .ok (.iload_n 2, 1) := by decide +kernel
theorem dX6_leader_13 : decode cX6_leader 13 = .ok (.tableswitch 92 0 5 #[39, 44, 49, 54, 59, 72], 39) := by decide +kernel
theorem dX6_leader_52 : decode cX6_leader 52 = .ok (.aload_n 3, 1) := by decide +kernel
theorem dX6_leader_53 : decode cX6_leader 53 = .ok (.getfield 148, 3) := by decide +kernel
theorem dX6_leader_56 : decode cX6_leader 56 = .ok (.ireturn, 1) := by decide +kernel
theorem dX6_leader_57 : decode cX6_leader 57 = .ok (.aload_n 3, 1) := by decide +kernel
theorem dX6_leader_58 : decode cX6_leader 58 = .ok (.getfield 151, 3) := by decide +kernel
theorem dX6_leader_61 : decode cX6_leader 61 = .ok (.ireturn, 1) := by decide +kernel
theorem dX6_leader_62 : decode cX6_leader 62 = .ok (.aload_n 3, 1) := by decide +kernel
theorem dX6_leader_63 : decode cX6_leader 63 = .ok (.getfield 78, 3) := by decide +kernel
theorem dX6_leader_66 : decode cX6_leader 66 = .ok (.ireturn, 1) := by decide +kernel
theorem dX6_leader_67 : decode cX6_leader 67 = .ok (.aload_n 3, 1) := by decide +kernel
theorem dX6_leader_68 : decode cX6_leader 68 = .ok (.getfield 85, 3) := by decide +kernel
theorem dX6_leader_71 : decode cX6_leader 71 = .ok (.ireturn, 1) := by decide +kernel
theorem dX6_leader_72 : decode cX6_leader 72 = .ok (.aload_n 3, 1) := by decide +kernel
theorem dX6_leader_73 : decode cX6_leader 73 = .ok (.getfield 88, 3) := by decide +kernel
theorem dX6_leader_76 : decode cX6_leader 76 = .ok (.ifCond .eq 7, 3) := by decide +kernel
theorem dX6_leader_79 : decode cX6_leader 79 = .ok (.iconst 1, 1) := by decide +kernel
theorem dX6_leader_80 : decode cX6_leader 80 = .ok (.goto 4, 3) := by decide +kernel
theorem dX6_leader_83 : decode cX6_leader 83 = .ok (.iconst 0, 1) := by decide +kernel
theorem dX6_leader_84 : decode cX6_leader 84 = .ok (.ireturn, 1) := by decide +kernel
theorem dX6_leader_85 : decode cX6_leader 85 = .ok (.aload_n 3, 1) := by decide +kernel
theorem dX6_leader_86 : decode cX6_leader 86 = .ok (.getfield 151, 3) := by decide +kernel
theorem dX6_leader_89 : decode cX6_leader 89 = .ok (.iconst 1, 1) := by decide +kernel
theorem dX6_leader_90 : decode cX6_leader 90 = .ok (.if_icmp .ne 13, 3) := by decide +kernel
theorem dX6_leader_93 : decode cX6_leader 93 = .ok (.aload_n 3, 1) := by decide +kernel
theorem dX6_leader_94 : decode cX6_leader 94 = .ok (.getfield 154, 3) := by decide +kernel
theorem dX6_leader_97 : decode cX6_leader 97 = .ok (.invokestatic 157, 3) := by decide +kernel
theorem dX6_leader_100 : decode cX6_leader 100 = .ok (.goto 4, 3) := by decide +kernel
theorem dX6_leader_103 : decode cX6_leader 103 = .ok (.iconst 0, 1) := by decide +kernel
theorem dX6_leader_104 : decode cX6_leader 104 = .ok (.ireturn, 1) := by decide +kernel
theorem dX6_leader_105 : decode cX6_leader 105 = .ok (.iconst (-1), 1) := by decide +kernel
theorem dX6_leader_106 : decode cX6_leader 106 = .ok (.ireturn, 1) := by decide +kernel
theorem dX6_outcome_0 : decode cX6_outcome 0 = .ok (.iload_n 1, 1) := by decide +kernel
theorem dX6_outcome_1 : decode cX6_outcome 1 = .ok (.iconst 3, 1) := by decide +kernel
theorem dX6_outcome_2 : decode cX6_outcome 2 = .ok (.invokestatic 48, 3) := by decide +kernel
theorem dX6_outcome_5 : decode cX6_outcome 5 = .ok (.iload_n 2, 1) := by decide +kernel
theorem dX6_outcome_6 : decode cX6_outcome 6 = .ok (.aload_n 0, 1) := by decide +kernel
theorem dX6_outcome_7 : decode cX6_outcome 7 = .ok (.getfield 11, 3) := by decide +kernel
theorem dX6_outcome_10 : decode cX6_outcome 10 = .ok (.arraylength, 1) := by decide +kernel
theorem dX6_outcome_11 : decode cX6_outcome 11 = .ok (.invokestatic 48, 3) := by decide +kernel
theorem dX6_outcome_14 : decode cX6_outcome 14 = .ok (.aload_n 0, 1) := by decide +kernel
theorem dX6_outcome_15 : decode cX6_outcome 15 = .ok (.getfield 27, 3) := by decide +kernel
theorem dX6_outcome_18 : decode cX6_outcome 18 = .ok (.iload_n 1, 1) := by decide +kernel
theorem dX6_outcome_19 : decode cX6_outcome 19 = .ok (.aaload, 1) := by decide +kernel
theorem dX6_outcome_20 : decode cX6_outcome 20 = .ok (.getfield 162, 3) := by decide +kernel
theorem dX6_outcome_23 : decode cX6_outcome 23 = .ok (.iload_n 2, 1) := by decide +kernel
theorem dX6_outcome_24 : decode cX6_outcome 24 = .ok (.iaload, 1) := by decide +kernel
theorem dX6_outcome_25 : decode cX6_outcome 25 = .ok (.ireturn, 1) := by decide +kernel
theorem dX6_seen_0 : decode cX6_seen 0 = .ok (.iload_n 1, 1) := by decide +kernel
theorem dX6_seen_1 : decode cX6_seen 1 = .ok (.iconst 3, 1) := by decide +kernel
theorem dX6_seen_2 : decode cX6_seen 2 = .ok (.invokestatic 48, 3) := by decide +kernel
theorem dX6_seen_5 : decode cX6_seen 5 = .ok (.iload_n 2, 1) := by decide +kernel
theorem dX6_seen_6 : decode cX6_seen 6 = .ok (.aload_n 0, 1) := by decide +kernel
theorem dX6_seen_7 : decode cX6_seen 7 = .ok (.getfield 11, 3) := by decide +kernel
theorem dX6_seen_10 : decode cX6_seen 10 = .ok (.arraylength, 1) := by decide +kernel
theorem dX6_seen_11 : decode cX6_seen 11 = .ok (.invokestatic 48, 3) := by decide +kernel
theorem dX6_seen_14 : decode cX6_seen 14 = .ok (.iload_n 3, 1) := by decide +kernel
theorem dX6_seen_15 : decode cX6_seen 15 = .ok (.aload_n 0, 1) := by decide +kernel
theorem dX6_seen_16 : decode cX6_seen 16 = .ok (.getfield 18, 3) := by decide +kernel
theorem dX6_seen_19 : decode cX6_seen 19 = .ok (.arraylength, 1) := by decide +kernel
theorem dX6_seen_20 : decode cX6_seen 20 = .ok (.invokestatic 48, 3) := by decide +kernel
theorem dX6_seen_23 : decode cX6_seen 23 = .ok (.aload_n 0, 1) := by decide +kernel
theorem dX6_seen_24 : decode cX6_seen 24 = .ok (.getfield 27, 3) := by decide +kernel
theorem dX6_seen_27 : decode cX6_seen 27 = .ok (.iload_n 1, 1) := by decide +kernel
theorem dX6_seen_28 : decode cX6_seen 28 = .ok (.aaload, 1) := by decide +kernel
theorem dX6_seen_29 : decode cX6_seen 29 = .ok (.iload_n 2, 1) := by decide +kernel
theorem dX6_seen_30 : decode cX6_seen 30 = .ok (.iload_n 3, 1) := by decide +kernel
theorem dX6_seen_31 : decode cX6_seen 31 = .ok (.invokevirtual 165, 3) := by decide +kernel
theorem dX6_seen_34 : decode cX6_seen 34 = .ok (.invokestatic 134, 3) := by decide +kernel
theorem dX6_seen_37 : decode cX6_seen 37 = .ok (.ireturn, 1) := by decide +kernel
theorem dX6_chosen_0 : decode cX6_chosen 0 = .ok (.iload_n 1, 1) := by decide +kernel
theorem dX6_chosen_1 : decode cX6_chosen 1 = .ok (.aload_n 0, 1) := by decide +kernel
theorem dX6_chosen_2 : decode cX6_chosen 2 = .ok (.getfield 11, 3) := by decide +kernel
theorem dX6_chosen_5 : decode cX6_chosen 5 = .ok (.arraylength, 1) := by decide +kernel
theorem dX6_chosen_6 : decode cX6_chosen 6 = .ok (.invokestatic 48, 3) := by decide +kernel
theorem dX6_chosen_9 : decode cX6_chosen 9 = .ok (.aload_n 0, 1) := by decide +kernel
theorem dX6_chosen_10 : decode cX6_chosen 10 = .ok (.getfield 44, 3) := by decide +kernel
theorem dX6_chosen_13 : decode cX6_chosen 13 = .ok (.getfield 168, 3) := by decide +kernel
theorem dX6_chosen_16 : decode cX6_chosen 16 = .ok (.iload_n 1, 1) := by decide +kernel
theorem dX6_chosen_17 : decode cX6_chosen 17 = .ok (.iaload, 1) := by decide +kernel
theorem dX6_chosen_18 : decode cX6_chosen 18 = .ok (.ireturn, 1) := by decide +kernel
theorem dX6_count_0 : decode cX6_count 0 = .ok (.iload_n 1, 1) := by decide +kernel
theorem dX6_count_1 : decode cX6_count 1 = .ok (.tableswitch 127 0 9 #[55, 61, 67, 75, 83, 88, 99, 110, 116, 122], 55) := by decide +kernel
theorem dX6_count_56 : decode cX6_count 56 = .ok (.aload_n 0, 1) := by decide +kernel
theorem dX6_count_57 : decode cX6_count 57 = .ok (.getfield 11, 3) := by decide +kernel
theorem dX6_count_60 : decode cX6_count 60 = .ok (.arraylength, 1) := by decide +kernel
theorem dX6_count_61 : decode cX6_count 61 = .ok (.ireturn, 1) := by decide +kernel
theorem dX6_count_62 : decode cX6_count 62 = .ok (.aload_n 0, 1) := by decide +kernel
theorem dX6_count_63 : decode cX6_count 63 = .ok (.getfield 18, 3) := by decide +kernel
theorem dX6_count_66 : decode cX6_count 66 = .ok (.arraylength, 1) := by decide +kernel
theorem dX6_count_67 : decode cX6_count 67 = .ok (.ireturn, 1) := by decide +kernel
theorem dX6_count_68 : decode cX6_count 68 = .ok (.aload_n 0, 1) := by decide +kernel
theorem dX6_count_69 : decode cX6_count 69 = .ok (.getfield 37, 3) := by decide +kernel
theorem dX6_count_72 : decode cX6_count 72 = .ok (.getfield 98, 3) := by decide +kernel
theorem dX6_count_75 : decode cX6_count 75 = .ok (.ireturn, 1) := by decide +kernel
theorem dX6_count_76 : decode cX6_count 76 = .ok (.aload_n 0, 1) := by decide +kernel
theorem dX6_count_77 : decode cX6_count 77 = .ok (.getfield 37, 3) := by decide +kernel
theorem dX6_count_80 : decode cX6_count 80 = .ok (.getfield 171, 3) := by decide +kernel
theorem dX6_count_83 : decode cX6_count 83 = .ok (.ireturn, 1) := by decide +kernel
theorem dX6_count_84 : decode cX6_count 84 = .ok (.aload_n 0, 1) := by decide +kernel
theorem dX6_count_85 : decode cX6_count 85 = .ok (.getfield 174, 3) := by decide +kernel
theorem dX6_count_88 : decode cX6_count 88 = .ok (.ireturn, 1) := by decide +kernel
theorem dX6_count_89 : decode cX6_count 89 = .ok (.aload_n 0, 1) := by decide +kernel
theorem dX6_count_90 : decode cX6_count 90 = .ok (.iconst 0, 1) := by decide +kernel
theorem dX6_count_91 : decode cX6_count 91 = .ok (.aload_n 0, 1) := by decide +kernel
theorem dX6_count_92 : decode cX6_count 92 = .ok (.getfield 11, 3) := by decide +kernel
theorem dX6_count_95 : decode cX6_count 95 = .ok (.arraylength, 1) := by decide +kernel
theorem dX6_count_96 : decode cX6_count 96 = .ok (.invokevirtual 177, 3) := by decide +kernel
theorem dX6_count_99 : decode cX6_count 99 = .ok (.ireturn, 1) := by decide +kernel
theorem dX6_count_100 : decode cX6_count 100 = .ok (.aload_n 0, 1) := by decide +kernel
theorem dX6_count_101 : decode cX6_count 101 = .ok (.iconst 1, 1) := by decide +kernel
theorem dX6_count_102 : decode cX6_count 102 = .ok (.aload_n 0, 1) := by decide +kernel
theorem dX6_count_103 : decode cX6_count 103 = .ok (.getfield 18, 3) := by decide +kernel
theorem dX6_count_106 : decode cX6_count 106 = .ok (.arraylength, 1) := by decide +kernel
theorem dX6_count_107 : decode cX6_count 107 = .ok (.invokevirtual 177, 3) := by decide +kernel
theorem dX6_count_110 : decode cX6_count 110 = .ok (.ireturn, 1) := by decide +kernel
theorem dX6_count_111 : decode cX6_count 111 = .ok (.aload_n 0, 1) := by decide +kernel
theorem dX6_count_112 : decode cX6_count 112 = .ok (.iconst 3, 1) := by decide +kernel
theorem dX6_count_113 : decode cX6_count 113 = .ok (.invokevirtual 180, 3) := by decide +kernel
theorem dX6_count_116 : decode cX6_count 116 = .ok (.ireturn, 1) := by decide +kernel
theorem dX6_count_117 : decode cX6_count 117 = .ok (.aload_n 0, 1) := by decide +kernel
theorem dX6_count_118 : decode cX6_count 118 = .ok (.iconst 4, 1) := by decide +kernel
theorem dX6_count_119 : decode cX6_count 119 = .ok (.invokevirtual 180, 3) := by decide +kernel
theorem dX6_count_122 : decode cX6_count 122 = .ok (.ireturn, 1) := by decide +kernel
theorem dX6_count_123 : decode cX6_count 123 = .ok (.aload_n 0, 1) := by decide +kernel
theorem dX6_count_124 : decode cX6_count 124 = .ok (.getfield 92, 3) := by decide +kernel
theorem dX6_count_127 : decode cX6_count 127 = .ok (.ireturn, 1) := by decide +kernel
theorem dX6_count_128 : decode cX6_count 128 = .ok (.iconst (-1), 1) := by decide +kernel
theorem dX6_count_129 : decode cX6_count 129 = .ok (.ireturn, 1) := by decide +kernel
theorem dX6_astray_0 : decode cX6_astray 0 = .ok (.aload_n 0, 1) := by decide +kernel
theorem dX6_astray_1 : decode cX6_astray 1 = .ok (.iconst 3, 1) := by decide +kernel
theorem dX6_astray_2 : decode cX6_astray 2 = .ok (.invokevirtual 180, 3) := by decide +kernel
theorem dX6_astray_5 : decode cX6_astray 5 = .ok (.istore_n 1, 1) := by decide +kernel
theorem dX6_astray_6 : decode cX6_astray 6 = .ok (.aload_n 0, 1) := by decide +kernel
theorem dX6_astray_7 : decode cX6_astray 7 = .ok (.iconst 4, 1) := by decide +kernel
theorem dX6_astray_8 : decode cX6_astray 8 = .ok (.invokevirtual 180, 3) := by decide +kernel
theorem dX6_astray_11 : decode cX6_astray 11 = .ok (.ifCond .le 7, 3) := by decide +kernel
theorem dX6_astray_14 : decode cX6_astray 14 = .ok (.iload_n 1, 1) := by decide +kernel
theorem dX6_astray_15 : decode cX6_astray 15 = .ok (.goto 4, 3) := by decide +kernel
theorem dX6_astray_18 : decode cX6_astray 18 = .ok (.iconst 0, 1) := by decide +kernel
theorem dX6_astray_19 : decode cX6_astray 19 = .ok (.istore_n 2, 1) := by decide +kernel
theorem dX6_astray_20 : decode cX6_astray 20 = .ok (.iconst 0, 1) := by decide +kernel
theorem dX6_astray_21 : decode cX6_astray 21 = .ok (.istore_n 3, 1) := by decide +kernel
theorem dX6_astray_22 : decode cX6_astray 22 = .ok (.iload_n 3, 1) := by decide +kernel
theorem dX6_astray_23 : decode cX6_astray 23 = .ok (.aload_n 0, 1) := by decide +kernel
theorem dX6_astray_24 : decode cX6_astray 24 = .ok (.getfield 11, 3) := by decide +kernel
theorem dX6_astray_27 : decode cX6_astray 27 = .ok (.arraylength, 1) := by decide +kernel
theorem dX6_astray_28 : decode cX6_astray 28 = .ok (.if_icmp .ge 53, 3) := by decide +kernel
theorem dX6_astray_31 : decode cX6_astray 31 = .ok (.aload_n 0, 1) := by decide +kernel
theorem dX6_astray_32 : decode cX6_astray 32 = .ok (.getfield 11, 3) := by decide +kernel
theorem dX6_astray_35 : decode cX6_astray 35 = .ok (.iload_n 3, 1) := by decide +kernel
theorem dX6_astray_36 : decode cX6_astray 36 = .ok (.aaload, 1) := by decide +kernel
theorem dX6_astray_37 : decode cX6_astray 37 = .ok (.getfield 55, 3) := by decide +kernel
theorem dX6_astray_40 : decode cX6_astray 40 = .ok (.iconst 3, 1) := by decide +kernel
theorem dX6_astray_41 : decode cX6_astray 41 = .ok (.if_icmp .ne 19, 3) := by decide +kernel
theorem dX6_astray_44 : decode cX6_astray 44 = .ok (.aload_n 0, 1) := by decide +kernel
theorem dX6_astray_45 : decode cX6_astray 45 = .ok (.getfield 11, 3) := by decide +kernel
theorem dX6_astray_48 : decode cX6_astray 48 = .ok (.iload_n 3, 1) := by decide +kernel
theorem dX6_astray_49 : decode cX6_astray 49 = .ok (.aaload, 1) := by decide +kernel
theorem dX6_astray_50 : decode cX6_astray 50 = .ok (.getfield 67, 3) := by decide +kernel
theorem dX6_astray_53 : decode cX6_astray 53 = .ok (.iconst 1, 1) := by decide +kernel
theorem dX6_astray_54 : decode cX6_astray 54 = .ok (.if_icmp .eq 6, 3) := by decide +kernel
theorem dX6_astray_57 : decode cX6_astray 57 = .ok (.iinc 2 1, 3) := by decide +kernel
theorem dX6_astray_60 : decode cX6_astray 60 = .ok (.aload_n 0, 1) := by decide +kernel
theorem dX6_astray_61 : decode cX6_astray 61 = .ok (.getfield 44, 3) := by decide +kernel
theorem dX6_astray_64 : decode cX6_astray 64 = .ok (.getfield 183, 3) := by decide +kernel
theorem dX6_astray_67 : decode cX6_astray 67 = .ok (.iload_n 3, 1) := by decide +kernel
theorem dX6_astray_68 : decode cX6_astray 68 = .ok (.baload, 1) := by decide +kernel
theorem dX6_astray_69 : decode cX6_astray 69 = .ok (.ifCond .eq 6, 3) := by decide +kernel
theorem dX6_astray_72 : decode cX6_astray 72 = .ok (.iinc 2 1, 3) := by decide +kernel
theorem dX6_astray_75 : decode cX6_astray 75 = .ok (.iinc 3 1, 3) := by decide +kernel
theorem dX6_astray_78 : decode cX6_astray 78 = .ok (.goto (-56), 3) := by decide +kernel
theorem dX6_astray_81 : decode cX6_astray 81 = .ok (.iconst 0, 1) := by decide +kernel
theorem dX6_astray_82 : decode cX6_astray 82 = .ok (.istore_n 3, 1) := by decide +kernel
theorem dX6_astray_83 : decode cX6_astray 83 = .ok (.iload_n 3, 1) := by decide +kernel
theorem dX6_astray_84 : decode cX6_astray 84 = .ok (.iconst 3, 1) := by decide +kernel
theorem dX6_astray_85 : decode cX6_astray 85 = .ok (.if_icmp .ge 28, 3) := by decide +kernel
theorem dX6_astray_88 : decode cX6_astray 88 = .ok (.aload_n 0, 1) := by decide +kernel
theorem dX6_astray_89 : decode cX6_astray 89 = .ok (.aload_n 0, 1) := by decide +kernel
theorem dX6_astray_90 : decode cX6_astray 90 = .ok (.getfield 27, 3) := by decide +kernel
theorem dX6_astray_93 : decode cX6_astray 93 = .ok (.iload_n 3, 1) := by decide +kernel
theorem dX6_astray_94 : decode cX6_astray 94 = .ok (.aaload, 1) := by decide +kernel
theorem dX6_astray_95 : decode cX6_astray 95 = .ok (.getfield 85, 3) := by decide +kernel
theorem dX6_astray_98 : decode cX6_astray 98 = .ok (.invokevirtual 187, 3) := by decide +kernel
theorem dX6_astray_101 : decode cX6_astray 101 = .ok (.ifCond .ne 6, 3) := by decide +kernel
theorem dX6_astray_104 : decode cX6_astray 104 = .ok (.iinc 2 1, 3) := by decide +kernel
theorem dX6_astray_107 : decode cX6_astray 107 = .ok (.iinc 3 1, 3) := by decide +kernel
theorem dX6_astray_110 : decode cX6_astray 110 = .ok (.goto (-27), 3) := by decide +kernel
theorem dX6_astray_113 : decode cX6_astray 113 = .ok (.iload_n 2, 1) := by decide +kernel
theorem dX6_astray_114 : decode cX6_astray 114 = .ok (.ireturn, 1) := by decide +kernel
theorem dX6_checkOne_0 : decode cX6_checkOne 0 = .ok (.iload_n 0, 1) := by decide +kernel
theorem dX6_checkOne_1 : decode cX6_checkOne 1 = .ok (.ifCond .lt 8, 3) := by decide +kernel
theorem dX6_checkOne_4 : decode cX6_checkOne 4 = .ok (.iload_n 0, 1) := by decide +kernel
theorem dX6_checkOne_5 : decode cX6_checkOne 5 = .ok (.iload_n 1, 1) := by decide +kernel
theorem dX6_checkOne_6 : decode cX6_checkOne 6 = .ok (.if_icmp .lt 13, 3) := by decide +kernel
theorem dX6_checkOne_9 : decode cX6_checkOne 9 = .ok (.new 190, 3) := by decide +kernel
theorem dX6_checkOne_12 : decode cX6_checkOne 12 = .ok (.dup, 1) := by decide +kernel
theorem dX6_checkOne_13 : decode cX6_checkOne 13 = .ok (.ldc 192, 2) := by decide +kernel
theorem dX6_checkOne_15 : decode cX6_checkOne 15 = .ok (.invokespecial 194, 3) := by decide +kernel
theorem dX6_checkOne_18 : decode cX6_checkOne 18 = .ok (.athrow, 1) := by decide +kernel
theorem dX6_checkOne_19 : decode cX6_checkOne 19 = .ok (.return_, 1) := by decide +kernel
theorem dX6_voteOf_0 : decode cX6_voteOf 0 = .ok (.iload_n 0, 1) := by decide +kernel
theorem dX6_voteOf_1 : decode cX6_voteOf 1 = .ok (.iconst 2, 1) := by decide +kernel
theorem dX6_voteOf_2 : decode cX6_voteOf 2 = .ok (.ishl, 1) := by decide +kernel
theorem dX6_voteOf_3 : decode cX6_voteOf 3 = .ok (.iload_n 1, 1) := by decide +kernel
theorem dX6_voteOf_4 : decode cX6_voteOf 4 = .ok (.ior, 1) := by decide +kernel
theorem dX6_voteOf_5 : decode cX6_voteOf 5 = .ok (.ireturn, 1) := by decide +kernel
theorem dX6_ballotOf_0 : decode cX6_ballotOf 0 = .ok (.iload_n 0, 1) := by decide +kernel
theorem dX6_ballotOf_1 : decode cX6_ballotOf 1 = .ok (.ifCond .ne 7, 3) := by decide +kernel
theorem dX6_ballotOf_4 : decode cX6_ballotOf 4 = .ok (.iconst (-1), 1) := by decide +kernel
theorem dX6_ballotOf_5 : decode cX6_ballotOf 5 = .ok (.goto 6, 3) := by decide +kernel
theorem dX6_ballotOf_8 : decode cX6_ballotOf 8 = .ok (.iload_n 0, 1) := by decide +kernel
theorem dX6_ballotOf_9 : decode cX6_ballotOf 9 = .ok (.iconst 2, 1) := by decide +kernel
theorem dX6_ballotOf_10 : decode cX6_ballotOf 10 = .ok (.ishr, 1) := by decide +kernel
theorem dX6_ballotOf_11 : decode cX6_ballotOf 11 = .ok (.ireturn, 1) := by decide +kernel
theorem dX6_wordOf_0 : decode cX6_wordOf 0 = .ok (.iload_n 0, 1) := by decide +kernel
theorem dX6_wordOf_1 : decode cX6_wordOf 1 = .ok (.iconst 3, 1) := by decide +kernel
theorem dX6_wordOf_2 : decode cX6_wordOf 2 = .ok (.iand, 1) := by decide +kernel
theorem dX6_wordOf_3 : decode cX6_wordOf 3 = .ok (.ireturn, 1) := by decide +kernel
theorem dX6_leastOwnAbove_0 : decode cX6_leastOwnAbove 0 = .ok (.iload_n 0, 1) := by decide +kernel
theorem dX6_leastOwnAbove_1 : decode cX6_leastOwnAbove 1 = .ok (.iconst 1, 1) := by decide +kernel
theorem dX6_leastOwnAbove_2 : decode cX6_leastOwnAbove 2 = .ok (.iadd, 1) := by decide +kernel
theorem dX6_leastOwnAbove_3 : decode cX6_leastOwnAbove 3 = .ok (.istore_n 2, 1) := by decide +kernel
theorem dX6_leastOwnAbove_4 : decode cX6_leastOwnAbove 4 = .ok (.iload_n 1, 1) := by decide +kernel
theorem dX6_leastOwnAbove_5 : decode cX6_leastOwnAbove 5 = .ok (.iload_n 2, 1) := by decide +kernel
theorem dX6_leastOwnAbove_6 : decode cX6_leastOwnAbove 6 = .ok (.if_icmp .ge 7, 3) := by decide +kernel
theorem dX6_leastOwnAbove_9 : decode cX6_leastOwnAbove 9 = .ok (.iload_n 2, 1) := by decide +kernel
theorem dX6_leastOwnAbove_10 : decode cX6_leastOwnAbove 10 = .ok (.goto 14, 3) := by decide +kernel
theorem dX6_leastOwnAbove_13 : decode cX6_leastOwnAbove 13 = .ok (.iload_n 2, 1) := by decide +kernel
theorem dX6_leastOwnAbove_14 : decode cX6_leastOwnAbove 14 = .ok (.iconst 3, 1) := by decide +kernel
theorem dX6_leastOwnAbove_15 : decode cX6_leastOwnAbove 15 = .ok (.iload_n 1, 1) := by decide +kernel
theorem dX6_leastOwnAbove_16 : decode cX6_leastOwnAbove 16 = .ok (.iload_n 2, 1) := by decide +kernel
theorem dX6_leastOwnAbove_17 : decode cX6_leastOwnAbove 17 = .ok (.isub, 1) := by decide +kernel
theorem dX6_leastOwnAbove_18 : decode cX6_leastOwnAbove 18 = .ok (.iconst 3, 1) := by decide +kernel
theorem dX6_leastOwnAbove_19 : decode cX6_leastOwnAbove 19 = .ok (.idiv, 1) := by decide +kernel
theorem dX6_leastOwnAbove_20 : decode cX6_leastOwnAbove 20 = .ok (.iconst 1, 1) := by decide +kernel
theorem dX6_leastOwnAbove_21 : decode cX6_leastOwnAbove 21 = .ok (.iadd, 1) := by decide +kernel
theorem dX6_leastOwnAbove_22 : decode cX6_leastOwnAbove 22 = .ok (.imul, 1) := by decide +kernel
theorem dX6_leastOwnAbove_23 : decode cX6_leastOwnAbove 23 = .ok (.iadd, 1) := by decide +kernel
theorem dX6_leastOwnAbove_24 : decode cX6_leastOwnAbove 24 = .ok (.ireturn, 1) := by decide +kernel
theorem dX6_leaderOf_0 : decode cX6_leaderOf 0 = .ok (.iload_n 0, 1) := by decide +kernel
theorem dX6_leaderOf_1 : decode cX6_leaderOf 1 = .ok (.iconst 1, 1) := by decide +kernel
theorem dX6_leaderOf_2 : decode cX6_leaderOf 2 = .ok (.isub, 1) := by decide +kernel
theorem dX6_leaderOf_3 : decode cX6_leaderOf 3 = .ok (.iconst 3, 1) := by decide +kernel
theorem dX6_leaderOf_4 : decode cX6_leaderOf 4 = .ok (.invokestatic 195, 3) := by decide +kernel
theorem dX6_leaderOf_7 : decode cX6_leaderOf 7 = .ok (.ireturn, 1) := by decide +kernel
theorem dX6_howManyUp_0 : decode cX6_howManyUp 0 = .ok (.iconst 0, 1) := by decide +kernel
theorem dX6_howManyUp_1 : decode cX6_howManyUp 1 = .ok (.istore_n 3, 1) := by decide +kernel
theorem dX6_howManyUp_2 : decode cX6_howManyUp 2 = .ok (.iconst 0, 1) := by decide +kernel
theorem dX6_howManyUp_3 : decode cX6_howManyUp 3 = .ok (.istore 4, 2) := by decide +kernel
theorem dX6_howManyUp_5 : decode cX6_howManyUp 5 = .ok (.iload 4, 2) := by decide +kernel
theorem dX6_howManyUp_7 : decode cX6_howManyUp 7 = .ok (.iload_n 2, 1) := by decide +kernel
theorem dX6_howManyUp_8 : decode cX6_howManyUp 8 = .ok (.if_icmp .ge 25, 3) := by decide +kernel
theorem dX6_howManyUp_11 : decode cX6_howManyUp 11 = .ok (.aload_n 0, 1) := by decide +kernel
theorem dX6_howManyUp_12 : decode cX6_howManyUp 12 = .ok (.iload_n 1, 1) := by decide +kernel
theorem dX6_howManyUp_13 : decode cX6_howManyUp 13 = .ok (.iload 4, 2) := by decide +kernel
theorem dX6_howManyUp_15 : decode cX6_howManyUp 15 = .ok (.invokevirtual 118, 3) := by decide +kernel
theorem dX6_howManyUp_18 : decode cX6_howManyUp 18 = .ok (.getfield 122, 3) := by decide +kernel
theorem dX6_howManyUp_21 : decode cX6_howManyUp 21 = .ok (.ifCond .eq 6, 3) := by decide +kernel
theorem dX6_howManyUp_24 : decode cX6_howManyUp 24 = .ok (.iinc 3 1, 3) := by decide +kernel
theorem dX6_howManyUp_27 : decode cX6_howManyUp 27 = .ok (.iinc 4 1, 3) := by decide +kernel
theorem dX6_howManyUp_30 : decode cX6_howManyUp 30 = .ok (.goto (-25), 3) := by decide +kernel
theorem dX6_howManyUp_33 : decode cX6_howManyUp 33 = .ok (.iload_n 3, 1) := by decide +kernel
theorem dX6_howManyUp_34 : decode cX6_howManyUp 34 = .ok (.ireturn, 1) := by decide +kernel
theorem dX6_howManyManagers_0 : decode cX6_howManyManagers 0 = .ok (.iconst 0, 1) := by decide +kernel
theorem dX6_howManyManagers_1 : decode cX6_howManyManagers 1 = .ok (.istore_n 2, 1) := by decide +kernel
theorem dX6_howManyManagers_2 : decode cX6_howManyManagers 2 = .ok (.iconst 0, 1) := by decide +kernel
theorem dX6_howManyManagers_3 : decode cX6_howManyManagers 3 = .ok (.istore_n 3, 1) := by decide +kernel
theorem dX6_howManyManagers_4 : decode cX6_howManyManagers 4 = .ok (.iload_n 3, 1) := by decide +kernel
theorem dX6_howManyManagers_5 : decode cX6_howManyManagers 5 = .ok (.aload_n 0, 1) := by decide +kernel
theorem dX6_howManyManagers_6 : decode cX6_howManyManagers 6 = .ok (.getfield 11, 3) := by decide +kernel
theorem dX6_howManyManagers_9 : decode cX6_howManyManagers 9 = .ok (.arraylength, 1) := by decide +kernel
theorem dX6_howManyManagers_10 : decode cX6_howManyManagers 10 = .ok (.if_icmp .ge 25, 3) := by decide +kernel
theorem dX6_howManyManagers_13 : decode cX6_howManyManagers 13 = .ok (.aload_n 0, 1) := by decide +kernel
theorem dX6_howManyManagers_14 : decode cX6_howManyManagers 14 = .ok (.getfield 11, 3) := by decide +kernel
theorem dX6_howManyManagers_17 : decode cX6_howManyManagers 17 = .ok (.iload_n 3, 1) := by decide +kernel
theorem dX6_howManyManagers_18 : decode cX6_howManyManagers 18 = .ok (.aaload, 1) := by decide +kernel
theorem dX6_howManyManagers_19 : decode cX6_howManyManagers 19 = .ok (.getfield 55, 3) := by decide +kernel
theorem dX6_howManyManagers_22 : decode cX6_howManyManagers 22 = .ok (.iload_n 1, 1) := by decide +kernel
theorem dX6_howManyManagers_23 : decode cX6_howManyManagers 23 = .ok (.if_icmp .ne 6, 3) := by decide +kernel
theorem dX6_howManyManagers_26 : decode cX6_howManyManagers 26 = .ok (.iinc 2 1, 3) := by decide +kernel
theorem dX6_howManyManagers_29 : decode cX6_howManyManagers 29 = .ok (.iinc 3 1, 3) := by decide +kernel
theorem dX6_howManyManagers_32 : decode cX6_howManyManagers 32 = .ok (.goto (-28), 3) := by decide +kernel
theorem dX6_howManyManagers_35 : decode cX6_howManyManagers 35 = .ok (.iload_n 2, 1) := by decide +kernel
theorem dX6_howManyManagers_36 : decode cX6_howManyManagers 36 = .ok (.ireturn, 1) := by decide +kernel
theorem dX6_isBackedByChosen_0 : decode cX6_isBackedByChosen 0 = .ok (.iconst 0, 1) := by decide +kernel
theorem dX6_isBackedByChosen_1 : decode cX6_isBackedByChosen 1 = .ok (.istore_n 2, 1) := by decide +kernel
theorem dX6_isBackedByChosen_2 : decode cX6_isBackedByChosen 2 = .ok (.iconst 0, 1) := by decide +kernel
theorem dX6_isBackedByChosen_3 : decode cX6_isBackedByChosen 3 = .ok (.istore_n 3, 1) := by decide +kernel
theorem dX6_isBackedByChosen_4 : decode cX6_isBackedByChosen 4 = .ok (.iconst 0, 1) := by decide +kernel
theorem dX6_isBackedByChosen_5 : decode cX6_isBackedByChosen 5 = .ok (.istore 4, 2) := by decide +kernel
theorem dX6_isBackedByChosen_7 : decode cX6_isBackedByChosen 7 = .ok (.iload 4, 2) := by decide +kernel
theorem dX6_isBackedByChosen_9 : decode cX6_isBackedByChosen 9 = .ok (.aload_n 0, 1) := by decide +kernel
theorem dX6_isBackedByChosen_10 : decode cX6_isBackedByChosen 10 = .ok (.getfield 11, 3) := by decide +kernel
theorem dX6_isBackedByChosen_13 : decode cX6_isBackedByChosen 13 = .ok (.arraylength, 1) := by decide +kernel
theorem dX6_isBackedByChosen_14 : decode cX6_isBackedByChosen 14 = .ok (.if_icmp .ge 53, 3) := by decide +kernel
theorem dX6_isBackedByChosen_17 : decode cX6_isBackedByChosen 17 = .ok (.iload_n 2, 1) := by decide +kernel
theorem dX6_isBackedByChosen_18 : decode cX6_isBackedByChosen 18 = .ok (.aload_n 0, 1) := by decide +kernel
theorem dX6_isBackedByChosen_19 : decode cX6_isBackedByChosen 19 = .ok (.getfield 44, 3) := by decide +kernel
theorem dX6_isBackedByChosen_22 : decode cX6_isBackedByChosen 22 = .ok (.getfield 168, 3) := by decide +kernel
theorem dX6_isBackedByChosen_25 : decode cX6_isBackedByChosen 25 = .ok (.iload 4, 2) := by decide +kernel
theorem dX6_isBackedByChosen_27 : decode cX6_isBackedByChosen 27 = .ok (.iaload, 1) := by decide +kernel
theorem dX6_isBackedByChosen_28 : decode cX6_isBackedByChosen 28 = .ok (.iconst 1, 1) := by decide +kernel
theorem dX6_isBackedByChosen_29 : decode cX6_isBackedByChosen 29 = .ok (.if_icmp .ne 7, 3) := by decide +kernel
theorem dX6_isBackedByChosen_32 : decode cX6_isBackedByChosen 32 = .ok (.iconst 1, 1) := by decide +kernel
theorem dX6_isBackedByChosen_33 : decode cX6_isBackedByChosen 33 = .ok (.goto 4, 3) := by decide +kernel
theorem dX6_isBackedByChosen_36 : decode cX6_isBackedByChosen 36 = .ok (.iconst 0, 1) := by decide +kernel
theorem dX6_isBackedByChosen_37 : decode cX6_isBackedByChosen 37 = .ok (.iadd, 1) := by decide +kernel
theorem dX6_isBackedByChosen_38 : decode cX6_isBackedByChosen 38 = .ok (.istore_n 2, 1) := by decide +kernel
theorem dX6_isBackedByChosen_39 : decode cX6_isBackedByChosen 39 = .ok (.iload_n 3, 1) := by decide +kernel
theorem dX6_isBackedByChosen_40 : decode cX6_isBackedByChosen 40 = .ok (.aload_n 0, 1) := by decide +kernel
theorem dX6_isBackedByChosen_41 : decode cX6_isBackedByChosen 41 = .ok (.getfield 44, 3) := by decide +kernel
theorem dX6_isBackedByChosen_44 : decode cX6_isBackedByChosen 44 = .ok (.getfield 168, 3) := by decide +kernel
theorem dX6_isBackedByChosen_47 : decode cX6_isBackedByChosen 47 = .ok (.iload 4, 2) := by decide +kernel
theorem dX6_isBackedByChosen_49 : decode cX6_isBackedByChosen 49 = .ok (.iaload, 1) := by decide +kernel
theorem dX6_isBackedByChosen_50 : decode cX6_isBackedByChosen 50 = .ok (.iconst 2, 1) := by decide +kernel
theorem dX6_isBackedByChosen_51 : decode cX6_isBackedByChosen 51 = .ok (.if_icmp .ne 7, 3) := by decide +kernel
theorem dX6_isBackedByChosen_54 : decode cX6_isBackedByChosen 54 = .ok (.iconst 1, 1) := by decide +kernel
theorem dX6_isBackedByChosen_55 : decode cX6_isBackedByChosen 55 = .ok (.goto 4, 3) := by decide +kernel
theorem dX6_isBackedByChosen_58 : decode cX6_isBackedByChosen 58 = .ok (.iconst 0, 1) := by decide +kernel
theorem dX6_isBackedByChosen_59 : decode cX6_isBackedByChosen 59 = .ok (.iadd, 1) := by decide +kernel
theorem dX6_isBackedByChosen_60 : decode cX6_isBackedByChosen 60 = .ok (.istore_n 3, 1) := by decide +kernel
theorem dX6_isBackedByChosen_61 : decode cX6_isBackedByChosen 61 = .ok (.iinc 4 1, 3) := by decide +kernel
theorem dX6_isBackedByChosen_64 : decode cX6_isBackedByChosen 64 = .ok (.goto (-57), 3) := by decide +kernel
theorem dX6_isBackedByChosen_67 : decode cX6_isBackedByChosen 67 = .ok (.iload_n 1, 1) := by decide +kernel
theorem dX6_isBackedByChosen_68 : decode cX6_isBackedByChosen 68 = .ok (.lookupswitch 53 #[(1, 28), (2, 43)], 28) := by decide +kernel
theorem dX6_isBackedByChosen_96 : decode cX6_isBackedByChosen 96 = .ok (.iload_n 2, 1) := by decide +kernel
theorem dX6_isBackedByChosen_97 : decode cX6_isBackedByChosen 97 = .ok (.aload_n 0, 1) := by decide +kernel
theorem dX6_isBackedByChosen_98 : decode cX6_isBackedByChosen 98 = .ok (.getfield 11, 3) := by decide +kernel
theorem dX6_isBackedByChosen_101 : decode cX6_isBackedByChosen 101 = .ok (.arraylength, 1) := by decide +kernel
theorem dX6_isBackedByChosen_102 : decode cX6_isBackedByChosen 102 = .ok (.if_icmp .ne 7, 3) := by decide +kernel
theorem dX6_isBackedByChosen_105 : decode cX6_isBackedByChosen 105 = .ok (.iconst 1, 1) := by decide +kernel
theorem dX6_isBackedByChosen_106 : decode cX6_isBackedByChosen 106 = .ok (.goto 4, 3) := by decide +kernel
theorem dX6_isBackedByChosen_109 : decode cX6_isBackedByChosen 109 = .ok (.iconst 0, 1) := by decide +kernel
theorem dX6_isBackedByChosen_110 : decode cX6_isBackedByChosen 110 = .ok (.ireturn, 1) := by decide +kernel
theorem dX6_isBackedByChosen_111 : decode cX6_isBackedByChosen 111 = .ok (.iload_n 3, 1) := by decide +kernel
theorem dX6_isBackedByChosen_112 : decode cX6_isBackedByChosen 112 = .ok (.ifCond .le 7, 3) := by decide +kernel
theorem dX6_isBackedByChosen_115 : decode cX6_isBackedByChosen 115 = .ok (.iconst 1, 1) := by decide +kernel
theorem dX6_isBackedByChosen_116 : decode cX6_isBackedByChosen 116 = .ok (.goto 4, 3) := by decide +kernel
theorem dX6_isBackedByChosen_119 : decode cX6_isBackedByChosen 119 = .ok (.iconst 0, 1) := by decide +kernel
theorem dX6_isBackedByChosen_120 : decode cX6_isBackedByChosen 120 = .ok (.ireturn, 1) := by decide +kernel
theorem dX6_isBackedByChosen_121 : decode cX6_isBackedByChosen 121 = .ok (.iconst 1, 1) := by decide +kernel
theorem dX6_isBackedByChosen_122 : decode cX6_isBackedByChosen 122 = .ok (.ireturn, 1) := by decide +kernel
theorem dX6_memberOf_0 : decode cX6_memberOf 0 = .ok (.iload_n 1, 1) := by decide +kernel
theorem dX6_memberOf_1 : decode cX6_memberOf 1 = .ok (.tableswitch 71 0 2 #[27, 43, 59], 27) := by decide +kernel
theorem dX6_memberOf_28 : decode cX6_memberOf 28 = .ok (.iload_n 2, 1) := by decide +kernel
theorem dX6_memberOf_29 : decode cX6_memberOf 29 = .ok (.aload_n 0, 1) := by decide +kernel
theorem dX6_memberOf_30 : decode cX6_memberOf 30 = .ok (.getfield 11, 3) := by decide +kernel
theorem dX6_memberOf_33 : decode cX6_memberOf 33 = .ok (.arraylength, 1) := by decide +kernel
theorem dX6_memberOf_34 : decode cX6_memberOf 34 = .ok (.invokestatic 48, 3) := by decide +kernel
theorem dX6_memberOf_37 : decode cX6_memberOf 37 = .ok (.aload_n 0, 1) := by decide +kernel
theorem dX6_memberOf_38 : decode cX6_memberOf 38 = .ok (.getfield 11, 3) := by decide +kernel
theorem dX6_memberOf_41 : decode cX6_memberOf 41 = .ok (.iload_n 2, 1) := by decide +kernel
theorem dX6_memberOf_42 : decode cX6_memberOf 42 = .ok (.aaload, 1) := by decide +kernel
theorem dX6_memberOf_43 : decode cX6_memberOf 43 = .ok (.areturn, 1) := by decide +kernel
theorem dX6_memberOf_44 : decode cX6_memberOf 44 = .ok (.iload_n 2, 1) := by decide +kernel
theorem dX6_memberOf_45 : decode cX6_memberOf 45 = .ok (.aload_n 0, 1) := by decide +kernel
theorem dX6_memberOf_46 : decode cX6_memberOf 46 = .ok (.getfield 18, 3) := by decide +kernel
theorem dX6_memberOf_49 : decode cX6_memberOf 49 = .ok (.arraylength, 1) := by decide +kernel
theorem dX6_memberOf_50 : decode cX6_memberOf 50 = .ok (.invokestatic 48, 3) := by decide +kernel
theorem dX6_memberOf_53 : decode cX6_memberOf 53 = .ok (.aload_n 0, 1) := by decide +kernel
theorem dX6_memberOf_54 : decode cX6_memberOf 54 = .ok (.getfield 18, 3) := by decide +kernel
theorem dX6_memberOf_57 : decode cX6_memberOf 57 = .ok (.iload_n 2, 1) := by decide +kernel
theorem dX6_memberOf_58 : decode cX6_memberOf 58 = .ok (.aaload, 1) := by decide +kernel
theorem dX6_memberOf_59 : decode cX6_memberOf 59 = .ok (.areturn, 1) := by decide +kernel
theorem dX6_memberOf_60 : decode cX6_memberOf 60 = .ok (.iload_n 2, 1) := by decide +kernel
theorem dX6_memberOf_61 : decode cX6_memberOf 61 = .ok (.iconst 3, 1) := by decide +kernel
theorem dX6_memberOf_62 : decode cX6_memberOf 62 = .ok (.invokestatic 48, 3) := by decide +kernel
theorem dX6_memberOf_65 : decode cX6_memberOf 65 = .ok (.aload_n 0, 1) := by decide +kernel
theorem dX6_memberOf_66 : decode cX6_memberOf 66 = .ok (.getfield 27, 3) := by decide +kernel
theorem dX6_memberOf_69 : decode cX6_memberOf 69 = .ok (.iload_n 2, 1) := by decide +kernel
theorem dX6_memberOf_70 : decode cX6_memberOf 70 = .ok (.aaload, 1) := by decide +kernel
theorem dX6_memberOf_71 : decode cX6_memberOf 71 = .ok (.areturn, 1) := by decide +kernel
theorem dX6_memberOf_72 : decode cX6_memberOf 72 = .ok (.new 111, 3) := by decide +kernel
theorem dX6_memberOf_75 : decode cX6_memberOf 75 = .ok (.dup, 1) := by decide +kernel
theorem dX6_memberOf_76 : decode cX6_memberOf 76 = .ok (.ldc 200, 2) := by decide +kernel
theorem dX6_memberOf_78 : decode cX6_memberOf 78 = .ok (.invokespecial 115, 3) := by decide +kernel
theorem dX6_memberOf_81 : decode cX6_memberOf 81 = .ok (.athrow, 1) := by decide +kernel
theorem dX6_propose_0 : decode cX6_propose 0 = .ok (.aload_n 0, 1) := by decide +kernel
theorem dX6_propose_1 : decode cX6_propose 1 = .ok (.getfield 11, 3) := by decide +kernel
theorem dX6_propose_4 : decode cX6_propose 4 = .ok (.iload_n 1, 1) := by decide +kernel
theorem dX6_propose_5 : decode cX6_propose 5 = .ok (.aaload, 1) := by decide +kernel
theorem dX6_propose_6 : decode cX6_propose 6 = .ok (.astore 4, 2) := by decide +kernel
theorem dX6_propose_8 : decode cX6_propose 8 = .ok (.aload 4, 2) := by decide +kernel
theorem dX6_propose_10 : decode cX6_propose 10 = .ok (.getfield 59, 3) := by decide +kernel
theorem dX6_propose_13 : decode cX6_propose 13 = .ok (.ifCond .eq 26, 3) := by decide +kernel
theorem dX6_propose_16 : decode cX6_propose 16 = .ok (.aload 4, 2) := by decide +kernel
theorem dX6_propose_18 : decode cX6_propose 18 = .ok (.getfield 55, 3) := by decide +kernel
theorem dX6_propose_21 : decode cX6_propose 21 = .ok (.ifCond .ne 18, 3) := by decide +kernel
theorem dX6_propose_24 : decode cX6_propose 24 = .ok (.aload_n 0, 1) := by decide +kernel
theorem dX6_propose_25 : decode cX6_propose 25 = .ok (.getfield 37, 3) := by decide +kernel
theorem dX6_propose_28 : decode cX6_propose 28 = .ok (.aload_n 0, 1) := by decide +kernel
theorem dX6_propose_29 : decode cX6_propose 29 = .ok (.getfield 18, 3) := by decide +kernel
theorem dX6_propose_32 : decode cX6_propose 32 = .ok (.arraylength, 1) := by decide +kernel
theorem dX6_propose_33 : decode cX6_propose 33 = .ok (.invokevirtual 63, 3) := by decide +kernel
theorem dX6_propose_36 : decode cX6_propose 36 = .ok (.ifCond .ne 5, 3) := by decide +kernel
theorem dX6_propose_39 : decode cX6_propose 39 = .ok (.iconst 0, 1) := by decide +kernel
theorem dX6_propose_40 : decode cX6_propose 40 = .ok (.ireturn, 1) := by decide +kernel
theorem dX6_propose_41 : decode cX6_propose 41 = .ok (.aload 4, 2) := by decide +kernel
theorem dX6_propose_43 : decode cX6_propose 43 = .ok (.iload_n 2, 1) := by decide +kernel
theorem dX6_propose_44 : decode cX6_propose 44 = .ok (.putfield 55, 3) := by decide +kernel
theorem dX6_propose_47 : decode cX6_propose 47 = .ok (.aload 4, 2) := by decide +kernel
theorem dX6_propose_49 : decode cX6_propose 49 = .ok (.iload_n 3, 1) := by decide +kernel
theorem dX6_propose_50 : decode cX6_propose 50 = .ok (.putfield 67, 3) := by decide +kernel
theorem dX6_propose_53 : decode cX6_propose 53 = .ok (.aload_n 0, 1) := by decide +kernel
theorem dX6_propose_54 : decode cX6_propose 54 = .ok (.iload_n 1, 1) := by decide +kernel
theorem dX6_propose_55 : decode cX6_propose 55 = .ok (.iconst 0, 1) := by decide +kernel
theorem dX6_propose_56 : decode cX6_propose 56 = .ok (.iload_n 3, 1) := by decide +kernel
theorem dX6_propose_57 : decode cX6_propose 57 = .ok (.invokevirtual 70, 3) := by decide +kernel
theorem dX6_propose_60 : decode cX6_propose 60 = .ok (.iconst 1, 1) := by decide +kernel
theorem dX6_propose_61 : decode cX6_propose 61 = .ok (.ireturn, 1) := by decide +kernel
theorem dX6_sendVotes_0 : decode cX6_sendVotes 0 = .ok (.iconst 0, 1) := by decide +kernel
theorem dX6_sendVotes_1 : decode cX6_sendVotes 1 = .ok (.istore 4, 2) := by decide +kernel
theorem dX6_sendVotes_3 : decode cX6_sendVotes 3 = .ok (.iload 4, 2) := by decide +kernel
theorem dX6_sendVotes_5 : decode cX6_sendVotes 5 = .ok (.aload_n 0, 1) := by decide +kernel
theorem dX6_sendVotes_6 : decode cX6_sendVotes 6 = .ok (.getfield 18, 3) := by decide +kernel
theorem dX6_sendVotes_9 : decode cX6_sendVotes 9 = .ok (.arraylength, 1) := by decide +kernel
theorem dX6_sendVotes_10 : decode cX6_sendVotes 10 = .ok (.if_icmp .ge 23, 3) := by decide +kernel
theorem dX6_sendVotes_13 : decode cX6_sendVotes 13 = .ok (.aload_n 0, 1) := by decide +kernel
theorem dX6_sendVotes_14 : decode cX6_sendVotes 14 = .ok (.getfield 37, 3) := by decide +kernel
theorem dX6_sendVotes_17 : decode cX6_sendVotes 17 = .ok (.iconst 0, 1) := by decide +kernel
theorem dX6_sendVotes_18 : decode cX6_sendVotes 18 = .ok (.iload 4, 2) := by decide +kernel
theorem dX6_sendVotes_20 : decode cX6_sendVotes 20 = .ok (.iconst (-1), 1) := by decide +kernel
theorem dX6_sendVotes_21 : decode cX6_sendVotes 21 = .ok (.iload_n 1, 1) := by decide +kernel
theorem dX6_sendVotes_22 : decode cX6_sendVotes 22 = .ok (.iload_n 2, 1) := by decide +kernel
theorem dX6_sendVotes_23 : decode cX6_sendVotes 23 = .ok (.iload_n 3, 1) := by decide +kernel
theorem dX6_sendVotes_24 : decode cX6_sendVotes 24 = .ok (.invokevirtual 74, 3) := by decide +kernel
theorem dX6_sendVotes_27 : decode cX6_sendVotes 27 = .ok (.iinc 4 1, 3) := by decide +kernel
theorem dX6_sendVotes_30 : decode cX6_sendVotes 30 = .ok (.goto (-27), 3) := by decide +kernel
theorem dX6_sendVotes_33 : decode cX6_sendVotes 33 = .ok (.return_, 1) := by decide +kernel
theorem dX6_sendDecisions_0 : decode cX6_sendDecisions 0 = .ok (.iconst 0, 1) := by decide +kernel
theorem dX6_sendDecisions_1 : decode cX6_sendDecisions 1 = .ok (.istore_n 2, 1) := by decide +kernel
theorem dX6_sendDecisions_2 : decode cX6_sendDecisions 2 = .ok (.iload_n 2, 1) := by decide +kernel
theorem dX6_sendDecisions_3 : decode cX6_sendDecisions 3 = .ok (.aload_n 0, 1) := by decide +kernel
theorem dX6_sendDecisions_4 : decode cX6_sendDecisions 4 = .ok (.getfield 11, 3) := by decide +kernel
theorem dX6_sendDecisions_7 : decode cX6_sendDecisions 7 = .ok (.arraylength, 1) := by decide +kernel
theorem dX6_sendDecisions_8 : decode cX6_sendDecisions 8 = .ok (.if_icmp .ge 22, 3) := by decide +kernel
theorem dX6_sendDecisions_11 : decode cX6_sendDecisions 11 = .ok (.aload_n 0, 1) := by decide +kernel
theorem dX6_sendDecisions_12 : decode cX6_sendDecisions 12 = .ok (.getfield 37, 3) := by decide +kernel
theorem dX6_sendDecisions_15 : decode cX6_sendDecisions 15 = .ok (.iconst 4, 1) := by decide +kernel
theorem dX6_sendDecisions_16 : decode cX6_sendDecisions 16 = .ok (.iload_n 2, 1) := by decide +kernel
theorem dX6_sendDecisions_17 : decode cX6_sendDecisions 17 = .ok (.iconst (-1), 1) := by decide +kernel
theorem dX6_sendDecisions_18 : decode cX6_sendDecisions 18 = .ok (.iconst (-1), 1) := by decide +kernel
theorem dX6_sendDecisions_19 : decode cX6_sendDecisions 19 = .ok (.iconst (-1), 1) := by decide +kernel
theorem dX6_sendDecisions_20 : decode cX6_sendDecisions 20 = .ok (.iload_n 1, 1) := by decide +kernel
theorem dX6_sendDecisions_21 : decode cX6_sendDecisions 21 = .ok (.invokevirtual 74, 3) := by decide +kernel
theorem dX6_sendDecisions_24 : decode cX6_sendDecisions 24 = .ok (.iinc 2 1, 3) := by decide +kernel
theorem dX6_sendDecisions_27 : decode cX6_sendDecisions 27 = .ok (.goto (-25), 3) := by decide +kernel
theorem dX6_sendDecisions_30 : decode cX6_sendDecisions 30 = .ok (.return_, 1) := by decide +kernel
theorem dX6_bring_0 : decode cX6_bring 0 = .ok (.aload_n 0, 1) := by decide +kernel
theorem dX6_bring_1 : decode cX6_bring 1 = .ok (.getfield 37, 3) := by decide +kernel
theorem dX6_bring_4 : decode cX6_bring 4 = .ok (.iload_n 1, 1) := by decide +kernel
theorem dX6_bring_5 : decode cX6_bring 5 = .ok (.iconst 0, 1) := by decide +kernel
theorem dX6_bring_6 : decode cX6_bring 6 = .ok (.invokevirtual 128, 3) := by decide +kernel
theorem dX6_bring_9 : decode cX6_bring 9 = .ok (.istore_n 2, 1) := by decide +kernel
theorem dX6_bring_10 : decode cX6_bring 10 = .ok (.aload_n 0, 1) := by decide +kernel
theorem dX6_bring_11 : decode cX6_bring 11 = .ok (.getfield 37, 3) := by decide +kernel
theorem dX6_bring_14 : decode cX6_bring 14 = .ok (.iload_n 1, 1) := by decide +kernel
theorem dX6_bring_15 : decode cX6_bring 15 = .ok (.iconst 1, 1) := by decide +kernel
theorem dX6_bring_16 : decode cX6_bring 16 = .ok (.invokevirtual 128, 3) := by decide +kernel
theorem dX6_bring_19 : decode cX6_bring 19 = .ok (.istore_n 3, 1) := by decide +kernel
theorem dX6_bring_20 : decode cX6_bring 20 = .ok (.aload_n 0, 1) := by decide +kernel
theorem dX6_bring_21 : decode cX6_bring 21 = .ok (.iload_n 2, 1) := by decide +kernel
theorem dX6_bring_22 : decode cX6_bring 22 = .ok (.iload_n 3, 1) := by decide +kernel
theorem dX6_bring_23 : decode cX6_bring 23 = .ok (.invokevirtual 202, 3) := by decide +kernel
theorem dX6_bring_26 : decode cX6_bring 26 = .ok (.istore 4, 2) := by decide +kernel
theorem dX6_bring_28 : decode cX6_bring 28 = .ok (.iload 4, 2) := by decide +kernel
theorem dX6_bring_30 : decode cX6_bring 30 = .ok (.ifCond .eq 13, 3) := by decide +kernel
theorem dX6_bring_33 : decode cX6_bring 33 = .ok (.aload_n 0, 1) := by decide +kernel
theorem dX6_bring_34 : decode cX6_bring 34 = .ok (.iload_n 1, 1) := by decide +kernel
theorem dX6_bring_35 : decode cX6_bring 35 = .ok (.iload_n 2, 1) := by decide +kernel
theorem dX6_bring_36 : decode cX6_bring 36 = .ok (.iload_n 3, 1) := by decide +kernel
theorem dX6_bring_37 : decode cX6_bring 37 = .ok (.invokevirtual 206, 3) := by decide +kernel
theorem dX6_bring_40 : decode cX6_bring 40 = .ok (.goto 4, 3) := by decide +kernel
theorem dX6_bring_43 : decode cX6_bring 43 = .ok (.iconst 0, 1) := by decide +kernel
theorem dX6_bring_44 : decode cX6_bring 44 = .ok (.istore 5, 2) := by decide +kernel
theorem dX6_bring_46 : decode cX6_bring 46 = .ok (.aload_n 0, 1) := by decide +kernel
theorem dX6_bring_47 : decode cX6_bring 47 = .ok (.getfield 37, 3) := by decide +kernel
theorem dX6_bring_50 : decode cX6_bring 50 = .ok (.iload 5, 2) := by decide +kernel
theorem dX6_bring_52 : decode cX6_bring 52 = .ok (.iconst 1, 1) := by decide +kernel
theorem dX6_bring_53 : decode cX6_bring 53 = .ok (.isub, 1) := by decide +kernel
theorem dX6_bring_54 : decode cX6_bring 54 = .ok (.invokevirtual 63, 3) := by decide +kernel
theorem dX6_bring_57 : decode cX6_bring 57 = .ok (.ifCond .ne 5, 3) := by decide +kernel
theorem dX6_bring_60 : decode cX6_bring 60 = .ok (.iconst (-1), 1) := by decide +kernel
theorem dX6_bring_61 : decode cX6_bring 61 = .ok (.ireturn, 1) := by decide +kernel
theorem dX6_bring_62 : decode cX6_bring 62 = .ok (.iload 4, 2) := by decide +kernel
theorem dX6_bring_64 : decode cX6_bring 64 = .ok (.ifCond .eq 10, 3) := by decide +kernel
theorem dX6_bring_67 : decode cX6_bring 67 = .ok (.aload_n 0, 1) := by decide +kernel
theorem dX6_bring_68 : decode cX6_bring 68 = .ok (.iload_n 1, 1) := by decide +kernel
theorem dX6_bring_69 : decode cX6_bring 69 = .ok (.iload_n 2, 1) := by decide +kernel
theorem dX6_bring_70 : decode cX6_bring 70 = .ok (.iload_n 3, 1) := by decide +kernel
theorem dX6_bring_71 : decode cX6_bring 71 = .ok (.invokevirtual 210, 3) := by decide +kernel
theorem dX6_bring_74 : decode cX6_bring 74 = .ok (.aload_n 0, 1) := by decide +kernel
theorem dX6_bring_75 : decode cX6_bring 75 = .ok (.getfield 37, 3) := by decide +kernel
theorem dX6_bring_78 : decode cX6_bring 78 = .ok (.iload_n 1, 1) := by decide +kernel
theorem dX6_bring_79 : decode cX6_bring 79 = .ok (.invokevirtual 105, 3) := by decide +kernel
theorem dX6_bring_82 : decode cX6_bring 82 = .ok (.aload_n 0, 1) := by decide +kernel
theorem dX6_bring_83 : decode cX6_bring 83 = .ok (.dup, 1) := by decide +kernel
theorem dX6_bring_84 : decode cX6_bring 84 = .ok (.getfield 174, 3) := by decide +kernel
theorem dX6_bring_87 : decode cX6_bring 87 = .ok (.iconst 1, 1) := by decide +kernel
theorem dX6_bring_88 : decode cX6_bring 88 = .ok (.iadd, 1) := by decide +kernel
theorem dX6_bring_89 : decode cX6_bring 89 = .ok (.putfield 174, 3) := by decide +kernel
theorem dX6_bring_92 : decode cX6_bring 92 = .ok (.iload_n 2, 1) := by decide +kernel
theorem dX6_bring_93 : decode cX6_bring 93 = .ok (.ireturn, 1) := by decide +kernel
theorem dX6_isUp_0 : decode cX6_isUp 0 = .ok (.iload_n 1, 1) := by decide +kernel
theorem dX6_isUp_1 : decode cX6_isUp 1 = .ok (.tableswitch 128 0 5 #[39, 70, 39, 70, 97, 70], 39) := by decide +kernel
theorem dX6_isUp_40 : decode cX6_isUp 40 = .ok (.iload_n 2, 1) := by decide +kernel
theorem dX6_isUp_41 : decode cX6_isUp 41 = .ok (.ifCond .lt 28, 3) := by decide +kernel
theorem dX6_isUp_44 : decode cX6_isUp 44 = .ok (.iload_n 2, 1) := by decide +kernel
theorem dX6_isUp_45 : decode cX6_isUp 45 = .ok (.aload_n 0, 1) := by decide +kernel
theorem dX6_isUp_46 : decode cX6_isUp 46 = .ok (.getfield 18, 3) := by decide +kernel
theorem dX6_isUp_49 : decode cX6_isUp 49 = .ok (.arraylength, 1) := by decide +kernel
theorem dX6_isUp_50 : decode cX6_isUp 50 = .ok (.if_icmp .ge 19, 3) := by decide +kernel
theorem dX6_isUp_53 : decode cX6_isUp 53 = .ok (.aload_n 0, 1) := by decide +kernel
theorem dX6_isUp_54 : decode cX6_isUp 54 = .ok (.getfield 18, 3) := by decide +kernel
theorem dX6_isUp_57 : decode cX6_isUp 57 = .ok (.iload_n 2, 1) := by decide +kernel
theorem dX6_isUp_58 : decode cX6_isUp 58 = .ok (.aaload, 1) := by decide +kernel
theorem dX6_isUp_59 : decode cX6_isUp 59 = .ok (.getfield 143, 3) := by decide +kernel
theorem dX6_isUp_62 : decode cX6_isUp 62 = .ok (.ifCond .eq 7, 3) := by decide +kernel
theorem dX6_isUp_65 : decode cX6_isUp 65 = .ok (.iconst 1, 1) := by decide +kernel
theorem dX6_isUp_66 : decode cX6_isUp 66 = .ok (.goto 4, 3) := by decide +kernel
theorem dX6_isUp_69 : decode cX6_isUp 69 = .ok (.iconst 0, 1) := by decide +kernel
theorem dX6_isUp_70 : decode cX6_isUp 70 = .ok (.ireturn, 1) := by decide +kernel
theorem dX6_isUp_71 : decode cX6_isUp 71 = .ok (.iload_n 2, 1) := by decide +kernel
theorem dX6_isUp_72 : decode cX6_isUp 72 = .ok (.ifCond .lt 24, 3) := by decide +kernel
theorem dX6_isUp_75 : decode cX6_isUp 75 = .ok (.iload_n 2, 1) := by decide +kernel
theorem dX6_isUp_76 : decode cX6_isUp 76 = .ok (.iconst 3, 1) := by decide +kernel
theorem dX6_isUp_77 : decode cX6_isUp 77 = .ok (.if_icmp .ge 19, 3) := by decide +kernel
theorem dX6_isUp_80 : decode cX6_isUp 80 = .ok (.aload_n 0, 1) := by decide +kernel
theorem dX6_isUp_81 : decode cX6_isUp 81 = .ok (.getfield 27, 3) := by decide +kernel
theorem dX6_isUp_84 : decode cX6_isUp 84 = .ok (.iload_n 2, 1) := by decide +kernel
theorem dX6_isUp_85 : decode cX6_isUp 85 = .ok (.aaload, 1) := by decide +kernel
theorem dX6_isUp_86 : decode cX6_isUp 86 = .ok (.getfield 88, 3) := by decide +kernel
theorem dX6_isUp_89 : decode cX6_isUp 89 = .ok (.ifCond .eq 7, 3) := by decide +kernel
theorem dX6_isUp_92 : decode cX6_isUp 92 = .ok (.iconst 1, 1) := by decide +kernel
theorem dX6_isUp_93 : decode cX6_isUp 93 = .ok (.goto 4, 3) := by decide +kernel
theorem dX6_isUp_96 : decode cX6_isUp 96 = .ok (.iconst 0, 1) := by decide +kernel
theorem dX6_isUp_97 : decode cX6_isUp 97 = .ok (.ireturn, 1) := by decide +kernel
theorem dX6_isUp_98 : decode cX6_isUp 98 = .ok (.iload_n 2, 1) := by decide +kernel
theorem dX6_isUp_99 : decode cX6_isUp 99 = .ok (.ifCond .lt 28, 3) := by decide +kernel
theorem dX6_isUp_102 : decode cX6_isUp 102 = .ok (.iload_n 2, 1) := by decide +kernel
theorem dX6_isUp_103 : decode cX6_isUp 103 = .ok (.aload_n 0, 1) := by decide +kernel
theorem dX6_isUp_104 : decode cX6_isUp 104 = .ok (.getfield 11, 3) := by decide +kernel
theorem dX6_isUp_107 : decode cX6_isUp 107 = .ok (.arraylength, 1) := by decide +kernel
theorem dX6_isUp_108 : decode cX6_isUp 108 = .ok (.if_icmp .ge 19, 3) := by decide +kernel
theorem dX6_isUp_111 : decode cX6_isUp 111 = .ok (.aload_n 0, 1) := by decide +kernel
theorem dX6_isUp_112 : decode cX6_isUp 112 = .ok (.getfield 11, 3) := by decide +kernel
theorem dX6_isUp_115 : decode cX6_isUp 115 = .ok (.iload_n 2, 1) := by decide +kernel
theorem dX6_isUp_116 : decode cX6_isUp 116 = .ok (.aaload, 1) := by decide +kernel
theorem dX6_isUp_117 : decode cX6_isUp 117 = .ok (.getfield 59, 3) := by decide +kernel
theorem dX6_isUp_120 : decode cX6_isUp 120 = .ok (.ifCond .eq 7, 3) := by decide +kernel
theorem dX6_isUp_123 : decode cX6_isUp 123 = .ok (.iconst 1, 1) := by decide +kernel
theorem dX6_isUp_124 : decode cX6_isUp 124 = .ok (.goto 4, 3) := by decide +kernel
theorem dX6_isUp_127 : decode cX6_isUp 127 = .ok (.iconst 0, 1) := by decide +kernel
theorem dX6_isUp_128 : decode cX6_isUp 128 = .ok (.ireturn, 1) := by decide +kernel
theorem dX6_isUp_129 : decode cX6_isUp 129 = .ok (.iconst 0, 1) := by decide +kernel
theorem dX6_isUp_130 : decode cX6_isUp 130 = .ok (.ireturn, 1) := by decide +kernel
theorem dX6_answersTo_0 : decode cX6_answersTo 0 = .ok (.aload_n 0, 1) := by decide +kernel
theorem dX6_answersTo_1 : decode cX6_answersTo 1 = .ok (.getfield 37, 3) := by decide +kernel
theorem dX6_answersTo_4 : decode cX6_answersTo 4 = .ok (.iload_n 1, 1) := by decide +kernel
theorem dX6_answersTo_5 : decode cX6_answersTo 5 = .ok (.iconst 4, 1) := by decide +kernel
theorem dX6_answersTo_6 : decode cX6_answersTo 6 = .ok (.invokevirtual 128, 3) := by decide +kernel
theorem dX6_answersTo_9 : decode cX6_answersTo 9 = .ok (.istore 4, 2) := by decide +kernel
theorem dX6_answersTo_11 : decode cX6_answersTo 11 = .ok (.aload_n 0, 1) := by decide +kernel
theorem dX6_answersTo_12 : decode cX6_answersTo 12 = .ok (.getfield 37, 3) := by decide +kernel
theorem dX6_answersTo_15 : decode cX6_answersTo 15 = .ok (.iload_n 1, 1) := by decide +kernel
theorem dX6_answersTo_16 : decode cX6_answersTo 16 = .ok (.iconst 2, 1) := by decide +kernel
theorem dX6_answersTo_17 : decode cX6_answersTo 17 = .ok (.invokevirtual 128, 3) := by decide +kernel
theorem dX6_answersTo_20 : decode cX6_answersTo 20 = .ok (.istore 5, 2) := by decide +kernel
theorem dX6_answersTo_22 : decode cX6_answersTo 22 = .ok (.iload_n 2, 1) := by decide +kernel
theorem dX6_answersTo_23 : decode cX6_answersTo 23 = .ok (.tableswitch 215 0 5 #[37, 57, 121, 141, 215, 197], 37) := by decide +kernel
theorem dX6_answersTo_60 : decode cX6_answersTo 60 = .ok (.iload 4, 2) := by decide +kernel
theorem dX6_answersTo_62 : decode cX6_answersTo 62 = .ok (.aload_n 0, 1) := by decide +kernel
theorem dX6_answersTo_63 : decode cX6_answersTo 63 = .ok (.getfield 18, 3) := by decide +kernel
theorem dX6_answersTo_66 : decode cX6_answersTo 66 = .ok (.iload_n 3, 1) := by decide +kernel
theorem dX6_answersTo_67 : decode cX6_answersTo 67 = .ok (.aaload, 1) := by decide +kernel
theorem dX6_answersTo_68 : decode cX6_answersTo 68 = .ok (.getfield 140, 3) := by decide +kernel
theorem dX6_answersTo_71 : decode cX6_answersTo 71 = .ok (.if_icmp .lt 7, 3) := by decide +kernel
theorem dX6_answersTo_74 : decode cX6_answersTo 74 = .ok (.iconst 3, 1) := by decide +kernel
theorem dX6_answersTo_75 : decode cX6_answersTo 75 = .ok (.goto 4, 3) := by decide +kernel
theorem dX6_answersTo_78 : decode cX6_answersTo 78 = .ok (.iconst 0, 1) := by decide +kernel
theorem dX6_answersTo_79 : decode cX6_answersTo 79 = .ok (.ireturn, 1) := by decide +kernel
theorem dX6_answersTo_80 : decode cX6_answersTo 80 = .ok (.iload 4, 2) := by decide +kernel
theorem dX6_answersTo_82 : decode cX6_answersTo 82 = .ok (.aload_n 0, 1) := by decide +kernel
theorem dX6_answersTo_83 : decode cX6_answersTo 83 = .ok (.getfield 37, 3) := by decide +kernel
theorem dX6_answersTo_86 : decode cX6_answersTo 86 = .ok (.iload_n 1, 1) := by decide +kernel
theorem dX6_answersTo_87 : decode cX6_answersTo 87 = .ok (.iconst 5, 1) := by decide +kernel
theorem dX6_answersTo_88 : decode cX6_answersTo 88 = .ok (.invokevirtual 128, 3) := by decide +kernel
theorem dX6_answersTo_91 : decode cX6_answersTo 91 = .ok (.invokestatic 213, 3) := by decide +kernel
theorem dX6_answersTo_94 : decode cX6_answersTo 94 = .ok (.istore 6, 2) := by decide +kernel
theorem dX6_answersTo_96 : decode cX6_answersTo 96 = .ok (.aload_n 0, 1) := by decide +kernel
theorem dX6_answersTo_97 : decode cX6_answersTo 97 = .ok (.getfield 27, 3) := by decide +kernel
theorem dX6_answersTo_100 : decode cX6_answersTo 100 = .ok (.iload_n 3, 1) := by decide +kernel
theorem dX6_answersTo_101 : decode cX6_answersTo 101 = .ok (.aaload, 1) := by decide +kernel
theorem dX6_answersTo_102 : decode cX6_answersTo 102 = .ok (.aload_n 0, 1) := by decide +kernel
theorem dX6_answersTo_103 : decode cX6_answersTo 103 = .ok (.getfield 37, 3) := by decide +kernel
theorem dX6_answersTo_106 : decode cX6_answersTo 106 = .ok (.iload_n 1, 1) := by decide +kernel
theorem dX6_answersTo_107 : decode cX6_answersTo 107 = .ok (.iconst 3, 1) := by decide +kernel
theorem dX6_answersTo_108 : decode cX6_answersTo 108 = .ok (.invokevirtual 128, 3) := by decide +kernel
theorem dX6_answersTo_111 : decode cX6_answersTo 111 = .ok (.iload 5, 2) := by decide +kernel
theorem dX6_answersTo_113 : decode cX6_answersTo 113 = .ok (.iload 6, 2) := by decide +kernel
theorem dX6_answersTo_115 : decode cX6_answersTo 115 = .ok (.invokevirtual 216, 3) := by decide +kernel
theorem dX6_answersTo_118 : decode cX6_answersTo 118 = .ok (.istore 7, 2) := by decide +kernel
theorem dX6_answersTo_120 : decode cX6_answersTo 120 = .ok (.iload 7, 2) := by decide +kernel
theorem dX6_answersTo_122 : decode cX6_answersTo 122 = .ok (.aload_n 0, 1) := by decide +kernel
theorem dX6_answersTo_123 : decode cX6_answersTo 123 = .ok (.getfield 27, 3) := by decide +kernel
theorem dX6_answersTo_126 : decode cX6_answersTo 126 = .ok (.iload_n 3, 1) := by decide +kernel
theorem dX6_answersTo_127 : decode cX6_answersTo 127 = .ok (.aaload, 1) := by decide +kernel
theorem dX6_answersTo_128 : decode cX6_answersTo 128 = .ok (.getfield 85, 3) := by decide +kernel
theorem dX6_answersTo_131 : decode cX6_answersTo 131 = .ok (.if_icmp .eq 11, 3) := by decide +kernel
theorem dX6_answersTo_134 : decode cX6_answersTo 134 = .ok (.aload_n 0, 1) := by decide +kernel
theorem dX6_answersTo_135 : decode cX6_answersTo 135 = .ok (.getfield 11, 3) := by decide +kernel
theorem dX6_answersTo_138 : decode cX6_answersTo 138 = .ok (.arraylength, 1) := by decide +kernel
theorem dX6_answersTo_139 : decode cX6_answersTo 139 = .ok (.goto 4, 3) := by decide +kernel
theorem dX6_answersTo_142 : decode cX6_answersTo 142 = .ok (.iconst 0, 1) := by decide +kernel
theorem dX6_answersTo_143 : decode cX6_answersTo 143 = .ok (.ireturn, 1) := by decide +kernel
theorem dX6_answersTo_144 : decode cX6_answersTo 144 = .ok (.iload 4, 2) := by decide +kernel
theorem dX6_answersTo_146 : decode cX6_answersTo 146 = .ok (.aload_n 0, 1) := by decide +kernel
theorem dX6_answersTo_147 : decode cX6_answersTo 147 = .ok (.getfield 18, 3) := by decide +kernel
theorem dX6_answersTo_150 : decode cX6_answersTo 150 = .ok (.iload_n 3, 1) := by decide +kernel
theorem dX6_answersTo_151 : decode cX6_answersTo 151 = .ok (.aaload, 1) := by decide +kernel
theorem dX6_answersTo_152 : decode cX6_answersTo 152 = .ok (.getfield 140, 3) := by decide +kernel
theorem dX6_answersTo_155 : decode cX6_answersTo 155 = .ok (.if_icmp .le 7, 3) := by decide +kernel
theorem dX6_answersTo_158 : decode cX6_answersTo 158 = .ok (.iconst 1, 1) := by decide +kernel
theorem dX6_answersTo_159 : decode cX6_answersTo 159 = .ok (.goto 4, 3) := by decide +kernel
theorem dX6_answersTo_162 : decode cX6_answersTo 162 = .ok (.iconst 0, 1) := by decide +kernel
theorem dX6_answersTo_163 : decode cX6_answersTo 163 = .ok (.ireturn, 1) := by decide +kernel
theorem dX6_answersTo_164 : decode cX6_answersTo 164 = .ok (.aload_n 0, 1) := by decide +kernel
theorem dX6_answersTo_165 : decode cX6_answersTo 165 = .ok (.getfield 27, 3) := by decide +kernel
theorem dX6_answersTo_168 : decode cX6_answersTo 168 = .ok (.iload_n 3, 1) := by decide +kernel
theorem dX6_answersTo_169 : decode cX6_answersTo 169 = .ok (.aaload, 1) := by decide +kernel
theorem dX6_answersTo_170 : decode cX6_answersTo 170 = .ok (.iload 4, 2) := by decide +kernel
theorem dX6_answersTo_172 : decode cX6_answersTo 172 = .ok (.iload 5, 2) := by decide +kernel
theorem dX6_answersTo_174 : decode cX6_answersTo 174 = .ok (.invokevirtual 219, 3) := by decide +kernel
theorem dX6_answersTo_177 : decode cX6_answersTo 177 = .ok (.ifCond .eq 19, 3) := by decide +kernel
theorem dX6_answersTo_180 : decode cX6_answersTo 180 = .ok (.aload_n 0, 1) := by decide +kernel
theorem dX6_answersTo_181 : decode cX6_answersTo 181 = .ok (.getfield 27, 3) := by decide +kernel
theorem dX6_answersTo_184 : decode cX6_answersTo 184 = .ok (.iload_n 3, 1) := by decide +kernel
theorem dX6_answersTo_185 : decode cX6_answersTo 185 = .ok (.aaload, 1) := by decide +kernel
theorem dX6_answersTo_186 : decode cX6_answersTo 186 = .ok (.invokevirtual 222, 3) := by decide +kernel
theorem dX6_answersTo_189 : decode cX6_answersTo 189 = .ok (.ifCond .eq 7, 3) := by decide +kernel
theorem dX6_answersTo_192 : decode cX6_answersTo 192 = .ok (.iconst 1, 1) := by decide +kernel
theorem dX6_answersTo_193 : decode cX6_answersTo 193 = .ok (.goto 4, 3) := by decide +kernel
theorem dX6_answersTo_196 : decode cX6_answersTo 196 = .ok (.iconst 0, 1) := by decide +kernel
theorem dX6_answersTo_197 : decode cX6_answersTo 197 = .ok (.istore 8, 2) := by decide +kernel
theorem dX6_answersTo_199 : decode cX6_answersTo 199 = .ok (.iload 8, 2) := by decide +kernel
theorem dX6_answersTo_201 : decode cX6_answersTo 201 = .ok (.ifCond .eq 17, 3) := by decide +kernel
theorem dX6_answersTo_204 : decode cX6_answersTo 204 = .ok (.aload_n 0, 1) := by decide +kernel
theorem dX6_answersTo_205 : decode cX6_answersTo 205 = .ok (.getfield 11, 3) := by decide +kernel
theorem dX6_answersTo_208 : decode cX6_answersTo 208 = .ok (.arraylength, 1) := by decide +kernel
theorem dX6_answersTo_209 : decode cX6_answersTo 209 = .ok (.aload_n 0, 1) := by decide +kernel
theorem dX6_answersTo_210 : decode cX6_answersTo 210 = .ok (.getfield 18, 3) := by decide +kernel
theorem dX6_answersTo_213 : decode cX6_answersTo 213 = .ok (.arraylength, 1) := by decide +kernel
theorem dX6_answersTo_214 : decode cX6_answersTo 214 = .ok (.imul, 1) := by decide +kernel
theorem dX6_answersTo_215 : decode cX6_answersTo 215 = .ok (.goto 4, 3) := by decide +kernel
theorem dX6_answersTo_218 : decode cX6_answersTo 218 = .ok (.iconst 0, 1) := by decide +kernel
theorem dX6_answersTo_219 : decode cX6_answersTo 219 = .ok (.ireturn, 1) := by decide +kernel
theorem dX6_answersTo_220 : decode cX6_answersTo 220 = .ok (.aload_n 0, 1) := by decide +kernel
theorem dX6_answersTo_221 : decode cX6_answersTo 221 = .ok (.getfield 27, 3) := by decide +kernel
theorem dX6_answersTo_224 : decode cX6_answersTo 224 = .ok (.iload_n 3, 1) := by decide +kernel
theorem dX6_answersTo_225 : decode cX6_answersTo 225 = .ok (.aaload, 1) := by decide +kernel
theorem dX6_answersTo_226 : decode cX6_answersTo 226 = .ok (.getfield 85, 3) := by decide +kernel
theorem dX6_answersTo_229 : decode cX6_answersTo 229 = .ok (.ifCond .eq 7, 3) := by decide +kernel
theorem dX6_answersTo_232 : decode cX6_answersTo 232 = .ok (.iconst 1, 1) := by decide +kernel
theorem dX6_answersTo_233 : decode cX6_answersTo 233 = .ok (.goto 4, 3) := by decide +kernel
theorem dX6_answersTo_236 : decode cX6_answersTo 236 = .ok (.iconst 0, 1) := by decide +kernel
theorem dX6_answersTo_237 : decode cX6_answersTo 237 = .ok (.ireturn, 1) := by decide +kernel
theorem dX6_answersTo_238 : decode cX6_answersTo 238 = .ok (.iconst 0, 1) := by decide +kernel
theorem dX6_answersTo_239 : decode cX6_answersTo 239 = .ok (.ireturn, 1) := by decide +kernel
theorem dX6_take_0 : decode cX6_take 0 = .ok (.iload_n 2, 1) := by decide +kernel
theorem dX6_take_1 : decode cX6_take 1 = .ok (.tableswitch 160 0 5 #[39, 48, 62, 79, 93, 135], 39) := by decide +kernel
theorem dX6_take_40 : decode cX6_take 40 = .ok (.aload_n 0, 1) := by decide +kernel
theorem dX6_take_41 : decode cX6_take 41 = .ok (.iload_n 1, 1) := by decide +kernel
theorem dX6_take_42 : decode cX6_take 42 = .ok (.iload_n 3, 1) := by decide +kernel
theorem dX6_take_43 : decode cX6_take 43 = .ok (.invokevirtual 226, 3) := by decide +kernel
theorem dX6_take_46 : decode cX6_take 46 = .ok (.goto 115, 3) := by decide +kernel
theorem dX6_take_49 : decode cX6_take 49 = .ok (.aload_n 0, 1) := by decide +kernel
theorem dX6_take_50 : decode cX6_take 50 = .ok (.iload_n 1, 1) := by decide +kernel
theorem dX6_take_51 : decode cX6_take 51 = .ok (.aload_n 0, 1) := by decide +kernel
theorem dX6_take_52 : decode cX6_take 52 = .ok (.getfield 27, 3) := by decide +kernel
theorem dX6_take_55 : decode cX6_take 55 = .ok (.iload_n 3, 1) := by decide +kernel
theorem dX6_take_56 : decode cX6_take 56 = .ok (.aaload, 1) := by decide +kernel
theorem dX6_take_57 : decode cX6_take 57 = .ok (.invokevirtual 229, 3) := by decide +kernel
theorem dX6_take_60 : decode cX6_take 60 = .ok (.goto 101, 3) := by decide +kernel
theorem dX6_take_63 : decode cX6_take 63 = .ok (.aload_n 0, 1) := by decide +kernel
theorem dX6_take_64 : decode cX6_take 64 = .ok (.iload_n 3, 1) := by decide +kernel
theorem dX6_take_65 : decode cX6_take 65 = .ok (.aload_n 0, 1) := by decide +kernel
theorem dX6_take_66 : decode cX6_take 66 = .ok (.getfield 37, 3) := by decide +kernel
theorem dX6_take_69 : decode cX6_take 69 = .ok (.iload_n 1, 1) := by decide +kernel
theorem dX6_take_70 : decode cX6_take 70 = .ok (.iconst 4, 1) := by decide +kernel
theorem dX6_take_71 : decode cX6_take 71 = .ok (.invokevirtual 128, 3) := by decide +kernel
theorem dX6_take_74 : decode cX6_take 74 = .ok (.invokevirtual 233, 3) := by decide +kernel
theorem dX6_take_77 : decode cX6_take 77 = .ok (.goto 84, 3) := by decide +kernel
theorem dX6_take_80 : decode cX6_take 80 = .ok (.aload_n 0, 1) := by decide +kernel
theorem dX6_take_81 : decode cX6_take 81 = .ok (.iload_n 1, 1) := by decide +kernel
theorem dX6_take_82 : decode cX6_take 82 = .ok (.aload_n 0, 1) := by decide +kernel
theorem dX6_take_83 : decode cX6_take 83 = .ok (.getfield 27, 3) := by decide +kernel
theorem dX6_take_86 : decode cX6_take 86 = .ok (.iload_n 3, 1) := by decide +kernel
theorem dX6_take_87 : decode cX6_take 87 = .ok (.aaload, 1) := by decide +kernel
theorem dX6_take_88 : decode cX6_take 88 = .ok (.invokevirtual 236, 3) := by decide +kernel
theorem dX6_take_91 : decode cX6_take 91 = .ok (.goto 70, 3) := by decide +kernel
theorem dX6_take_94 : decode cX6_take 94 = .ok (.aload_n 0, 1) := by decide +kernel
theorem dX6_take_95 : decode cX6_take 95 = .ok (.getfield 37, 3) := by decide +kernel
theorem dX6_take_98 : decode cX6_take 98 = .ok (.iload_n 1, 1) := by decide +kernel
theorem dX6_take_99 : decode cX6_take 99 = .ok (.iconst 5, 1) := by decide +kernel
theorem dX6_take_100 : decode cX6_take 100 = .ok (.invokevirtual 128, 3) := by decide +kernel
theorem dX6_take_103 : decode cX6_take 103 = .ok (.iconst 1, 1) := by decide +kernel
theorem dX6_take_104 : decode cX6_take 104 = .ok (.if_icmp .ne 7, 3) := by decide +kernel
theorem dX6_take_107 : decode cX6_take 107 = .ok (.iconst 1, 1) := by decide +kernel
theorem dX6_take_108 : decode cX6_take 108 = .ok (.goto 4, 3) := by decide +kernel
theorem dX6_take_111 : decode cX6_take 111 = .ok (.iconst 0, 1) := by decide +kernel
theorem dX6_take_112 : decode cX6_take 112 = .ok (.istore 4, 2) := by decide +kernel
theorem dX6_take_114 : decode cX6_take 114 = .ok (.aload_n 0, 1) := by decide +kernel
theorem dX6_take_115 : decode cX6_take 115 = .ok (.getfield 11, 3) := by decide +kernel
theorem dX6_take_118 : decode cX6_take 118 = .ok (.iload_n 3, 1) := by decide +kernel
theorem dX6_take_119 : decode cX6_take 119 = .ok (.aaload, 1) := by decide +kernel
theorem dX6_take_120 : decode cX6_take 120 = .ok (.iload 4, 2) := by decide +kernel
theorem dX6_take_122 : decode cX6_take 122 = .ok (.ifCond .eq 7, 3) := by decide +kernel
theorem dX6_take_125 : decode cX6_take 125 = .ok (.iconst 3, 1) := by decide +kernel
theorem dX6_take_126 : decode cX6_take 126 = .ok (.goto 4, 3) := by decide +kernel
theorem dX6_take_129 : decode cX6_take 129 = .ok (.iconst 4, 1) := by decide +kernel
theorem dX6_take_130 : decode cX6_take 130 = .ok (.putfield 55, 3) := by decide +kernel
theorem dX6_take_133 : decode cX6_take 133 = .ok (.goto 28, 3) := by decide +kernel
theorem dX6_take_136 : decode cX6_take 136 = .ok (.aload_n 0, 1) := by decide +kernel
theorem dX6_take_137 : decode cX6_take 137 = .ok (.aload_n 0, 1) := by decide +kernel
theorem dX6_take_138 : decode cX6_take 138 = .ok (.getfield 37, 3) := by decide +kernel
theorem dX6_take_141 : decode cX6_take 141 = .ok (.iload_n 1, 1) := by decide +kernel
theorem dX6_take_142 : decode cX6_take 142 = .ok (.iconst 2, 1) := by decide +kernel
theorem dX6_take_143 : decode cX6_take 143 = .ok (.invokevirtual 128, 3) := by decide +kernel
theorem dX6_take_146 : decode cX6_take 146 = .ok (.aload_n 0, 1) := by decide +kernel
theorem dX6_take_147 : decode cX6_take 147 = .ok (.getfield 27, 3) := by decide +kernel
theorem dX6_take_150 : decode cX6_take 150 = .ok (.iload_n 3, 1) := by decide +kernel
theorem dX6_take_151 : decode cX6_take 151 = .ok (.aaload, 1) := by decide +kernel
theorem dX6_take_152 : decode cX6_take 152 = .ok (.getfield 85, 3) := by decide +kernel
theorem dX6_take_155 : decode cX6_take 155 = .ok (.invokevirtual 239, 3) := by decide +kernel
theorem dX6_take_158 : decode cX6_take 158 = .ok (.goto 3, 3) := by decide +kernel
theorem dX6_take_161 : decode cX6_take 161 = .ok (.return_, 1) := by decide +kernel
theorem dX6_takeVote_0 : decode cX6_takeVote 0 = .ok (.aload_n 0, 1) := by decide +kernel
theorem dX6_takeVote_1 : decode cX6_takeVote 1 = .ok (.getfield 37, 3) := by decide +kernel
theorem dX6_takeVote_4 : decode cX6_takeVote 4 = .ok (.iload_n 1, 1) := by decide +kernel
theorem dX6_takeVote_5 : decode cX6_takeVote 5 = .ok (.iconst 3, 1) := by decide +kernel
theorem dX6_takeVote_6 : decode cX6_takeVote 6 = .ok (.invokevirtual 128, 3) := by decide +kernel
theorem dX6_takeVote_9 : decode cX6_takeVote 9 = .ok (.istore_n 3, 1) := by decide +kernel
theorem dX6_takeVote_10 : decode cX6_takeVote 10 = .ok (.aload_n 0, 1) := by decide +kernel
theorem dX6_takeVote_11 : decode cX6_takeVote 11 = .ok (.getfield 37, 3) := by decide +kernel
theorem dX6_takeVote_14 : decode cX6_takeVote 14 = .ok (.iload_n 1, 1) := by decide +kernel
theorem dX6_takeVote_15 : decode cX6_takeVote 15 = .ok (.iconst 4, 1) := by decide +kernel
theorem dX6_takeVote_16 : decode cX6_takeVote 16 = .ok (.invokevirtual 128, 3) := by decide +kernel
theorem dX6_takeVote_19 : decode cX6_takeVote 19 = .ok (.istore 4, 2) := by decide +kernel
theorem dX6_takeVote_21 : decode cX6_takeVote 21 = .ok (.aload_n 0, 1) := by decide +kernel
theorem dX6_takeVote_22 : decode cX6_takeVote 22 = .ok (.getfield 37, 3) := by decide +kernel
theorem dX6_takeVote_25 : decode cX6_takeVote 25 = .ok (.iload_n 1, 1) := by decide +kernel
theorem dX6_takeVote_26 : decode cX6_takeVote 26 = .ok (.iconst 5, 1) := by decide +kernel
theorem dX6_takeVote_27 : decode cX6_takeVote 27 = .ok (.invokevirtual 128, 3) := by decide +kernel
theorem dX6_takeVote_30 : decode cX6_takeVote 30 = .ok (.istore 5, 2) := by decide +kernel
theorem dX6_takeVote_32 : decode cX6_takeVote 32 = .ok (.iload 4, 2) := by decide +kernel
theorem dX6_takeVote_34 : decode cX6_takeVote 34 = .ok (.aload_n 0, 1) := by decide +kernel
theorem dX6_takeVote_35 : decode cX6_takeVote 35 = .ok (.getfield 18, 3) := by decide +kernel
theorem dX6_takeVote_38 : decode cX6_takeVote 38 = .ok (.iload_n 2, 1) := by decide +kernel
theorem dX6_takeVote_39 : decode cX6_takeVote 39 = .ok (.aaload, 1) := by decide +kernel
theorem dX6_takeVote_40 : decode cX6_takeVote 40 = .ok (.getfield 140, 3) := by decide +kernel
theorem dX6_takeVote_43 : decode cX6_takeVote 43 = .ok (.if_icmp .ge 4, 3) := by decide +kernel
theorem dX6_takeVote_46 : decode cX6_takeVote 46 = .ok (.return_, 1) := by decide +kernel
theorem dX6_takeVote_47 : decode cX6_takeVote 47 = .ok (.aload_n 0, 1) := by decide +kernel
theorem dX6_takeVote_48 : decode cX6_takeVote 48 = .ok (.getfield 18, 3) := by decide +kernel
theorem dX6_takeVote_51 : decode cX6_takeVote 51 = .ok (.iload_n 2, 1) := by decide +kernel
theorem dX6_takeVote_52 : decode cX6_takeVote 52 = .ok (.aaload, 1) := by decide +kernel
theorem dX6_takeVote_53 : decode cX6_takeVote 53 = .ok (.iload_n 3, 1) := by decide +kernel
theorem dX6_takeVote_54 : decode cX6_takeVote 54 = .ok (.iload 4, 2) := by decide +kernel
theorem dX6_takeVote_56 : decode cX6_takeVote 56 = .ok (.iload 5, 2) := by decide +kernel
theorem dX6_takeVote_58 : decode cX6_takeVote 58 = .ok (.invokevirtual 242, 3) := by decide +kernel
theorem dX6_takeVote_61 : decode cX6_takeVote 61 = .ok (.aload_n 0, 1) := by decide +kernel
theorem dX6_takeVote_62 : decode cX6_takeVote 62 = .ok (.getfield 44, 3) := by decide +kernel
theorem dX6_takeVote_65 : decode cX6_takeVote 65 = .ok (.iload_n 3, 1) := by decide +kernel
theorem dX6_takeVote_66 : decode cX6_takeVote 66 = .ok (.iload 4, 2) := by decide +kernel
theorem dX6_takeVote_68 : decode cX6_takeVote 68 = .ok (.iload 5, 2) := by decide +kernel
theorem dX6_takeVote_70 : decode cX6_takeVote 70 = .ok (.iload_n 2, 1) := by decide +kernel
theorem dX6_takeVote_71 : decode cX6_takeVote 71 = .ok (.invokevirtual 245, 3) := by decide +kernel
theorem dX6_takeVote_74 : decode cX6_takeVote 74 = .ok (.iconst 0, 1) := by decide +kernel
theorem dX6_takeVote_75 : decode cX6_takeVote 75 = .ok (.istore 6, 2) := by decide +kernel
theorem dX6_takeVote_77 : decode cX6_takeVote 77 = .ok (.iload 6, 2) := by decide +kernel
theorem dX6_takeVote_79 : decode cX6_takeVote 79 = .ok (.iconst 3, 1) := by decide +kernel
theorem dX6_takeVote_80 : decode cX6_takeVote 80 = .ok (.if_icmp .ge 25, 3) := by decide +kernel
theorem dX6_takeVote_83 : decode cX6_takeVote 83 = .ok (.aload_n 0, 1) := by decide +kernel
theorem dX6_takeVote_84 : decode cX6_takeVote 84 = .ok (.getfield 37, 3) := by decide +kernel
theorem dX6_takeVote_87 : decode cX6_takeVote 87 = .ok (.iconst 1, 1) := by decide +kernel
theorem dX6_takeVote_88 : decode cX6_takeVote 88 = .ok (.iload 6, 2) := by decide +kernel
theorem dX6_takeVote_90 : decode cX6_takeVote 90 = .ok (.iload_n 2, 1) := by decide +kernel
theorem dX6_takeVote_91 : decode cX6_takeVote 91 = .ok (.iload_n 3, 1) := by decide +kernel
theorem dX6_takeVote_92 : decode cX6_takeVote 92 = .ok (.iload 4, 2) := by decide +kernel
theorem dX6_takeVote_94 : decode cX6_takeVote 94 = .ok (.iload 5, 2) := by decide +kernel
theorem dX6_takeVote_96 : decode cX6_takeVote 96 = .ok (.invokevirtual 74, 3) := by decide +kernel
theorem dX6_takeVote_99 : decode cX6_takeVote 99 = .ok (.iinc 6 1, 3) := by decide +kernel
theorem dX6_takeVote_102 : decode cX6_takeVote 102 = .ok (.goto (-25), 3) := by decide +kernel
theorem dX6_takeVote_105 : decode cX6_takeVote 105 = .ok (.return_, 1) := by decide +kernel
theorem dX6_takeAsk_0 : decode cX6_takeAsk 0 = .ok (.aload_n 0, 1) := by decide +kernel
theorem dX6_takeAsk_1 : decode cX6_takeAsk 1 = .ok (.getfield 18, 3) := by decide +kernel
theorem dX6_takeAsk_4 : decode cX6_takeAsk 4 = .ok (.iload_n 1, 1) := by decide +kernel
theorem dX6_takeAsk_5 : decode cX6_takeAsk 5 = .ok (.aaload, 1) := by decide +kernel
theorem dX6_takeAsk_6 : decode cX6_takeAsk 6 = .ok (.astore_n 3, 1) := by decide +kernel
theorem dX6_takeAsk_7 : decode cX6_takeAsk 7 = .ok (.iload_n 2, 1) := by decide +kernel
theorem dX6_takeAsk_8 : decode cX6_takeAsk 8 = .ok (.aload_n 3, 1) := by decide +kernel
theorem dX6_takeAsk_9 : decode cX6_takeAsk 9 = .ok (.getfield 140, 3) := by decide +kernel
theorem dX6_takeAsk_12 : decode cX6_takeAsk 12 = .ok (.if_icmp .gt 4, 3) := by decide +kernel
theorem dX6_takeAsk_15 : decode cX6_takeAsk 15 = .ok (.return_, 1) := by decide +kernel
theorem dX6_takeAsk_16 : decode cX6_takeAsk 16 = .ok (.aload_n 3, 1) := by decide +kernel
theorem dX6_takeAsk_17 : decode cX6_takeAsk 17 = .ok (.iload_n 2, 1) := by decide +kernel
theorem dX6_takeAsk_18 : decode cX6_takeAsk 18 = .ok (.putfield 140, 3) := by decide +kernel
theorem dX6_takeAsk_21 : decode cX6_takeAsk 21 = .ok (.aload_n 0, 1) := by decide +kernel
theorem dX6_takeAsk_22 : decode cX6_takeAsk 22 = .ok (.getfield 37, 3) := by decide +kernel
theorem dX6_takeAsk_25 : decode cX6_takeAsk 25 = .ok (.iconst 3, 1) := by decide +kernel
theorem dX6_takeAsk_26 : decode cX6_takeAsk 26 = .ok (.iload_n 2, 1) := by decide +kernel
theorem dX6_takeAsk_27 : decode cX6_takeAsk 27 = .ok (.invokestatic 249, 3) := by decide +kernel
theorem dX6_takeAsk_30 : decode cX6_takeAsk 30 = .ok (.iload_n 1, 1) := by decide +kernel
theorem dX6_takeAsk_31 : decode cX6_takeAsk 31 = .ok (.iconst (-1), 1) := by decide +kernel
theorem dX6_takeAsk_32 : decode cX6_takeAsk 32 = .ok (.iload_n 2, 1) := by decide +kernel
theorem dX6_takeAsk_33 : decode cX6_takeAsk 33 = .ok (.iconst (-1), 1) := by decide +kernel
theorem dX6_takeAsk_34 : decode cX6_takeAsk 34 = .ok (.invokevirtual 74, 3) := by decide +kernel
theorem dX6_takeAsk_37 : decode cX6_takeAsk 37 = .ok (.aload_n 0, 1) := by decide +kernel
theorem dX6_takeAsk_38 : decode cX6_takeAsk 38 = .ok (.getfield 37, 3) := by decide +kernel
theorem dX6_takeAsk_41 : decode cX6_takeAsk 41 = .ok (.aload_n 3, 1) := by decide +kernel
theorem dX6_takeAsk_42 : decode cX6_takeAsk 42 = .ok (.getfield 144, 3) := by decide +kernel
theorem dX6_takeAsk_45 : decode cX6_takeAsk 45 = .ok (.invokevirtual 252, 3) := by decide +kernel
theorem dX6_takeAsk_48 : decode cX6_takeAsk 48 = .ok (.return_, 1) := by decide +kernel
theorem dX6_takeVoted_0 : decode cX6_takeVoted 0 = .ok (.aload_n 0, 1) := by decide +kernel
theorem dX6_takeVoted_1 : decode cX6_takeVoted 1 = .ok (.getfield 37, 3) := by decide +kernel
theorem dX6_takeVoted_4 : decode cX6_takeVoted 4 = .ok (.iload_n 1, 1) := by decide +kernel
theorem dX6_takeVoted_5 : decode cX6_takeVoted 5 = .ok (.iconst 4, 1) := by decide +kernel
theorem dX6_takeVoted_6 : decode cX6_takeVoted 6 = .ok (.invokevirtual 128, 3) := by decide +kernel
theorem dX6_takeVoted_9 : decode cX6_takeVoted 9 = .ok (.istore_n 3, 1) := by decide +kernel
theorem dX6_takeVoted_10 : decode cX6_takeVoted 10 = .ok (.iload_n 3, 1) := by decide +kernel
theorem dX6_takeVoted_11 : decode cX6_takeVoted 11 = .ok (.aload_n 0, 1) := by decide +kernel
theorem dX6_takeVoted_12 : decode cX6_takeVoted 12 = .ok (.getfield 37, 3) := by decide +kernel
theorem dX6_takeVoted_15 : decode cX6_takeVoted 15 = .ok (.iload_n 1, 1) := by decide +kernel
theorem dX6_takeVoted_16 : decode cX6_takeVoted 16 = .ok (.iconst 5, 1) := by decide +kernel
theorem dX6_takeVoted_17 : decode cX6_takeVoted 17 = .ok (.invokevirtual 128, 3) := by decide +kernel
theorem dX6_takeVoted_20 : decode cX6_takeVoted 20 = .ok (.invokestatic 213, 3) := by decide +kernel
theorem dX6_takeVoted_23 : decode cX6_takeVoted 23 = .ok (.istore 4, 2) := by decide +kernel
theorem dX6_takeVoted_25 : decode cX6_takeVoted 25 = .ok (.aload_n 2, 1) := by decide +kernel
theorem dX6_takeVoted_26 : decode cX6_takeVoted 26 = .ok (.aload_n 2, 1) := by decide +kernel
theorem dX6_takeVoted_27 : decode cX6_takeVoted 27 = .ok (.getfield 78, 3) := by decide +kernel
theorem dX6_takeVoted_30 : decode cX6_takeVoted 30 = .ok (.iload_n 3, 1) := by decide +kernel
theorem dX6_takeVoted_31 : decode cX6_takeVoted 31 = .ok (.invokestatic 256, 3) := by decide +kernel
theorem dX6_takeVoted_34 : decode cX6_takeVoted 34 = .ok (.putfield 78, 3) := by decide +kernel
theorem dX6_takeVoted_37 : decode cX6_takeVoted 37 = .ok (.aload_n 2, 1) := by decide +kernel
theorem dX6_takeVoted_38 : decode cX6_takeVoted 38 = .ok (.getfield 85, 3) := by decide +kernel
theorem dX6_takeVoted_41 : decode cX6_takeVoted 41 = .ok (.istore 5, 2) := by decide +kernel
theorem dX6_takeVoted_43 : decode cX6_takeVoted 43 = .ok (.aload_n 2, 1) := by decide +kernel
theorem dX6_takeVoted_44 : decode cX6_takeVoted 44 = .ok (.aload_n 0, 1) := by decide +kernel
theorem dX6_takeVoted_45 : decode cX6_takeVoted 45 = .ok (.getfield 37, 3) := by decide +kernel
theorem dX6_takeVoted_48 : decode cX6_takeVoted 48 = .ok (.iload_n 1, 1) := by decide +kernel
theorem dX6_takeVoted_49 : decode cX6_takeVoted 49 = .ok (.iconst 3, 1) := by decide +kernel
theorem dX6_takeVoted_50 : decode cX6_takeVoted 50 = .ok (.invokevirtual 128, 3) := by decide +kernel
theorem dX6_takeVoted_53 : decode cX6_takeVoted 53 = .ok (.aload_n 0, 1) := by decide +kernel
theorem dX6_takeVoted_54 : decode cX6_takeVoted 54 = .ok (.getfield 37, 3) := by decide +kernel
theorem dX6_takeVoted_57 : decode cX6_takeVoted 57 = .ok (.iload_n 1, 1) := by decide +kernel
theorem dX6_takeVoted_58 : decode cX6_takeVoted 58 = .ok (.iconst 2, 1) := by decide +kernel
theorem dX6_takeVoted_59 : decode cX6_takeVoted 59 = .ok (.invokevirtual 128, 3) := by decide +kernel
theorem dX6_takeVoted_62 : decode cX6_takeVoted 62 = .ok (.iload 4, 2) := by decide +kernel
theorem dX6_takeVoted_64 : decode cX6_takeVoted 64 = .ok (.invokevirtual 259, 3) := by decide +kernel
theorem dX6_takeVoted_67 : decode cX6_takeVoted 67 = .ok (.aload_n 2, 1) := by decide +kernel
theorem dX6_takeVoted_68 : decode cX6_takeVoted 68 = .ok (.getfield 85, 3) := by decide +kernel
theorem dX6_takeVoted_71 : decode cX6_takeVoted 71 = .ok (.iload 5, 2) := by decide +kernel
theorem dX6_takeVoted_73 : decode cX6_takeVoted 73 = .ok (.if_icmp .eq 11, 3) := by decide +kernel
theorem dX6_takeVoted_76 : decode cX6_takeVoted 76 = .ok (.aload_n 0, 1) := by decide +kernel
theorem dX6_takeVoted_77 : decode cX6_takeVoted 77 = .ok (.aload_n 2, 1) := by decide +kernel
theorem dX6_takeVoted_78 : decode cX6_takeVoted 78 = .ok (.getfield 85, 3) := by decide +kernel
theorem dX6_takeVoted_81 : decode cX6_takeVoted 81 = .ok (.invokevirtual 95, 3) := by decide +kernel
theorem dX6_takeVoted_84 : decode cX6_takeVoted 84 = .ok (.return_, 1) := by decide +kernel
theorem dX6_takeTold_0 : decode cX6_takeTold 0 = .ok (.aload_n 0, 1) := by decide +kernel
theorem dX6_takeTold_1 : decode cX6_takeTold 1 = .ok (.getfield 37, 3) := by decide +kernel
theorem dX6_takeTold_4 : decode cX6_takeTold 4 = .ok (.iload_n 1, 1) := by decide +kernel
theorem dX6_takeTold_5 : decode cX6_takeTold 5 = .ok (.iconst 4, 1) := by decide +kernel
theorem dX6_takeTold_6 : decode cX6_takeTold 6 = .ok (.invokevirtual 128, 3) := by decide +kernel
theorem dX6_takeTold_9 : decode cX6_takeTold 9 = .ok (.istore_n 3, 1) := by decide +kernel
theorem dX6_takeTold_10 : decode cX6_takeTold 10 = .ok (.aload_n 0, 1) := by decide +kernel
theorem dX6_takeTold_11 : decode cX6_takeTold 11 = .ok (.getfield 37, 3) := by decide +kernel
theorem dX6_takeTold_14 : decode cX6_takeTold 14 = .ok (.iload_n 1, 1) := by decide +kernel
theorem dX6_takeTold_15 : decode cX6_takeTold 15 = .ok (.iconst 2, 1) := by decide +kernel
theorem dX6_takeTold_16 : decode cX6_takeTold 16 = .ok (.invokevirtual 128, 3) := by decide +kernel
theorem dX6_takeTold_19 : decode cX6_takeTold 19 = .ok (.istore 4, 2) := by decide +kernel
theorem dX6_takeTold_21 : decode cX6_takeTold 21 = .ok (.aload_n 2, 1) := by decide +kernel
theorem dX6_takeTold_22 : decode cX6_takeTold 22 = .ok (.aload_n 2, 1) := by decide +kernel
theorem dX6_takeTold_23 : decode cX6_takeTold 23 = .ok (.getfield 78, 3) := by decide +kernel
theorem dX6_takeTold_26 : decode cX6_takeTold 26 = .ok (.iload_n 3, 1) := by decide +kernel
theorem dX6_takeTold_27 : decode cX6_takeTold 27 = .ok (.invokestatic 256, 3) := by decide +kernel
theorem dX6_takeTold_30 : decode cX6_takeTold 30 = .ok (.putfield 78, 3) := by decide +kernel
theorem dX6_takeTold_33 : decode cX6_takeTold 33 = .ok (.aload_n 2, 1) := by decide +kernel
theorem dX6_takeTold_34 : decode cX6_takeTold 34 = .ok (.iload_n 3, 1) := by decide +kernel
theorem dX6_takeTold_35 : decode cX6_takeTold 35 = .ok (.iload 4, 2) := by decide +kernel
theorem dX6_takeTold_37 : decode cX6_takeTold 37 = .ok (.invokevirtual 219, 3) := by decide +kernel
theorem dX6_takeTold_40 : decode cX6_takeTold 40 = .ok (.ifCond .ne 4, 3) := by decide +kernel
theorem dX6_takeTold_43 : decode cX6_takeTold 43 = .ok (.return_, 1) := by decide +kernel
theorem dX6_takeTold_44 : decode cX6_takeTold 44 = .ok (.aload_n 2, 1) := by decide +kernel
theorem dX6_takeTold_45 : decode cX6_takeTold 45 = .ok (.invokevirtual 222, 3) := by decide +kernel
theorem dX6_takeTold_48 : decode cX6_takeTold 48 = .ok (.istore 5, 2) := by decide +kernel
theorem dX6_takeTold_50 : decode cX6_takeTold 50 = .ok (.aload_n 2, 1) := by decide +kernel
theorem dX6_takeTold_51 : decode cX6_takeTold 51 = .ok (.dup, 1) := by decide +kernel
theorem dX6_takeTold_52 : decode cX6_takeTold 52 = .ok (.getfield 154, 3) := by decide +kernel
theorem dX6_takeTold_55 : decode cX6_takeTold 55 = .ok (.iconst 1, 1) := by decide +kernel
theorem dX6_takeTold_56 : decode cX6_takeTold 56 = .ok (.iload 4, 2) := by decide +kernel
theorem dX6_takeTold_58 : decode cX6_takeTold 58 = .ok (.ishl, 1) := by decide +kernel
theorem dX6_takeTold_59 : decode cX6_takeTold 59 = .ok (.ior, 1) := by decide +kernel
theorem dX6_takeTold_60 : decode cX6_takeTold 60 = .ok (.putfield 154, 3) := by decide +kernel
theorem dX6_takeTold_63 : decode cX6_takeTold 63 = .ok (.iconst 0, 1) := by decide +kernel
theorem dX6_takeTold_64 : decode cX6_takeTold 64 = .ok (.istore 6, 2) := by decide +kernel
theorem dX6_takeTold_66 : decode cX6_takeTold 66 = .ok (.iload 6, 2) := by decide +kernel
theorem dX6_takeTold_68 : decode cX6_takeTold 68 = .ok (.aload_n 0, 1) := by decide +kernel
theorem dX6_takeTold_69 : decode cX6_takeTold 69 = .ok (.getfield 11, 3) := by decide +kernel
theorem dX6_takeTold_72 : decode cX6_takeTold 72 = .ok (.arraylength, 1) := by decide +kernel
theorem dX6_takeTold_73 : decode cX6_takeTold 73 = .ok (.if_icmp .ge 36, 3) := by decide +kernel
theorem dX6_takeTold_76 : decode cX6_takeTold 76 = .ok (.aload_n 2, 1) := by decide +kernel
theorem dX6_takeTold_77 : decode cX6_takeTold 77 = .ok (.getfield 262, 3) := by decide +kernel
theorem dX6_takeTold_80 : decode cX6_takeTold 80 = .ok (.iload 6, 2) := by decide +kernel
theorem dX6_takeTold_82 : decode cX6_takeTold 82 = .ok (.aload_n 2, 1) := by decide +kernel
theorem dX6_takeTold_83 : decode cX6_takeTold 83 = .ok (.getfield 262, 3) := by decide +kernel
theorem dX6_takeTold_86 : decode cX6_takeTold 86 = .ok (.iload 6, 2) := by decide +kernel
theorem dX6_takeTold_88 : decode cX6_takeTold 88 = .ok (.iaload, 1) := by decide +kernel
theorem dX6_takeTold_89 : decode cX6_takeTold 89 = .ok (.aload_n 0, 1) := by decide +kernel
theorem dX6_takeTold_90 : decode cX6_takeTold 90 = .ok (.getfield 37, 3) := by decide +kernel
theorem dX6_takeTold_93 : decode cX6_takeTold 93 = .ok (.iload_n 1, 1) := by decide +kernel
theorem dX6_takeTold_94 : decode cX6_takeTold 94 = .ok (.iload 6, 2) := by decide +kernel
theorem dX6_takeTold_96 : decode cX6_takeTold 96 = .ok (.invokevirtual 131, 3) := by decide +kernel
theorem dX6_takeTold_99 : decode cX6_takeTold 99 = .ok (.invokestatic 256, 3) := by decide +kernel
theorem dX6_takeTold_102 : decode cX6_takeTold 102 = .ok (.iastore, 1) := by decide +kernel
theorem dX6_takeTold_103 : decode cX6_takeTold 103 = .ok (.iinc 6 1, 3) := by decide +kernel
theorem dX6_takeTold_106 : decode cX6_takeTold 106 = .ok (.goto (-40), 3) := by decide +kernel
theorem dX6_takeTold_109 : decode cX6_takeTold 109 = .ok (.iload 5, 2) := by decide +kernel
theorem dX6_takeTold_111 : decode cX6_takeTold 111 = .ok (.ifCond .eq 8, 3) := by decide +kernel
theorem dX6_takeTold_114 : decode cX6_takeTold 114 = .ok (.aload_n 0, 1) := by decide +kernel
theorem dX6_takeTold_115 : decode cX6_takeTold 115 = .ok (.aload_n 2, 1) := by decide +kernel
theorem dX6_takeTold_116 : decode cX6_takeTold 116 = .ok (.invokevirtual 265, 3) := by decide +kernel
theorem dX6_takeTold_119 : decode cX6_takeTold 119 = .ok (.return_, 1) := by decide +kernel
theorem dX6_startVoting_0 : decode cX6_startVoting 0 = .ok (.aload_n 1, 1) := by decide +kernel
theorem dX6_startVoting_1 : decode cX6_startVoting 1 = .ok (.iconst 2, 1) := by decide +kernel
theorem dX6_startVoting_2 : decode cX6_startVoting 2 = .ok (.putfield 151, 3) := by decide +kernel
theorem dX6_startVoting_5 : decode cX6_startVoting 5 = .ok (.iconst 0, 1) := by decide +kernel
theorem dX6_startVoting_6 : decode cX6_startVoting 6 = .ok (.istore_n 2, 1) := by decide +kernel
theorem dX6_startVoting_7 : decode cX6_startVoting 7 = .ok (.iload_n 2, 1) := by decide +kernel
theorem dX6_startVoting_8 : decode cX6_startVoting 8 = .ok (.aload_n 0, 1) := by decide +kernel
theorem dX6_startVoting_9 : decode cX6_startVoting 9 = .ok (.getfield 11, 3) := by decide +kernel
theorem dX6_startVoting_12 : decode cX6_startVoting 12 = .ok (.arraylength, 1) := by decide +kernel
theorem dX6_startVoting_13 : decode cX6_startVoting 13 = .ok (.if_icmp .ge 37, 3) := by decide +kernel
theorem dX6_startVoting_16 : decode cX6_startVoting 16 = .ok (.aload_n 1, 1) := by decide +kernel
theorem dX6_startVoting_17 : decode cX6_startVoting 17 = .ok (.getfield 262, 3) := by decide +kernel
theorem dX6_startVoting_20 : decode cX6_startVoting 20 = .ok (.iload_n 2, 1) := by decide +kernel
theorem dX6_startVoting_21 : decode cX6_startVoting 21 = .ok (.iaload, 1) := by decide +kernel
theorem dX6_startVoting_22 : decode cX6_startVoting 22 = .ok (.istore_n 3, 1) := by decide +kernel
theorem dX6_startVoting_23 : decode cX6_startVoting 23 = .ok (.aload_n 0, 1) := by decide +kernel
theorem dX6_startVoting_24 : decode cX6_startVoting 24 = .ok (.iload_n 2, 1) := by decide +kernel
theorem dX6_startVoting_25 : decode cX6_startVoting 25 = .ok (.aload_n 1, 1) := by decide +kernel
theorem dX6_startVoting_26 : decode cX6_startVoting 26 = .ok (.getfield 148, 3) := by decide +kernel
theorem dX6_startVoting_29 : decode cX6_startVoting 29 = .ok (.iload_n 3, 1) := by decide +kernel
theorem dX6_startVoting_30 : decode cX6_startVoting 30 = .ok (.ifCond .ne 7, 3) := by decide +kernel
theorem dX6_startVoting_33 : decode cX6_startVoting 33 = .ok (.iconst 2, 1) := by decide +kernel
theorem dX6_startVoting_34 : decode cX6_startVoting 34 = .ok (.goto 7, 3) := by decide +kernel
theorem dX6_startVoting_37 : decode cX6_startVoting 37 = .ok (.iload_n 3, 1) := by decide +kernel
theorem dX6_startVoting_38 : decode cX6_startVoting 38 = .ok (.invokestatic 137, 3) := by decide +kernel
theorem dX6_startVoting_41 : decode cX6_startVoting 41 = .ok (.invokevirtual 70, 3) := by decide +kernel
theorem dX6_startVoting_44 : decode cX6_startVoting 44 = .ok (.iinc 2 1, 3) := by decide +kernel
theorem dX6_startVoting_47 : decode cX6_startVoting 47 = .ok (.goto (-40), 3) := by decide +kernel
theorem dX6_startVoting_50 : decode cX6_startVoting 50 = .ok (.return_, 1) := by decide +kernel
theorem dX6_takeQuestion_0 : decode cX6_takeQuestion 0 = .ok (.iload_n 2, 1) := by decide +kernel
theorem dX6_takeQuestion_1 : decode cX6_takeQuestion 1 = .ok (.ifCond .eq 16, 3) := by decide +kernel
theorem dX6_takeQuestion_4 : decode cX6_takeQuestion 4 = .ok (.aload_n 0, 1) := by decide +kernel
theorem dX6_takeQuestion_5 : decode cX6_takeQuestion 5 = .ok (.getfield 37, 3) := by decide +kernel
theorem dX6_takeQuestion_8 : decode cX6_takeQuestion 8 = .ok (.iconst 4, 1) := by decide +kernel
theorem dX6_takeQuestion_9 : decode cX6_takeQuestion 9 = .ok (.iload_n 1, 1) := by decide +kernel
theorem dX6_takeQuestion_10 : decode cX6_takeQuestion 10 = .ok (.iconst (-1), 1) := by decide +kernel
theorem dX6_takeQuestion_11 : decode cX6_takeQuestion 11 = .ok (.iconst (-1), 1) := by decide +kernel
theorem dX6_takeQuestion_12 : decode cX6_takeQuestion 12 = .ok (.iconst (-1), 1) := by decide +kernel
theorem dX6_takeQuestion_13 : decode cX6_takeQuestion 13 = .ok (.iload_n 2, 1) := by decide +kernel
theorem dX6_takeQuestion_14 : decode cX6_takeQuestion 14 = .ok (.invokevirtual 74, 3) := by decide +kernel
theorem dX6_takeQuestion_17 : decode cX6_takeQuestion 17 = .ok (.return_, 1) := by decide +kernel
theorem dJ6_bitCount_0f7a4_0 : decode cJ6_bitCount_0f7a4 0 = .ok (.iload_n 0, 1) := by decide +kernel
theorem dJ6_bitCount_0f7a4_1 : decode cJ6_bitCount_0f7a4 1 = .ok (.iload_n 0, 1) := by decide +kernel
theorem dJ6_bitCount_0f7a4_2 : decode cJ6_bitCount_0f7a4 2 = .ok (.iconst 1, 1) := by decide +kernel
theorem dJ6_bitCount_0f7a4_3 : decode cJ6_bitCount_0f7a4 3 = .ok (.iushr, 1) := by decide +kernel
theorem dJ6_bitCount_0f7a4_4 : decode cJ6_bitCount_0f7a4 4 = .ok (.ldc_w 265, 3) := by decide +kernel
theorem dJ6_bitCount_0f7a4_7 : decode cJ6_bitCount_0f7a4 7 = .ok (.iand, 1) := by decide +kernel
theorem dJ6_bitCount_0f7a4_8 : decode cJ6_bitCount_0f7a4 8 = .ok (.isub, 1) := by decide +kernel
theorem dJ6_bitCount_0f7a4_9 : decode cJ6_bitCount_0f7a4 9 = .ok (.istore_n 0, 1) := by decide +kernel
theorem dJ6_bitCount_0f7a4_10 : decode cJ6_bitCount_0f7a4 10 = .ok (.iload_n 0, 1) := by decide +kernel
theorem dJ6_bitCount_0f7a4_11 : decode cJ6_bitCount_0f7a4 11 = .ok (.ldc_w 266, 3) := by decide +kernel
theorem dJ6_bitCount_0f7a4_14 : decode cJ6_bitCount_0f7a4 14 = .ok (.iand, 1) := by decide +kernel
theorem dJ6_bitCount_0f7a4_15 : decode cJ6_bitCount_0f7a4 15 = .ok (.iload_n 0, 1) := by decide +kernel
theorem dJ6_bitCount_0f7a4_16 : decode cJ6_bitCount_0f7a4 16 = .ok (.iconst 2, 1) := by decide +kernel
theorem dJ6_bitCount_0f7a4_17 : decode cJ6_bitCount_0f7a4 17 = .ok (.iushr, 1) := by decide +kernel
theorem dJ6_bitCount_0f7a4_18 : decode cJ6_bitCount_0f7a4 18 = .ok (.ldc_w 266, 3) := by decide +kernel
theorem dJ6_bitCount_0f7a4_21 : decode cJ6_bitCount_0f7a4 21 = .ok (.iand, 1) := by decide +kernel
theorem dJ6_bitCount_0f7a4_22 : decode cJ6_bitCount_0f7a4 22 = .ok (.iadd, 1) := by decide +kernel
theorem dJ6_bitCount_0f7a4_23 : decode cJ6_bitCount_0f7a4 23 = .ok (.istore_n 0, 1) := by decide +kernel
theorem dJ6_bitCount_0f7a4_24 : decode cJ6_bitCount_0f7a4 24 = .ok (.iload_n 0, 1) := by decide +kernel
theorem dJ6_bitCount_0f7a4_25 : decode cJ6_bitCount_0f7a4 25 = .ok (.iload_n 0, 1) := by decide +kernel
theorem dJ6_bitCount_0f7a4_26 : decode cJ6_bitCount_0f7a4 26 = .ok (.iconst 4, 1) := by decide +kernel
theorem dJ6_bitCount_0f7a4_27 : decode cJ6_bitCount_0f7a4 27 = .ok (.iushr, 1) := by decide +kernel
theorem dJ6_bitCount_0f7a4_28 : decode cJ6_bitCount_0f7a4 28 = .ok (.iadd, 1) := by decide +kernel
theorem dJ6_bitCount_0f7a4_29 : decode cJ6_bitCount_0f7a4 29 = .ok (.ldc_w 267, 3) := by decide +kernel
theorem dJ6_bitCount_0f7a4_32 : decode cJ6_bitCount_0f7a4 32 = .ok (.iand, 1) := by decide +kernel
theorem dJ6_bitCount_0f7a4_33 : decode cJ6_bitCount_0f7a4 33 = .ok (.istore_n 0, 1) := by decide +kernel
theorem dJ6_bitCount_0f7a4_34 : decode cJ6_bitCount_0f7a4 34 = .ok (.iload_n 0, 1) := by decide +kernel
theorem dJ6_bitCount_0f7a4_35 : decode cJ6_bitCount_0f7a4 35 = .ok (.iload_n 0, 1) := by decide +kernel
theorem dJ6_bitCount_0f7a4_36 : decode cJ6_bitCount_0f7a4 36 = .ok (.bipush 8, 2) := by decide +kernel
theorem dJ6_bitCount_0f7a4_38 : decode cJ6_bitCount_0f7a4 38 = .ok (.iushr, 1) := by decide +kernel
theorem dJ6_bitCount_0f7a4_39 : decode cJ6_bitCount_0f7a4 39 = .ok (.iadd, 1) := by decide +kernel
theorem dJ6_bitCount_0f7a4_40 : decode cJ6_bitCount_0f7a4 40 = .ok (.istore_n 0, 1) := by decide +kernel
theorem dJ6_bitCount_0f7a4_41 : decode cJ6_bitCount_0f7a4 41 = .ok (.iload_n 0, 1) := by decide +kernel
theorem dJ6_bitCount_0f7a4_42 : decode cJ6_bitCount_0f7a4 42 = .ok (.iload_n 0, 1) := by decide +kernel
theorem dJ6_bitCount_0f7a4_43 : decode cJ6_bitCount_0f7a4 43 = .ok (.bipush 16, 2) := by decide +kernel
theorem dJ6_bitCount_0f7a4_45 : decode cJ6_bitCount_0f7a4 45 = .ok (.iushr, 1) := by decide +kernel
theorem dJ6_bitCount_0f7a4_46 : decode cJ6_bitCount_0f7a4 46 = .ok (.iadd, 1) := by decide +kernel
theorem dJ6_bitCount_0f7a4_47 : decode cJ6_bitCount_0f7a4 47 = .ok (.istore_n 0, 1) := by decide +kernel
theorem dJ6_bitCount_0f7a4_48 : decode cJ6_bitCount_0f7a4 48 = .ok (.iload_n 0, 1) := by decide +kernel
theorem dJ6_bitCount_0f7a4_49 : decode cJ6_bitCount_0f7a4 49 = .ok (.bipush 63, 2) := by decide +kernel
theorem dJ6_bitCount_0f7a4_51 : decode cJ6_bitCount_0f7a4 51 = .ok (.iand, 1) := by decide +kernel
theorem dJ6_bitCount_0f7a4_52 : decode cJ6_bitCount_0f7a4 52 = .ok (.ireturn, 1) := by decide +kernel
theorem dJ9_floorMod_7cf53_0 : decode cJ9_floorMod_7cf53 0 = .ok (.iload_n 0, 1) := by decide +kernel
theorem dJ9_floorMod_7cf53_1 : decode cJ9_floorMod_7cf53 1 = .ok (.iload_n 1, 1) := by decide +kernel
theorem dJ9_floorMod_7cf53_2 : decode cJ9_floorMod_7cf53 2 = .ok (.irem, 1) := by decide +kernel
theorem dJ9_floorMod_7cf53_3 : decode cJ9_floorMod_7cf53 3 = .ok (.istore_n 2, 1) := by decide +kernel
theorem dJ9_floorMod_7cf53_4 : decode cJ9_floorMod_7cf53 4 = .ok (.iload_n 0, 1) := by decide +kernel
theorem dJ9_floorMod_7cf53_5 : decode cJ9_floorMod_7cf53 5 = .ok (.iload_n 1, 1) := by decide +kernel
theorem dJ9_floorMod_7cf53_6 : decode cJ9_floorMod_7cf53 6 = .ok (.ixor, 1) := by decide +kernel
theorem dJ9_floorMod_7cf53_7 : decode cJ9_floorMod_7cf53 7 = .ok (.ifCond .ge 11, 3) := by decide +kernel
theorem dJ9_floorMod_7cf53_10 : decode cJ9_floorMod_7cf53 10 = .ok (.iload_n 2, 1) := by decide +kernel
theorem dJ9_floorMod_7cf53_11 : decode cJ9_floorMod_7cf53 11 = .ok (.ifCond .eq 7, 3) := by decide +kernel
theorem dJ9_floorMod_7cf53_14 : decode cJ9_floorMod_7cf53 14 = .ok (.iload_n 2, 1) := by decide +kernel
theorem dJ9_floorMod_7cf53_15 : decode cJ9_floorMod_7cf53 15 = .ok (.iload_n 1, 1) := by decide +kernel
theorem dJ9_floorMod_7cf53_16 : decode cJ9_floorMod_7cf53 16 = .ok (.iadd, 1) := by decide +kernel
theorem dJ9_floorMod_7cf53_17 : decode cJ9_floorMod_7cf53 17 = .ok (.ireturn, 1) := by decide +kernel
theorem dJ9_floorMod_7cf53_18 : decode cJ9_floorMod_7cf53 18 = .ok (.iload_n 2, 1) := by decide +kernel
theorem dJ9_floorMod_7cf53_19 : decode cJ9_floorMod_7cf53 19 = .ok (.ireturn, 1) := by decide +kernel
theorem dJ9_max_7cf53_0 : decode cJ9_max_7cf53 0 = .ok (.iload_n 0, 1) := by decide +kernel
theorem dJ9_max_7cf53_1 : decode cJ9_max_7cf53 1 = .ok (.iload_n 1, 1) := by decide +kernel
theorem dJ9_max_7cf53_2 : decode cJ9_max_7cf53 2 = .ok (.if_icmp .lt 7, 3) := by decide +kernel
theorem dJ9_max_7cf53_5 : decode cJ9_max_7cf53 5 = .ok (.iload_n 0, 1) := by decide +kernel
theorem dJ9_max_7cf53_6 : decode cJ9_max_7cf53 6 = .ok (.goto 4, 3) := by decide +kernel
theorem dJ9_max_7cf53_9 : decode cJ9_max_7cf53 9 = .ok (.iload_n 1, 1) := by decide +kernel
theorem dJ9_max_7cf53_10 : decode cJ9_max_7cf53 10 = .ok (.ireturn, 1) := by decide +kernel
theorem dJ7_fill_53178_0 : decode cJ7_fill_53178 0 = .ok (.iconst 0, 1) := by decide +kernel
theorem dJ7_fill_53178_1 : decode cJ7_fill_53178 1 = .ok (.istore_n 2, 1) := by decide +kernel
theorem dJ7_fill_53178_2 : decode cJ7_fill_53178 2 = .ok (.aload_n 0, 1) := by decide +kernel
theorem dJ7_fill_53178_3 : decode cJ7_fill_53178 3 = .ok (.arraylength, 1) := by decide +kernel
theorem dJ7_fill_53178_4 : decode cJ7_fill_53178 4 = .ok (.istore_n 3, 1) := by decide +kernel
theorem dJ7_fill_53178_5 : decode cJ7_fill_53178 5 = .ok (.iload_n 2, 1) := by decide +kernel
theorem dJ7_fill_53178_6 : decode cJ7_fill_53178 6 = .ok (.iload_n 3, 1) := by decide +kernel
theorem dJ7_fill_53178_7 : decode cJ7_fill_53178 7 = .ok (.if_icmp .ge 13, 3) := by decide +kernel
theorem dJ7_fill_53178_10 : decode cJ7_fill_53178 10 = .ok (.aload_n 0, 1) := by decide +kernel
theorem dJ7_fill_53178_11 : decode cJ7_fill_53178 11 = .ok (.iload_n 2, 1) := by decide +kernel
theorem dJ7_fill_53178_12 : decode cJ7_fill_53178 12 = .ok (.iload_n 1, 1) := by decide +kernel
theorem dJ7_fill_53178_13 : decode cJ7_fill_53178 13 = .ok (.iastore, 1) := by decide +kernel
theorem dJ7_fill_53178_14 : decode cJ7_fill_53178 14 = .ok (.iinc 2 1, 3) := by decide +kernel
theorem dJ7_fill_53178_17 : decode cJ7_fill_53178 17 = .ok (.goto (-12), 3) := by decide +kernel
theorem dJ7_fill_53178_20 : decode cJ7_fill_53178 20 = .ok (.return_, 1) := by decide +kernel
end
section
theorem dX7_init_0 : decode cX7_init 0 = .ok (.aload_n 0, 1) := by decide +kernel
theorem dX7_init_1 : decode cX7_init 1 = .ok (.invokespecial 1, 3) := by decide +kernel
theorem dX7_init_4 : decode cX7_init 4 = .ok (.aload_n 0, 1) := by decide +kernel
theorem dX7_init_5 : decode cX7_init 5 = .ok (.sipush 7200, 3) := by decide +kernel
theorem dX7_init_8 : decode cX7_init 8 = .ok (.newarray .int, 2) := by decide +kernel
theorem dX7_init_10 : decode cX7_init 10 = .ok (.putfield 9, 3) := by decide +kernel
theorem dX7_init_13 : decode cX7_init 13 = .ok (.aload_n 0, 1) := by decide +kernel
theorem dX7_init_14 : decode cX7_init 14 = .ok (.bipush 18, 2) := by decide +kernel
theorem dX7_init_16 : decode cX7_init 16 = .ok (.newarray .int, 2) := by decide +kernel
theorem dX7_init_18 : decode cX7_init 18 = .ok (.putfield 13, 3) := by decide +kernel
theorem dX7_init_21 : decode cX7_init 21 = .ok (.aload_n 0, 1) := by decide +kernel
theorem dX7_init_22 : decode cX7_init 22 = .ok (.bipush 6, 2) := by decide +kernel
theorem dX7_init_24 : decode cX7_init 24 = .ok (.newarray .int, 2) := by decide +kernel
theorem dX7_init_26 : decode cX7_init 26 = .ok (.putfield 16, 3) := by decide +kernel
theorem dX7_init_29 : decode cX7_init 29 = .ok (.aload_n 0, 1) := by decide +kernel
theorem dX7_init_30 : decode cX7_init 30 = .ok (.iconst 3, 1) := by decide +kernel
theorem dX7_init_31 : decode cX7_init 31 = .ok (.bipush 6, 2) := by decide +kernel
theorem dX7_init_33 : decode cX7_init 33 = .ok (.multianewarray 19 2, 4) := by decide +kernel
theorem dX7_init_37 : decode cX7_init 37 = .ok (.putfield 21, 3) := by decide +kernel
theorem dX7_init_40 : decode cX7_init 40 = .ok (.aload_n 0, 1) := by decide +kernel
theorem dX7_init_41 : decode cX7_init 41 = .ok (.iconst 5, 1) := by decide +kernel
theorem dX7_init_42 : decode cX7_init 42 = .ok (.newarray .int, 2) := by decide +kernel
theorem dX7_init_44 : decode cX7_init 44 = .ok (.putfield 24, 3) := by decide +kernel
theorem dX7_init_47 : decode cX7_init 47 = .ok (.aload_n 0, 1) := by decide +kernel
theorem dX7_init_48 : decode cX7_init 48 = .ok (.bipush 30, 2) := by decide +kernel
theorem dX7_init_50 : decode cX7_init 50 = .ok (.newarray .int, 2) := by decide +kernel
theorem dX7_init_52 : decode cX7_init 52 = .ok (.putfield 27, 3) := by decide +kernel
theorem dX7_init_55 : decode cX7_init 55 = .ok (.aload_n 0, 1) := by decide +kernel
theorem dX7_init_56 : decode cX7_init 56 = .ok (.bipush 30, 2) := by decide +kernel
theorem dX7_init_58 : decode cX7_init 58 = .ok (.newarray .int, 2) := by decide +kernel
theorem dX7_init_60 : decode cX7_init 60 = .ok (.putfield 30, 3) := by decide +kernel
theorem dX7_init_63 : decode cX7_init 63 = .ok (.aload_n 0, 1) := by decide +kernel
theorem dX7_init_64 : decode cX7_init 64 = .ok (.sipush 9600, 3) := by decide +kernel
theorem dX7_init_67 : decode cX7_init 67 = .ok (.newarray .int, 2) := by decide +kernel
theorem dX7_init_69 : decode cX7_init 69 = .ok (.putfield 33, 3) := by decide +kernel
theorem dX7_init_72 : decode cX7_init 72 = .ok (.aload_n 0, 1) := by decide +kernel
theorem dX7_init_73 : decode cX7_init 73 = .ok (.sipush 9600, 3) := by decide +kernel
theorem dX7_init_76 : decode cX7_init 76 = .ok (.newarray .int, 2) := by decide +kernel
theorem dX7_init_78 : decode cX7_init 78 = .ok (.putfield 36, 3) := by decide +kernel
theorem dX7_init_81 : decode cX7_init 81 = .ok (.aload_n 0, 1) := by decide +kernel
theorem dX7_init_82 : decode cX7_init 82 = .ok (.iconst 3, 1) := by decide +kernel
theorem dX7_init_83 : decode cX7_init 83 = .ok (.newarray .int, 2) := by decide +kernel
theorem dX7_init_85 : decode cX7_init 85 = .ok (.putfield 39, 3) := by decide +kernel
theorem dX7_init_88 : decode cX7_init 88 = .ok (.aload_n 0, 1) := by decide +kernel
theorem dX7_init_89 : decode cX7_init 89 = .ok (.iconst 3, 1) := by decide +kernel
theorem dX7_init_90 : decode cX7_init 90 = .ok (.newarray .int, 2) := by decide +kernel
theorem dX7_init_92 : decode cX7_init 92 = .ok (.putfield 42, 3) := by decide +kernel
theorem dX7_init_95 : decode cX7_init 95 = .ok (.aload_n 0, 1) := by decide +kernel
theorem dX7_init_96 : decode cX7_init 96 = .ok (.iconst 3, 1) := by decide +kernel
theorem dX7_init_97 : decode cX7_init 97 = .ok (.newarray .int, 2) := by decide +kernel
theorem dX7_init_99 : decode cX7_init 99 = .ok (.putfield 45, 3) := by decide +kernel
theorem dX7_init_102 : decode cX7_init 102 = .ok (.aload_n 0, 1) := by decide +kernel
theorem dX7_init_103 : decode cX7_init 103 = .ok (.iconst 3, 1) := by decide +kernel
theorem dX7_init_104 : decode cX7_init 104 = .ok (.newarray .int, 2) := by decide +kernel
theorem dX7_init_106 : decode cX7_init 106 = .ok (.putfield 48, 3) := by decide +kernel
theorem dX7_init_109 : decode cX7_init 109 = .ok (.aload_n 0, 1) := by decide +kernel
theorem dX7_init_110 : decode cX7_init 110 = .ok (.iconst 3, 1) := by decide +kernel
theorem dX7_init_111 : decode cX7_init 111 = .ok (.newarray .int, 2) := by decide +kernel
theorem dX7_init_113 : decode cX7_init 113 = .ok (.putfield 51, 3) := by decide +kernel
theorem dX7_init_116 : decode cX7_init 116 = .ok (.aload_n 0, 1) := by decide +kernel
theorem dX7_init_117 : decode cX7_init 117 = .ok (.bipush 90, 2) := by decide +kernel
theorem dX7_init_119 : decode cX7_init 119 = .ok (.newarray .int, 2) := by decide +kernel
theorem dX7_init_121 : decode cX7_init 121 = .ok (.putfield 54, 3) := by decide +kernel
theorem dX7_init_124 : decode cX7_init 124 = .ok (.aload_n 0, 1) := by decide +kernel
theorem dX7_init_125 : decode cX7_init 125 = .ok (.bipush 90, 2) := by decide +kernel
theorem dX7_init_127 : decode cX7_init 127 = .ok (.newarray .int, 2) := by decide +kernel
theorem dX7_init_129 : decode cX7_init 129 = .ok (.putfield 57, 3) := by decide +kernel
theorem dX7_init_132 : decode cX7_init 132 = .ok (.aload_n 0, 1) := by decide +kernel
theorem dX7_init_133 : decode cX7_init 133 = .ok (.bipush 90, 2) := by decide +kernel
theorem dX7_init_135 : decode cX7_init 135 = .ok (.newarray .int, 2) := by decide +kernel
theorem dX7_init_137 : decode cX7_init 137 = .ok (.putfield 60, 3) := by decide +kernel
theorem dX7_init_140 : decode cX7_init 140 = .ok (.aload_n 0, 1) := by decide +kernel
theorem dX7_init_141 : decode cX7_init 141 = .ok (.bipush 90, 2) := by decide +kernel
theorem dX7_init_143 : decode cX7_init 143 = .ok (.newarray .int, 2) := by decide +kernel
theorem dX7_init_145 : decode cX7_init 145 = .ok (.putfield 63, 3) := by decide +kernel
theorem dX7_init_148 : decode cX7_init 148 = .ok (.aload_n 0, 1) := by decide +kernel
theorem dX7_init_149 : decode cX7_init 149 = .ok (.bipush 18, 2) := by decide +kernel
theorem dX7_init_151 : decode cX7_init 151 = .ok (.newarray .int, 2) := by decide +kernel
theorem dX7_init_153 : decode cX7_init 153 = .ok (.putfield 66, 3) := by decide +kernel
theorem dX7_init_156 : decode cX7_init 156 = .ok (.aload_n 0, 1) := by decide +kernel
theorem dX7_init_157 : decode cX7_init 157 = .ok (.iload_n 1, 1) := by decide +kernel
theorem dX7_init_158 : decode cX7_init 158 = .ok (.iconst 1, 1) := by decide +kernel
theorem dX7_init_159 : decode cX7_init 159 = .ok (.if_icmp .lt 9, 3) := by decide +kernel
theorem dX7_init_162 : decode cX7_init 162 = .ok (.iload_n 1, 1) := by decide +kernel
theorem dX7_init_163 : decode cX7_init 163 = .ok (.bipush 6, 2) := by decide +kernel
theorem dX7_init_165 : decode cX7_init 165 = .ok (.if_icmp .le 7, 3) := by decide +kernel
theorem dX7_init_168 : decode cX7_init 168 = .ok (.iconst 3, 1) := by decide +kernel
theorem dX7_init_169 : decode cX7_init 169 = .ok (.goto 4, 3) := by decide +kernel
theorem dX7_init_172 : decode cX7_init 172 = .ok (.iload_n 1, 1) := by decide +kernel
theorem dX7_init_173 : decode cX7_init 173 = .ok (.putfield 69, 3) := by decide +kernel
theorem dX7_init_176 : decode cX7_init 176 = .ok (.aload_n 0, 1) := by decide +kernel
theorem dX7_init_177 : decode cX7_init 177 = .ok (.iload_n 2, 1) := by decide +kernel
theorem dX7_init_178 : decode cX7_init 178 = .ok (.iconst 2, 1) := by decide +kernel
theorem dX7_init_179 : decode cX7_init 179 = .ok (.if_icmp .ne 7, 3) := by decide +kernel
theorem dX7_init_182 : decode cX7_init 182 = .ok (.iconst 5, 1) := by decide +kernel
theorem dX7_init_183 : decode cX7_init 183 = .ok (.goto 4, 3) := by decide +kernel
theorem dX7_init_186 : decode cX7_init 186 = .ok (.iconst 3, 1) := by decide +kernel
theorem dX7_init_187 : decode cX7_init 187 = .ok (.putfield 73, 3) := by decide +kernel
theorem dX7_init_190 : decode cX7_init 190 = .ok (.iconst 0, 1) := by decide +kernel
theorem dX7_init_191 : decode cX7_init 191 = .ok (.istore_n 3, 1) := by decide +kernel
theorem dX7_init_192 : decode cX7_init 192 = .ok (.iload_n 3, 1) := by decide +kernel
theorem dX7_init_193 : decode cX7_init 193 = .ok (.iconst 3, 1) := by decide +kernel
theorem dX7_init_194 : decode cX7_init 194 = .ok (.if_icmp .ge 35, 3) := by decide +kernel
theorem dX7_init_197 : decode cX7_init 197 = .ok (.iconst 0, 1) := by decide +kernel
theorem dX7_init_198 : decode cX7_init 198 = .ok (.istore 4, 2) := by decide +kernel
theorem dX7_init_200 : decode cX7_init 200 = .ok (.iload 4, 2) := by decide +kernel
theorem dX7_init_202 : decode cX7_init 202 = .ok (.bipush 6, 2) := by decide +kernel
theorem dX7_init_204 : decode cX7_init 204 = .ok (.if_icmp .ge 19, 3) := by decide +kernel
theorem dX7_init_207 : decode cX7_init 207 = .ok (.aload_n 0, 1) := by decide +kernel
theorem dX7_init_208 : decode cX7_init 208 = .ok (.getfield 21, 3) := by decide +kernel
theorem dX7_init_211 : decode cX7_init 211 = .ok (.iload_n 3, 1) := by decide +kernel
theorem dX7_init_212 : decode cX7_init 212 = .ok (.aaload, 1) := by decide +kernel
theorem dX7_init_213 : decode cX7_init 213 = .ok (.iload 4, 2) := by decide +kernel
theorem dX7_init_215 : decode cX7_init 215 = .ok (.iconst 1, 1) := by decide +kernel
theorem dX7_init_216 : decode cX7_init 216 = .ok (.bastore, 1) := by decide +kernel
theorem dX7_init_217 : decode cX7_init 217 = .ok (.iinc 4 1, 3) := by decide +kernel
theorem dX7_init_220 : decode cX7_init 220 = .ok (.goto (-20), 3) := by decide +kernel
theorem dX7_init_223 : decode cX7_init 223 = .ok (.iinc 3 1, 3) := by decide +kernel
theorem dX7_init_226 : decode cX7_init 226 = .ok (.goto (-34), 3) := by decide +kernel
theorem dX7_init_229 : decode cX7_init 229 = .ok (.iconst 0, 1) := by decide +kernel
theorem dX7_init_230 : decode cX7_init 230 = .ok (.istore_n 3, 1) := by decide +kernel
theorem dX7_init_231 : decode cX7_init 231 = .ok (.iload_n 3, 1) := by decide +kernel
theorem dX7_init_232 : decode cX7_init 232 = .ok (.aload_n 0, 1) := by decide +kernel
theorem dX7_init_233 : decode cX7_init 233 = .ok (.getfield 27, 3) := by decide +kernel
theorem dX7_init_236 : decode cX7_init 236 = .ok (.arraylength, 1) := by decide +kernel
theorem dX7_init_237 : decode cX7_init 237 = .ok (.if_icmp .ge 16, 3) := by decide +kernel
theorem dX7_init_240 : decode cX7_init 240 = .ok (.aload_n 0, 1) := by decide +kernel
theorem dX7_init_241 : decode cX7_init 241 = .ok (.getfield 27, 3) := by decide +kernel
theorem dX7_init_244 : decode cX7_init 244 = .ok (.iload_n 3, 1) := by decide +kernel
theorem dX7_init_245 : decode cX7_init 245 = .ok (.iconst (-1), 1) := by decide +kernel
theorem dX7_init_246 : decode cX7_init 246 = .ok (.iastore, 1) := by decide +kernel
theorem dX7_init_247 : decode cX7_init 247 = .ok (.iinc 3 1, 3) := by decide +kernel
theorem dX7_init_250 : decode cX7_init 250 = .ok (.goto (-19), 3) := by decide +kernel
theorem dX7_init_253 : decode cX7_init 253 = .ok (.iconst 0, 1) := by decide +kernel
theorem dX7_init_254 : decode cX7_init 254 = .ok (.istore_n 3, 1) := by decide +kernel
theorem dX7_init_255 : decode cX7_init 255 = .ok (.iload_n 3, 1) := by decide +kernel
theorem dX7_init_256 : decode cX7_init 256 = .ok (.aload_n 0, 1) := by decide +kernel
theorem dX7_init_257 : decode cX7_init 257 = .ok (.getfield 60, 3) := by decide +kernel
theorem dX7_init_260 : decode cX7_init 260 = .ok (.arraylength, 1) := by decide +kernel
theorem dX7_init_261 : decode cX7_init 261 = .ok (.if_icmp .ge 16, 3) := by decide +kernel
theorem dX7_init_264 : decode cX7_init 264 = .ok (.aload_n 0, 1) := by decide +kernel
theorem dX7_init_265 : decode cX7_init 265 = .ok (.getfield 60, 3) := by decide +kernel
theorem dX7_init_268 : decode cX7_init 268 = .ok (.iload_n 3, 1) := by decide +kernel
theorem dX7_init_269 : decode cX7_init 269 = .ok (.iconst (-1), 1) := by decide +kernel
theorem dX7_init_270 : decode cX7_init 270 = .ok (.iastore, 1) := by decide +kernel
theorem dX7_init_271 : decode cX7_init 271 = .ok (.iinc 3 1, 3) := by decide +kernel
theorem dX7_init_274 : decode cX7_init 274 = .ok (.goto (-19), 3) := by decide +kernel
theorem dX7_init_277 : decode cX7_init 277 = .ok (.return_, 1) := by decide +kernel
theorem dX7_thrown_0 : decode cX7_thrown 0 = .ok (.aload_n 0, 1) := by decide +kernel
theorem dX7_thrown_1 : decode cX7_thrown 1 = .ok (.getfield 76, 3) := by decide +kernel
theorem dX7_thrown_4 : decode cX7_thrown 4 = .ok (.ireturn, 1) := by decide +kernel
theorem dX7_lacks_0 : decode cX7_lacks 0 = .ok (.aload_n 0, 1) := by decide +kernel
theorem dX7_lacks_1 : decode cX7_lacks 1 = .ok (.iload_n 1, 1) := by decide +kernel
theorem dX7_lacks_2 : decode cX7_lacks 2 = .ok (.ifCond .eq 7, 3) := by decide +kernel
theorem dX7_lacks_5 : decode cX7_lacks 5 = .ok (.iconst 0, 1) := by decide +kernel
theorem dX7_lacks_6 : decode cX7_lacks 6 = .ok (.goto 4, 3) := by decide +kernel
theorem dX7_lacks_9 : decode cX7_lacks 9 = .ok (.iconst 1, 1) := by decide +kernel
theorem dX7_lacks_10 : decode cX7_lacks 10 = .ok (.putfield 76, 3) := by decide +kernel
theorem dX7_lacks_13 : decode cX7_lacks 13 = .ok (.iload_n 1, 1) := by decide +kernel
theorem dX7_lacks_14 : decode cX7_lacks 14 = .ok (.ifCond .ne 7, 3) := by decide +kernel
theorem dX7_lacks_17 : decode cX7_lacks 17 = .ok (.iconst 1, 1) := by decide +kernel
theorem dX7_lacks_18 : decode cX7_lacks 18 = .ok (.goto 4, 3) := by decide +kernel
theorem dX7_lacks_21 : decode cX7_lacks 21 = .ok (.iconst 0, 1) := by decide +kernel
theorem dX7_lacks_22 : decode cX7_lacks 22 = .ok (.ireturn, 1) := by decide +kernel
theorem dX7_isManager_0 : decode cX7_isManager 0 = .ok (.iload_n 1, 1) := by decide +kernel
theorem dX7_isManager_1 : decode cX7_isManager 1 = .ok (.ifCond .lt 15, 3) := by decide +kernel
theorem dX7_isManager_4 : decode cX7_isManager 4 = .ok (.iload_n 1, 1) := by decide +kernel
theorem dX7_isManager_5 : decode cX7_isManager 5 = .ok (.aload_n 0, 1) := by decide +kernel
theorem dX7_isManager_6 : decode cX7_isManager 6 = .ok (.getfield 69, 3) := by decide +kernel
theorem dX7_isManager_9 : decode cX7_isManager 9 = .ok (.if_icmp .ge 7, 3) := by decide +kernel
theorem dX7_isManager_12 : decode cX7_isManager 12 = .ok (.iconst 1, 1) := by decide +kernel
theorem dX7_isManager_13 : decode cX7_isManager 13 = .ok (.goto 4, 3) := by decide +kernel
theorem dX7_isManager_16 : decode cX7_isManager 16 = .ok (.iconst 0, 1) := by decide +kernel
theorem dX7_isManager_17 : decode cX7_isManager 17 = .ok (.ireturn, 1) := by decide +kernel
theorem dX7_isAcceptor_0 : decode cX7_isAcceptor 0 = .ok (.iload_n 1, 1) := by decide +kernel
theorem dX7_isAcceptor_1 : decode cX7_isAcceptor 1 = .ok (.ifCond .lt 15, 3) := by decide +kernel
theorem dX7_isAcceptor_4 : decode cX7_isAcceptor 4 = .ok (.iload_n 1, 1) := by decide +kernel
theorem dX7_isAcceptor_5 : decode cX7_isAcceptor 5 = .ok (.aload_n 0, 1) := by decide +kernel
theorem dX7_isAcceptor_6 : decode cX7_isAcceptor 6 = .ok (.getfield 73, 3) := by decide +kernel
theorem dX7_isAcceptor_9 : decode cX7_isAcceptor 9 = .ok (.if_icmp .ge 7, 3) := by decide +kernel
theorem dX7_isAcceptor_12 : decode cX7_isAcceptor 12 = .ok (.iconst 1, 1) := by decide +kernel
theorem dX7_isAcceptor_13 : decode cX7_isAcceptor 13 = .ok (.goto 4, 3) := by decide +kernel
theorem dX7_isAcceptor_16 : decode cX7_isAcceptor 16 = .ok (.iconst 0, 1) := by decide +kernel
theorem dX7_isAcceptor_17 : decode cX7_isAcceptor 17 = .ok (.ireturn, 1) := by decide +kernel
theorem dX7_isLeader_0 : decode cX7_isLeader 0 = .ok (.iload_n 0, 1) := by decide +kernel
theorem dX7_isLeader_1 : decode cX7_isLeader 1 = .ok (.ifCond .lt 12, 3) := by decide +kernel
theorem dX7_isLeader_4 : decode cX7_isLeader 4 = .ok (.iload_n 0, 1) := by decide +kernel
theorem dX7_isLeader_5 : decode cX7_isLeader 5 = .ok (.iconst 3, 1) := by decide +kernel
theorem dX7_isLeader_6 : decode cX7_isLeader 6 = .ok (.if_icmp .ge 7, 3) := by decide +kernel
theorem dX7_isLeader_9 : decode cX7_isLeader 9 = .ok (.iconst 1, 1) := by decide +kernel
theorem dX7_isLeader_10 : decode cX7_isLeader 10 = .ok (.goto 4, 3) := by decide +kernel
theorem dX7_isLeader_13 : decode cX7_isLeader 13 = .ok (.iconst 0, 1) := by decide +kernel
theorem dX7_isLeader_14 : decode cX7_isLeader 14 = .ok (.ireturn, 1) := by decide +kernel
theorem dX7_isMessage_0 : decode cX7_isMessage 0 = .ok (.iload_n 1, 1) := by decide +kernel
theorem dX7_isMessage_1 : decode cX7_isMessage 1 = .ok (.ifCond .lt 15, 3) := by decide +kernel
theorem dX7_isMessage_4 : decode cX7_isMessage 4 = .ok (.iload_n 1, 1) := by decide +kernel
theorem dX7_isMessage_5 : decode cX7_isMessage 5 = .ok (.aload_n 0, 1) := by decide +kernel
theorem dX7_isMessage_6 : decode cX7_isMessage 6 = .ok (.getfield 79, 3) := by decide +kernel
theorem dX7_isMessage_9 : decode cX7_isMessage 9 = .ok (.if_icmp .ge 7, 3) := by decide +kernel
theorem dX7_isMessage_12 : decode cX7_isMessage 12 = .ok (.iconst 1, 1) := by decide +kernel
theorem dX7_isMessage_13 : decode cX7_isMessage 13 = .ok (.goto 4, 3) := by decide +kernel
theorem dX7_isMessage_16 : decode cX7_isMessage 16 = .ok (.iconst 0, 1) := by decide +kernel
theorem dX7_isMessage_17 : decode cX7_isMessage 17 = .ok (.ireturn, 1) := by decide +kernel
theorem dX7_of_0 : decode cX7_of 0 = .ok (.aload_n 0, 1) := by decide +kernel
theorem dX7_of_1 : decode cX7_of 1 = .ok (.getfield 9, 3) := by decide +kernel
theorem dX7_of_4 : decode cX7_of 4 = .ok (.bipush 18, 2) := by decide +kernel
theorem dX7_of_6 : decode cX7_of 6 = .ok (.iload_n 1, 1) := by decide +kernel
theorem dX7_of_7 : decode cX7_of 7 = .ok (.imul, 1) := by decide +kernel
theorem dX7_of_8 : decode cX7_of 8 = .ok (.iload_n 2, 1) := by decide +kernel
theorem dX7_of_9 : decode cX7_of 9 = .ok (.iadd, 1) := by decide +kernel
theorem dX7_of_10 : decode cX7_of 10 = .ok (.iaload, 1) := by decide +kernel
theorem dX7_of_11 : decode cX7_of 11 = .ok (.ireturn, 1) := by decide +kernel
theorem dX7_sends_0 : decode cX7_sends 0 = .ok (.bipush 18, 2) := by decide +kernel
theorem dX7_sends_2 : decode cX7_sends 2 = .ok (.aload_n 0, 1) := by decide +kernel
theorem dX7_sends_3 : decode cX7_sends 3 = .ok (.getfield 79, 3) := by decide +kernel
theorem dX7_sends_6 : decode cX7_sends 6 = .ok (.imul, 1) := by decide +kernel
theorem dX7_sends_7 : decode cX7_sends 7 = .ok (.istore 7, 2) := by decide +kernel
theorem dX7_sends_9 : decode cX7_sends 9 = .ok (.iconst 0, 1) := by decide +kernel
theorem dX7_sends_10 : decode cX7_sends 10 = .ok (.istore 8, 2) := by decide +kernel
theorem dX7_sends_12 : decode cX7_sends 12 = .ok (.iload 8, 2) := by decide +kernel
theorem dX7_sends_14 : decode cX7_sends 14 = .ok (.bipush 18, 2) := by decide +kernel
theorem dX7_sends_16 : decode cX7_sends 16 = .ok (.if_icmp .ge 20, 3) := by decide +kernel
theorem dX7_sends_19 : decode cX7_sends 19 = .ok (.aload_n 0, 1) := by decide +kernel
theorem dX7_sends_20 : decode cX7_sends 20 = .ok (.getfield 9, 3) := by decide +kernel
theorem dX7_sends_23 : decode cX7_sends 23 = .ok (.iload 7, 2) := by decide +kernel
theorem dX7_sends_25 : decode cX7_sends 25 = .ok (.iload 8, 2) := by decide +kernel
theorem dX7_sends_27 : decode cX7_sends 27 = .ok (.iadd, 1) := by decide +kernel
theorem dX7_sends_28 : decode cX7_sends 28 = .ok (.iconst (-1), 1) := by decide +kernel
theorem dX7_sends_29 : decode cX7_sends 29 = .ok (.iastore, 1) := by decide +kernel
theorem dX7_sends_30 : decode cX7_sends 30 = .ok (.iinc 8 1, 3) := by decide +kernel
theorem dX7_sends_33 : decode cX7_sends 33 = .ok (.goto (-21), 3) := by decide +kernel
theorem dX7_sends_36 : decode cX7_sends 36 = .ok (.aload_n 0, 1) := by decide +kernel
theorem dX7_sends_37 : decode cX7_sends 37 = .ok (.getfield 9, 3) := by decide +kernel
theorem dX7_sends_40 : decode cX7_sends 40 = .ok (.iload 7, 2) := by decide +kernel
theorem dX7_sends_42 : decode cX7_sends 42 = .ok (.iload_n 1, 1) := by decide +kernel
theorem dX7_sends_43 : decode cX7_sends 43 = .ok (.iastore, 1) := by decide +kernel
theorem dX7_sends_44 : decode cX7_sends 44 = .ok (.aload_n 0, 1) := by decide +kernel
theorem dX7_sends_45 : decode cX7_sends 45 = .ok (.getfield 9, 3) := by decide +kernel
theorem dX7_sends_48 : decode cX7_sends 48 = .ok (.iload 7, 2) := by decide +kernel
theorem dX7_sends_50 : decode cX7_sends 50 = .ok (.iconst 1, 1) := by decide +kernel
theorem dX7_sends_51 : decode cX7_sends 51 = .ok (.iadd, 1) := by decide +kernel
theorem dX7_sends_52 : decode cX7_sends 52 = .ok (.iload_n 2, 1) := by decide +kernel
theorem dX7_sends_53 : decode cX7_sends 53 = .ok (.iastore, 1) := by decide +kernel
theorem dX7_sends_54 : decode cX7_sends 54 = .ok (.aload_n 0, 1) := by decide +kernel
theorem dX7_sends_55 : decode cX7_sends 55 = .ok (.getfield 9, 3) := by decide +kernel
theorem dX7_sends_58 : decode cX7_sends 58 = .ok (.iload 7, 2) := by decide +kernel
theorem dX7_sends_60 : decode cX7_sends 60 = .ok (.iconst 2, 1) := by decide +kernel
theorem dX7_sends_61 : decode cX7_sends 61 = .ok (.iadd, 1) := by decide +kernel
theorem dX7_sends_62 : decode cX7_sends 62 = .ok (.iload_n 3, 1) := by decide +kernel
theorem dX7_sends_63 : decode cX7_sends 63 = .ok (.iastore, 1) := by decide +kernel
theorem dX7_sends_64 : decode cX7_sends 64 = .ok (.aload_n 0, 1) := by decide +kernel
theorem dX7_sends_65 : decode cX7_sends 65 = .ok (.getfield 9, 3) := by decide +kernel
theorem dX7_sends_68 : decode cX7_sends 68 = .ok (.iload 7, 2) := by decide +kernel
theorem dX7_sends_70 : decode cX7_sends 70 = .ok (.iconst 3, 1) := by decide +kernel
theorem dX7_sends_71 : decode cX7_sends 71 = .ok (.iadd, 1) := by decide +kernel
theorem dX7_sends_72 : decode cX7_sends 72 = .ok (.iload 4, 2) := by decide +kernel
theorem dX7_sends_74 : decode cX7_sends 74 = .ok (.iastore, 1) := by decide +kernel
theorem dX7_sends_75 : decode cX7_sends 75 = .ok (.aload_n 0, 1) := by decide +kernel
theorem dX7_sends_76 : decode cX7_sends 76 = .ok (.getfield 9, 3) := by decide +kernel
theorem dX7_sends_79 : decode cX7_sends 79 = .ok (.iload 7, 2) := by decide +kernel
theorem dX7_sends_81 : decode cX7_sends 81 = .ok (.iconst 4, 1) := by decide +kernel
theorem dX7_sends_82 : decode cX7_sends 82 = .ok (.iadd, 1) := by decide +kernel
theorem dX7_sends_83 : decode cX7_sends 83 = .ok (.iload 5, 2) := by decide +kernel
theorem dX7_sends_85 : decode cX7_sends 85 = .ok (.iastore, 1) := by decide +kernel
theorem dX7_sends_86 : decode cX7_sends 86 = .ok (.aload_n 0, 1) := by decide +kernel
theorem dX7_sends_87 : decode cX7_sends 87 = .ok (.getfield 9, 3) := by decide +kernel
theorem dX7_sends_90 : decode cX7_sends 90 = .ok (.iload 7, 2) := by decide +kernel
theorem dX7_sends_92 : decode cX7_sends 92 = .ok (.iconst 5, 1) := by decide +kernel
theorem dX7_sends_93 : decode cX7_sends 93 = .ok (.iadd, 1) := by decide +kernel
theorem dX7_sends_94 : decode cX7_sends 94 = .ok (.iload 6, 2) := by decide +kernel
theorem dX7_sends_96 : decode cX7_sends 96 = .ok (.iastore, 1) := by decide +kernel
theorem dX7_sends_97 : decode cX7_sends 97 = .ok (.aload_n 0, 1) := by decide +kernel
theorem dX7_sends_98 : decode cX7_sends 98 = .ok (.dup, 1) := by decide +kernel
theorem dX7_sends_99 : decode cX7_sends 99 = .ok (.getfield 79, 3) := by decide +kernel
theorem dX7_sends_102 : decode cX7_sends 102 = .ok (.iconst 1, 1) := by decide +kernel
theorem dX7_sends_103 : decode cX7_sends 103 = .ok (.iadd, 1) := by decide +kernel
theorem dX7_sends_104 : decode cX7_sends 104 = .ok (.putfield 79, 3) := by decide +kernel
theorem dX7_sends_107 : decode cX7_sends 107 = .ok (.aload_n 0, 1) := by decide +kernel
theorem dX7_sends_108 : decode cX7_sends 108 = .ok (.dup, 1) := by decide +kernel
theorem dX7_sends_109 : decode cX7_sends 109 = .ok (.getfield 82, 3) := by decide +kernel
theorem dX7_sends_112 : decode cX7_sends 112 = .ok (.iconst 1, 1) := by decide +kernel
theorem dX7_sends_113 : decode cX7_sends 113 = .ok (.iadd, 1) := by decide +kernel
theorem dX7_sends_114 : decode cX7_sends 114 = .ok (.putfield 82, 3) := by decide +kernel
theorem dX7_sends_117 : decode cX7_sends 117 = .ok (.return_, 1) := by decide +kernel
theorem dX7_votes_0 : decode cX7_votes 0 = .ok (.iconst 0, 1) := by decide +kernel
theorem dX7_votes_1 : decode cX7_votes 1 = .ok (.istore 4, 2) := by decide +kernel
theorem dX7_votes_3 : decode cX7_votes 3 = .ok (.iload 4, 2) := by decide +kernel
theorem dX7_votes_5 : decode cX7_votes 5 = .ok (.aload_n 0, 1) := by decide +kernel
theorem dX7_votes_6 : decode cX7_votes 6 = .ok (.getfield 73, 3) := by decide +kernel
theorem dX7_votes_9 : decode cX7_votes 9 = .ok (.if_icmp .ge 20, 3) := by decide +kernel
theorem dX7_votes_12 : decode cX7_votes 12 = .ok (.aload_n 0, 1) := by decide +kernel
theorem dX7_votes_13 : decode cX7_votes 13 = .ok (.iconst 0, 1) := by decide +kernel
theorem dX7_votes_14 : decode cX7_votes 14 = .ok (.iload 4, 2) := by decide +kernel
theorem dX7_votes_16 : decode cX7_votes 16 = .ok (.iconst (-1), 1) := by decide +kernel
theorem dX7_votes_17 : decode cX7_votes 17 = .ok (.iload_n 1, 1) := by decide +kernel
theorem dX7_votes_18 : decode cX7_votes 18 = .ok (.iload_n 2, 1) := by decide +kernel
theorem dX7_votes_19 : decode cX7_votes 19 = .ok (.iload_n 3, 1) := by decide +kernel
theorem dX7_votes_20 : decode cX7_votes 20 = .ok (.invokevirtual 85, 3) := by decide +kernel
theorem dX7_votes_23 : decode cX7_votes 23 = .ok (.iinc 4 1, 3) := by decide +kernel
theorem dX7_votes_26 : decode cX7_votes 26 = .ok (.goto (-23), 3) := by decide +kernel
theorem dX7_votes_29 : decode cX7_votes 29 = .ok (.return_, 1) := by decide +kernel
theorem dX7_hasRoom_0 : decode cX7_hasRoom 0 = .ok (.aload_n 0, 1) := by decide +kernel
theorem dX7_hasRoom_1 : decode cX7_hasRoom 1 = .ok (.getfield 79, 3) := by decide +kernel
theorem dX7_hasRoom_4 : decode cX7_hasRoom 4 = .ok (.iload_n 1, 1) := by decide +kernel
theorem dX7_hasRoom_5 : decode cX7_hasRoom 5 = .ok (.iadd, 1) := by decide +kernel
theorem dX7_hasRoom_6 : decode cX7_hasRoom 6 = .ok (.sipush 400, 3) := by decide +kernel
theorem dX7_hasRoom_9 : decode cX7_hasRoom 9 = .ok (.if_icmp .gt 7, 3) := by decide +kernel
theorem dX7_hasRoom_12 : decode cX7_hasRoom 12 = .ok (.iconst 1, 1) := by decide +kernel
theorem dX7_hasRoom_13 : decode cX7_hasRoom 13 = .ok (.goto 4, 3) := by decide +kernel
theorem dX7_hasRoom_16 : decode cX7_hasRoom 16 = .ok (.iconst 0, 1) := by decide +kernel
theorem dX7_hasRoom_17 : decode cX7_hasRoom 17 = .ok (.ireturn, 1) := by decide +kernel
theorem dX7_becomes_0 : decode cX7_becomes 0 = .ok (.aload_n 0, 1) := by decide +kernel
theorem dX7_becomes_1 : decode cX7_becomes 1 = .ok (.aload_n 0, 1) := by decide +kernel
theorem dX7_becomes_2 : decode cX7_becomes 2 = .ok (.iload_n 1, 1) := by decide +kernel
theorem dX7_becomes_3 : decode cX7_becomes 3 = .ok (.invokevirtual 89, 3) := by decide +kernel
theorem dX7_becomes_6 : decode cX7_becomes 6 = .ok (.invokevirtual 93, 3) := by decide +kernel
theorem dX7_becomes_9 : decode cX7_becomes 9 = .ok (.ifCond .eq 5, 3) := by decide +kernel
theorem dX7_becomes_12 : decode cX7_becomes 12 = .ok (.iconst 0, 1) := by decide +kernel
theorem dX7_becomes_13 : decode cX7_becomes 13 = .ok (.ireturn, 1) := by decide +kernel
theorem dX7_becomes_14 : decode cX7_becomes 14 = .ok (.aload_n 0, 1) := by decide +kernel
theorem dX7_becomes_15 : decode cX7_becomes 15 = .ok (.getfield 21, 3) := by decide +kernel
theorem dX7_becomes_18 : decode cX7_becomes 18 = .ok (.iconst 0, 1) := by decide +kernel
theorem dX7_becomes_19 : decode cX7_becomes 19 = .ok (.aaload, 1) := by decide +kernel
theorem dX7_becomes_20 : decode cX7_becomes 20 = .ok (.iload_n 1, 1) := by decide +kernel
theorem dX7_becomes_21 : decode cX7_becomes 21 = .ok (.baload, 1) := by decide +kernel
theorem dX7_becomes_22 : decode cX7_becomes 22 = .ok (.ifCond .eq 23, 3) := by decide +kernel
theorem dX7_becomes_25 : decode cX7_becomes 25 = .ok (.aload_n 0, 1) := by decide +kernel
theorem dX7_becomes_26 : decode cX7_becomes 26 = .ok (.getfield 16, 3) := by decide +kernel
theorem dX7_becomes_29 : decode cX7_becomes 29 = .ok (.iload_n 1, 1) := by decide +kernel
theorem dX7_becomes_30 : decode cX7_becomes 30 = .ok (.iaload, 1) := by decide +kernel
theorem dX7_becomes_31 : decode cX7_becomes 31 = .ok (.ifCond .ne 14, 3) := by decide +kernel
theorem dX7_becomes_34 : decode cX7_becomes 34 = .ok (.aload_n 0, 1) := by decide +kernel
theorem dX7_becomes_35 : decode cX7_becomes 35 = .ok (.aload_n 0, 1) := by decide +kernel
theorem dX7_becomes_36 : decode cX7_becomes 36 = .ok (.getfield 73, 3) := by decide +kernel
theorem dX7_becomes_39 : decode cX7_becomes 39 = .ok (.invokevirtual 97, 3) := by decide +kernel
theorem dX7_becomes_42 : decode cX7_becomes 42 = .ok (.ifCond .ne 5, 3) := by decide +kernel
theorem dX7_becomes_45 : decode cX7_becomes 45 = .ok (.iconst 0, 1) := by decide +kernel
theorem dX7_becomes_46 : decode cX7_becomes 46 = .ok (.ireturn, 1) := by decide +kernel
theorem dX7_becomes_47 : decode cX7_becomes 47 = .ok (.aload_n 0, 1) := by decide +kernel
theorem dX7_becomes_48 : decode cX7_becomes 48 = .ok (.getfield 16, 3) := by decide +kernel
theorem dX7_becomes_51 : decode cX7_becomes 51 = .ok (.iload_n 1, 1) := by decide +kernel
theorem dX7_becomes_52 : decode cX7_becomes 52 = .ok (.iload_n 2, 1) := by decide +kernel
theorem dX7_becomes_53 : decode cX7_becomes 53 = .ok (.iastore, 1) := by decide +kernel
theorem dX7_becomes_54 : decode cX7_becomes 54 = .ok (.aload_n 0, 1) := by decide +kernel
theorem dX7_becomes_55 : decode cX7_becomes 55 = .ok (.iload_n 1, 1) := by decide +kernel
theorem dX7_becomes_56 : decode cX7_becomes 56 = .ok (.iconst 0, 1) := by decide +kernel
theorem dX7_becomes_57 : decode cX7_becomes 57 = .ok (.iload_n 2, 1) := by decide +kernel
theorem dX7_becomes_58 : decode cX7_becomes 58 = .ok (.invokevirtual 100, 3) := by decide +kernel
theorem dX7_becomes_61 : decode cX7_becomes 61 = .ok (.iconst 1, 1) := by decide +kernel
theorem dX7_becomes_62 : decode cX7_becomes 62 = .ok (.ireturn, 1) := by decide +kernel
theorem dX7_prepare_0 : decode cX7_prepare 0 = .ok (.aload_n 0, 1) := by decide +kernel
theorem dX7_prepare_1 : decode cX7_prepare 1 = .ok (.iload_n 1, 1) := by decide +kernel
theorem dX7_prepare_2 : decode cX7_prepare 2 = .ok (.iconst 1, 1) := by decide +kernel
theorem dX7_prepare_3 : decode cX7_prepare 3 = .ok (.invokevirtual 104, 3) := by decide +kernel
theorem dX7_prepare_6 : decode cX7_prepare 6 = .ok (.ireturn, 1) := by decide +kernel
theorem dX7_refuse_0 : decode cX7_refuse 0 = .ok (.aload_n 0, 1) := by decide +kernel
theorem dX7_refuse_1 : decode cX7_refuse 1 = .ok (.iload_n 1, 1) := by decide +kernel
theorem dX7_refuse_2 : decode cX7_refuse 2 = .ok (.iconst 2, 1) := by decide +kernel
theorem dX7_refuse_3 : decode cX7_refuse 3 = .ok (.invokevirtual 104, 3) := by decide +kernel
theorem dX7_refuse_6 : decode cX7_refuse 6 = .ok (.ireturn, 1) := by decide +kernel
theorem dX7_resend_0 : decode cX7_resend 0 = .ok (.aload_n 0, 1) := by decide +kernel
theorem dX7_resend_1 : decode cX7_resend 1 = .ok (.aload_n 0, 1) := by decide +kernel
theorem dX7_resend_2 : decode cX7_resend 2 = .ok (.iload_n 1, 1) := by decide +kernel
theorem dX7_resend_3 : decode cX7_resend 3 = .ok (.invokevirtual 89, 3) := by decide +kernel
theorem dX7_resend_6 : decode cX7_resend 6 = .ok (.invokevirtual 93, 3) := by decide +kernel
theorem dX7_resend_9 : decode cX7_resend 9 = .ok (.ifCond .eq 5, 3) := by decide +kernel
theorem dX7_resend_12 : decode cX7_resend 12 = .ok (.iconst 0, 1) := by decide +kernel
theorem dX7_resend_13 : decode cX7_resend 13 = .ok (.ireturn, 1) := by decide +kernel
theorem dX7_resend_14 : decode cX7_resend 14 = .ok (.aload_n 0, 1) := by decide +kernel
theorem dX7_resend_15 : decode cX7_resend 15 = .ok (.getfield 21, 3) := by decide +kernel
theorem dX7_resend_18 : decode cX7_resend 18 = .ok (.iconst 0, 1) := by decide +kernel
theorem dX7_resend_19 : decode cX7_resend 19 = .ok (.aaload, 1) := by decide +kernel
theorem dX7_resend_20 : decode cX7_resend 20 = .ok (.iload_n 1, 1) := by decide +kernel
theorem dX7_resend_21 : decode cX7_resend 21 = .ok (.baload, 1) := by decide +kernel
theorem dX7_resend_22 : decode cX7_resend 22 = .ok (.ifCond .eq 34, 3) := by decide +kernel
theorem dX7_resend_25 : decode cX7_resend 25 = .ok (.aload_n 0, 1) := by decide +kernel
theorem dX7_resend_26 : decode cX7_resend 26 = .ok (.getfield 16, 3) := by decide +kernel
theorem dX7_resend_29 : decode cX7_resend 29 = .ok (.iload_n 1, 1) := by decide +kernel
theorem dX7_resend_30 : decode cX7_resend 30 = .ok (.iaload, 1) := by decide +kernel
theorem dX7_resend_31 : decode cX7_resend 31 = .ok (.iconst 1, 1) := by decide +kernel
theorem dX7_resend_32 : decode cX7_resend 32 = .ok (.if_icmp .eq 13, 3) := by decide +kernel
theorem dX7_resend_35 : decode cX7_resend 35 = .ok (.aload_n 0, 1) := by decide +kernel
theorem dX7_resend_36 : decode cX7_resend 36 = .ok (.getfield 16, 3) := by decide +kernel
theorem dX7_resend_39 : decode cX7_resend 39 = .ok (.iload_n 1, 1) := by decide +kernel
theorem dX7_resend_40 : decode cX7_resend 40 = .ok (.iaload, 1) := by decide +kernel
theorem dX7_resend_41 : decode cX7_resend 41 = .ok (.iconst 2, 1) := by decide +kernel
theorem dX7_resend_42 : decode cX7_resend 42 = .ok (.if_icmp .ne 14, 3) := by decide +kernel
theorem dX7_resend_45 : decode cX7_resend 45 = .ok (.aload_n 0, 1) := by decide +kernel
theorem dX7_resend_46 : decode cX7_resend 46 = .ok (.aload_n 0, 1) := by decide +kernel
theorem dX7_resend_47 : decode cX7_resend 47 = .ok (.getfield 73, 3) := by decide +kernel
theorem dX7_resend_50 : decode cX7_resend 50 = .ok (.invokevirtual 97, 3) := by decide +kernel
theorem dX7_resend_53 : decode cX7_resend 53 = .ok (.ifCond .ne 5, 3) := by decide +kernel
theorem dX7_resend_56 : decode cX7_resend 56 = .ok (.iconst 0, 1) := by decide +kernel
theorem dX7_resend_57 : decode cX7_resend 57 = .ok (.ireturn, 1) := by decide +kernel
theorem dX7_resend_58 : decode cX7_resend 58 = .ok (.aload_n 0, 1) := by decide +kernel
theorem dX7_resend_59 : decode cX7_resend 59 = .ok (.iload_n 1, 1) := by decide +kernel
theorem dX7_resend_60 : decode cX7_resend 60 = .ok (.iconst 0, 1) := by decide +kernel
theorem dX7_resend_61 : decode cX7_resend 61 = .ok (.aload_n 0, 1) := by decide +kernel
theorem dX7_resend_62 : decode cX7_resend 62 = .ok (.getfield 16, 3) := by decide +kernel
theorem dX7_resend_65 : decode cX7_resend 65 = .ok (.iload_n 1, 1) := by decide +kernel
theorem dX7_resend_66 : decode cX7_resend 66 = .ok (.iaload, 1) := by decide +kernel
theorem dX7_resend_67 : decode cX7_resend 67 = .ok (.invokevirtual 100, 3) := by decide +kernel
theorem dX7_resend_70 : decode cX7_resend 70 = .ok (.iconst 1, 1) := by decide +kernel
theorem dX7_resend_71 : decode cX7_resend 71 = .ok (.ireturn, 1) := by decide +kernel
theorem dX7_question_0 : decode cX7_question 0 = .ok (.aload_n 0, 1) := by decide +kernel
theorem dX7_question_1 : decode cX7_question 1 = .ok (.aload_n 0, 1) := by decide +kernel
theorem dX7_question_2 : decode cX7_question 2 = .ok (.iload_n 1, 1) := by decide +kernel
theorem dX7_question_3 : decode cX7_question 3 = .ok (.invokevirtual 89, 3) := by decide +kernel
theorem dX7_question_6 : decode cX7_question 6 = .ok (.invokevirtual 93, 3) := by decide +kernel
theorem dX7_question_9 : decode cX7_question 9 = .ok (.ifCond .eq 5, 3) := by decide +kernel
theorem dX7_question_12 : decode cX7_question 12 = .ok (.iconst 0, 1) := by decide +kernel
theorem dX7_question_13 : decode cX7_question 13 = .ok (.ireturn, 1) := by decide +kernel
theorem dX7_question_14 : decode cX7_question 14 = .ok (.aload_n 0, 1) := by decide +kernel
theorem dX7_question_15 : decode cX7_question 15 = .ok (.getfield 21, 3) := by decide +kernel
theorem dX7_question_18 : decode cX7_question 18 = .ok (.iconst 0, 1) := by decide +kernel
theorem dX7_question_19 : decode cX7_question 19 = .ok (.aaload, 1) := by decide +kernel
theorem dX7_question_20 : decode cX7_question 20 = .ok (.iload_n 1, 1) := by decide +kernel
theorem dX7_question_21 : decode cX7_question 21 = .ok (.baload, 1) := by decide +kernel
theorem dX7_question_22 : decode cX7_question 22 = .ok (.ifCond .eq 11, 3) := by decide +kernel
theorem dX7_question_25 : decode cX7_question 25 = .ok (.aload_n 0, 1) := by decide +kernel
theorem dX7_question_26 : decode cX7_question 26 = .ok (.iconst 3, 1) := by decide +kernel
theorem dX7_question_27 : decode cX7_question 27 = .ok (.invokevirtual 97, 3) := by decide +kernel
theorem dX7_question_30 : decode cX7_question 30 = .ok (.ifCond .ne 5, 3) := by decide +kernel
theorem dX7_question_33 : decode cX7_question 33 = .ok (.iconst 0, 1) := by decide +kernel
theorem dX7_question_34 : decode cX7_question 34 = .ok (.ireturn, 1) := by decide +kernel
theorem dX7_question_35 : decode cX7_question 35 = .ok (.iconst 0, 1) := by decide +kernel
theorem dX7_question_36 : decode cX7_question 36 = .ok (.istore_n 2, 1) := by decide +kernel
theorem dX7_question_37 : decode cX7_question 37 = .ok (.iload_n 2, 1) := by decide +kernel
theorem dX7_question_38 : decode cX7_question 38 = .ok (.iconst 3, 1) := by decide +kernel
theorem dX7_question_39 : decode cX7_question 39 = .ok (.if_icmp .ge 19, 3) := by decide +kernel
theorem dX7_question_42 : decode cX7_question 42 = .ok (.aload_n 0, 1) := by decide +kernel
theorem dX7_question_43 : decode cX7_question 43 = .ok (.iconst 5, 1) := by decide +kernel
theorem dX7_question_44 : decode cX7_question 44 = .ok (.iload_n 2, 1) := by decide +kernel
theorem dX7_question_45 : decode cX7_question 45 = .ok (.iload_n 1, 1) := by decide +kernel
theorem dX7_question_46 : decode cX7_question 46 = .ok (.iconst (-1), 1) := by decide +kernel
theorem dX7_question_47 : decode cX7_question 47 = .ok (.iconst (-1), 1) := by decide +kernel
theorem dX7_question_48 : decode cX7_question 48 = .ok (.iconst (-1), 1) := by decide +kernel
theorem dX7_question_49 : decode cX7_question 49 = .ok (.invokevirtual 85, 3) := by decide +kernel
theorem dX7_question_52 : decode cX7_question 52 = .ok (.iinc 2 1, 3) := by decide +kernel
theorem dX7_question_55 : decode cX7_question 55 = .ok (.goto (-18), 3) := by decide +kernel
theorem dX7_question_58 : decode cX7_question 58 = .ok (.iconst 1, 1) := by decide +kernel
theorem dX7_question_59 : decode cX7_question 59 = .ok (.ireturn, 1) := by decide +kernel
theorem dX7_begin_0 : decode cX7_begin 0 = .ok (.aload_n 0, 1) := by decide +kernel
theorem dX7_begin_1 : decode cX7_begin 1 = .ok (.iload_n 1, 1) := by decide +kernel
theorem dX7_begin_2 : decode cX7_begin 2 = .ok (.invokestatic 108, 3) := by decide +kernel
theorem dX7_begin_5 : decode cX7_begin 5 = .ok (.invokevirtual 93, 3) := by decide +kernel
theorem dX7_begin_8 : decode cX7_begin 8 = .ok (.ifCond .eq 5, 3) := by decide +kernel
theorem dX7_begin_11 : decode cX7_begin 11 = .ok (.iconst 0, 1) := by decide +kernel
theorem dX7_begin_12 : decode cX7_begin 12 = .ok (.ireturn, 1) := by decide +kernel
theorem dX7_begin_13 : decode cX7_begin 13 = .ok (.aload_n 0, 1) := by decide +kernel
theorem dX7_begin_14 : decode cX7_begin 14 = .ok (.getfield 21, 3) := by decide +kernel
theorem dX7_begin_17 : decode cX7_begin 17 = .ok (.iconst 2, 1) := by decide +kernel
theorem dX7_begin_18 : decode cX7_begin 18 = .ok (.aaload, 1) := by decide +kernel
theorem dX7_begin_19 : decode cX7_begin 19 = .ok (.iload_n 1, 1) := by decide +kernel
theorem dX7_begin_20 : decode cX7_begin 20 = .ok (.baload, 1) := by decide +kernel
theorem dX7_begin_21 : decode cX7_begin 21 = .ok (.ifCond .eq 32, 3) := by decide +kernel
theorem dX7_begin_24 : decode cX7_begin 24 = .ok (.aload_n 0, 1) := by decide +kernel
theorem dX7_begin_25 : decode cX7_begin 25 = .ok (.aload_n 0, 1) := by decide +kernel
theorem dX7_begin_26 : decode cX7_begin 26 = .ok (.getfield 73, 3) := by decide +kernel
theorem dX7_begin_29 : decode cX7_begin 29 = .ok (.aload_n 0, 1) := by decide +kernel
theorem dX7_begin_30 : decode cX7_begin 30 = .ok (.getfield 48, 3) := by decide +kernel
theorem dX7_begin_33 : decode cX7_begin 33 = .ok (.iload_n 1, 1) := by decide +kernel
theorem dX7_begin_34 : decode cX7_begin 34 = .ok (.iaload, 1) := by decide +kernel
theorem dX7_begin_35 : decode cX7_begin 35 = .ok (.ifCond .le 10, 3) := by decide +kernel
theorem dX7_begin_38 : decode cX7_begin 38 = .ok (.aload_n 0, 1) := by decide +kernel
theorem dX7_begin_39 : decode cX7_begin 39 = .ok (.getfield 69, 3) := by decide +kernel
theorem dX7_begin_42 : decode cX7_begin 42 = .ok (.goto 4, 3) := by decide +kernel
theorem dX7_begin_45 : decode cX7_begin 45 = .ok (.iconst 0, 1) := by decide +kernel
theorem dX7_begin_46 : decode cX7_begin 46 = .ok (.iadd, 1) := by decide +kernel
theorem dX7_begin_47 : decode cX7_begin 47 = .ok (.invokevirtual 97, 3) := by decide +kernel
theorem dX7_begin_50 : decode cX7_begin 50 = .ok (.ifCond .ne 5, 3) := by decide +kernel
theorem dX7_begin_53 : decode cX7_begin 53 = .ok (.iconst (-1), 1) := by decide +kernel
theorem dX7_begin_54 : decode cX7_begin 54 = .ok (.ireturn, 1) := by decide +kernel
theorem dX7_begin_55 : decode cX7_begin 55 = .ok (.iload_n 1, 1) := by decide +kernel
theorem dX7_begin_56 : decode cX7_begin 56 = .ok (.iconst 1, 1) := by decide +kernel
theorem dX7_begin_57 : decode cX7_begin 57 = .ok (.iadd, 1) := by decide +kernel
theorem dX7_begin_58 : decode cX7_begin 58 = .ok (.istore_n 2, 1) := by decide +kernel
theorem dX7_begin_59 : decode cX7_begin 59 = .ok (.iload_n 2, 1) := by decide +kernel
theorem dX7_begin_60 : decode cX7_begin 60 = .ok (.aload_n 0, 1) := by decide +kernel
theorem dX7_begin_61 : decode cX7_begin 61 = .ok (.getfield 45, 3) := by decide +kernel
theorem dX7_begin_64 : decode cX7_begin 64 = .ok (.iload_n 1, 1) := by decide +kernel
theorem dX7_begin_65 : decode cX7_begin 65 = .ok (.iaload, 1) := by decide +kernel
theorem dX7_begin_66 : decode cX7_begin 66 = .ok (.if_icmp .gt 9, 3) := by decide +kernel
theorem dX7_begin_69 : decode cX7_begin 69 = .ok (.iinc 2 3, 3) := by decide +kernel
theorem dX7_begin_72 : decode cX7_begin 72 = .ok (.goto (-13), 3) := by decide +kernel
theorem dX7_begin_75 : decode cX7_begin 75 = .ok (.aload_n 0, 1) := by decide +kernel
theorem dX7_begin_76 : decode cX7_begin 76 = .ok (.getfield 39, 3) := by decide +kernel
theorem dX7_begin_79 : decode cX7_begin 79 = .ok (.iload_n 1, 1) := by decide +kernel
theorem dX7_begin_80 : decode cX7_begin 80 = .ok (.iload_n 2, 1) := by decide +kernel
theorem dX7_begin_81 : decode cX7_begin 81 = .ok (.iastore, 1) := by decide +kernel
theorem dX7_begin_82 : decode cX7_begin 82 = .ok (.aload_n 0, 1) := by decide +kernel
theorem dX7_begin_83 : decode cX7_begin 83 = .ok (.getfield 45, 3) := by decide +kernel
theorem dX7_begin_86 : decode cX7_begin 86 = .ok (.iload_n 1, 1) := by decide +kernel
theorem dX7_begin_87 : decode cX7_begin 87 = .ok (.iload_n 2, 1) := by decide +kernel
theorem dX7_begin_88 : decode cX7_begin 88 = .ok (.iastore, 1) := by decide +kernel
theorem dX7_begin_89 : decode cX7_begin 89 = .ok (.aload_n 0, 1) := by decide +kernel
theorem dX7_begin_90 : decode cX7_begin 90 = .ok (.getfield 42, 3) := by decide +kernel
theorem dX7_begin_93 : decode cX7_begin 93 = .ok (.iload_n 1, 1) := by decide +kernel
theorem dX7_begin_94 : decode cX7_begin 94 = .ok (.iconst 1, 1) := by decide +kernel
theorem dX7_begin_95 : decode cX7_begin 95 = .ok (.iastore, 1) := by decide +kernel
theorem dX7_begin_96 : decode cX7_begin 96 = .ok (.aload_n 0, 1) := by decide +kernel
theorem dX7_begin_97 : decode cX7_begin 97 = .ok (.getfield 51, 3) := by decide +kernel
theorem dX7_begin_100 : decode cX7_begin 100 = .ok (.iload_n 1, 1) := by decide +kernel
theorem dX7_begin_101 : decode cX7_begin 101 = .ok (.iconst 0, 1) := by decide +kernel
theorem dX7_begin_102 : decode cX7_begin 102 = .ok (.iastore, 1) := by decide +kernel
theorem dX7_begin_103 : decode cX7_begin 103 = .ok (.aload_n 0, 1) := by decide +kernel
theorem dX7_begin_104 : decode cX7_begin 104 = .ok (.dup, 1) := by decide +kernel
theorem dX7_begin_105 : decode cX7_begin 105 = .ok (.getfield 111, 3) := by decide +kernel
theorem dX7_begin_108 : decode cX7_begin 108 = .ok (.iconst 1, 1) := by decide +kernel
theorem dX7_begin_109 : decode cX7_begin 109 = .ok (.iadd, 1) := by decide +kernel
theorem dX7_begin_110 : decode cX7_begin 110 = .ok (.putfield 111, 3) := by decide +kernel
theorem dX7_begin_113 : decode cX7_begin 113 = .ok (.iconst 0, 1) := by decide +kernel
theorem dX7_begin_114 : decode cX7_begin 114 = .ok (.istore_n 3, 1) := by decide +kernel
theorem dX7_begin_115 : decode cX7_begin 115 = .ok (.iload_n 3, 1) := by decide +kernel
theorem dX7_begin_116 : decode cX7_begin 116 = .ok (.aload_n 0, 1) := by decide +kernel
theorem dX7_begin_117 : decode cX7_begin 117 = .ok (.getfield 73, 3) := by decide +kernel
theorem dX7_begin_120 : decode cX7_begin 120 = .ok (.if_icmp .ge 19, 3) := by decide +kernel
theorem dX7_begin_123 : decode cX7_begin 123 = .ok (.aload_n 0, 1) := by decide +kernel
theorem dX7_begin_124 : decode cX7_begin 124 = .ok (.iconst 2, 1) := by decide +kernel
theorem dX7_begin_125 : decode cX7_begin 125 = .ok (.iload_n 3, 1) := by decide +kernel
theorem dX7_begin_126 : decode cX7_begin 126 = .ok (.iconst (-1), 1) := by decide +kernel
theorem dX7_begin_127 : decode cX7_begin 127 = .ok (.iconst (-1), 1) := by decide +kernel
theorem dX7_begin_128 : decode cX7_begin 128 = .ok (.iload_n 2, 1) := by decide +kernel
theorem dX7_begin_129 : decode cX7_begin 129 = .ok (.iconst (-1), 1) := by decide +kernel
theorem dX7_begin_130 : decode cX7_begin 130 = .ok (.invokevirtual 85, 3) := by decide +kernel
theorem dX7_begin_133 : decode cX7_begin 133 = .ok (.iinc 3 1, 3) := by decide +kernel
theorem dX7_begin_136 : decode cX7_begin 136 = .ok (.goto (-21), 3) := by decide +kernel
theorem dX7_begin_139 : decode cX7_begin 139 = .ok (.iconst 0, 1) := by decide +kernel
theorem dX7_begin_140 : decode cX7_begin 140 = .ok (.istore_n 3, 1) := by decide +kernel
theorem dX7_begin_141 : decode cX7_begin 141 = .ok (.iload_n 3, 1) := by decide +kernel
theorem dX7_begin_142 : decode cX7_begin 142 = .ok (.aload_n 0, 1) := by decide +kernel
theorem dX7_begin_143 : decode cX7_begin 143 = .ok (.getfield 69, 3) := by decide +kernel
theorem dX7_begin_146 : decode cX7_begin 146 = .ok (.if_icmp .ge 33, 3) := by decide +kernel
theorem dX7_begin_149 : decode cX7_begin 149 = .ok (.aload_n 0, 1) := by decide +kernel
theorem dX7_begin_150 : decode cX7_begin 150 = .ok (.getfield 48, 3) := by decide +kernel
theorem dX7_begin_153 : decode cX7_begin 153 = .ok (.iload_n 1, 1) := by decide +kernel
theorem dX7_begin_154 : decode cX7_begin 154 = .ok (.iaload, 1) := by decide +kernel
theorem dX7_begin_155 : decode cX7_begin 155 = .ok (.ifCond .le 24, 3) := by decide +kernel
theorem dX7_begin_158 : decode cX7_begin 158 = .ok (.aload_n 0, 1) := by decide +kernel
theorem dX7_begin_159 : decode cX7_begin 159 = .ok (.iconst 4, 1) := by decide +kernel
theorem dX7_begin_160 : decode cX7_begin 160 = .ok (.iload_n 3, 1) := by decide +kernel
theorem dX7_begin_161 : decode cX7_begin 161 = .ok (.iconst (-1), 1) := by decide +kernel
theorem dX7_begin_162 : decode cX7_begin 162 = .ok (.iconst (-1), 1) := by decide +kernel
theorem dX7_begin_163 : decode cX7_begin 163 = .ok (.iconst (-1), 1) := by decide +kernel
theorem dX7_begin_164 : decode cX7_begin 164 = .ok (.aload_n 0, 1) := by decide +kernel
theorem dX7_begin_165 : decode cX7_begin 165 = .ok (.getfield 48, 3) := by decide +kernel
theorem dX7_begin_168 : decode cX7_begin 168 = .ok (.iload_n 1, 1) := by decide +kernel
theorem dX7_begin_169 : decode cX7_begin 169 = .ok (.iaload, 1) := by decide +kernel
theorem dX7_begin_170 : decode cX7_begin 170 = .ok (.invokevirtual 85, 3) := by decide +kernel
theorem dX7_begin_173 : decode cX7_begin 173 = .ok (.iinc 3 1, 3) := by decide +kernel
theorem dX7_begin_176 : decode cX7_begin 176 = .ok (.goto (-35), 3) := by decide +kernel
theorem dX7_begin_179 : decode cX7_begin 179 = .ok (.iload_n 2, 1) := by decide +kernel
theorem dX7_begin_180 : decode cX7_begin 180 = .ok (.ireturn, 1) := by decide +kernel
theorem dX7_remove_0 : decode cX7_remove 0 = .ok (.bipush 18, 2) := by decide +kernel
theorem dX7_remove_2 : decode cX7_remove 2 = .ok (.iload_n 1, 1) := by decide +kernel
theorem dX7_remove_3 : decode cX7_remove 3 = .ok (.imul, 1) := by decide +kernel
theorem dX7_remove_4 : decode cX7_remove 4 = .ok (.istore_n 2, 1) := by decide +kernel
theorem dX7_remove_5 : decode cX7_remove 5 = .ok (.iload_n 2, 1) := by decide +kernel
theorem dX7_remove_6 : decode cX7_remove 6 = .ok (.bipush 18, 2) := by decide +kernel
theorem dX7_remove_8 : decode cX7_remove 8 = .ok (.aload_n 0, 1) := by decide +kernel
theorem dX7_remove_9 : decode cX7_remove 9 = .ok (.getfield 79, 3) := by decide +kernel
theorem dX7_remove_12 : decode cX7_remove 12 = .ok (.iconst 1, 1) := by decide +kernel
theorem dX7_remove_13 : decode cX7_remove 13 = .ok (.isub, 1) := by decide +kernel
theorem dX7_remove_14 : decode cX7_remove 14 = .ok (.imul, 1) := by decide +kernel
theorem dX7_remove_15 : decode cX7_remove 15 = .ok (.if_icmp .ge 24, 3) := by decide +kernel
theorem dX7_remove_18 : decode cX7_remove 18 = .ok (.aload_n 0, 1) := by decide +kernel
theorem dX7_remove_19 : decode cX7_remove 19 = .ok (.getfield 9, 3) := by decide +kernel
theorem dX7_remove_22 : decode cX7_remove 22 = .ok (.iload_n 2, 1) := by decide +kernel
theorem dX7_remove_23 : decode cX7_remove 23 = .ok (.aload_n 0, 1) := by decide +kernel
theorem dX7_remove_24 : decode cX7_remove 24 = .ok (.getfield 9, 3) := by decide +kernel
theorem dX7_remove_27 : decode cX7_remove 27 = .ok (.iload_n 2, 1) := by decide +kernel
theorem dX7_remove_28 : decode cX7_remove 28 = .ok (.bipush 18, 2) := by decide +kernel
theorem dX7_remove_30 : decode cX7_remove 30 = .ok (.iadd, 1) := by decide +kernel
theorem dX7_remove_31 : decode cX7_remove 31 = .ok (.iaload, 1) := by decide +kernel
theorem dX7_remove_32 : decode cX7_remove 32 = .ok (.iastore, 1) := by decide +kernel
theorem dX7_remove_33 : decode cX7_remove 33 = .ok (.iinc 2 1, 3) := by decide +kernel
theorem dX7_remove_36 : decode cX7_remove 36 = .ok (.goto (-31), 3) := by decide +kernel
theorem dX7_remove_39 : decode cX7_remove 39 = .ok (.aload_n 0, 1) := by decide +kernel
theorem dX7_remove_40 : decode cX7_remove 40 = .ok (.dup, 1) := by decide +kernel
theorem dX7_remove_41 : decode cX7_remove 41 = .ok (.getfield 79, 3) := by decide +kernel
theorem dX7_remove_44 : decode cX7_remove 44 = .ok (.iconst 1, 1) := by decide +kernel
theorem dX7_remove_45 : decode cX7_remove 45 = .ok (.isub, 1) := by decide +kernel
theorem dX7_remove_46 : decode cX7_remove 46 = .ok (.putfield 79, 3) := by decide +kernel
theorem dX7_remove_49 : decode cX7_remove 49 = .ok (.return_, 1) := by decide +kernel
theorem dX7_bits_0 : decode cX7_bits 0 = .ok (.iconst 0, 1) := by decide +kernel
theorem dX7_bits_1 : decode cX7_bits 1 = .ok (.istore_n 1, 1) := by decide +kernel
theorem dX7_bits_2 : decode cX7_bits 2 = .ok (.iconst 0, 1) := by decide +kernel
theorem dX7_bits_3 : decode cX7_bits 3 = .ok (.istore_n 2, 1) := by decide +kernel
theorem dX7_bits_4 : decode cX7_bits 4 = .ok (.iload_n 2, 1) := by decide +kernel
theorem dX7_bits_5 : decode cX7_bits 5 = .ok (.iconst 5, 1) := by decide +kernel
theorem dX7_bits_6 : decode cX7_bits 6 = .ok (.if_icmp .ge 17, 3) := by decide +kernel
theorem dX7_bits_9 : decode cX7_bits 9 = .ok (.iload_n 1, 1) := by decide +kernel
theorem dX7_bits_10 : decode cX7_bits 10 = .ok (.iload_n 0, 1) := by decide +kernel
theorem dX7_bits_11 : decode cX7_bits 11 = .ok (.iload_n 2, 1) := by decide +kernel
theorem dX7_bits_12 : decode cX7_bits 12 = .ok (.ishr, 1) := by decide +kernel
theorem dX7_bits_13 : decode cX7_bits 13 = .ok (.iconst 1, 1) := by decide +kernel
theorem dX7_bits_14 : decode cX7_bits 14 = .ok (.iand, 1) := by decide +kernel
theorem dX7_bits_15 : decode cX7_bits 15 = .ok (.iadd, 1) := by decide +kernel
theorem dX7_bits_16 : decode cX7_bits 16 = .ok (.istore_n 1, 1) := by decide +kernel
theorem dX7_bits_17 : decode cX7_bits 17 = .ok (.iinc 2 1, 3) := by decide +kernel
theorem dX7_bits_20 : decode cX7_bits 20 = .ok (.goto (-16), 3) := by decide +kernel
theorem dX7_bits_23 : decode cX7_bits 23 = .ok (.iload_n 1, 1) := by decide +kernel
theorem dX7_bits_24 : decode cX7_bits 24 = .ok (.ireturn, 1) := by decide +kernel
theorem dX7_isMost_0 : decode cX7_isMost 0 = .ok (.iconst 2, 1) := by decide +kernel
theorem dX7_isMost_1 : decode cX7_isMost 1 = .ok (.iload_n 1, 1) := by decide +kernel
theorem dX7_isMost_2 : decode cX7_isMost 2 = .ok (.imul, 1) := by decide +kernel
theorem dX7_isMost_3 : decode cX7_isMost 3 = .ok (.aload_n 0, 1) := by decide +kernel
theorem dX7_isMost_4 : decode cX7_isMost 4 = .ok (.getfield 73, 3) := by decide +kernel
theorem dX7_isMost_7 : decode cX7_isMost 7 = .ok (.if_icmp .le 7, 3) := by decide +kernel
theorem dX7_isMost_10 : decode cX7_isMost 10 = .ok (.iconst 1, 1) := by decide +kernel
theorem dX7_isMost_11 : decode cX7_isMost 11 = .ok (.goto 4, 3) := by decide +kernel
theorem dX7_isMost_14 : decode cX7_isMost 14 = .ok (.iconst 0, 1) := by decide +kernel
theorem dX7_isMost_15 : decode cX7_isMost 15 = .ok (.ireturn, 1) := by decide +kernel
theorem dX7_leadsTo_0 : decode cX7_leadsTo 0 = .ok (.aload_n 0, 1) := by decide +kernel
theorem dX7_leadsTo_1 : decode cX7_leadsTo 1 = .ok (.iload_n 1, 1) := by decide +kernel
theorem dX7_leadsTo_2 : decode cX7_leadsTo 2 = .ok (.iconst 1, 1) := by decide +kernel
theorem dX7_leadsTo_3 : decode cX7_leadsTo 3 = .ok (.invokevirtual 114, 3) := by decide +kernel
theorem dX7_leadsTo_6 : decode cX7_leadsTo 6 = .ok (.istore_n 2, 1) := by decide +kernel
theorem dX7_leadsTo_7 : decode cX7_leadsTo 7 = .ok (.aload_n 0, 1) := by decide +kernel
theorem dX7_leadsTo_8 : decode cX7_leadsTo 8 = .ok (.iload_n 1, 1) := by decide +kernel
theorem dX7_leadsTo_9 : decode cX7_leadsTo 9 = .ok (.iconst 4, 1) := by decide +kernel
theorem dX7_leadsTo_10 : decode cX7_leadsTo 10 = .ok (.invokevirtual 114, 3) := by decide +kernel
theorem dX7_leadsTo_13 : decode cX7_leadsTo 13 = .ok (.istore_n 3, 1) := by decide +kernel
theorem dX7_leadsTo_14 : decode cX7_leadsTo 14 = .ok (.aload_n 0, 1) := by decide +kernel
theorem dX7_leadsTo_15 : decode cX7_leadsTo 15 = .ok (.iload_n 1, 1) := by decide +kernel
theorem dX7_leadsTo_16 : decode cX7_leadsTo 16 = .ok (.iconst 0, 1) := by decide +kernel
theorem dX7_leadsTo_17 : decode cX7_leadsTo 17 = .ok (.invokevirtual 114, 3) := by decide +kernel
theorem dX7_leadsTo_20 : decode cX7_leadsTo 20 = .ok (.tableswitch 218 0 5 #[40, 164, 67, 94, 218, 192], 40) := by decide +kernel
theorem dX7_leadsTo_60 : decode cX7_leadsTo 60 = .ok (.aload_n 0, 1) := by decide +kernel
theorem dX7_leadsTo_61 : decode cX7_leadsTo 61 = .ok (.getfield 21, 3) := by decide +kernel
theorem dX7_leadsTo_64 : decode cX7_leadsTo 64 = .ok (.iconst 1, 1) := by decide +kernel
theorem dX7_leadsTo_65 : decode cX7_leadsTo 65 = .ok (.aaload, 1) := by decide +kernel
theorem dX7_leadsTo_66 : decode cX7_leadsTo 66 = .ok (.iload_n 2, 1) := by decide +kernel
theorem dX7_leadsTo_67 : decode cX7_leadsTo 67 = .ok (.baload, 1) := by decide +kernel
theorem dX7_leadsTo_68 : decode cX7_leadsTo 68 = .ok (.ifCond .eq 17, 3) := by decide +kernel
theorem dX7_leadsTo_71 : decode cX7_leadsTo 71 = .ok (.iload_n 3, 1) := by decide +kernel
theorem dX7_leadsTo_72 : decode cX7_leadsTo 72 = .ok (.aload_n 0, 1) := by decide +kernel
theorem dX7_leadsTo_73 : decode cX7_leadsTo 73 = .ok (.getfield 24, 3) := by decide +kernel
theorem dX7_leadsTo_76 : decode cX7_leadsTo 76 = .ok (.iload_n 2, 1) := by decide +kernel
theorem dX7_leadsTo_77 : decode cX7_leadsTo 77 = .ok (.iaload, 1) := by decide +kernel
theorem dX7_leadsTo_78 : decode cX7_leadsTo 78 = .ok (.if_icmp .lt 7, 3) := by decide +kernel
theorem dX7_leadsTo_81 : decode cX7_leadsTo 81 = .ok (.iconst 3, 1) := by decide +kernel
theorem dX7_leadsTo_82 : decode cX7_leadsTo 82 = .ok (.goto 4, 3) := by decide +kernel
theorem dX7_leadsTo_85 : decode cX7_leadsTo 85 = .ok (.iconst 0, 1) := by decide +kernel
theorem dX7_leadsTo_86 : decode cX7_leadsTo 86 = .ok (.ireturn, 1) := by decide +kernel
theorem dX7_leadsTo_87 : decode cX7_leadsTo 87 = .ok (.aload_n 0, 1) := by decide +kernel
theorem dX7_leadsTo_88 : decode cX7_leadsTo 88 = .ok (.getfield 21, 3) := by decide +kernel
theorem dX7_leadsTo_91 : decode cX7_leadsTo 91 = .ok (.iconst 1, 1) := by decide +kernel
theorem dX7_leadsTo_92 : decode cX7_leadsTo 92 = .ok (.aaload, 1) := by decide +kernel
theorem dX7_leadsTo_93 : decode cX7_leadsTo 93 = .ok (.iload_n 2, 1) := by decide +kernel
theorem dX7_leadsTo_94 : decode cX7_leadsTo 94 = .ok (.baload, 1) := by decide +kernel
theorem dX7_leadsTo_95 : decode cX7_leadsTo 95 = .ok (.ifCond .eq 17, 3) := by decide +kernel
theorem dX7_leadsTo_98 : decode cX7_leadsTo 98 = .ok (.iload_n 3, 1) := by decide +kernel
theorem dX7_leadsTo_99 : decode cX7_leadsTo 99 = .ok (.aload_n 0, 1) := by decide +kernel
theorem dX7_leadsTo_100 : decode cX7_leadsTo 100 = .ok (.getfield 24, 3) := by decide +kernel
theorem dX7_leadsTo_103 : decode cX7_leadsTo 103 = .ok (.iload_n 2, 1) := by decide +kernel
theorem dX7_leadsTo_104 : decode cX7_leadsTo 104 = .ok (.iaload, 1) := by decide +kernel
theorem dX7_leadsTo_105 : decode cX7_leadsTo 105 = .ok (.if_icmp .le 7, 3) := by decide +kernel
theorem dX7_leadsTo_108 : decode cX7_leadsTo 108 = .ok (.iconst 1, 1) := by decide +kernel
theorem dX7_leadsTo_109 : decode cX7_leadsTo 109 = .ok (.goto 4, 3) := by decide +kernel
theorem dX7_leadsTo_112 : decode cX7_leadsTo 112 = .ok (.iconst 0, 1) := by decide +kernel
theorem dX7_leadsTo_113 : decode cX7_leadsTo 113 = .ok (.ireturn, 1) := by decide +kernel
theorem dX7_leadsTo_114 : decode cX7_leadsTo 114 = .ok (.aload_n 0, 1) := by decide +kernel
theorem dX7_leadsTo_115 : decode cX7_leadsTo 115 = .ok (.getfield 21, 3) := by decide +kernel
theorem dX7_leadsTo_118 : decode cX7_leadsTo 118 = .ok (.iconst 2, 1) := by decide +kernel
theorem dX7_leadsTo_119 : decode cX7_leadsTo 119 = .ok (.aaload, 1) := by decide +kernel
theorem dX7_leadsTo_120 : decode cX7_leadsTo 120 = .ok (.iload_n 2, 1) := by decide +kernel
theorem dX7_leadsTo_121 : decode cX7_leadsTo 121 = .ok (.baload, 1) := by decide +kernel
theorem dX7_leadsTo_122 : decode cX7_leadsTo 122 = .ok (.ifCond .eq 60, 3) := by decide +kernel
theorem dX7_leadsTo_125 : decode cX7_leadsTo 125 = .ok (.aload_n 0, 1) := by decide +kernel
theorem dX7_leadsTo_126 : decode cX7_leadsTo 126 = .ok (.getfield 42, 3) := by decide +kernel
theorem dX7_leadsTo_129 : decode cX7_leadsTo 129 = .ok (.iload_n 2, 1) := by decide +kernel
theorem dX7_leadsTo_130 : decode cX7_leadsTo 130 = .ok (.iaload, 1) := by decide +kernel
theorem dX7_leadsTo_131 : decode cX7_leadsTo 131 = .ok (.iconst 1, 1) := by decide +kernel
theorem dX7_leadsTo_132 : decode cX7_leadsTo 132 = .ok (.if_icmp .ne 50, 3) := by decide +kernel
theorem dX7_leadsTo_135 : decode cX7_leadsTo 135 = .ok (.iload_n 3, 1) := by decide +kernel
theorem dX7_leadsTo_136 : decode cX7_leadsTo 136 = .ok (.aload_n 0, 1) := by decide +kernel
theorem dX7_leadsTo_137 : decode cX7_leadsTo 137 = .ok (.getfield 39, 3) := by decide +kernel
theorem dX7_leadsTo_140 : decode cX7_leadsTo 140 = .ok (.iload_n 2, 1) := by decide +kernel
theorem dX7_leadsTo_141 : decode cX7_leadsTo 141 = .ok (.iaload, 1) := by decide +kernel
theorem dX7_leadsTo_142 : decode cX7_leadsTo 142 = .ok (.if_icmp .ne 40, 3) := by decide +kernel
theorem dX7_leadsTo_145 : decode cX7_leadsTo 145 = .ok (.aload_n 0, 1) := by decide +kernel
theorem dX7_leadsTo_146 : decode cX7_leadsTo 146 = .ok (.aload_n 0, 1) := by decide +kernel
theorem dX7_leadsTo_147 : decode cX7_leadsTo 147 = .ok (.getfield 51, 3) := by decide +kernel
theorem dX7_leadsTo_150 : decode cX7_leadsTo 150 = .ok (.iload_n 2, 1) := by decide +kernel
theorem dX7_leadsTo_151 : decode cX7_leadsTo 151 = .ok (.iaload, 1) := by decide +kernel
theorem dX7_leadsTo_152 : decode cX7_leadsTo 152 = .ok (.iconst 1, 1) := by decide +kernel
theorem dX7_leadsTo_153 : decode cX7_leadsTo 153 = .ok (.aload_n 0, 1) := by decide +kernel
theorem dX7_leadsTo_154 : decode cX7_leadsTo 154 = .ok (.iload_n 1, 1) := by decide +kernel
theorem dX7_leadsTo_155 : decode cX7_leadsTo 155 = .ok (.iconst 2, 1) := by decide +kernel
theorem dX7_leadsTo_156 : decode cX7_leadsTo 156 = .ok (.invokevirtual 114, 3) := by decide +kernel
theorem dX7_leadsTo_159 : decode cX7_leadsTo 159 = .ok (.ishl, 1) := by decide +kernel
theorem dX7_leadsTo_160 : decode cX7_leadsTo 160 = .ok (.ior, 1) := by decide +kernel
theorem dX7_leadsTo_161 : decode cX7_leadsTo 161 = .ok (.invokestatic 118, 3) := by decide +kernel
theorem dX7_leadsTo_164 : decode cX7_leadsTo 164 = .ok (.invokevirtual 122, 3) := by decide +kernel
theorem dX7_leadsTo_167 : decode cX7_leadsTo 167 = .ok (.ifCond .eq 15, 3) := by decide +kernel
theorem dX7_leadsTo_170 : decode cX7_leadsTo 170 = .ok (.aload_n 0, 1) := by decide +kernel
theorem dX7_leadsTo_171 : decode cX7_leadsTo 171 = .ok (.getfield 69, 3) := by decide +kernel
theorem dX7_leadsTo_174 : decode cX7_leadsTo 174 = .ok (.aload_n 0, 1) := by decide +kernel
theorem dX7_leadsTo_175 : decode cX7_leadsTo 175 = .ok (.getfield 73, 3) := by decide +kernel
theorem dX7_leadsTo_178 : decode cX7_leadsTo 178 = .ok (.imul, 1) := by decide +kernel
theorem dX7_leadsTo_179 : decode cX7_leadsTo 179 = .ok (.goto 4, 3) := by decide +kernel
theorem dX7_leadsTo_182 : decode cX7_leadsTo 182 = .ok (.iconst 0, 1) := by decide +kernel
theorem dX7_leadsTo_183 : decode cX7_leadsTo 183 = .ok (.ireturn, 1) := by decide +kernel
theorem dX7_leadsTo_184 : decode cX7_leadsTo 184 = .ok (.aload_n 0, 1) := by decide +kernel
theorem dX7_leadsTo_185 : decode cX7_leadsTo 185 = .ok (.getfield 21, 3) := by decide +kernel
theorem dX7_leadsTo_188 : decode cX7_leadsTo 188 = .ok (.iconst 2, 1) := by decide +kernel
theorem dX7_leadsTo_189 : decode cX7_leadsTo 189 = .ok (.aaload, 1) := by decide +kernel
theorem dX7_leadsTo_190 : decode cX7_leadsTo 190 = .ok (.iload_n 2, 1) := by decide +kernel
theorem dX7_leadsTo_191 : decode cX7_leadsTo 191 = .ok (.baload, 1) := by decide +kernel
theorem dX7_leadsTo_192 : decode cX7_leadsTo 192 = .ok (.ifCond .eq 18, 3) := by decide +kernel
theorem dX7_leadsTo_195 : decode cX7_leadsTo 195 = .ok (.aload_n 0, 1) := by decide +kernel
theorem dX7_leadsTo_196 : decode cX7_leadsTo 196 = .ok (.iload_n 1, 1) := by decide +kernel
theorem dX7_leadsTo_197 : decode cX7_leadsTo 197 = .ok (.invokevirtual 125, 3) := by decide +kernel
theorem dX7_leadsTo_200 : decode cX7_leadsTo 200 = .ok (.ifCond .eq 10, 3) := by decide +kernel
theorem dX7_leadsTo_203 : decode cX7_leadsTo 203 = .ok (.aload_n 0, 1) := by decide +kernel
theorem dX7_leadsTo_204 : decode cX7_leadsTo 204 = .ok (.getfield 69, 3) := by decide +kernel
theorem dX7_leadsTo_207 : decode cX7_leadsTo 207 = .ok (.goto 4, 3) := by decide +kernel
theorem dX7_leadsTo_210 : decode cX7_leadsTo 210 = .ok (.iconst 0, 1) := by decide +kernel
theorem dX7_leadsTo_211 : decode cX7_leadsTo 211 = .ok (.ireturn, 1) := by decide +kernel
theorem dX7_leadsTo_212 : decode cX7_leadsTo 212 = .ok (.aload_n 0, 1) := by decide +kernel
theorem dX7_leadsTo_213 : decode cX7_leadsTo 213 = .ok (.getfield 21, 3) := by decide +kernel
theorem dX7_leadsTo_216 : decode cX7_leadsTo 216 = .ok (.iconst 2, 1) := by decide +kernel
theorem dX7_leadsTo_217 : decode cX7_leadsTo 217 = .ok (.aaload, 1) := by decide +kernel
theorem dX7_leadsTo_218 : decode cX7_leadsTo 218 = .ok (.iload_n 2, 1) := by decide +kernel
theorem dX7_leadsTo_219 : decode cX7_leadsTo 219 = .ok (.baload, 1) := by decide +kernel
theorem dX7_leadsTo_220 : decode cX7_leadsTo 220 = .ok (.ifCond .eq 16, 3) := by decide +kernel
theorem dX7_leadsTo_223 : decode cX7_leadsTo 223 = .ok (.aload_n 0, 1) := by decide +kernel
theorem dX7_leadsTo_224 : decode cX7_leadsTo 224 = .ok (.getfield 48, 3) := by decide +kernel
theorem dX7_leadsTo_227 : decode cX7_leadsTo 227 = .ok (.iload_n 2, 1) := by decide +kernel
theorem dX7_leadsTo_228 : decode cX7_leadsTo 228 = .ok (.iaload, 1) := by decide +kernel
theorem dX7_leadsTo_229 : decode cX7_leadsTo 229 = .ok (.ifCond .le 7, 3) := by decide +kernel
theorem dX7_leadsTo_232 : decode cX7_leadsTo 232 = .ok (.iconst 1, 1) := by decide +kernel
theorem dX7_leadsTo_233 : decode cX7_leadsTo 233 = .ok (.goto 4, 3) := by decide +kernel
theorem dX7_leadsTo_236 : decode cX7_leadsTo 236 = .ok (.iconst 0, 1) := by decide +kernel
theorem dX7_leadsTo_237 : decode cX7_leadsTo 237 = .ok (.ireturn, 1) := by decide +kernel
theorem dX7_leadsTo_238 : decode cX7_leadsTo 238 = .ok (.iconst 0, 1) := by decide +kernel
theorem dX7_leadsTo_239 : decode cX7_leadsTo 239 = .ok (.ireturn, 1) := by decide +kernel
theorem dX7_seenAt_0 : decode cX7_seenAt 0 = .ok (.iload_n 1, 1) := by decide +kernel
theorem dX7_seenAt_1 : decode cX7_seenAt 1 = .ok (.bipush 6, 2) := by decide +kernel
theorem dX7_seenAt_3 : decode cX7_seenAt 3 = .ok (.imul, 1) := by decide +kernel
theorem dX7_seenAt_4 : decode cX7_seenAt 4 = .ok (.iload_n 2, 1) := by decide +kernel
theorem dX7_seenAt_5 : decode cX7_seenAt 5 = .ok (.iadd, 1) := by decide +kernel
theorem dX7_seenAt_6 : decode cX7_seenAt 6 = .ok (.iconst 5, 1) := by decide +kernel
theorem dX7_seenAt_7 : decode cX7_seenAt 7 = .ok (.imul, 1) := by decide +kernel
theorem dX7_seenAt_8 : decode cX7_seenAt 8 = .ok (.iload_n 3, 1) := by decide +kernel
theorem dX7_seenAt_9 : decode cX7_seenAt 9 = .ok (.iadd, 1) := by decide +kernel
theorem dX7_seenAt_10 : decode cX7_seenAt 10 = .ok (.ireturn, 1) := by decide +kernel
theorem dX7_settled_0 : decode cX7_settled 0 = .ok (.aload_n 0, 1) := by decide +kernel
theorem dX7_settled_1 : decode cX7_settled 1 = .ok (.getfield 66, 3) := by decide +kernel
theorem dX7_settled_4 : decode cX7_settled 4 = .ok (.iload_n 1, 1) := by decide +kernel
theorem dX7_settled_5 : decode cX7_settled 5 = .ok (.bipush 6, 2) := by decide +kernel
theorem dX7_settled_7 : decode cX7_settled 7 = .ok (.imul, 1) := by decide +kernel
theorem dX7_settled_8 : decode cX7_settled 8 = .ok (.iload_n 2, 1) := by decide +kernel
theorem dX7_settled_9 : decode cX7_settled 9 = .ok (.iadd, 1) := by decide +kernel
theorem dX7_settled_10 : decode cX7_settled 10 = .ok (.iaload, 1) := by decide +kernel
theorem dX7_settled_11 : decode cX7_settled 11 = .ok (.ifCond .le 15, 3) := by decide +kernel
theorem dX7_settled_14 : decode cX7_settled 14 = .ok (.aload_n 0, 1) := by decide +kernel
theorem dX7_settled_15 : decode cX7_settled 15 = .ok (.getfield 66, 3) := by decide +kernel
theorem dX7_settled_18 : decode cX7_settled 18 = .ok (.iload_n 1, 1) := by decide +kernel
theorem dX7_settled_19 : decode cX7_settled 19 = .ok (.bipush 6, 2) := by decide +kernel
theorem dX7_settled_21 : decode cX7_settled 21 = .ok (.imul, 1) := by decide +kernel
theorem dX7_settled_22 : decode cX7_settled 22 = .ok (.iload_n 2, 1) := by decide +kernel
theorem dX7_settled_23 : decode cX7_settled 23 = .ok (.iadd, 1) := by decide +kernel
theorem dX7_settled_24 : decode cX7_settled 24 = .ok (.iaload, 1) := by decide +kernel
theorem dX7_settled_25 : decode cX7_settled 25 = .ok (.ireturn, 1) := by decide +kernel
theorem dX7_settled_26 : decode cX7_settled 26 = .ok (.iconst 0, 1) := by decide +kernel
theorem dX7_settled_27 : decode cX7_settled 27 = .ok (.istore 4, 2) := by decide +kernel
theorem dX7_settled_29 : decode cX7_settled 29 = .ok (.iload 4, 2) := by decide +kernel
theorem dX7_settled_31 : decode cX7_settled 31 = .ok (.aload_n 0, 1) := by decide +kernel
theorem dX7_settled_32 : decode cX7_settled 32 = .ok (.getfield 73, 3) := by decide +kernel
theorem dX7_settled_35 : decode cX7_settled 35 = .ok (.if_icmp .ge 115, 3) := by decide +kernel
theorem dX7_settled_38 : decode cX7_settled 38 = .ok (.aload_n 0, 1) := by decide +kernel
theorem dX7_settled_39 : decode cX7_settled 39 = .ok (.iload_n 1, 1) := by decide +kernel
theorem dX7_settled_40 : decode cX7_settled 40 = .ok (.iload_n 2, 1) := by decide +kernel
theorem dX7_settled_41 : decode cX7_settled 41 = .ok (.iload 4, 2) := by decide +kernel
theorem dX7_settled_43 : decode cX7_settled 43 = .ok (.iload_n 3, 1) := by decide +kernel
theorem dX7_settled_44 : decode cX7_settled 44 = .ok (.invokevirtual 128, 3) := by decide +kernel
theorem dX7_settled_47 : decode cX7_settled 47 = .ok (.istore 5, 2) := by decide +kernel
theorem dX7_settled_49 : decode cX7_settled 49 = .ok (.iconst 0, 1) := by decide +kernel
theorem dX7_settled_50 : decode cX7_settled 50 = .ok (.istore 6, 2) := by decide +kernel
theorem dX7_settled_52 : decode cX7_settled 52 = .ok (.iconst 0, 1) := by decide +kernel
theorem dX7_settled_53 : decode cX7_settled 53 = .ok (.istore 7, 2) := by decide +kernel
theorem dX7_settled_55 : decode cX7_settled 55 = .ok (.iload 7, 2) := by decide +kernel
theorem dX7_settled_57 : decode cX7_settled 57 = .ok (.aload_n 0, 1) := by decide +kernel
theorem dX7_settled_58 : decode cX7_settled 58 = .ok (.getfield 73, 3) := by decide +kernel
theorem dX7_settled_61 : decode cX7_settled 61 = .ok (.if_icmp .ge 39, 3) := by decide +kernel
theorem dX7_settled_64 : decode cX7_settled 64 = .ok (.iload 5, 2) := by decide +kernel
theorem dX7_settled_66 : decode cX7_settled 66 = .ok (.iconst (-1), 1) := by decide +kernel
theorem dX7_settled_67 : decode cX7_settled 67 = .ok (.if_icmp .eq 33, 3) := by decide +kernel
theorem dX7_settled_70 : decode cX7_settled 70 = .ok (.iload 6, 2) := by decide +kernel
theorem dX7_settled_72 : decode cX7_settled 72 = .ok (.aload_n 0, 1) := by decide +kernel
theorem dX7_settled_73 : decode cX7_settled 73 = .ok (.iload_n 1, 1) := by decide +kernel
theorem dX7_settled_74 : decode cX7_settled 74 = .ok (.iload_n 2, 1) := by decide +kernel
theorem dX7_settled_75 : decode cX7_settled 75 = .ok (.iload 7, 2) := by decide +kernel
theorem dX7_settled_77 : decode cX7_settled 77 = .ok (.iload_n 3, 1) := by decide +kernel
theorem dX7_settled_78 : decode cX7_settled 78 = .ok (.invokevirtual 128, 3) := by decide +kernel
theorem dX7_settled_81 : decode cX7_settled 81 = .ok (.iload 5, 2) := by decide +kernel
theorem dX7_settled_83 : decode cX7_settled 83 = .ok (.if_icmp .ne 7, 3) := by decide +kernel
theorem dX7_settled_86 : decode cX7_settled 86 = .ok (.iconst 1, 1) := by decide +kernel
theorem dX7_settled_87 : decode cX7_settled 87 = .ok (.goto 4, 3) := by decide +kernel
theorem dX7_settled_90 : decode cX7_settled 90 = .ok (.iconst 0, 1) := by decide +kernel
theorem dX7_settled_91 : decode cX7_settled 91 = .ok (.iadd, 1) := by decide +kernel
theorem dX7_settled_92 : decode cX7_settled 92 = .ok (.istore 6, 2) := by decide +kernel
theorem dX7_settled_94 : decode cX7_settled 94 = .ok (.iinc 7 1, 3) := by decide +kernel
theorem dX7_settled_97 : decode cX7_settled 97 = .ok (.goto (-42), 3) := by decide +kernel
theorem dX7_settled_100 : decode cX7_settled 100 = .ok (.aload_n 0, 1) := by decide +kernel
theorem dX7_settled_101 : decode cX7_settled 101 = .ok (.iload 6, 2) := by decide +kernel
theorem dX7_settled_103 : decode cX7_settled 103 = .ok (.invokevirtual 122, 3) := by decide +kernel
theorem dX7_settled_106 : decode cX7_settled 106 = .ok (.ifCond .eq 38, 3) := by decide +kernel
theorem dX7_settled_109 : decode cX7_settled 109 = .ok (.aload_n 0, 1) := by decide +kernel
theorem dX7_settled_110 : decode cX7_settled 110 = .ok (.iload_n 1, 1) := by decide +kernel
theorem dX7_settled_111 : decode cX7_settled 111 = .ok (.iload_n 2, 1) := by decide +kernel
theorem dX7_settled_112 : decode cX7_settled 112 = .ok (.iload 4, 2) := by decide +kernel
theorem dX7_settled_114 : decode cX7_settled 114 = .ok (.iload_n 3, 1) := by decide +kernel
theorem dX7_settled_115 : decode cX7_settled 115 = .ok (.invokevirtual 132, 3) := by decide +kernel
theorem dX7_settled_118 : decode cX7_settled 118 = .ok (.ifCond .eq 12, 3) := by decide +kernel
theorem dX7_settled_121 : decode cX7_settled 121 = .ok (.aload_n 0, 1) := by decide +kernel
theorem dX7_settled_122 : decode cX7_settled 122 = .ok (.iload_n 3, 1) := by decide +kernel
theorem dX7_settled_123 : decode cX7_settled 123 = .ok (.iconst 5, 1) := by decide +kernel
theorem dX7_settled_124 : decode cX7_settled 124 = .ok (.invokevirtual 114, 3) := by decide +kernel
theorem dX7_settled_127 : decode cX7_settled 127 = .ok (.goto 16, 3) := by decide +kernel
theorem dX7_settled_130 : decode cX7_settled 130 = .ok (.aload_n 0, 1) := by decide +kernel
theorem dX7_settled_131 : decode cX7_settled 131 = .ok (.getfield 63, 3) := by decide +kernel
theorem dX7_settled_134 : decode cX7_settled 134 = .ok (.aload_n 0, 1) := by decide +kernel
theorem dX7_settled_135 : decode cX7_settled 135 = .ok (.iload_n 1, 1) := by decide +kernel
theorem dX7_settled_136 : decode cX7_settled 136 = .ok (.iload_n 2, 1) := by decide +kernel
theorem dX7_settled_137 : decode cX7_settled 137 = .ok (.iload 4, 2) := by decide +kernel
theorem dX7_settled_139 : decode cX7_settled 139 = .ok (.invokevirtual 136, 3) := by decide +kernel
theorem dX7_settled_142 : decode cX7_settled 142 = .ok (.iaload, 1) := by decide +kernel
theorem dX7_settled_143 : decode cX7_settled 143 = .ok (.ireturn, 1) := by decide +kernel
theorem dX7_settled_144 : decode cX7_settled 144 = .ok (.iinc 4 1, 3) := by decide +kernel
theorem dX7_settled_147 : decode cX7_settled 147 = .ok (.goto (-118), 3) := by decide +kernel
theorem dX7_settled_150 : decode cX7_settled 150 = .ok (.iconst 0, 1) := by decide +kernel
theorem dX7_settled_151 : decode cX7_settled 151 = .ok (.ireturn, 1) := by decide +kernel
theorem dX7_isNew_0 : decode cX7_isNew 0 = .ok (.iload 4, 2) := by decide +kernel
theorem dX7_isNew_2 : decode cX7_isNew 2 = .ok (.iconst (-1), 1) := by decide +kernel
theorem dX7_isNew_3 : decode cX7_isNew 3 = .ok (.if_icmp .eq 51, 3) := by decide +kernel
theorem dX7_isNew_6 : decode cX7_isNew 6 = .ok (.aload_n 0, 1) := by decide +kernel
theorem dX7_isNew_7 : decode cX7_isNew 7 = .ok (.iload 4, 2) := by decide +kernel
theorem dX7_isNew_9 : decode cX7_isNew 9 = .ok (.iconst 3, 1) := by decide +kernel
theorem dX7_isNew_10 : decode cX7_isNew 10 = .ok (.invokevirtual 114, 3) := by decide +kernel
theorem dX7_isNew_13 : decode cX7_isNew 13 = .ok (.iload_n 2, 1) := by decide +kernel
theorem dX7_isNew_14 : decode cX7_isNew 14 = .ok (.if_icmp .ne 40, 3) := by decide +kernel
theorem dX7_isNew_17 : decode cX7_isNew 17 = .ok (.aload_n 0, 1) := by decide +kernel
theorem dX7_isNew_18 : decode cX7_isNew 18 = .ok (.iload 4, 2) := by decide +kernel
theorem dX7_isNew_20 : decode cX7_isNew 20 = .ok (.iconst 2, 1) := by decide +kernel
theorem dX7_isNew_21 : decode cX7_isNew 21 = .ok (.invokevirtual 114, 3) := by decide +kernel
theorem dX7_isNew_24 : decode cX7_isNew 24 = .ok (.iload_n 3, 1) := by decide +kernel
theorem dX7_isNew_25 : decode cX7_isNew 25 = .ok (.if_icmp .ne 29, 3) := by decide +kernel
theorem dX7_isNew_28 : decode cX7_isNew 28 = .ok (.aload_n 0, 1) := by decide +kernel
theorem dX7_isNew_29 : decode cX7_isNew 29 = .ok (.iload 4, 2) := by decide +kernel
theorem dX7_isNew_31 : decode cX7_isNew 31 = .ok (.iconst 4, 1) := by decide +kernel
theorem dX7_isNew_32 : decode cX7_isNew 32 = .ok (.invokevirtual 114, 3) := by decide +kernel
theorem dX7_isNew_35 : decode cX7_isNew 35 = .ok (.aload_n 0, 1) := by decide +kernel
theorem dX7_isNew_36 : decode cX7_isNew 36 = .ok (.getfield 60, 3) := by decide +kernel
theorem dX7_isNew_39 : decode cX7_isNew 39 = .ok (.aload_n 0, 1) := by decide +kernel
theorem dX7_isNew_40 : decode cX7_isNew 40 = .ok (.iload_n 1, 1) := by decide +kernel
theorem dX7_isNew_41 : decode cX7_isNew 41 = .ok (.iload_n 2, 1) := by decide +kernel
theorem dX7_isNew_42 : decode cX7_isNew 42 = .ok (.iload_n 3, 1) := by decide +kernel
theorem dX7_isNew_43 : decode cX7_isNew 43 = .ok (.invokevirtual 136, 3) := by decide +kernel
theorem dX7_isNew_46 : decode cX7_isNew 46 = .ok (.iaload, 1) := by decide +kernel
theorem dX7_isNew_47 : decode cX7_isNew 47 = .ok (.if_icmp .le 7, 3) := by decide +kernel
theorem dX7_isNew_50 : decode cX7_isNew 50 = .ok (.iconst 1, 1) := by decide +kernel
theorem dX7_isNew_51 : decode cX7_isNew 51 = .ok (.goto 4, 3) := by decide +kernel
theorem dX7_isNew_54 : decode cX7_isNew 54 = .ok (.iconst 0, 1) := by decide +kernel
theorem dX7_isNew_55 : decode cX7_isNew 55 = .ok (.ireturn, 1) := by decide +kernel
theorem dX7_ballotSeen_0 : decode cX7_ballotSeen 0 = .ok (.aload_n 0, 1) := by decide +kernel
theorem dX7_ballotSeen_1 : decode cX7_ballotSeen 1 = .ok (.iload_n 1, 1) := by decide +kernel
theorem dX7_ballotSeen_2 : decode cX7_ballotSeen 2 = .ok (.iload_n 2, 1) := by decide +kernel
theorem dX7_ballotSeen_3 : decode cX7_ballotSeen 3 = .ok (.iload_n 3, 1) := by decide +kernel
theorem dX7_ballotSeen_4 : decode cX7_ballotSeen 4 = .ok (.iload 4, 2) := by decide +kernel
theorem dX7_ballotSeen_6 : decode cX7_ballotSeen 6 = .ok (.invokevirtual 132, 3) := by decide +kernel
theorem dX7_ballotSeen_9 : decode cX7_ballotSeen 9 = .ok (.ifCond .eq 13, 3) := by decide +kernel
theorem dX7_ballotSeen_12 : decode cX7_ballotSeen 12 = .ok (.aload_n 0, 1) := by decide +kernel
theorem dX7_ballotSeen_13 : decode cX7_ballotSeen 13 = .ok (.iload 4, 2) := by decide +kernel
theorem dX7_ballotSeen_15 : decode cX7_ballotSeen 15 = .ok (.iconst 4, 1) := by decide +kernel
theorem dX7_ballotSeen_16 : decode cX7_ballotSeen 16 = .ok (.invokevirtual 114, 3) := by decide +kernel
theorem dX7_ballotSeen_19 : decode cX7_ballotSeen 19 = .ok (.goto 15, 3) := by decide +kernel
theorem dX7_ballotSeen_22 : decode cX7_ballotSeen 22 = .ok (.aload_n 0, 1) := by decide +kernel
theorem dX7_ballotSeen_23 : decode cX7_ballotSeen 23 = .ok (.getfield 60, 3) := by decide +kernel
theorem dX7_ballotSeen_26 : decode cX7_ballotSeen 26 = .ok (.aload_n 0, 1) := by decide +kernel
theorem dX7_ballotSeen_27 : decode cX7_ballotSeen 27 = .ok (.iload_n 1, 1) := by decide +kernel
theorem dX7_ballotSeen_28 : decode cX7_ballotSeen 28 = .ok (.iload_n 2, 1) := by decide +kernel
theorem dX7_ballotSeen_29 : decode cX7_ballotSeen 29 = .ok (.iload_n 3, 1) := by decide +kernel
theorem dX7_ballotSeen_30 : decode cX7_ballotSeen 30 = .ok (.invokevirtual 136, 3) := by decide +kernel
theorem dX7_ballotSeen_33 : decode cX7_ballotSeen 33 = .ok (.iaload, 1) := by decide +kernel
theorem dX7_ballotSeen_34 : decode cX7_ballotSeen 34 = .ok (.ireturn, 1) := by decide +kernel
theorem dX7_decided_0 : decode cX7_decided 0 = .ok (.iconst 1, 1) := by decide +kernel
theorem dX7_decided_1 : decode cX7_decided 1 = .ok (.istore_n 3, 1) := by decide +kernel
theorem dX7_decided_2 : decode cX7_decided 2 = .ok (.iconst 0, 1) := by decide +kernel
theorem dX7_decided_3 : decode cX7_decided 3 = .ok (.istore 4, 2) := by decide +kernel
theorem dX7_decided_5 : decode cX7_decided 5 = .ok (.iload 4, 2) := by decide +kernel
theorem dX7_decided_7 : decode cX7_decided 7 = .ok (.aload_n 0, 1) := by decide +kernel
theorem dX7_decided_8 : decode cX7_decided 8 = .ok (.getfield 69, 3) := by decide +kernel
theorem dX7_decided_11 : decode cX7_decided 11 = .ok (.if_icmp .ge 43, 3) := by decide +kernel
theorem dX7_decided_14 : decode cX7_decided 14 = .ok (.aload_n 0, 1) := by decide +kernel
theorem dX7_decided_15 : decode cX7_decided 15 = .ok (.iload_n 1, 1) := by decide +kernel
theorem dX7_decided_16 : decode cX7_decided 16 = .ok (.iload 4, 2) := by decide +kernel
theorem dX7_decided_18 : decode cX7_decided 18 = .ok (.iload_n 2, 1) := by decide +kernel
theorem dX7_decided_19 : decode cX7_decided 19 = .ok (.invokevirtual 140, 3) := by decide +kernel
theorem dX7_decided_22 : decode cX7_decided 22 = .ok (.istore 5, 2) := by decide +kernel
theorem dX7_decided_24 : decode cX7_decided 24 = .ok (.iload 5, 2) := by decide +kernel
theorem dX7_decided_26 : decode cX7_decided 26 = .ok (.iconst 2, 1) := by decide +kernel
theorem dX7_decided_27 : decode cX7_decided 27 = .ok (.if_icmp .ne 5, 3) := by decide +kernel
theorem dX7_decided_30 : decode cX7_decided 30 = .ok (.iconst 2, 1) := by decide +kernel
theorem dX7_decided_31 : decode cX7_decided 31 = .ok (.ireturn, 1) := by decide +kernel
theorem dX7_decided_32 : decode cX7_decided 32 = .ok (.iload_n 3, 1) := by decide +kernel
theorem dX7_decided_33 : decode cX7_decided 33 = .ok (.ifCond .eq 13, 3) := by decide +kernel
theorem dX7_decided_36 : decode cX7_decided 36 = .ok (.iload 5, 2) := by decide +kernel
theorem dX7_decided_38 : decode cX7_decided 38 = .ok (.iconst 1, 1) := by decide +kernel
theorem dX7_decided_39 : decode cX7_decided 39 = .ok (.if_icmp .ne 7, 3) := by decide +kernel
theorem dX7_decided_42 : decode cX7_decided 42 = .ok (.iconst 1, 1) := by decide +kernel
theorem dX7_decided_43 : decode cX7_decided 43 = .ok (.goto 4, 3) := by decide +kernel
theorem dX7_decided_46 : decode cX7_decided 46 = .ok (.iconst 0, 1) := by decide +kernel
theorem dX7_decided_47 : decode cX7_decided 47 = .ok (.istore_n 3, 1) := by decide +kernel
theorem dX7_decided_48 : decode cX7_decided 48 = .ok (.iinc 4 1, 3) := by decide +kernel
theorem dX7_decided_51 : decode cX7_decided 51 = .ok (.goto (-46), 3) := by decide +kernel
theorem dX7_decided_54 : decode cX7_decided 54 = .ok (.iload_n 3, 1) := by decide +kernel
theorem dX7_decided_55 : decode cX7_decided 55 = .ok (.ifCond .eq 7, 3) := by decide +kernel
theorem dX7_decided_58 : decode cX7_decided 58 = .ok (.iconst 1, 1) := by decide +kernel
theorem dX7_decided_59 : decode cX7_decided 59 = .ok (.goto 4, 3) := by decide +kernel
theorem dX7_decided_62 : decode cX7_decided 62 = .ok (.iconst 0, 1) := by decide +kernel
theorem dX7_decided_63 : decode cX7_decided 63 = .ok (.ireturn, 1) := by decide +kernel
theorem dX7_decides_0 : decode cX7_decides 0 = .ok (.aload_n 0, 1) := by decide +kernel
theorem dX7_decides_1 : decode cX7_decides 1 = .ok (.iload_n 1, 1) := by decide +kernel
theorem dX7_decides_2 : decode cX7_decides 2 = .ok (.iconst 1, 1) := by decide +kernel
theorem dX7_decides_3 : decode cX7_decides 3 = .ok (.invokevirtual 114, 3) := by decide +kernel
theorem dX7_decides_6 : decode cX7_decides 6 = .ok (.istore_n 2, 1) := by decide +kernel
theorem dX7_decides_7 : decode cX7_decides 7 = .ok (.aload_n 0, 1) := by decide +kernel
theorem dX7_decides_8 : decode cX7_decides 8 = .ok (.getfield 48, 3) := by decide +kernel
theorem dX7_decides_11 : decode cX7_decides 11 = .ok (.iload_n 2, 1) := by decide +kernel
theorem dX7_decides_12 : decode cX7_decides 12 = .ok (.iaload, 1) := by decide +kernel
theorem dX7_decides_13 : decode cX7_decides 13 = .ok (.ifCond .ne 16, 3) := by decide +kernel
theorem dX7_decides_16 : decode cX7_decides 16 = .ok (.aload_n 0, 1) := by decide +kernel
theorem dX7_decides_17 : decode cX7_decides 17 = .ok (.iload_n 2, 1) := by decide +kernel
theorem dX7_decides_18 : decode cX7_decides 18 = .ok (.iload_n 1, 1) := by decide +kernel
theorem dX7_decides_19 : decode cX7_decides 19 = .ok (.invokevirtual 143, 3) := by decide +kernel
theorem dX7_decides_22 : decode cX7_decides 22 = .ok (.ifCond .le 7, 3) := by decide +kernel
theorem dX7_decides_25 : decode cX7_decides 25 = .ok (.iconst 1, 1) := by decide +kernel
theorem dX7_decides_26 : decode cX7_decides 26 = .ok (.goto 4, 3) := by decide +kernel
theorem dX7_decides_29 : decode cX7_decides 29 = .ok (.iconst 0, 1) := by decide +kernel
theorem dX7_decides_30 : decode cX7_decides 30 = .ok (.ireturn, 1) := by decide +kernel
theorem dX7_deliver_0 : decode cX7_deliver 0 = .ok (.aload_n 0, 1) := by decide +kernel
theorem dX7_deliver_1 : decode cX7_deliver 1 = .ok (.aload_n 0, 1) := by decide +kernel
theorem dX7_deliver_2 : decode cX7_deliver 2 = .ok (.iload_n 1, 1) := by decide +kernel
theorem dX7_deliver_3 : decode cX7_deliver 3 = .ok (.invokevirtual 146, 3) := by decide +kernel
theorem dX7_deliver_6 : decode cX7_deliver 6 = .ok (.invokevirtual 93, 3) := by decide +kernel
theorem dX7_deliver_9 : decode cX7_deliver 9 = .ok (.ifCond .eq 5, 3) := by decide +kernel
theorem dX7_deliver_12 : decode cX7_deliver 12 = .ok (.iconst 0, 1) := by decide +kernel
theorem dX7_deliver_13 : decode cX7_deliver 13 = .ok (.ireturn, 1) := by decide +kernel
theorem dX7_deliver_14 : decode cX7_deliver 14 = .ok (.aload_n 0, 1) := by decide +kernel
theorem dX7_deliver_15 : decode cX7_deliver 15 = .ok (.iload_n 1, 1) := by decide +kernel
theorem dX7_deliver_16 : decode cX7_deliver 16 = .ok (.invokevirtual 149, 3) := by decide +kernel
theorem dX7_deliver_19 : decode cX7_deliver 19 = .ok (.ireturn, 1) := by decide +kernel
theorem dX7_comes_0 : decode cX7_comes 0 = .ok (.aload_n 0, 1) := by decide +kernel
theorem dX7_comes_1 : decode cX7_comes 1 = .ok (.iload_n 1, 1) := by decide +kernel
theorem dX7_comes_2 : decode cX7_comes 2 = .ok (.iconst 0, 1) := by decide +kernel
theorem dX7_comes_3 : decode cX7_comes 3 = .ok (.invokevirtual 114, 3) := by decide +kernel
theorem dX7_comes_6 : decode cX7_comes 6 = .ok (.istore_n 2, 1) := by decide +kernel
theorem dX7_comes_7 : decode cX7_comes 7 = .ok (.aload_n 0, 1) := by decide +kernel
theorem dX7_comes_8 : decode cX7_comes 8 = .ok (.getfield 79, 3) := by decide +kernel
theorem dX7_comes_11 : decode cX7_comes 11 = .ok (.iconst 1, 1) := by decide +kernel
theorem dX7_comes_12 : decode cX7_comes 12 = .ok (.isub, 1) := by decide +kernel
theorem dX7_comes_13 : decode cX7_comes 13 = .ok (.aload_n 0, 1) := by decide +kernel
theorem dX7_comes_14 : decode cX7_comes 14 = .ok (.iload_n 1, 1) := by decide +kernel
theorem dX7_comes_15 : decode cX7_comes 15 = .ok (.invokevirtual 152, 3) := by decide +kernel
theorem dX7_comes_18 : decode cX7_comes 18 = .ok (.iadd, 1) := by decide +kernel
theorem dX7_comes_19 : decode cX7_comes 19 = .ok (.sipush 400, 3) := by decide +kernel
theorem dX7_comes_22 : decode cX7_comes 22 = .ok (.if_icmp .le 5, 3) := by decide +kernel
theorem dX7_comes_25 : decode cX7_comes 25 = .ok (.iconst (-1), 1) := by decide +kernel
theorem dX7_comes_26 : decode cX7_comes 26 = .ok (.ireturn, 1) := by decide +kernel
theorem dX7_comes_27 : decode cX7_comes 27 = .ok (.iload_n 2, 1) := by decide +kernel
theorem dX7_comes_28 : decode cX7_comes 28 = .ok (.iconst 1, 1) := by decide +kernel
theorem dX7_comes_29 : decode cX7_comes 29 = .ok (.if_icmp .ne 31, 3) := by decide +kernel
theorem dX7_comes_32 : decode cX7_comes 32 = .ok (.aload_n 0, 1) := by decide +kernel
theorem dX7_comes_33 : decode cX7_comes 33 = .ok (.getfield 21, 3) := by decide +kernel
theorem dX7_comes_36 : decode cX7_comes 36 = .ok (.iconst 2, 1) := by decide +kernel
theorem dX7_comes_37 : decode cX7_comes 37 = .ok (.aaload, 1) := by decide +kernel
theorem dX7_comes_38 : decode cX7_comes 38 = .ok (.aload_n 0, 1) := by decide +kernel
theorem dX7_comes_39 : decode cX7_comes 39 = .ok (.iload_n 1, 1) := by decide +kernel
theorem dX7_comes_40 : decode cX7_comes 40 = .ok (.iconst 1, 1) := by decide +kernel
theorem dX7_comes_41 : decode cX7_comes 41 = .ok (.invokevirtual 114, 3) := by decide +kernel
theorem dX7_comes_44 : decode cX7_comes 44 = .ok (.baload, 1) := by decide +kernel
theorem dX7_comes_45 : decode cX7_comes 45 = .ok (.ifCond .eq 15, 3) := by decide +kernel
theorem dX7_comes_48 : decode cX7_comes 48 = .ok (.aload_n 0, 1) := by decide +kernel
theorem dX7_comes_49 : decode cX7_comes 49 = .ok (.iload_n 1, 1) := by decide +kernel
theorem dX7_comes_50 : decode cX7_comes 50 = .ok (.invokevirtual 125, 3) := by decide +kernel
theorem dX7_comes_53 : decode cX7_comes 53 = .ok (.ifCond .eq 7, 3) := by decide +kernel
theorem dX7_comes_56 : decode cX7_comes 56 = .ok (.iconst 1, 1) := by decide +kernel
theorem dX7_comes_57 : decode cX7_comes 57 = .ok (.goto 4, 3) := by decide +kernel
theorem dX7_comes_60 : decode cX7_comes 60 = .ok (.iconst 0, 1) := by decide +kernel
theorem dX7_comes_61 : decode cX7_comes 61 = .ok (.istore_n 3, 1) := by decide +kernel
theorem dX7_comes_62 : decode cX7_comes 62 = .ok (.iconst 0, 1) := by decide +kernel
theorem dX7_comes_63 : decode cX7_comes 63 = .ok (.istore 4, 2) := by decide +kernel
theorem dX7_comes_65 : decode cX7_comes 65 = .ok (.iload 4, 2) := by decide +kernel
theorem dX7_comes_67 : decode cX7_comes 67 = .ok (.bipush 18, 2) := by decide +kernel
theorem dX7_comes_69 : decode cX7_comes 69 = .ok (.if_icmp .ge 23, 3) := by decide +kernel
theorem dX7_comes_72 : decode cX7_comes 72 = .ok (.aload_n 0, 1) := by decide +kernel
theorem dX7_comes_73 : decode cX7_comes 73 = .ok (.getfield 13, 3) := by decide +kernel
theorem dX7_comes_76 : decode cX7_comes 76 = .ok (.iload 4, 2) := by decide +kernel
theorem dX7_comes_78 : decode cX7_comes 78 = .ok (.aload_n 0, 1) := by decide +kernel
theorem dX7_comes_79 : decode cX7_comes 79 = .ok (.iload_n 1, 1) := by decide +kernel
theorem dX7_comes_80 : decode cX7_comes 80 = .ok (.iload 4, 2) := by decide +kernel
theorem dX7_comes_82 : decode cX7_comes 82 = .ok (.invokevirtual 114, 3) := by decide +kernel
theorem dX7_comes_85 : decode cX7_comes 85 = .ok (.iastore, 1) := by decide +kernel
theorem dX7_comes_86 : decode cX7_comes 86 = .ok (.iinc 4 1, 3) := by decide +kernel
theorem dX7_comes_89 : decode cX7_comes 89 = .ok (.goto (-24), 3) := by decide +kernel
theorem dX7_comes_92 : decode cX7_comes 92 = .ok (.aload_n 0, 1) := by decide +kernel
theorem dX7_comes_93 : decode cX7_comes 93 = .ok (.iload_n 1, 1) := by decide +kernel
theorem dX7_comes_94 : decode cX7_comes 94 = .ok (.invokevirtual 155, 3) := by decide +kernel
theorem dX7_comes_97 : decode cX7_comes 97 = .ok (.aload_n 0, 1) := by decide +kernel
theorem dX7_comes_98 : decode cX7_comes 98 = .ok (.dup, 1) := by decide +kernel
theorem dX7_comes_99 : decode cX7_comes 99 = .ok (.getfield 159, 3) := by decide +kernel
theorem dX7_comes_102 : decode cX7_comes 102 = .ok (.iconst 1, 1) := by decide +kernel
theorem dX7_comes_103 : decode cX7_comes 103 = .ok (.iadd, 1) := by decide +kernel
theorem dX7_comes_104 : decode cX7_comes 104 = .ok (.putfield 159, 3) := by decide +kernel
theorem dX7_comes_107 : decode cX7_comes 107 = .ok (.aload_n 0, 1) := by decide +kernel
theorem dX7_comes_108 : decode cX7_comes 108 = .ok (.getfield 13, 3) := by decide +kernel
theorem dX7_comes_111 : decode cX7_comes 111 = .ok (.iconst 1, 1) := by decide +kernel
theorem dX7_comes_112 : decode cX7_comes 112 = .ok (.iaload, 1) := by decide +kernel
theorem dX7_comes_113 : decode cX7_comes 113 = .ok (.istore 4, 2) := by decide +kernel
theorem dX7_comes_115 : decode cX7_comes 115 = .ok (.aload_n 0, 1) := by decide +kernel
theorem dX7_comes_116 : decode cX7_comes 116 = .ok (.getfield 21, 3) := by decide +kernel
theorem dX7_comes_119 : decode cX7_comes 119 = .ok (.iload_n 2, 1) := by decide +kernel
theorem dX7_comes_120 : decode cX7_comes 120 = .ok (.ifCond .eq 8, 3) := by decide +kernel
theorem dX7_comes_123 : decode cX7_comes 123 = .ok (.iload_n 2, 1) := by decide +kernel
theorem dX7_comes_124 : decode cX7_comes 124 = .ok (.iconst 2, 1) := by decide +kernel
theorem dX7_comes_125 : decode cX7_comes 125 = .ok (.if_icmp .ne 7, 3) := by decide +kernel
theorem dX7_comes_128 : decode cX7_comes 128 = .ok (.iconst 1, 1) := by decide +kernel
theorem dX7_comes_129 : decode cX7_comes 129 = .ok (.goto 13, 3) := by decide +kernel
theorem dX7_comes_132 : decode cX7_comes 132 = .ok (.iload_n 2, 1) := by decide +kernel
theorem dX7_comes_133 : decode cX7_comes 133 = .ok (.iconst 4, 1) := by decide +kernel
theorem dX7_comes_134 : decode cX7_comes 134 = .ok (.if_icmp .ne 7, 3) := by decide +kernel
theorem dX7_comes_137 : decode cX7_comes 137 = .ok (.iconst 0, 1) := by decide +kernel
theorem dX7_comes_138 : decode cX7_comes 138 = .ok (.goto 4, 3) := by decide +kernel
theorem dX7_comes_141 : decode cX7_comes 141 = .ok (.iconst 2, 1) := by decide +kernel
theorem dX7_comes_142 : decode cX7_comes 142 = .ok (.aaload, 1) := by decide +kernel
theorem dX7_comes_143 : decode cX7_comes 143 = .ok (.iload 4, 2) := by decide +kernel
theorem dX7_comes_145 : decode cX7_comes 145 = .ok (.baload, 1) := by decide +kernel
theorem dX7_comes_146 : decode cX7_comes 146 = .ok (.istore 5, 2) := by decide +kernel
theorem dX7_comes_148 : decode cX7_comes 148 = .ok (.iload 5, 2) := by decide +kernel
theorem dX7_comes_150 : decode cX7_comes 150 = .ok (.ifCond .ne 5, 3) := by decide +kernel
theorem dX7_comes_153 : decode cX7_comes 153 = .ok (.iload_n 2, 1) := by decide +kernel
theorem dX7_comes_154 : decode cX7_comes 154 = .ok (.ireturn, 1) := by decide +kernel
theorem dX7_comes_155 : decode cX7_comes 155 = .ok (.iload_n 2, 1) := by decide +kernel
theorem dX7_comes_156 : decode cX7_comes 156 = .ok (.tableswitch 111 0 5 #[40, 67, 49, 58, 111, 77], 40) := by decide +kernel
theorem dX7_comes_196 : decode cX7_comes 196 = .ok (.aload_n 0, 1) := by decide +kernel
theorem dX7_comes_197 : decode cX7_comes 197 = .ok (.iload 4, 2) := by decide +kernel
theorem dX7_comes_199 : decode cX7_comes 199 = .ok (.invokevirtual 162, 3) := by decide +kernel
theorem dX7_comes_202 : decode cX7_comes 202 = .ok (.goto 80, 3) := by decide +kernel
theorem dX7_comes_205 : decode cX7_comes 205 = .ok (.aload_n 0, 1) := by decide +kernel
theorem dX7_comes_206 : decode cX7_comes 206 = .ok (.iload 4, 2) := by decide +kernel
theorem dX7_comes_208 : decode cX7_comes 208 = .ok (.invokevirtual 165, 3) := by decide +kernel
theorem dX7_comes_211 : decode cX7_comes 211 = .ok (.goto 71, 3) := by decide +kernel
theorem dX7_comes_214 : decode cX7_comes 214 = .ok (.aload_n 0, 1) := by decide +kernel
theorem dX7_comes_215 : decode cX7_comes 215 = .ok (.iload 4, 2) := by decide +kernel
theorem dX7_comes_217 : decode cX7_comes 217 = .ok (.invokevirtual 168, 3) := by decide +kernel
theorem dX7_comes_220 : decode cX7_comes 220 = .ok (.goto 62, 3) := by decide +kernel
theorem dX7_comes_223 : decode cX7_comes 223 = .ok (.aload_n 0, 1) := by decide +kernel
theorem dX7_comes_224 : decode cX7_comes 224 = .ok (.iload 4, 2) := by decide +kernel
theorem dX7_comes_226 : decode cX7_comes 226 = .ok (.iload_n 3, 1) := by decide +kernel
theorem dX7_comes_227 : decode cX7_comes 227 = .ok (.invokevirtual 171, 3) := by decide +kernel
theorem dX7_comes_230 : decode cX7_comes 230 = .ok (.goto 52, 3) := by decide +kernel
theorem dX7_comes_233 : decode cX7_comes 233 = .ok (.aload_n 0, 1) := by decide +kernel
theorem dX7_comes_234 : decode cX7_comes 234 = .ok (.getfield 48, 3) := by decide +kernel
theorem dX7_comes_237 : decode cX7_comes 237 = .ok (.iload 4, 2) := by decide +kernel
theorem dX7_comes_239 : decode cX7_comes 239 = .ok (.iaload, 1) := by decide +kernel
theorem dX7_comes_240 : decode cX7_comes 240 = .ok (.ifCond .le 42, 3) := by decide +kernel
theorem dX7_comes_243 : decode cX7_comes 243 = .ok (.aload_n 0, 1) := by decide +kernel
theorem dX7_comes_244 : decode cX7_comes 244 = .ok (.iconst 4, 1) := by decide +kernel
theorem dX7_comes_245 : decode cX7_comes 245 = .ok (.aload_n 0, 1) := by decide +kernel
theorem dX7_comes_246 : decode cX7_comes 246 = .ok (.getfield 13, 3) := by decide +kernel
theorem dX7_comes_249 : decode cX7_comes 249 = .ok (.iconst 2, 1) := by decide +kernel
theorem dX7_comes_250 : decode cX7_comes 250 = .ok (.iaload, 1) := by decide +kernel
theorem dX7_comes_251 : decode cX7_comes 251 = .ok (.iconst (-1), 1) := by decide +kernel
theorem dX7_comes_252 : decode cX7_comes 252 = .ok (.iconst (-1), 1) := by decide +kernel
theorem dX7_comes_253 : decode cX7_comes 253 = .ok (.iconst (-1), 1) := by decide +kernel
theorem dX7_comes_254 : decode cX7_comes 254 = .ok (.aload_n 0, 1) := by decide +kernel
theorem dX7_comes_255 : decode cX7_comes 255 = .ok (.getfield 48, 3) := by decide +kernel
theorem dX7_comes_258 : decode cX7_comes 258 = .ok (.iload 4, 2) := by decide +kernel
theorem dX7_comes_260 : decode cX7_comes 260 = .ok (.iaload, 1) := by decide +kernel
theorem dX7_comes_261 : decode cX7_comes 261 = .ok (.invokevirtual 85, 3) := by decide +kernel
theorem dX7_comes_264 : decode cX7_comes 264 = .ok (.goto 18, 3) := by decide +kernel
theorem dX7_comes_267 : decode cX7_comes 267 = .ok (.aload_n 0, 1) := by decide +kernel
theorem dX7_comes_268 : decode cX7_comes 268 = .ok (.getfield 16, 3) := by decide +kernel
theorem dX7_comes_271 : decode cX7_comes 271 = .ok (.iload 4, 2) := by decide +kernel
theorem dX7_comes_273 : decode cX7_comes 273 = .ok (.aload_n 0, 1) := by decide +kernel
theorem dX7_comes_274 : decode cX7_comes 274 = .ok (.getfield 13, 3) := by decide +kernel
theorem dX7_comes_277 : decode cX7_comes 277 = .ok (.iconst 5, 1) := by decide +kernel
theorem dX7_comes_278 : decode cX7_comes 278 = .ok (.iaload, 1) := by decide +kernel
theorem dX7_comes_279 : decode cX7_comes 279 = .ok (.iconst 2, 1) := by decide +kernel
theorem dX7_comes_280 : decode cX7_comes 280 = .ok (.iadd, 1) := by decide +kernel
theorem dX7_comes_281 : decode cX7_comes 281 = .ok (.iastore, 1) := by decide +kernel
theorem dX7_comes_282 : decode cX7_comes 282 = .ok (.iload_n 2, 1) := by decide +kernel
theorem dX7_comes_283 : decode cX7_comes 283 = .ok (.ireturn, 1) := by decide +kernel
theorem dX7_voteComes_0 : decode cX7_voteComes 0 = .ok (.aload_n 0, 1) := by decide +kernel
theorem dX7_voteComes_1 : decode cX7_voteComes 1 = .ok (.getfield 13, 3) := by decide +kernel
theorem dX7_voteComes_4 : decode cX7_voteComes 4 = .ok (.iconst 4, 1) := by decide +kernel
theorem dX7_voteComes_5 : decode cX7_voteComes 5 = .ok (.iaload, 1) := by decide +kernel
theorem dX7_voteComes_6 : decode cX7_voteComes 6 = .ok (.istore_n 2, 1) := by decide +kernel
theorem dX7_voteComes_7 : decode cX7_voteComes 7 = .ok (.aload_n 0, 1) := by decide +kernel
theorem dX7_voteComes_8 : decode cX7_voteComes 8 = .ok (.getfield 13, 3) := by decide +kernel
theorem dX7_voteComes_11 : decode cX7_voteComes 11 = .ok (.iconst 3, 1) := by decide +kernel
theorem dX7_voteComes_12 : decode cX7_voteComes 12 = .ok (.iaload, 1) := by decide +kernel
theorem dX7_voteComes_13 : decode cX7_voteComes 13 = .ok (.istore_n 3, 1) := by decide +kernel
theorem dX7_voteComes_14 : decode cX7_voteComes 14 = .ok (.aload_n 0, 1) := by decide +kernel
theorem dX7_voteComes_15 : decode cX7_voteComes 15 = .ok (.getfield 13, 3) := by decide +kernel
theorem dX7_voteComes_18 : decode cX7_voteComes 18 = .ok (.iconst 5, 1) := by decide +kernel
theorem dX7_voteComes_19 : decode cX7_voteComes 19 = .ok (.iaload, 1) := by decide +kernel
theorem dX7_voteComes_20 : decode cX7_voteComes 20 = .ok (.istore 4, 2) := by decide +kernel
theorem dX7_voteComes_22 : decode cX7_voteComes 22 = .ok (.iload_n 2, 1) := by decide +kernel
theorem dX7_voteComes_23 : decode cX7_voteComes 23 = .ok (.aload_n 0, 1) := by decide +kernel
theorem dX7_voteComes_24 : decode cX7_voteComes 24 = .ok (.getfield 24, 3) := by decide +kernel
theorem dX7_voteComes_27 : decode cX7_voteComes 27 = .ok (.iload_n 1, 1) := by decide +kernel
theorem dX7_voteComes_28 : decode cX7_voteComes 28 = .ok (.iaload, 1) := by decide +kernel
theorem dX7_voteComes_29 : decode cX7_voteComes 29 = .ok (.if_icmp .ge 4, 3) := by decide +kernel
theorem dX7_voteComes_32 : decode cX7_voteComes 32 = .ok (.return_, 1) := by decide +kernel
theorem dX7_voteComes_33 : decode cX7_voteComes 33 = .ok (.aload_n 0, 1) := by decide +kernel
theorem dX7_voteComes_34 : decode cX7_voteComes 34 = .ok (.getfield 24, 3) := by decide +kernel
theorem dX7_voteComes_37 : decode cX7_voteComes 37 = .ok (.iload_n 1, 1) := by decide +kernel
theorem dX7_voteComes_38 : decode cX7_voteComes 38 = .ok (.iload_n 2, 1) := by decide +kernel
theorem dX7_voteComes_39 : decode cX7_voteComes 39 = .ok (.iastore, 1) := by decide +kernel
theorem dX7_voteComes_40 : decode cX7_voteComes 40 = .ok (.aload_n 0, 1) := by decide +kernel
theorem dX7_voteComes_41 : decode cX7_voteComes 41 = .ok (.getfield 27, 3) := by decide +kernel
theorem dX7_voteComes_44 : decode cX7_voteComes 44 = .ok (.bipush 6, 2) := by decide +kernel
theorem dX7_voteComes_46 : decode cX7_voteComes 46 = .ok (.iload_n 1, 1) := by decide +kernel
theorem dX7_voteComes_47 : decode cX7_voteComes 47 = .ok (.imul, 1) := by decide +kernel
theorem dX7_voteComes_48 : decode cX7_voteComes 48 = .ok (.iload_n 3, 1) := by decide +kernel
theorem dX7_voteComes_49 : decode cX7_voteComes 49 = .ok (.iadd, 1) := by decide +kernel
theorem dX7_voteComes_50 : decode cX7_voteComes 50 = .ok (.iload_n 2, 1) := by decide +kernel
theorem dX7_voteComes_51 : decode cX7_voteComes 51 = .ok (.iastore, 1) := by decide +kernel
theorem dX7_voteComes_52 : decode cX7_voteComes 52 = .ok (.aload_n 0, 1) := by decide +kernel
theorem dX7_voteComes_53 : decode cX7_voteComes 53 = .ok (.getfield 30, 3) := by decide +kernel
theorem dX7_voteComes_56 : decode cX7_voteComes 56 = .ok (.bipush 6, 2) := by decide +kernel
theorem dX7_voteComes_58 : decode cX7_voteComes 58 = .ok (.iload_n 1, 1) := by decide +kernel
theorem dX7_voteComes_59 : decode cX7_voteComes 59 = .ok (.imul, 1) := by decide +kernel
theorem dX7_voteComes_60 : decode cX7_voteComes 60 = .ok (.iload_n 3, 1) := by decide +kernel
theorem dX7_voteComes_61 : decode cX7_voteComes 61 = .ok (.iadd, 1) := by decide +kernel
theorem dX7_voteComes_62 : decode cX7_voteComes 62 = .ok (.iload 4, 2) := by decide +kernel
theorem dX7_voteComes_64 : decode cX7_voteComes 64 = .ok (.iastore, 1) := by decide +kernel
theorem dX7_voteComes_65 : decode cX7_voteComes 65 = .ok (.aload_n 0, 1) := by decide +kernel
theorem dX7_voteComes_66 : decode cX7_voteComes 66 = .ok (.getfield 33, 3) := by decide +kernel
theorem dX7_voteComes_69 : decode cX7_voteComes 69 = .ok (.bipush 6, 2) := by decide +kernel
theorem dX7_voteComes_71 : decode cX7_voteComes 71 = .ok (.iload_n 2, 1) := by decide +kernel
theorem dX7_voteComes_72 : decode cX7_voteComes 72 = .ok (.imul, 1) := by decide +kernel
theorem dX7_voteComes_73 : decode cX7_voteComes 73 = .ok (.iload_n 3, 1) := by decide +kernel
theorem dX7_voteComes_74 : decode cX7_voteComes 74 = .ok (.iadd, 1) := by decide +kernel
theorem dX7_voteComes_75 : decode cX7_voteComes 75 = .ok (.dup2, 1) := by decide +kernel
theorem dX7_voteComes_76 : decode cX7_voteComes 76 = .ok (.iaload, 1) := by decide +kernel
theorem dX7_voteComes_77 : decode cX7_voteComes 77 = .ok (.iconst 1, 1) := by decide +kernel
theorem dX7_voteComes_78 : decode cX7_voteComes 78 = .ok (.iload_n 1, 1) := by decide +kernel
theorem dX7_voteComes_79 : decode cX7_voteComes 79 = .ok (.ishl, 1) := by decide +kernel
theorem dX7_voteComes_80 : decode cX7_voteComes 80 = .ok (.ior, 1) := by decide +kernel
theorem dX7_voteComes_81 : decode cX7_voteComes 81 = .ok (.iastore, 1) := by decide +kernel
theorem dX7_voteComes_82 : decode cX7_voteComes 82 = .ok (.aload_n 0, 1) := by decide +kernel
theorem dX7_voteComes_83 : decode cX7_voteComes 83 = .ok (.getfield 36, 3) := by decide +kernel
theorem dX7_voteComes_86 : decode cX7_voteComes 86 = .ok (.bipush 6, 2) := by decide +kernel
theorem dX7_voteComes_88 : decode cX7_voteComes 88 = .ok (.iload_n 2, 1) := by decide +kernel
theorem dX7_voteComes_89 : decode cX7_voteComes 89 = .ok (.imul, 1) := by decide +kernel
theorem dX7_voteComes_90 : decode cX7_voteComes 90 = .ok (.iload_n 3, 1) := by decide +kernel
theorem dX7_voteComes_91 : decode cX7_voteComes 91 = .ok (.iadd, 1) := by decide +kernel
theorem dX7_voteComes_92 : decode cX7_voteComes 92 = .ok (.iload 4, 2) := by decide +kernel
theorem dX7_voteComes_94 : decode cX7_voteComes 94 = .ok (.iastore, 1) := by decide +kernel
theorem dX7_voteComes_95 : decode cX7_voteComes 95 = .ok (.iconst 0, 1) := by decide +kernel
theorem dX7_voteComes_96 : decode cX7_voteComes 96 = .ok (.istore 5, 2) := by decide +kernel
theorem dX7_voteComes_98 : decode cX7_voteComes 98 = .ok (.iload 5, 2) := by decide +kernel
theorem dX7_voteComes_100 : decode cX7_voteComes 100 = .ok (.iconst 3, 1) := by decide +kernel
theorem dX7_voteComes_101 : decode cX7_voteComes 101 = .ok (.if_icmp .ge 21, 3) := by decide +kernel
theorem dX7_voteComes_104 : decode cX7_voteComes 104 = .ok (.aload_n 0, 1) := by decide +kernel
theorem dX7_voteComes_105 : decode cX7_voteComes 105 = .ok (.iconst 1, 1) := by decide +kernel
theorem dX7_voteComes_106 : decode cX7_voteComes 106 = .ok (.iload 5, 2) := by decide +kernel
theorem dX7_voteComes_108 : decode cX7_voteComes 108 = .ok (.iload_n 1, 1) := by decide +kernel
theorem dX7_voteComes_109 : decode cX7_voteComes 109 = .ok (.iload_n 3, 1) := by decide +kernel
theorem dX7_voteComes_110 : decode cX7_voteComes 110 = .ok (.iload_n 2, 1) := by decide +kernel
theorem dX7_voteComes_111 : decode cX7_voteComes 111 = .ok (.iload 4, 2) := by decide +kernel
theorem dX7_voteComes_113 : decode cX7_voteComes 113 = .ok (.invokevirtual 85, 3) := by decide +kernel
theorem dX7_voteComes_116 : decode cX7_voteComes 116 = .ok (.iinc 5 1, 3) := by decide +kernel
theorem dX7_voteComes_119 : decode cX7_voteComes 119 = .ok (.goto (-21), 3) := by decide +kernel
theorem dX7_voteComes_122 : decode cX7_voteComes 122 = .ok (.return_, 1) := by decide +kernel
theorem dX7_askComes_0 : decode cX7_askComes 0 = .ok (.aload_n 0, 1) := by decide +kernel
theorem dX7_askComes_1 : decode cX7_askComes 1 = .ok (.getfield 13, 3) := by decide +kernel
theorem dX7_askComes_4 : decode cX7_askComes 4 = .ok (.iconst 4, 1) := by decide +kernel
theorem dX7_askComes_5 : decode cX7_askComes 5 = .ok (.iaload, 1) := by decide +kernel
theorem dX7_askComes_6 : decode cX7_askComes 6 = .ok (.istore_n 2, 1) := by decide +kernel
theorem dX7_askComes_7 : decode cX7_askComes 7 = .ok (.iload_n 2, 1) := by decide +kernel
theorem dX7_askComes_8 : decode cX7_askComes 8 = .ok (.aload_n 0, 1) := by decide +kernel
theorem dX7_askComes_9 : decode cX7_askComes 9 = .ok (.getfield 24, 3) := by decide +kernel
theorem dX7_askComes_12 : decode cX7_askComes 12 = .ok (.iload_n 1, 1) := by decide +kernel
theorem dX7_askComes_13 : decode cX7_askComes 13 = .ok (.iaload, 1) := by decide +kernel
theorem dX7_askComes_14 : decode cX7_askComes 14 = .ok (.if_icmp .gt 4, 3) := by decide +kernel
theorem dX7_askComes_17 : decode cX7_askComes 17 = .ok (.return_, 1) := by decide +kernel
theorem dX7_askComes_18 : decode cX7_askComes 18 = .ok (.aload_n 0, 1) := by decide +kernel
theorem dX7_askComes_19 : decode cX7_askComes 19 = .ok (.getfield 24, 3) := by decide +kernel
theorem dX7_askComes_22 : decode cX7_askComes 22 = .ok (.iload_n 1, 1) := by decide +kernel
theorem dX7_askComes_23 : decode cX7_askComes 23 = .ok (.iload_n 2, 1) := by decide +kernel
theorem dX7_askComes_24 : decode cX7_askComes 24 = .ok (.iastore, 1) := by decide +kernel
theorem dX7_askComes_25 : decode cX7_askComes 25 = .ok (.aload_n 0, 1) := by decide +kernel
theorem dX7_askComes_26 : decode cX7_askComes 26 = .ok (.iconst 3, 1) := by decide +kernel
theorem dX7_askComes_27 : decode cX7_askComes 27 = .ok (.iload_n 2, 1) := by decide +kernel
theorem dX7_askComes_28 : decode cX7_askComes 28 = .ok (.iconst 1, 1) := by decide +kernel
theorem dX7_askComes_29 : decode cX7_askComes 29 = .ok (.isub, 1) := by decide +kernel
theorem dX7_askComes_30 : decode cX7_askComes 30 = .ok (.iconst 3, 1) := by decide +kernel
theorem dX7_askComes_31 : decode cX7_askComes 31 = .ok (.irem, 1) := by decide +kernel
theorem dX7_askComes_32 : decode cX7_askComes 32 = .ok (.iload_n 1, 1) := by decide +kernel
theorem dX7_askComes_33 : decode cX7_askComes 33 = .ok (.iconst (-1), 1) := by decide +kernel
theorem dX7_askComes_34 : decode cX7_askComes 34 = .ok (.iload_n 2, 1) := by decide +kernel
theorem dX7_askComes_35 : decode cX7_askComes 35 = .ok (.iconst (-1), 1) := by decide +kernel
theorem dX7_askComes_36 : decode cX7_askComes 36 = .ok (.invokevirtual 85, 3) := by decide +kernel
theorem dX7_askComes_39 : decode cX7_askComes 39 = .ok (.bipush 18, 2) := by decide +kernel
theorem dX7_askComes_41 : decode cX7_askComes 41 = .ok (.aload_n 0, 1) := by decide +kernel
theorem dX7_askComes_42 : decode cX7_askComes 42 = .ok (.getfield 79, 3) := by decide +kernel
theorem dX7_askComes_45 : decode cX7_askComes 45 = .ok (.iconst 1, 1) := by decide +kernel
theorem dX7_askComes_46 : decode cX7_askComes 46 = .ok (.isub, 1) := by decide +kernel
theorem dX7_askComes_47 : decode cX7_askComes 47 = .ok (.imul, 1) := by decide +kernel
theorem dX7_askComes_48 : decode cX7_askComes 48 = .ok (.istore_n 3, 1) := by decide +kernel
theorem dX7_askComes_49 : decode cX7_askComes 49 = .ok (.iconst 0, 1) := by decide +kernel
theorem dX7_askComes_50 : decode cX7_askComes 50 = .ok (.istore 4, 2) := by decide +kernel
theorem dX7_askComes_52 : decode cX7_askComes 52 = .ok (.iload 4, 2) := by decide +kernel
theorem dX7_askComes_54 : decode cX7_askComes 54 = .ok (.aload_n 0, 1) := by decide +kernel
theorem dX7_askComes_55 : decode cX7_askComes 55 = .ok (.getfield 69, 3) := by decide +kernel
theorem dX7_askComes_58 : decode cX7_askComes 58 = .ok (.if_icmp .ge 57, 3) := by decide +kernel
theorem dX7_askComes_61 : decode cX7_askComes 61 = .ok (.aload_n 0, 1) := by decide +kernel
theorem dX7_askComes_62 : decode cX7_askComes 62 = .ok (.getfield 9, 3) := by decide +kernel
theorem dX7_askComes_65 : decode cX7_askComes 65 = .ok (.iload_n 3, 1) := by decide +kernel
theorem dX7_askComes_66 : decode cX7_askComes 66 = .ok (.bipush 6, 2) := by decide +kernel
theorem dX7_askComes_68 : decode cX7_askComes 68 = .ok (.iadd, 1) := by decide +kernel
theorem dX7_askComes_69 : decode cX7_askComes 69 = .ok (.iload 4, 2) := by decide +kernel
theorem dX7_askComes_71 : decode cX7_askComes 71 = .ok (.iadd, 1) := by decide +kernel
theorem dX7_askComes_72 : decode cX7_askComes 72 = .ok (.aload_n 0, 1) := by decide +kernel
theorem dX7_askComes_73 : decode cX7_askComes 73 = .ok (.getfield 27, 3) := by decide +kernel
theorem dX7_askComes_76 : decode cX7_askComes 76 = .ok (.bipush 6, 2) := by decide +kernel
theorem dX7_askComes_78 : decode cX7_askComes 78 = .ok (.iload_n 1, 1) := by decide +kernel
theorem dX7_askComes_79 : decode cX7_askComes 79 = .ok (.imul, 1) := by decide +kernel
theorem dX7_askComes_80 : decode cX7_askComes 80 = .ok (.iload 4, 2) := by decide +kernel
theorem dX7_askComes_82 : decode cX7_askComes 82 = .ok (.iadd, 1) := by decide +kernel
theorem dX7_askComes_83 : decode cX7_askComes 83 = .ok (.iaload, 1) := by decide +kernel
theorem dX7_askComes_84 : decode cX7_askComes 84 = .ok (.iastore, 1) := by decide +kernel
theorem dX7_askComes_85 : decode cX7_askComes 85 = .ok (.aload_n 0, 1) := by decide +kernel
theorem dX7_askComes_86 : decode cX7_askComes 86 = .ok (.getfield 9, 3) := by decide +kernel
theorem dX7_askComes_89 : decode cX7_askComes 89 = .ok (.iload_n 3, 1) := by decide +kernel
theorem dX7_askComes_90 : decode cX7_askComes 90 = .ok (.bipush 12, 2) := by decide +kernel
theorem dX7_askComes_92 : decode cX7_askComes 92 = .ok (.iadd, 1) := by decide +kernel
theorem dX7_askComes_93 : decode cX7_askComes 93 = .ok (.iload 4, 2) := by decide +kernel
theorem dX7_askComes_95 : decode cX7_askComes 95 = .ok (.iadd, 1) := by decide +kernel
theorem dX7_askComes_96 : decode cX7_askComes 96 = .ok (.aload_n 0, 1) := by decide +kernel
theorem dX7_askComes_97 : decode cX7_askComes 97 = .ok (.getfield 30, 3) := by decide +kernel
theorem dX7_askComes_100 : decode cX7_askComes 100 = .ok (.bipush 6, 2) := by decide +kernel
theorem dX7_askComes_102 : decode cX7_askComes 102 = .ok (.iload_n 1, 1) := by decide +kernel
theorem dX7_askComes_103 : decode cX7_askComes 103 = .ok (.imul, 1) := by decide +kernel
theorem dX7_askComes_104 : decode cX7_askComes 104 = .ok (.iload 4, 2) := by decide +kernel
theorem dX7_askComes_106 : decode cX7_askComes 106 = .ok (.iadd, 1) := by decide +kernel
theorem dX7_askComes_107 : decode cX7_askComes 107 = .ok (.iaload, 1) := by decide +kernel
theorem dX7_askComes_108 : decode cX7_askComes 108 = .ok (.iastore, 1) := by decide +kernel
theorem dX7_askComes_109 : decode cX7_askComes 109 = .ok (.iinc 4 1, 3) := by decide +kernel
theorem dX7_askComes_112 : decode cX7_askComes 112 = .ok (.goto (-60), 3) := by decide +kernel
theorem dX7_askComes_115 : decode cX7_askComes 115 = .ok (.return_, 1) := by decide +kernel
theorem dX7_toldComes_0 : decode cX7_toldComes 0 = .ok (.aload_n 0, 1) := by decide +kernel
theorem dX7_toldComes_1 : decode cX7_toldComes 1 = .ok (.getfield 13, 3) := by decide +kernel
theorem dX7_toldComes_4 : decode cX7_toldComes 4 = .ok (.iconst 4, 1) := by decide +kernel
theorem dX7_toldComes_5 : decode cX7_toldComes 5 = .ok (.iaload, 1) := by decide +kernel
theorem dX7_toldComes_6 : decode cX7_toldComes 6 = .ok (.istore_n 2, 1) := by decide +kernel
theorem dX7_toldComes_7 : decode cX7_toldComes 7 = .ok (.aload_n 0, 1) := by decide +kernel
theorem dX7_toldComes_8 : decode cX7_toldComes 8 = .ok (.getfield 13, 3) := by decide +kernel
theorem dX7_toldComes_11 : decode cX7_toldComes 11 = .ok (.iconst 2, 1) := by decide +kernel
theorem dX7_toldComes_12 : decode cX7_toldComes 12 = .ok (.iaload, 1) := by decide +kernel
theorem dX7_toldComes_13 : decode cX7_toldComes 13 = .ok (.istore_n 3, 1) := by decide +kernel
theorem dX7_toldComes_14 : decode cX7_toldComes 14 = .ok (.aload_n 0, 1) := by decide +kernel
theorem dX7_toldComes_15 : decode cX7_toldComes 15 = .ok (.getfield 45, 3) := by decide +kernel
theorem dX7_toldComes_18 : decode cX7_toldComes 18 = .ok (.iload_n 1, 1) := by decide +kernel
theorem dX7_toldComes_19 : decode cX7_toldComes 19 = .ok (.aload_n 0, 1) := by decide +kernel
theorem dX7_toldComes_20 : decode cX7_toldComes 20 = .ok (.getfield 45, 3) := by decide +kernel
theorem dX7_toldComes_23 : decode cX7_toldComes 23 = .ok (.iload_n 1, 1) := by decide +kernel
theorem dX7_toldComes_24 : decode cX7_toldComes 24 = .ok (.iaload, 1) := by decide +kernel
theorem dX7_toldComes_25 : decode cX7_toldComes 25 = .ok (.iload_n 2, 1) := by decide +kernel
theorem dX7_toldComes_26 : decode cX7_toldComes 26 = .ok (.invokestatic 175, 3) := by decide +kernel
theorem dX7_toldComes_29 : decode cX7_toldComes 29 = .ok (.iastore, 1) := by decide +kernel
theorem dX7_toldComes_30 : decode cX7_toldComes 30 = .ok (.aload_n 0, 1) := by decide +kernel
theorem dX7_toldComes_31 : decode cX7_toldComes 31 = .ok (.getfield 42, 3) := by decide +kernel
theorem dX7_toldComes_34 : decode cX7_toldComes 34 = .ok (.iload_n 1, 1) := by decide +kernel
theorem dX7_toldComes_35 : decode cX7_toldComes 35 = .ok (.iaload, 1) := by decide +kernel
theorem dX7_toldComes_36 : decode cX7_toldComes 36 = .ok (.iconst 1, 1) := by decide +kernel
theorem dX7_toldComes_37 : decode cX7_toldComes 37 = .ok (.if_icmp .ne 13, 3) := by decide +kernel
theorem dX7_toldComes_40 : decode cX7_toldComes 40 = .ok (.iload_n 2, 1) := by decide +kernel
theorem dX7_toldComes_41 : decode cX7_toldComes 41 = .ok (.aload_n 0, 1) := by decide +kernel
theorem dX7_toldComes_42 : decode cX7_toldComes 42 = .ok (.getfield 39, 3) := by decide +kernel
theorem dX7_toldComes_45 : decode cX7_toldComes 45 = .ok (.iload_n 1, 1) := by decide +kernel
theorem dX7_toldComes_46 : decode cX7_toldComes 46 = .ok (.iaload, 1) := by decide +kernel
theorem dX7_toldComes_47 : decode cX7_toldComes 47 = .ok (.if_icmp .eq 4, 3) := by decide +kernel
theorem dX7_toldComes_50 : decode cX7_toldComes 50 = .ok (.return_, 1) := by decide +kernel
theorem dX7_toldComes_51 : decode cX7_toldComes 51 = .ok (.aload_n 0, 1) := by decide +kernel
theorem dX7_toldComes_52 : decode cX7_toldComes 52 = .ok (.getfield 51, 3) := by decide +kernel
theorem dX7_toldComes_55 : decode cX7_toldComes 55 = .ok (.iload_n 1, 1) := by decide +kernel
theorem dX7_toldComes_56 : decode cX7_toldComes 56 = .ok (.dup2, 1) := by decide +kernel
theorem dX7_toldComes_57 : decode cX7_toldComes 57 = .ok (.iaload, 1) := by decide +kernel
theorem dX7_toldComes_58 : decode cX7_toldComes 58 = .ok (.iconst 1, 1) := by decide +kernel
theorem dX7_toldComes_59 : decode cX7_toldComes 59 = .ok (.iload_n 3, 1) := by decide +kernel
theorem dX7_toldComes_60 : decode cX7_toldComes 60 = .ok (.ishl, 1) := by decide +kernel
theorem dX7_toldComes_61 : decode cX7_toldComes 61 = .ok (.ior, 1) := by decide +kernel
theorem dX7_toldComes_62 : decode cX7_toldComes 62 = .ok (.iastore, 1) := by decide +kernel
theorem dX7_toldComes_63 : decode cX7_toldComes 63 = .ok (.iconst 0, 1) := by decide +kernel
theorem dX7_toldComes_64 : decode cX7_toldComes 64 = .ok (.istore 4, 2) := by decide +kernel
theorem dX7_toldComes_66 : decode cX7_toldComes 66 = .ok (.iload 4, 2) := by decide +kernel
theorem dX7_toldComes_68 : decode cX7_toldComes 68 = .ok (.aload_n 0, 1) := by decide +kernel
theorem dX7_toldComes_69 : decode cX7_toldComes 69 = .ok (.getfield 69, 3) := by decide +kernel
theorem dX7_toldComes_72 : decode cX7_toldComes 72 = .ok (.if_icmp .ge 61, 3) := by decide +kernel
theorem dX7_toldComes_75 : decode cX7_toldComes 75 = .ok (.aload_n 0, 1) := by decide +kernel
theorem dX7_toldComes_76 : decode cX7_toldComes 76 = .ok (.getfield 54, 3) := by decide +kernel
theorem dX7_toldComes_79 : decode cX7_toldComes 79 = .ok (.iconst 5, 1) := by decide +kernel
theorem dX7_toldComes_80 : decode cX7_toldComes 80 = .ok (.iload_n 1, 1) := by decide +kernel
theorem dX7_toldComes_81 : decode cX7_toldComes 81 = .ok (.imul, 1) := by decide +kernel
theorem dX7_toldComes_82 : decode cX7_toldComes 82 = .ok (.iload_n 3, 1) := by decide +kernel
theorem dX7_toldComes_83 : decode cX7_toldComes 83 = .ok (.iadd, 1) := by decide +kernel
theorem dX7_toldComes_84 : decode cX7_toldComes 84 = .ok (.bipush 6, 2) := by decide +kernel
theorem dX7_toldComes_86 : decode cX7_toldComes 86 = .ok (.imul, 1) := by decide +kernel
theorem dX7_toldComes_87 : decode cX7_toldComes 87 = .ok (.iload 4, 2) := by decide +kernel
theorem dX7_toldComes_89 : decode cX7_toldComes 89 = .ok (.iadd, 1) := by decide +kernel
theorem dX7_toldComes_90 : decode cX7_toldComes 90 = .ok (.aload_n 0, 1) := by decide +kernel
theorem dX7_toldComes_91 : decode cX7_toldComes 91 = .ok (.getfield 13, 3) := by decide +kernel
theorem dX7_toldComes_94 : decode cX7_toldComes 94 = .ok (.bipush 6, 2) := by decide +kernel
theorem dX7_toldComes_96 : decode cX7_toldComes 96 = .ok (.iload 4, 2) := by decide +kernel
theorem dX7_toldComes_98 : decode cX7_toldComes 98 = .ok (.iadd, 1) := by decide +kernel
theorem dX7_toldComes_99 : decode cX7_toldComes 99 = .ok (.iaload, 1) := by decide +kernel
theorem dX7_toldComes_100 : decode cX7_toldComes 100 = .ok (.iastore, 1) := by decide +kernel
theorem dX7_toldComes_101 : decode cX7_toldComes 101 = .ok (.aload_n 0, 1) := by decide +kernel
theorem dX7_toldComes_102 : decode cX7_toldComes 102 = .ok (.getfield 57, 3) := by decide +kernel
theorem dX7_toldComes_105 : decode cX7_toldComes 105 = .ok (.iconst 5, 1) := by decide +kernel
theorem dX7_toldComes_106 : decode cX7_toldComes 106 = .ok (.iload_n 1, 1) := by decide +kernel
theorem dX7_toldComes_107 : decode cX7_toldComes 107 = .ok (.imul, 1) := by decide +kernel
theorem dX7_toldComes_108 : decode cX7_toldComes 108 = .ok (.iload_n 3, 1) := by decide +kernel
theorem dX7_toldComes_109 : decode cX7_toldComes 109 = .ok (.iadd, 1) := by decide +kernel
theorem dX7_toldComes_110 : decode cX7_toldComes 110 = .ok (.bipush 6, 2) := by decide +kernel
theorem dX7_toldComes_112 : decode cX7_toldComes 112 = .ok (.imul, 1) := by decide +kernel
theorem dX7_toldComes_113 : decode cX7_toldComes 113 = .ok (.iload 4, 2) := by decide +kernel
theorem dX7_toldComes_115 : decode cX7_toldComes 115 = .ok (.iadd, 1) := by decide +kernel
theorem dX7_toldComes_116 : decode cX7_toldComes 116 = .ok (.aload_n 0, 1) := by decide +kernel
theorem dX7_toldComes_117 : decode cX7_toldComes 117 = .ok (.getfield 13, 3) := by decide +kernel
theorem dX7_toldComes_120 : decode cX7_toldComes 120 = .ok (.bipush 12, 2) := by decide +kernel
theorem dX7_toldComes_122 : decode cX7_toldComes 122 = .ok (.iload 4, 2) := by decide +kernel
theorem dX7_toldComes_124 : decode cX7_toldComes 124 = .ok (.iadd, 1) := by decide +kernel
theorem dX7_toldComes_125 : decode cX7_toldComes 125 = .ok (.iaload, 1) := by decide +kernel
theorem dX7_toldComes_126 : decode cX7_toldComes 126 = .ok (.iastore, 1) := by decide +kernel
theorem dX7_toldComes_127 : decode cX7_toldComes 127 = .ok (.iinc 4 1, 3) := by decide +kernel
theorem dX7_toldComes_130 : decode cX7_toldComes 130 = .ok (.goto (-64), 3) := by decide +kernel
theorem dX7_toldComes_133 : decode cX7_toldComes 133 = .ok (.aload_n 0, 1) := by decide +kernel
theorem dX7_toldComes_134 : decode cX7_toldComes 134 = .ok (.aload_n 0, 1) := by decide +kernel
theorem dX7_toldComes_135 : decode cX7_toldComes 135 = .ok (.getfield 51, 3) := by decide +kernel
theorem dX7_toldComes_138 : decode cX7_toldComes 138 = .ok (.iload_n 1, 1) := by decide +kernel
theorem dX7_toldComes_139 : decode cX7_toldComes 139 = .ok (.iaload, 1) := by decide +kernel
theorem dX7_toldComes_140 : decode cX7_toldComes 140 = .ok (.invokestatic 118, 3) := by decide +kernel
theorem dX7_toldComes_143 : decode cX7_toldComes 143 = .ok (.invokevirtual 122, 3) := by decide +kernel
theorem dX7_toldComes_146 : decode cX7_toldComes 146 = .ok (.ifCond .ne 4, 3) := by decide +kernel
theorem dX7_toldComes_149 : decode cX7_toldComes 149 = .ok (.return_, 1) := by decide +kernel
theorem dX7_toldComes_150 : decode cX7_toldComes 150 = .ok (.aload_n 0, 1) := by decide +kernel
theorem dX7_toldComes_151 : decode cX7_toldComes 151 = .ok (.getfield 42, 3) := by decide +kernel
theorem dX7_toldComes_154 : decode cX7_toldComes 154 = .ok (.iload_n 1, 1) := by decide +kernel
theorem dX7_toldComes_155 : decode cX7_toldComes 155 = .ok (.iconst 2, 1) := by decide +kernel
theorem dX7_toldComes_156 : decode cX7_toldComes 156 = .ok (.iastore, 1) := by decide +kernel
theorem dX7_toldComes_157 : decode cX7_toldComes 157 = .ok (.iconst 0, 1) := by decide +kernel
theorem dX7_toldComes_158 : decode cX7_toldComes 158 = .ok (.istore 4, 2) := by decide +kernel
theorem dX7_toldComes_160 : decode cX7_toldComes 160 = .ok (.iload 4, 2) := by decide +kernel
theorem dX7_toldComes_162 : decode cX7_toldComes 162 = .ok (.aload_n 0, 1) := by decide +kernel
theorem dX7_toldComes_163 : decode cX7_toldComes 163 = .ok (.getfield 69, 3) := by decide +kernel
theorem dX7_toldComes_166 : decode cX7_toldComes 166 = .ok (.if_icmp .ge 119, 3) := by decide +kernel
theorem dX7_toldComes_169 : decode cX7_toldComes 169 = .ok (.iconst (-1), 1) := by decide +kernel
theorem dX7_toldComes_170 : decode cX7_toldComes 170 = .ok (.istore 5, 2) := by decide +kernel
theorem dX7_toldComes_172 : decode cX7_toldComes 172 = .ok (.iconst 2, 1) := by decide +kernel
theorem dX7_toldComes_173 : decode cX7_toldComes 173 = .ok (.istore 6, 2) := by decide +kernel
theorem dX7_toldComes_175 : decode cX7_toldComes 175 = .ok (.iconst 0, 1) := by decide +kernel
theorem dX7_toldComes_176 : decode cX7_toldComes 176 = .ok (.istore 7, 2) := by decide +kernel
theorem dX7_toldComes_178 : decode cX7_toldComes 178 = .ok (.iload 7, 2) := by decide +kernel
theorem dX7_toldComes_180 : decode cX7_toldComes 180 = .ok (.aload_n 0, 1) := by decide +kernel
theorem dX7_toldComes_181 : decode cX7_toldComes 181 = .ok (.getfield 73, 3) := by decide +kernel
theorem dX7_toldComes_184 : decode cX7_toldComes 184 = .ok (.if_icmp .ge 86, 3) := by decide +kernel
theorem dX7_toldComes_187 : decode cX7_toldComes 187 = .ok (.aload_n 0, 1) := by decide +kernel
theorem dX7_toldComes_188 : decode cX7_toldComes 188 = .ok (.getfield 51, 3) := by decide +kernel
theorem dX7_toldComes_191 : decode cX7_toldComes 191 = .ok (.iload_n 1, 1) := by decide +kernel
theorem dX7_toldComes_192 : decode cX7_toldComes 192 = .ok (.iaload, 1) := by decide +kernel
theorem dX7_toldComes_193 : decode cX7_toldComes 193 = .ok (.iload 7, 2) := by decide +kernel
theorem dX7_toldComes_195 : decode cX7_toldComes 195 = .ok (.ishr, 1) := by decide +kernel
theorem dX7_toldComes_196 : decode cX7_toldComes 196 = .ok (.iconst 1, 1) := by decide +kernel
theorem dX7_toldComes_197 : decode cX7_toldComes 197 = .ok (.iand, 1) := by decide +kernel
theorem dX7_toldComes_198 : decode cX7_toldComes 198 = .ok (.ifCond .eq 66, 3) := by decide +kernel
theorem dX7_toldComes_201 : decode cX7_toldComes 201 = .ok (.aload_n 0, 1) := by decide +kernel
theorem dX7_toldComes_202 : decode cX7_toldComes 202 = .ok (.getfield 54, 3) := by decide +kernel
theorem dX7_toldComes_205 : decode cX7_toldComes 205 = .ok (.iconst 5, 1) := by decide +kernel
theorem dX7_toldComes_206 : decode cX7_toldComes 206 = .ok (.iload_n 1, 1) := by decide +kernel
theorem dX7_toldComes_207 : decode cX7_toldComes 207 = .ok (.imul, 1) := by decide +kernel
theorem dX7_toldComes_208 : decode cX7_toldComes 208 = .ok (.iload 7, 2) := by decide +kernel
theorem dX7_toldComes_210 : decode cX7_toldComes 210 = .ok (.iadd, 1) := by decide +kernel
theorem dX7_toldComes_211 : decode cX7_toldComes 211 = .ok (.bipush 6, 2) := by decide +kernel
theorem dX7_toldComes_213 : decode cX7_toldComes 213 = .ok (.imul, 1) := by decide +kernel
theorem dX7_toldComes_214 : decode cX7_toldComes 214 = .ok (.iload 4, 2) := by decide +kernel
theorem dX7_toldComes_216 : decode cX7_toldComes 216 = .ok (.iadd, 1) := by decide +kernel
theorem dX7_toldComes_217 : decode cX7_toldComes 217 = .ok (.iaload, 1) := by decide +kernel
theorem dX7_toldComes_218 : decode cX7_toldComes 218 = .ok (.iload 5, 2) := by decide +kernel
theorem dX7_toldComes_220 : decode cX7_toldComes 220 = .ok (.if_icmp .gt 6, 3) := by decide +kernel
theorem dX7_toldComes_223 : decode cX7_toldComes 223 = .ok (.goto 41, 3) := by decide +kernel
theorem dX7_toldComes_226 : decode cX7_toldComes 226 = .ok (.aload_n 0, 1) := by decide +kernel
theorem dX7_toldComes_227 : decode cX7_toldComes 227 = .ok (.getfield 54, 3) := by decide +kernel
theorem dX7_toldComes_230 : decode cX7_toldComes 230 = .ok (.iconst 5, 1) := by decide +kernel
theorem dX7_toldComes_231 : decode cX7_toldComes 231 = .ok (.iload_n 1, 1) := by decide +kernel
theorem dX7_toldComes_232 : decode cX7_toldComes 232 = .ok (.imul, 1) := by decide +kernel
theorem dX7_toldComes_233 : decode cX7_toldComes 233 = .ok (.iload 7, 2) := by decide +kernel
theorem dX7_toldComes_235 : decode cX7_toldComes 235 = .ok (.iadd, 1) := by decide +kernel
theorem dX7_toldComes_236 : decode cX7_toldComes 236 = .ok (.bipush 6, 2) := by decide +kernel
theorem dX7_toldComes_238 : decode cX7_toldComes 238 = .ok (.imul, 1) := by decide +kernel
theorem dX7_toldComes_239 : decode cX7_toldComes 239 = .ok (.iload 4, 2) := by decide +kernel
theorem dX7_toldComes_241 : decode cX7_toldComes 241 = .ok (.iadd, 1) := by decide +kernel
theorem dX7_toldComes_242 : decode cX7_toldComes 242 = .ok (.iaload, 1) := by decide +kernel
theorem dX7_toldComes_243 : decode cX7_toldComes 243 = .ok (.istore 5, 2) := by decide +kernel
theorem dX7_toldComes_245 : decode cX7_toldComes 245 = .ok (.aload_n 0, 1) := by decide +kernel
theorem dX7_toldComes_246 : decode cX7_toldComes 246 = .ok (.getfield 57, 3) := by decide +kernel
theorem dX7_toldComes_249 : decode cX7_toldComes 249 = .ok (.iconst 5, 1) := by decide +kernel
theorem dX7_toldComes_250 : decode cX7_toldComes 250 = .ok (.iload_n 1, 1) := by decide +kernel
theorem dX7_toldComes_251 : decode cX7_toldComes 251 = .ok (.imul, 1) := by decide +kernel
theorem dX7_toldComes_252 : decode cX7_toldComes 252 = .ok (.iload 7, 2) := by decide +kernel
theorem dX7_toldComes_254 : decode cX7_toldComes 254 = .ok (.iadd, 1) := by decide +kernel
theorem dX7_toldComes_255 : decode cX7_toldComes 255 = .ok (.bipush 6, 2) := by decide +kernel
theorem dX7_toldComes_257 : decode cX7_toldComes 257 = .ok (.imul, 1) := by decide +kernel
theorem dX7_toldComes_258 : decode cX7_toldComes 258 = .ok (.iload 4, 2) := by decide +kernel
theorem dX7_toldComes_260 : decode cX7_toldComes 260 = .ok (.iadd, 1) := by decide +kernel
theorem dX7_toldComes_261 : decode cX7_toldComes 261 = .ok (.iaload, 1) := by decide +kernel
theorem dX7_toldComes_262 : decode cX7_toldComes 262 = .ok (.istore 6, 2) := by decide +kernel
theorem dX7_toldComes_264 : decode cX7_toldComes 264 = .ok (.iinc 7 1, 3) := by decide +kernel
theorem dX7_toldComes_267 : decode cX7_toldComes 267 = .ok (.goto (-89), 3) := by decide +kernel
theorem dX7_toldComes_270 : decode cX7_toldComes 270 = .ok (.aload_n 0, 1) := by decide +kernel
theorem dX7_toldComes_271 : decode cX7_toldComes 271 = .ok (.iload 4, 2) := by decide +kernel
theorem dX7_toldComes_273 : decode cX7_toldComes 273 = .ok (.iload_n 2, 1) := by decide +kernel
theorem dX7_toldComes_274 : decode cX7_toldComes 274 = .ok (.iload 6, 2) := by decide +kernel
theorem dX7_toldComes_276 : decode cX7_toldComes 276 = .ok (.invokevirtual 100, 3) := by decide +kernel
theorem dX7_toldComes_279 : decode cX7_toldComes 279 = .ok (.iinc 4 1, 3) := by decide +kernel
theorem dX7_toldComes_282 : decode cX7_toldComes 282 = .ok (.goto (-122), 3) := by decide +kernel
theorem dX7_toldComes_285 : decode cX7_toldComes 285 = .ok (.return_, 1) := by decide +kernel
theorem dX7_votedComes_0 : decode cX7_votedComes 0 = .ok (.aload_n 0, 1) := by decide +kernel
theorem dX7_votedComes_1 : decode cX7_votedComes 1 = .ok (.getfield 13, 3) := by decide +kernel
theorem dX7_votedComes_4 : decode cX7_votedComes 4 = .ok (.iconst 4, 1) := by decide +kernel
theorem dX7_votedComes_5 : decode cX7_votedComes 5 = .ok (.iaload, 1) := by decide +kernel
theorem dX7_votedComes_6 : decode cX7_votedComes 6 = .ok (.istore_n 3, 1) := by decide +kernel
theorem dX7_votedComes_7 : decode cX7_votedComes 7 = .ok (.aload_n 0, 1) := by decide +kernel
theorem dX7_votedComes_8 : decode cX7_votedComes 8 = .ok (.iload_n 1, 1) := by decide +kernel
theorem dX7_votedComes_9 : decode cX7_votedComes 9 = .ok (.aload_n 0, 1) := by decide +kernel
theorem dX7_votedComes_10 : decode cX7_votedComes 10 = .ok (.getfield 13, 3) := by decide +kernel
theorem dX7_votedComes_13 : decode cX7_votedComes 13 = .ok (.iconst 3, 1) := by decide +kernel
theorem dX7_votedComes_14 : decode cX7_votedComes 14 = .ok (.iaload, 1) := by decide +kernel
theorem dX7_votedComes_15 : decode cX7_votedComes 15 = .ok (.aload_n 0, 1) := by decide +kernel
theorem dX7_votedComes_16 : decode cX7_votedComes 16 = .ok (.getfield 13, 3) := by decide +kernel
theorem dX7_votedComes_19 : decode cX7_votedComes 19 = .ok (.iconst 2, 1) := by decide +kernel
theorem dX7_votedComes_20 : decode cX7_votedComes 20 = .ok (.iaload, 1) := by decide +kernel
theorem dX7_votedComes_21 : decode cX7_votedComes 21 = .ok (.invokevirtual 136, 3) := by decide +kernel
theorem dX7_votedComes_24 : decode cX7_votedComes 24 = .ok (.istore 4, 2) := by decide +kernel
theorem dX7_votedComes_26 : decode cX7_votedComes 26 = .ok (.aload_n 0, 1) := by decide +kernel
theorem dX7_votedComes_27 : decode cX7_votedComes 27 = .ok (.getfield 45, 3) := by decide +kernel
theorem dX7_votedComes_30 : decode cX7_votedComes 30 = .ok (.iload_n 1, 1) := by decide +kernel
theorem dX7_votedComes_31 : decode cX7_votedComes 31 = .ok (.aload_n 0, 1) := by decide +kernel
theorem dX7_votedComes_32 : decode cX7_votedComes 32 = .ok (.getfield 45, 3) := by decide +kernel
theorem dX7_votedComes_35 : decode cX7_votedComes 35 = .ok (.iload_n 1, 1) := by decide +kernel
theorem dX7_votedComes_36 : decode cX7_votedComes 36 = .ok (.iaload, 1) := by decide +kernel
theorem dX7_votedComes_37 : decode cX7_votedComes 37 = .ok (.iload_n 3, 1) := by decide +kernel
theorem dX7_votedComes_38 : decode cX7_votedComes 38 = .ok (.invokestatic 175, 3) := by decide +kernel
theorem dX7_votedComes_41 : decode cX7_votedComes 41 = .ok (.iastore, 1) := by decide +kernel
theorem dX7_votedComes_42 : decode cX7_votedComes 42 = .ok (.iload_n 3, 1) := by decide +kernel
theorem dX7_votedComes_43 : decode cX7_votedComes 43 = .ok (.aload_n 0, 1) := by decide +kernel
theorem dX7_votedComes_44 : decode cX7_votedComes 44 = .ok (.getfield 60, 3) := by decide +kernel
theorem dX7_votedComes_47 : decode cX7_votedComes 47 = .ok (.iload 4, 2) := by decide +kernel
theorem dX7_votedComes_49 : decode cX7_votedComes 49 = .ok (.iaload, 1) := by decide +kernel
theorem dX7_votedComes_50 : decode cX7_votedComes 50 = .ok (.if_icmp .le 24, 3) := by decide +kernel
theorem dX7_votedComes_53 : decode cX7_votedComes 53 = .ok (.aload_n 0, 1) := by decide +kernel
theorem dX7_votedComes_54 : decode cX7_votedComes 54 = .ok (.getfield 60, 3) := by decide +kernel
theorem dX7_votedComes_57 : decode cX7_votedComes 57 = .ok (.iload 4, 2) := by decide +kernel
theorem dX7_votedComes_59 : decode cX7_votedComes 59 = .ok (.iload_n 3, 1) := by decide +kernel
theorem dX7_votedComes_60 : decode cX7_votedComes 60 = .ok (.iastore, 1) := by decide +kernel
theorem dX7_votedComes_61 : decode cX7_votedComes 61 = .ok (.aload_n 0, 1) := by decide +kernel
theorem dX7_votedComes_62 : decode cX7_votedComes 62 = .ok (.getfield 63, 3) := by decide +kernel
theorem dX7_votedComes_65 : decode cX7_votedComes 65 = .ok (.iload 4, 2) := by decide +kernel
theorem dX7_votedComes_67 : decode cX7_votedComes 67 = .ok (.aload_n 0, 1) := by decide +kernel
theorem dX7_votedComes_68 : decode cX7_votedComes 68 = .ok (.getfield 13, 3) := by decide +kernel
theorem dX7_votedComes_71 : decode cX7_votedComes 71 = .ok (.iconst 5, 1) := by decide +kernel
theorem dX7_votedComes_72 : decode cX7_votedComes 72 = .ok (.iaload, 1) := by decide +kernel
theorem dX7_votedComes_73 : decode cX7_votedComes 73 = .ok (.iastore, 1) := by decide +kernel
theorem dX7_votedComes_74 : decode cX7_votedComes 74 = .ok (.iconst 0, 1) := by decide +kernel
theorem dX7_votedComes_75 : decode cX7_votedComes 75 = .ok (.istore 5, 2) := by decide +kernel
theorem dX7_votedComes_77 : decode cX7_votedComes 77 = .ok (.iload 5, 2) := by decide +kernel
theorem dX7_votedComes_79 : decode cX7_votedComes 79 = .ok (.aload_n 0, 1) := by decide +kernel
theorem dX7_votedComes_80 : decode cX7_votedComes 80 = .ok (.getfield 69, 3) := by decide +kernel
theorem dX7_votedComes_83 : decode cX7_votedComes 83 = .ok (.if_icmp .ge 29, 3) := by decide +kernel
theorem dX7_votedComes_86 : decode cX7_votedComes 86 = .ok (.aload_n 0, 1) := by decide +kernel
theorem dX7_votedComes_87 : decode cX7_votedComes 87 = .ok (.getfield 66, 3) := by decide +kernel
theorem dX7_votedComes_90 : decode cX7_votedComes 90 = .ok (.iload_n 1, 1) := by decide +kernel
theorem dX7_votedComes_91 : decode cX7_votedComes 91 = .ok (.bipush 6, 2) := by decide +kernel
theorem dX7_votedComes_93 : decode cX7_votedComes 93 = .ok (.imul, 1) := by decide +kernel
theorem dX7_votedComes_94 : decode cX7_votedComes 94 = .ok (.iload 5, 2) := by decide +kernel
theorem dX7_votedComes_96 : decode cX7_votedComes 96 = .ok (.iadd, 1) := by decide +kernel
theorem dX7_votedComes_97 : decode cX7_votedComes 97 = .ok (.aload_n 0, 1) := by decide +kernel
theorem dX7_votedComes_98 : decode cX7_votedComes 98 = .ok (.iload_n 1, 1) := by decide +kernel
theorem dX7_votedComes_99 : decode cX7_votedComes 99 = .ok (.iload 5, 2) := by decide +kernel
theorem dX7_votedComes_101 : decode cX7_votedComes 101 = .ok (.iconst (-1), 1) := by decide +kernel
theorem dX7_votedComes_102 : decode cX7_votedComes 102 = .ok (.invokevirtual 140, 3) := by decide +kernel
theorem dX7_votedComes_105 : decode cX7_votedComes 105 = .ok (.iastore, 1) := by decide +kernel
theorem dX7_votedComes_106 : decode cX7_votedComes 106 = .ok (.iinc 5 1, 3) := by decide +kernel
theorem dX7_votedComes_109 : decode cX7_votedComes 109 = .ok (.goto (-32), 3) := by decide +kernel
theorem dX7_votedComes_112 : decode cX7_votedComes 112 = .ok (.iload_n 2, 1) := by decide +kernel
theorem dX7_votedComes_113 : decode cX7_votedComes 113 = .ok (.ifCond .ne 4, 3) := by decide +kernel
theorem dX7_votedComes_116 : decode cX7_votedComes 116 = .ok (.return_, 1) := by decide +kernel
theorem dX7_votedComes_117 : decode cX7_votedComes 117 = .ok (.aload_n 0, 1) := by decide +kernel
theorem dX7_votedComes_118 : decode cX7_votedComes 118 = .ok (.getfield 48, 3) := by decide +kernel
theorem dX7_votedComes_121 : decode cX7_votedComes 121 = .ok (.iload_n 1, 1) := by decide +kernel
theorem dX7_votedComes_122 : decode cX7_votedComes 122 = .ok (.aload_n 0, 1) := by decide +kernel
theorem dX7_votedComes_123 : decode cX7_votedComes 123 = .ok (.iload_n 1, 1) := by decide +kernel
theorem dX7_votedComes_124 : decode cX7_votedComes 124 = .ok (.iconst (-1), 1) := by decide +kernel
theorem dX7_votedComes_125 : decode cX7_votedComes 125 = .ok (.invokevirtual 143, 3) := by decide +kernel
theorem dX7_votedComes_128 : decode cX7_votedComes 128 = .ok (.iastore, 1) := by decide +kernel
theorem dX7_votedComes_129 : decode cX7_votedComes 129 = .ok (.iconst 0, 1) := by decide +kernel
theorem dX7_votedComes_130 : decode cX7_votedComes 130 = .ok (.istore 5, 2) := by decide +kernel
theorem dX7_votedComes_132 : decode cX7_votedComes 132 = .ok (.iload 5, 2) := by decide +kernel
theorem dX7_votedComes_134 : decode cX7_votedComes 134 = .ok (.aload_n 0, 1) := by decide +kernel
theorem dX7_votedComes_135 : decode cX7_votedComes 135 = .ok (.getfield 69, 3) := by decide +kernel
theorem dX7_votedComes_138 : decode cX7_votedComes 138 = .ok (.if_icmp .ge 25, 3) := by decide +kernel
theorem dX7_votedComes_141 : decode cX7_votedComes 141 = .ok (.aload_n 0, 1) := by decide +kernel
theorem dX7_votedComes_142 : decode cX7_votedComes 142 = .ok (.iconst 4, 1) := by decide +kernel
theorem dX7_votedComes_143 : decode cX7_votedComes 143 = .ok (.iload 5, 2) := by decide +kernel
theorem dX7_votedComes_145 : decode cX7_votedComes 145 = .ok (.iconst (-1), 1) := by decide +kernel
theorem dX7_votedComes_146 : decode cX7_votedComes 146 = .ok (.iconst (-1), 1) := by decide +kernel
theorem dX7_votedComes_147 : decode cX7_votedComes 147 = .ok (.iconst (-1), 1) := by decide +kernel
theorem dX7_votedComes_148 : decode cX7_votedComes 148 = .ok (.aload_n 0, 1) := by decide +kernel
theorem dX7_votedComes_149 : decode cX7_votedComes 149 = .ok (.getfield 48, 3) := by decide +kernel
theorem dX7_votedComes_152 : decode cX7_votedComes 152 = .ok (.iload_n 1, 1) := by decide +kernel
theorem dX7_votedComes_153 : decode cX7_votedComes 153 = .ok (.iaload, 1) := by decide +kernel
theorem dX7_votedComes_154 : decode cX7_votedComes 154 = .ok (.invokevirtual 85, 3) := by decide +kernel
theorem dX7_votedComes_157 : decode cX7_votedComes 157 = .ok (.iinc 5 1, 3) := by decide +kernel
theorem dX7_votedComes_160 : decode cX7_votedComes 160 = .ok (.goto (-28), 3) := by decide +kernel
theorem dX7_votedComes_163 : decode cX7_votedComes 163 = .ok (.return_, 1) := by decide +kernel
theorem dX7_drop_0 : decode cX7_drop 0 = .ok (.aload_n 0, 1) := by decide +kernel
theorem dX7_drop_1 : decode cX7_drop 1 = .ok (.aload_n 0, 1) := by decide +kernel
theorem dX7_drop_2 : decode cX7_drop 2 = .ok (.iload_n 1, 1) := by decide +kernel
theorem dX7_drop_3 : decode cX7_drop 3 = .ok (.invokevirtual 146, 3) := by decide +kernel
theorem dX7_drop_6 : decode cX7_drop 6 = .ok (.invokevirtual 93, 3) := by decide +kernel
theorem dX7_drop_9 : decode cX7_drop 9 = .ok (.ifCond .eq 4, 3) := by decide +kernel
theorem dX7_drop_12 : decode cX7_drop 12 = .ok (.return_, 1) := by decide +kernel
theorem dX7_drop_13 : decode cX7_drop 13 = .ok (.aload_n 0, 1) := by decide +kernel
theorem dX7_drop_14 : decode cX7_drop 14 = .ok (.iload_n 1, 1) := by decide +kernel
theorem dX7_drop_15 : decode cX7_drop 15 = .ok (.invokevirtual 155, 3) := by decide +kernel
theorem dX7_drop_18 : decode cX7_drop 18 = .ok (.return_, 1) := by decide +kernel
theorem dX7_copy_0 : decode cX7_copy 0 = .ok (.aload_n 0, 1) := by decide +kernel
theorem dX7_copy_1 : decode cX7_copy 1 = .ok (.aload_n 0, 1) := by decide +kernel
theorem dX7_copy_2 : decode cX7_copy 2 = .ok (.iload_n 1, 1) := by decide +kernel
theorem dX7_copy_3 : decode cX7_copy 3 = .ok (.invokevirtual 146, 3) := by decide +kernel
theorem dX7_copy_6 : decode cX7_copy 6 = .ok (.invokevirtual 93, 3) := by decide +kernel
theorem dX7_copy_9 : decode cX7_copy 9 = .ok (.ifCond .eq 5, 3) := by decide +kernel
theorem dX7_copy_12 : decode cX7_copy 12 = .ok (.iconst 0, 1) := by decide +kernel
theorem dX7_copy_13 : decode cX7_copy 13 = .ok (.ireturn, 1) := by decide +kernel
theorem dX7_copy_14 : decode cX7_copy 14 = .ok (.aload_n 0, 1) := by decide +kernel
theorem dX7_copy_15 : decode cX7_copy 15 = .ok (.iconst 1, 1) := by decide +kernel
theorem dX7_copy_16 : decode cX7_copy 16 = .ok (.invokevirtual 97, 3) := by decide +kernel
theorem dX7_copy_19 : decode cX7_copy 19 = .ok (.ifCond .ne 5, 3) := by decide +kernel
theorem dX7_copy_22 : decode cX7_copy 22 = .ok (.iconst (-1), 1) := by decide +kernel
theorem dX7_copy_23 : decode cX7_copy 23 = .ok (.ireturn, 1) := by decide +kernel
theorem dX7_copy_24 : decode cX7_copy 24 = .ok (.iconst 0, 1) := by decide +kernel
theorem dX7_copy_25 : decode cX7_copy 25 = .ok (.istore_n 2, 1) := by decide +kernel
theorem dX7_copy_26 : decode cX7_copy 26 = .ok (.iload_n 2, 1) := by decide +kernel
theorem dX7_copy_27 : decode cX7_copy 27 = .ok (.bipush 18, 2) := by decide +kernel
theorem dX7_copy_29 : decode cX7_copy 29 = .ok (.if_icmp .ge 29, 3) := by decide +kernel
theorem dX7_copy_32 : decode cX7_copy 32 = .ok (.aload_n 0, 1) := by decide +kernel
theorem dX7_copy_33 : decode cX7_copy 33 = .ok (.getfield 9, 3) := by decide +kernel
theorem dX7_copy_36 : decode cX7_copy 36 = .ok (.bipush 18, 2) := by decide +kernel
theorem dX7_copy_38 : decode cX7_copy 38 = .ok (.aload_n 0, 1) := by decide +kernel
theorem dX7_copy_39 : decode cX7_copy 39 = .ok (.getfield 79, 3) := by decide +kernel
theorem dX7_copy_42 : decode cX7_copy 42 = .ok (.imul, 1) := by decide +kernel
theorem dX7_copy_43 : decode cX7_copy 43 = .ok (.iload_n 2, 1) := by decide +kernel
theorem dX7_copy_44 : decode cX7_copy 44 = .ok (.iadd, 1) := by decide +kernel
theorem dX7_copy_45 : decode cX7_copy 45 = .ok (.aload_n 0, 1) := by decide +kernel
theorem dX7_copy_46 : decode cX7_copy 46 = .ok (.iload_n 1, 1) := by decide +kernel
theorem dX7_copy_47 : decode cX7_copy 47 = .ok (.iload_n 2, 1) := by decide +kernel
theorem dX7_copy_48 : decode cX7_copy 48 = .ok (.invokevirtual 114, 3) := by decide +kernel
theorem dX7_copy_51 : decode cX7_copy 51 = .ok (.iastore, 1) := by decide +kernel
theorem dX7_copy_52 : decode cX7_copy 52 = .ok (.iinc 2 1, 3) := by decide +kernel
theorem dX7_copy_55 : decode cX7_copy 55 = .ok (.goto (-29), 3) := by decide +kernel
theorem dX7_copy_58 : decode cX7_copy 58 = .ok (.aload_n 0, 1) := by decide +kernel
theorem dX7_copy_59 : decode cX7_copy 59 = .ok (.dup, 1) := by decide +kernel
theorem dX7_copy_60 : decode cX7_copy 60 = .ok (.getfield 79, 3) := by decide +kernel
theorem dX7_copy_63 : decode cX7_copy 63 = .ok (.iconst 1, 1) := by decide +kernel
theorem dX7_copy_64 : decode cX7_copy 64 = .ok (.iadd, 1) := by decide +kernel
theorem dX7_copy_65 : decode cX7_copy 65 = .ok (.putfield 79, 3) := by decide +kernel
theorem dX7_copy_68 : decode cX7_copy 68 = .ok (.aload_n 0, 1) := by decide +kernel
theorem dX7_copy_69 : decode cX7_copy 69 = .ok (.dup, 1) := by decide +kernel
theorem dX7_copy_70 : decode cX7_copy 70 = .ok (.getfield 82, 3) := by decide +kernel
theorem dX7_copy_73 : decode cX7_copy 73 = .ok (.iconst 1, 1) := by decide +kernel
theorem dX7_copy_74 : decode cX7_copy 74 = .ok (.iadd, 1) := by decide +kernel
theorem dX7_copy_75 : decode cX7_copy 75 = .ok (.putfield 82, 3) := by decide +kernel
theorem dX7_copy_78 : decode cX7_copy 78 = .ok (.aload_n 0, 1) := by decide +kernel
theorem dX7_copy_79 : decode cX7_copy 79 = .ok (.getfield 79, 3) := by decide +kernel
theorem dX7_copy_82 : decode cX7_copy 82 = .ok (.ireturn, 1) := by decide +kernel
theorem dX7_calm_0 : decode cX7_calm 0 = .ok (.aload_n 0, 1) := by decide +kernel
theorem dX7_calm_1 : decode cX7_calm 1 = .ok (.iload_n 1, 1) := by decide +kernel
theorem dX7_calm_2 : decode cX7_calm 2 = .ok (.ifCond .lt 10, 3) := by decide +kernel
theorem dX7_calm_5 : decode cX7_calm 5 = .ok (.iload_n 1, 1) := by decide +kernel
theorem dX7_calm_6 : decode cX7_calm 6 = .ok (.sipush 400, 3) := by decide +kernel
theorem dX7_calm_9 : decode cX7_calm 9 = .ok (.if_icmp .le 7, 3) := by decide +kernel
theorem dX7_calm_12 : decode cX7_calm 12 = .ok (.iconst 1, 1) := by decide +kernel
theorem dX7_calm_13 : decode cX7_calm 13 = .ok (.goto 4, 3) := by decide +kernel
theorem dX7_calm_16 : decode cX7_calm 16 = .ok (.iconst 0, 1) := by decide +kernel
theorem dX7_calm_17 : decode cX7_calm 17 = .ok (.putfield 76, 3) := by decide +kernel
theorem dX7_calm_20 : decode cX7_calm 20 = .ok (.aload_n 0, 1) := by decide +kernel
theorem dX7_calm_21 : decode cX7_calm 21 = .ok (.getfield 76, 3) := by decide +kernel
theorem dX7_calm_24 : decode cX7_calm 24 = .ok (.ifCond .le 5, 3) := by decide +kernel
theorem dX7_calm_27 : decode cX7_calm 27 = .ok (.iconst 0, 1) := by decide +kernel
theorem dX7_calm_28 : decode cX7_calm 28 = .ok (.ireturn, 1) := by decide +kernel
theorem dX7_calm_29 : decode cX7_calm 29 = .ok (.iconst 0, 1) := by decide +kernel
theorem dX7_calm_30 : decode cX7_calm 30 = .ok (.istore_n 2, 1) := by decide +kernel
theorem dX7_calm_31 : decode cX7_calm 31 = .ok (.iload_n 2, 1) := by decide +kernel
theorem dX7_calm_32 : decode cX7_calm 32 = .ok (.iload_n 1, 1) := by decide +kernel
theorem dX7_calm_33 : decode cX7_calm 33 = .ok (.if_icmp .ge 25, 3) := by decide +kernel
theorem dX7_calm_36 : decode cX7_calm 36 = .ok (.aload_n 0, 1) := by decide +kernel
theorem dX7_calm_37 : decode cX7_calm 37 = .ok (.getfield 79, 3) := by decide +kernel
theorem dX7_calm_40 : decode cX7_calm 40 = .ok (.ifCond .le 18, 3) := by decide +kernel
theorem dX7_calm_43 : decode cX7_calm 43 = .ok (.aload_n 0, 1) := by decide +kernel
theorem dX7_calm_44 : decode cX7_calm 44 = .ok (.iconst 0, 1) := by decide +kernel
theorem dX7_calm_45 : decode cX7_calm 45 = .ok (.invokevirtual 149, 3) := by decide +kernel
theorem dX7_calm_48 : decode cX7_calm 48 = .ok (.iconst (-1), 1) := by decide +kernel
theorem dX7_calm_49 : decode cX7_calm 49 = .ok (.if_icmp .eq 9, 3) := by decide +kernel
theorem dX7_calm_52 : decode cX7_calm 52 = .ok (.iinc 2 1, 3) := by decide +kernel
theorem dX7_calm_55 : decode cX7_calm 55 = .ok (.goto (-24), 3) := by decide +kernel
theorem dX7_calm_58 : decode cX7_calm 58 = .ok (.iload_n 2, 1) := by decide +kernel
theorem dX7_calm_59 : decode cX7_calm 59 = .ok (.ireturn, 1) := by decide +kernel
theorem dX7_manyOf_0 : decode cX7_manyOf 0 = .ok (.iload_n 1, 1) := by decide +kernel
theorem dX7_manyOf_1 : decode cX7_manyOf 1 = .ok (.ifCond .ne 10, 3) := by decide +kernel
theorem dX7_manyOf_4 : decode cX7_manyOf 4 = .ok (.aload_n 0, 1) := by decide +kernel
theorem dX7_manyOf_5 : decode cX7_manyOf 5 = .ok (.getfield 69, 3) := by decide +kernel
theorem dX7_manyOf_8 : decode cX7_manyOf 8 = .ok (.goto 16, 3) := by decide +kernel
theorem dX7_manyOf_11 : decode cX7_manyOf 11 = .ok (.iload_n 1, 1) := by decide +kernel
theorem dX7_manyOf_12 : decode cX7_manyOf 12 = .ok (.iconst 1, 1) := by decide +kernel
theorem dX7_manyOf_13 : decode cX7_manyOf 13 = .ok (.if_icmp .ne 10, 3) := by decide +kernel
theorem dX7_manyOf_16 : decode cX7_manyOf 16 = .ok (.aload_n 0, 1) := by decide +kernel
theorem dX7_manyOf_17 : decode cX7_manyOf 17 = .ok (.getfield 73, 3) := by decide +kernel
theorem dX7_manyOf_20 : decode cX7_manyOf 20 = .ok (.goto 4, 3) := by decide +kernel
theorem dX7_manyOf_23 : decode cX7_manyOf 23 = .ok (.iconst 3, 1) := by decide +kernel
theorem dX7_manyOf_24 : decode cX7_manyOf 24 = .ok (.ireturn, 1) := by decide +kernel
theorem dX7_turns_0 : decode cX7_turns 0 = .ok (.aload_n 0, 1) := by decide +kernel
theorem dX7_turns_1 : decode cX7_turns 1 = .ok (.iload_n 1, 1) := by decide +kernel
theorem dX7_turns_2 : decode cX7_turns 2 = .ok (.ifCond .lt 8, 3) := by decide +kernel
theorem dX7_turns_5 : decode cX7_turns 5 = .ok (.iload_n 1, 1) := by decide +kernel
theorem dX7_turns_6 : decode cX7_turns 6 = .ok (.iconst 2, 1) := by decide +kernel
theorem dX7_turns_7 : decode cX7_turns 7 = .ok (.if_icmp .le 7, 3) := by decide +kernel
theorem dX7_turns_10 : decode cX7_turns 10 = .ok (.iconst 1, 1) := by decide +kernel
theorem dX7_turns_11 : decode cX7_turns 11 = .ok (.goto 21, 3) := by decide +kernel
theorem dX7_turns_14 : decode cX7_turns 14 = .ok (.iload_n 2, 1) := by decide +kernel
theorem dX7_turns_15 : decode cX7_turns 15 = .ok (.ifCond .lt 12, 3) := by decide +kernel
theorem dX7_turns_18 : decode cX7_turns 18 = .ok (.iload_n 2, 1) := by decide +kernel
theorem dX7_turns_19 : decode cX7_turns 19 = .ok (.aload_n 0, 1) := by decide +kernel
theorem dX7_turns_20 : decode cX7_turns 20 = .ok (.iload_n 1, 1) := by decide +kernel
theorem dX7_turns_21 : decode cX7_turns 21 = .ok (.invokevirtual 180, 3) := by decide +kernel
theorem dX7_turns_24 : decode cX7_turns 24 = .ok (.if_icmp .lt 7, 3) := by decide +kernel
theorem dX7_turns_27 : decode cX7_turns 27 = .ok (.iconst 2, 1) := by decide +kernel
theorem dX7_turns_28 : decode cX7_turns 28 = .ok (.goto 4, 3) := by decide +kernel
theorem dX7_turns_31 : decode cX7_turns 31 = .ok (.iconst 0, 1) := by decide +kernel
theorem dX7_turns_32 : decode cX7_turns 32 = .ok (.putfield 76, 3) := by decide +kernel
theorem dX7_turns_35 : decode cX7_turns 35 = .ok (.aload_n 0, 1) := by decide +kernel
theorem dX7_turns_36 : decode cX7_turns 36 = .ok (.getfield 76, 3) := by decide +kernel
theorem dX7_turns_39 : decode cX7_turns 39 = .ok (.ifCond .gt 15, 3) := by decide +kernel
theorem dX7_turns_42 : decode cX7_turns 42 = .ok (.aload_n 0, 1) := by decide +kernel
theorem dX7_turns_43 : decode cX7_turns 43 = .ok (.getfield 21, 3) := by decide +kernel
theorem dX7_turns_46 : decode cX7_turns 46 = .ok (.iload_n 1, 1) := by decide +kernel
theorem dX7_turns_47 : decode cX7_turns 47 = .ok (.aaload, 1) := by decide +kernel
theorem dX7_turns_48 : decode cX7_turns 48 = .ok (.iload_n 2, 1) := by decide +kernel
theorem dX7_turns_49 : decode cX7_turns 49 = .ok (.baload, 1) := by decide +kernel
theorem dX7_turns_50 : decode cX7_turns 50 = .ok (.iload_n 3, 1) := by decide +kernel
theorem dX7_turns_51 : decode cX7_turns 51 = .ok (.if_icmp .ne 5, 3) := by decide +kernel
theorem dX7_turns_54 : decode cX7_turns 54 = .ok (.iconst 0, 1) := by decide +kernel
theorem dX7_turns_55 : decode cX7_turns 55 = .ok (.ireturn, 1) := by decide +kernel
theorem dX7_turns_56 : decode cX7_turns 56 = .ok (.aload_n 0, 1) := by decide +kernel
theorem dX7_turns_57 : decode cX7_turns 57 = .ok (.getfield 21, 3) := by decide +kernel
theorem dX7_turns_60 : decode cX7_turns 60 = .ok (.iload_n 1, 1) := by decide +kernel
theorem dX7_turns_61 : decode cX7_turns 61 = .ok (.aaload, 1) := by decide +kernel
theorem dX7_turns_62 : decode cX7_turns 62 = .ok (.iload_n 2, 1) := by decide +kernel
theorem dX7_turns_63 : decode cX7_turns 63 = .ok (.iload_n 3, 1) := by decide +kernel
theorem dX7_turns_64 : decode cX7_turns 64 = .ok (.bastore, 1) := by decide +kernel
theorem dX7_turns_65 : decode cX7_turns 65 = .ok (.iload_n 1, 1) := by decide +kernel
theorem dX7_turns_66 : decode cX7_turns 66 = .ok (.iconst 2, 1) := by decide +kernel
theorem dX7_turns_67 : decode cX7_turns 67 = .ok (.if_icmp .ne 87, 3) := by decide +kernel
theorem dX7_turns_70 : decode cX7_turns 70 = .ok (.iload_n 3, 1) := by decide +kernel
theorem dX7_turns_71 : decode cX7_turns 71 = .ok (.ifCond .ne 83, 3) := by decide +kernel
theorem dX7_turns_74 : decode cX7_turns 74 = .ok (.aload_n 0, 1) := by decide +kernel
theorem dX7_turns_75 : decode cX7_turns 75 = .ok (.getfield 42, 3) := by decide +kernel
theorem dX7_turns_78 : decode cX7_turns 78 = .ok (.iload_n 2, 1) := by decide +kernel
theorem dX7_turns_79 : decode cX7_turns 79 = .ok (.iconst 0, 1) := by decide +kernel
theorem dX7_turns_80 : decode cX7_turns 80 = .ok (.iastore, 1) := by decide +kernel
theorem dX7_turns_81 : decode cX7_turns 81 = .ok (.aload_n 0, 1) := by decide +kernel
theorem dX7_turns_82 : decode cX7_turns 82 = .ok (.getfield 48, 3) := by decide +kernel
theorem dX7_turns_85 : decode cX7_turns 85 = .ok (.iload_n 2, 1) := by decide +kernel
theorem dX7_turns_86 : decode cX7_turns 86 = .ok (.iconst 0, 1) := by decide +kernel
theorem dX7_turns_87 : decode cX7_turns 87 = .ok (.iastore, 1) := by decide +kernel
theorem dX7_turns_88 : decode cX7_turns 88 = .ok (.aload_n 0, 1) := by decide +kernel
theorem dX7_turns_89 : decode cX7_turns 89 = .ok (.getfield 51, 3) := by decide +kernel
theorem dX7_turns_92 : decode cX7_turns 92 = .ok (.iload_n 2, 1) := by decide +kernel
theorem dX7_turns_93 : decode cX7_turns 93 = .ok (.iconst 0, 1) := by decide +kernel
theorem dX7_turns_94 : decode cX7_turns 94 = .ok (.iastore, 1) := by decide +kernel
theorem dX7_turns_95 : decode cX7_turns 95 = .ok (.iconst 0, 1) := by decide +kernel
theorem dX7_turns_96 : decode cX7_turns 96 = .ok (.istore 4, 2) := by decide +kernel
theorem dX7_turns_98 : decode cX7_turns 98 = .ok (.iload 4, 2) := by decide +kernel
theorem dX7_turns_100 : decode cX7_turns 100 = .ok (.bipush 6, 2) := by decide +kernel
theorem dX7_turns_102 : decode cX7_turns 102 = .ok (.if_icmp .ge 52, 3) := by decide +kernel
theorem dX7_turns_105 : decode cX7_turns 105 = .ok (.aload_n 0, 1) := by decide +kernel
theorem dX7_turns_106 : decode cX7_turns 106 = .ok (.getfield 66, 3) := by decide +kernel
theorem dX7_turns_109 : decode cX7_turns 109 = .ok (.iload_n 2, 1) := by decide +kernel
theorem dX7_turns_110 : decode cX7_turns 110 = .ok (.bipush 6, 2) := by decide +kernel
theorem dX7_turns_112 : decode cX7_turns 112 = .ok (.imul, 1) := by decide +kernel
theorem dX7_turns_113 : decode cX7_turns 113 = .ok (.iload 4, 2) := by decide +kernel
theorem dX7_turns_115 : decode cX7_turns 115 = .ok (.iadd, 1) := by decide +kernel
theorem dX7_turns_116 : decode cX7_turns 116 = .ok (.iconst 0, 1) := by decide +kernel
theorem dX7_turns_117 : decode cX7_turns 117 = .ok (.iastore, 1) := by decide +kernel
theorem dX7_turns_118 : decode cX7_turns 118 = .ok (.iconst 0, 1) := by decide +kernel
theorem dX7_turns_119 : decode cX7_turns 119 = .ok (.istore 5, 2) := by decide +kernel
theorem dX7_turns_121 : decode cX7_turns 121 = .ok (.iload 5, 2) := by decide +kernel
theorem dX7_turns_123 : decode cX7_turns 123 = .ok (.iconst 5, 1) := by decide +kernel
theorem dX7_turns_124 : decode cX7_turns 124 = .ok (.if_icmp .ge 24, 3) := by decide +kernel
theorem dX7_turns_127 : decode cX7_turns 127 = .ok (.aload_n 0, 1) := by decide +kernel
theorem dX7_turns_128 : decode cX7_turns 128 = .ok (.getfield 60, 3) := by decide +kernel
theorem dX7_turns_131 : decode cX7_turns 131 = .ok (.aload_n 0, 1) := by decide +kernel
theorem dX7_turns_132 : decode cX7_turns 132 = .ok (.iload_n 2, 1) := by decide +kernel
theorem dX7_turns_133 : decode cX7_turns 133 = .ok (.iload 4, 2) := by decide +kernel
theorem dX7_turns_135 : decode cX7_turns 135 = .ok (.iload 5, 2) := by decide +kernel
theorem dX7_turns_137 : decode cX7_turns 137 = .ok (.invokevirtual 136, 3) := by decide +kernel
theorem dX7_turns_140 : decode cX7_turns 140 = .ok (.iconst (-1), 1) := by decide +kernel
theorem dX7_turns_141 : decode cX7_turns 141 = .ok (.iastore, 1) := by decide +kernel
theorem dX7_turns_142 : decode cX7_turns 142 = .ok (.iinc 5 1, 3) := by decide +kernel
theorem dX7_turns_145 : decode cX7_turns 145 = .ok (.goto (-24), 3) := by decide +kernel
theorem dX7_turns_148 : decode cX7_turns 148 = .ok (.iinc 4 1, 3) := by decide +kernel
theorem dX7_turns_151 : decode cX7_turns 151 = .ok (.goto (-53), 3) := by decide +kernel
theorem dX7_turns_154 : decode cX7_turns 154 = .ok (.iconst 1, 1) := by decide +kernel
theorem dX7_turns_155 : decode cX7_turns 155 = .ok (.ireturn, 1) := by decide +kernel
theorem dX7_crash_0 : decode cX7_crash 0 = .ok (.aload_n 0, 1) := by decide +kernel
theorem dX7_crash_1 : decode cX7_crash 1 = .ok (.iload_n 1, 1) := by decide +kernel
theorem dX7_crash_2 : decode cX7_crash 2 = .ok (.iload_n 2, 1) := by decide +kernel
theorem dX7_crash_3 : decode cX7_crash 3 = .ok (.iconst 0, 1) := by decide +kernel
theorem dX7_crash_4 : decode cX7_crash 4 = .ok (.invokevirtual 183, 3) := by decide +kernel
theorem dX7_crash_7 : decode cX7_crash 7 = .ok (.ireturn, 1) := by decide +kernel
theorem dX7_recover_0 : decode cX7_recover 0 = .ok (.aload_n 0, 1) := by decide +kernel
theorem dX7_recover_1 : decode cX7_recover 1 = .ok (.iload_n 1, 1) := by decide +kernel
theorem dX7_recover_2 : decode cX7_recover 2 = .ok (.iload_n 2, 1) := by decide +kernel
theorem dX7_recover_3 : decode cX7_recover 3 = .ok (.iconst 1, 1) := by decide +kernel
theorem dX7_recover_4 : decode cX7_recover 4 = .ok (.invokevirtual 183, 3) := by decide +kernel
theorem dX7_recover_7 : decode cX7_recover 7 = .ok (.ireturn, 1) := by decide +kernel
theorem dX7_message_0 : decode cX7_message 0 = .ok (.aload_n 0, 1) := by decide +kernel
theorem dX7_message_1 : decode cX7_message 1 = .ok (.aload_n 0, 1) := by decide +kernel
theorem dX7_message_2 : decode cX7_message 2 = .ok (.iload_n 1, 1) := by decide +kernel
theorem dX7_message_3 : decode cX7_message 3 = .ok (.invokevirtual 146, 3) := by decide +kernel
theorem dX7_message_6 : decode cX7_message 6 = .ok (.invokevirtual 93, 3) := by decide +kernel
theorem dX7_message_9 : decode cX7_message 9 = .ok (.ifCond .eq 5, 3) := by decide +kernel
theorem dX7_message_12 : decode cX7_message 12 = .ok (.iconst 0, 1) := by decide +kernel
theorem dX7_message_13 : decode cX7_message 13 = .ok (.ireturn, 1) := by decide +kernel
theorem dX7_message_14 : decode cX7_message 14 = .ok (.iload_n 2, 1) := by decide +kernel
theorem dX7_message_15 : decode cX7_message 15 = .ok (.ifCond .lt 8, 3) := by decide +kernel
theorem dX7_message_18 : decode cX7_message 18 = .ok (.iload_n 2, 1) := by decide +kernel
theorem dX7_message_19 : decode cX7_message 19 = .ok (.iconst 5, 1) := by decide +kernel
theorem dX7_message_20 : decode cX7_message 20 = .ok (.if_icmp .le 7, 3) := by decide +kernel
theorem dX7_message_23 : decode cX7_message 23 = .ok (.iconst (-1), 1) := by decide +kernel
theorem dX7_message_24 : decode cX7_message 24 = .ok (.goto 9, 3) := by decide +kernel
theorem dX7_message_27 : decode cX7_message 27 = .ok (.aload_n 0, 1) := by decide +kernel
theorem dX7_message_28 : decode cX7_message 28 = .ok (.iload_n 1, 1) := by decide +kernel
theorem dX7_message_29 : decode cX7_message 29 = .ok (.iload_n 2, 1) := by decide +kernel
theorem dX7_message_30 : decode cX7_message 30 = .ok (.invokevirtual 114, 3) := by decide +kernel
theorem dX7_message_33 : decode cX7_message 33 = .ok (.ireturn, 1) := by decide +kernel
theorem dX7_told_0 : decode cX7_told 0 = .ok (.aload_n 0, 1) := by decide +kernel
theorem dX7_told_1 : decode cX7_told 1 = .ok (.aload_n 0, 1) := by decide +kernel
theorem dX7_told_2 : decode cX7_told 2 = .ok (.iload_n 1, 1) := by decide +kernel
theorem dX7_told_3 : decode cX7_told 3 = .ok (.invokevirtual 146, 3) := by decide +kernel
theorem dX7_told_6 : decode cX7_told 6 = .ok (.ifCond .eq 15, 3) := by decide +kernel
theorem dX7_told_9 : decode cX7_told 9 = .ok (.aload_n 0, 1) := by decide +kernel
theorem dX7_told_10 : decode cX7_told 10 = .ok (.iload_n 2, 1) := by decide +kernel
theorem dX7_told_11 : decode cX7_told 11 = .ok (.invokevirtual 89, 3) := by decide +kernel
theorem dX7_told_14 : decode cX7_told 14 = .ok (.ifCond .eq 7, 3) := by decide +kernel
theorem dX7_told_17 : decode cX7_told 17 = .ok (.iconst 1, 1) := by decide +kernel
theorem dX7_told_18 : decode cX7_told 18 = .ok (.goto 4, 3) := by decide +kernel
theorem dX7_told_21 : decode cX7_told 21 = .ok (.iconst 0, 1) := by decide +kernel
theorem dX7_told_22 : decode cX7_told 22 = .ok (.invokevirtual 93, 3) := by decide +kernel
theorem dX7_told_25 : decode cX7_told 25 = .ok (.ifCond .eq 5, 3) := by decide +kernel
theorem dX7_told_28 : decode cX7_told 28 = .ok (.iconst 0, 1) := by decide +kernel
theorem dX7_told_29 : decode cX7_told 29 = .ok (.ireturn, 1) := by decide +kernel
theorem dX7_told_30 : decode cX7_told 30 = .ok (.aload_n 0, 1) := by decide +kernel
theorem dX7_told_31 : decode cX7_told 31 = .ok (.iload_n 1, 1) := by decide +kernel
theorem dX7_told_32 : decode cX7_told 32 = .ok (.iconst 0, 1) := by decide +kernel
theorem dX7_told_33 : decode cX7_told 33 = .ok (.invokevirtual 114, 3) := by decide +kernel
theorem dX7_told_36 : decode cX7_told 36 = .ok (.iconst 3, 1) := by decide +kernel
theorem dX7_told_37 : decode cX7_told 37 = .ok (.if_icmp .eq 5, 3) := by decide +kernel
theorem dX7_told_40 : decode cX7_told 40 = .ok (.iconst (-1), 1) := by decide +kernel
theorem dX7_told_41 : decode cX7_told 41 = .ok (.ireturn, 1) := by decide +kernel
theorem dX7_told_42 : decode cX7_told 42 = .ok (.aload_n 0, 1) := by decide +kernel
theorem dX7_told_43 : decode cX7_told 43 = .ok (.iload_n 1, 1) := by decide +kernel
theorem dX7_told_44 : decode cX7_told 44 = .ok (.iload_n 3, 1) := by decide +kernel
theorem dX7_told_45 : decode cX7_told 45 = .ok (.ifCond .eq 8, 3) := by decide +kernel
theorem dX7_told_48 : decode cX7_told 48 = .ok (.bipush 6, 2) := by decide +kernel
theorem dX7_told_50 : decode cX7_told 50 = .ok (.goto 5, 3) := by decide +kernel
theorem dX7_told_53 : decode cX7_told 53 = .ok (.bipush 12, 2) := by decide +kernel
theorem dX7_told_55 : decode cX7_told 55 = .ok (.iload_n 2, 1) := by decide +kernel
theorem dX7_told_56 : decode cX7_told 56 = .ok (.iadd, 1) := by decide +kernel
theorem dX7_told_57 : decode cX7_told 57 = .ok (.invokevirtual 114, 3) := by decide +kernel
theorem dX7_told_60 : decode cX7_told 60 = .ok (.ireturn, 1) := by decide +kernel
theorem dX7_manager_0 : decode cX7_manager 0 = .ok (.aload_n 0, 1) := by decide +kernel
theorem dX7_manager_1 : decode cX7_manager 1 = .ok (.aload_n 0, 1) := by decide +kernel
theorem dX7_manager_2 : decode cX7_manager 2 = .ok (.iload_n 1, 1) := by decide +kernel
theorem dX7_manager_3 : decode cX7_manager 3 = .ok (.invokevirtual 89, 3) := by decide +kernel
theorem dX7_manager_6 : decode cX7_manager 6 = .ok (.invokevirtual 93, 3) := by decide +kernel
theorem dX7_manager_9 : decode cX7_manager 9 = .ok (.ifCond .eq 5, 3) := by decide +kernel
theorem dX7_manager_12 : decode cX7_manager 12 = .ok (.iconst 0, 1) := by decide +kernel
theorem dX7_manager_13 : decode cX7_manager 13 = .ok (.ireturn, 1) := by decide +kernel
theorem dX7_manager_14 : decode cX7_manager 14 = .ok (.iload_n 2, 1) := by decide +kernel
theorem dX7_manager_15 : decode cX7_manager 15 = .ok (.ifCond .ne 12, 3) := by decide +kernel
theorem dX7_manager_18 : decode cX7_manager 18 = .ok (.aload_n 0, 1) := by decide +kernel
theorem dX7_manager_19 : decode cX7_manager 19 = .ok (.getfield 16, 3) := by decide +kernel
theorem dX7_manager_22 : decode cX7_manager 22 = .ok (.iload_n 1, 1) := by decide +kernel
theorem dX7_manager_23 : decode cX7_manager 23 = .ok (.iaload, 1) := by decide +kernel
theorem dX7_manager_24 : decode cX7_manager 24 = .ok (.goto 28, 3) := by decide +kernel
theorem dX7_manager_27 : decode cX7_manager 27 = .ok (.iload_n 2, 1) := by decide +kernel
theorem dX7_manager_28 : decode cX7_manager 28 = .ok (.iconst 1, 1) := by decide +kernel
theorem dX7_manager_29 : decode cX7_manager 29 = .ok (.if_icmp .ne 22, 3) := by decide +kernel
theorem dX7_manager_32 : decode cX7_manager 32 = .ok (.aload_n 0, 1) := by decide +kernel
theorem dX7_manager_33 : decode cX7_manager 33 = .ok (.getfield 21, 3) := by decide +kernel
theorem dX7_manager_36 : decode cX7_manager 36 = .ok (.iconst 0, 1) := by decide +kernel
theorem dX7_manager_37 : decode cX7_manager 37 = .ok (.aaload, 1) := by decide +kernel
theorem dX7_manager_38 : decode cX7_manager 38 = .ok (.iload_n 1, 1) := by decide +kernel
theorem dX7_manager_39 : decode cX7_manager 39 = .ok (.baload, 1) := by decide +kernel
theorem dX7_manager_40 : decode cX7_manager 40 = .ok (.ifCond .eq 7, 3) := by decide +kernel
theorem dX7_manager_43 : decode cX7_manager 43 = .ok (.iconst 1, 1) := by decide +kernel
theorem dX7_manager_44 : decode cX7_manager 44 = .ok (.goto 8, 3) := by decide +kernel
theorem dX7_manager_47 : decode cX7_manager 47 = .ok (.iconst 0, 1) := by decide +kernel
theorem dX7_manager_48 : decode cX7_manager 48 = .ok (.goto 4, 3) := by decide +kernel
theorem dX7_manager_51 : decode cX7_manager 51 = .ok (.iconst (-1), 1) := by decide +kernel
theorem dX7_manager_52 : decode cX7_manager 52 = .ok (.ireturn, 1) := by decide +kernel
theorem dX7_acceptor_0 : decode cX7_acceptor 0 = .ok (.aload_n 0, 1) := by decide +kernel
theorem dX7_acceptor_1 : decode cX7_acceptor 1 = .ok (.aload_n 0, 1) := by decide +kernel
theorem dX7_acceptor_2 : decode cX7_acceptor 2 = .ok (.iload_n 1, 1) := by decide +kernel
theorem dX7_acceptor_3 : decode cX7_acceptor 3 = .ok (.invokevirtual 187, 3) := by decide +kernel
theorem dX7_acceptor_6 : decode cX7_acceptor 6 = .ok (.ifCond .eq 15, 3) := by decide +kernel
theorem dX7_acceptor_9 : decode cX7_acceptor 9 = .ok (.aload_n 0, 1) := by decide +kernel
theorem dX7_acceptor_10 : decode cX7_acceptor 10 = .ok (.iload_n 2, 1) := by decide +kernel
theorem dX7_acceptor_11 : decode cX7_acceptor 11 = .ok (.invokevirtual 89, 3) := by decide +kernel
theorem dX7_acceptor_14 : decode cX7_acceptor 14 = .ok (.ifCond .eq 7, 3) := by decide +kernel
theorem dX7_acceptor_17 : decode cX7_acceptor 17 = .ok (.iconst 1, 1) := by decide +kernel
theorem dX7_acceptor_18 : decode cX7_acceptor 18 = .ok (.goto 4, 3) := by decide +kernel
theorem dX7_acceptor_21 : decode cX7_acceptor 21 = .ok (.iconst 0, 1) := by decide +kernel
theorem dX7_acceptor_22 : decode cX7_acceptor 22 = .ok (.invokevirtual 93, 3) := by decide +kernel
theorem dX7_acceptor_25 : decode cX7_acceptor 25 = .ok (.ifCond .eq 5, 3) := by decide +kernel
theorem dX7_acceptor_28 : decode cX7_acceptor 28 = .ok (.iconst 0, 1) := by decide +kernel
theorem dX7_acceptor_29 : decode cX7_acceptor 29 = .ok (.ireturn, 1) := by decide +kernel
theorem dX7_acceptor_30 : decode cX7_acceptor 30 = .ok (.iload_n 3, 1) := by decide +kernel
theorem dX7_acceptor_31 : decode cX7_acceptor 31 = .ok (.tableswitch 77 0 3 #[29, 36, 53, 65], 29) := by decide +kernel
theorem dX7_acceptor_60 : decode cX7_acceptor 60 = .ok (.aload_n 0, 1) := by decide +kernel
theorem dX7_acceptor_61 : decode cX7_acceptor 61 = .ok (.getfield 24, 3) := by decide +kernel
theorem dX7_acceptor_64 : decode cX7_acceptor 64 = .ok (.iload_n 1, 1) := by decide +kernel
theorem dX7_acceptor_65 : decode cX7_acceptor 65 = .ok (.iaload, 1) := by decide +kernel
theorem dX7_acceptor_66 : decode cX7_acceptor 66 = .ok (.ireturn, 1) := by decide +kernel
theorem dX7_acceptor_67 : decode cX7_acceptor 67 = .ok (.aload_n 0, 1) := by decide +kernel
theorem dX7_acceptor_68 : decode cX7_acceptor 68 = .ok (.getfield 21, 3) := by decide +kernel
theorem dX7_acceptor_71 : decode cX7_acceptor 71 = .ok (.iconst 1, 1) := by decide +kernel
theorem dX7_acceptor_72 : decode cX7_acceptor 72 = .ok (.aaload, 1) := by decide +kernel
theorem dX7_acceptor_73 : decode cX7_acceptor 73 = .ok (.iload_n 1, 1) := by decide +kernel
theorem dX7_acceptor_74 : decode cX7_acceptor 74 = .ok (.baload, 1) := by decide +kernel
theorem dX7_acceptor_75 : decode cX7_acceptor 75 = .ok (.ifCond .eq 7, 3) := by decide +kernel
theorem dX7_acceptor_78 : decode cX7_acceptor 78 = .ok (.iconst 1, 1) := by decide +kernel
theorem dX7_acceptor_79 : decode cX7_acceptor 79 = .ok (.goto 4, 3) := by decide +kernel
theorem dX7_acceptor_82 : decode cX7_acceptor 82 = .ok (.iconst 0, 1) := by decide +kernel
theorem dX7_acceptor_83 : decode cX7_acceptor 83 = .ok (.ireturn, 1) := by decide +kernel
theorem dX7_acceptor_84 : decode cX7_acceptor 84 = .ok (.aload_n 0, 1) := by decide +kernel
theorem dX7_acceptor_85 : decode cX7_acceptor 85 = .ok (.getfield 27, 3) := by decide +kernel
theorem dX7_acceptor_88 : decode cX7_acceptor 88 = .ok (.bipush 6, 2) := by decide +kernel
theorem dX7_acceptor_90 : decode cX7_acceptor 90 = .ok (.iload_n 1, 1) := by decide +kernel
theorem dX7_acceptor_91 : decode cX7_acceptor 91 = .ok (.imul, 1) := by decide +kernel
theorem dX7_acceptor_92 : decode cX7_acceptor 92 = .ok (.iload_n 2, 1) := by decide +kernel
theorem dX7_acceptor_93 : decode cX7_acceptor 93 = .ok (.iadd, 1) := by decide +kernel
theorem dX7_acceptor_94 : decode cX7_acceptor 94 = .ok (.iaload, 1) := by decide +kernel
theorem dX7_acceptor_95 : decode cX7_acceptor 95 = .ok (.ireturn, 1) := by decide +kernel
theorem dX7_acceptor_96 : decode cX7_acceptor 96 = .ok (.aload_n 0, 1) := by decide +kernel
theorem dX7_acceptor_97 : decode cX7_acceptor 97 = .ok (.getfield 30, 3) := by decide +kernel
theorem dX7_acceptor_100 : decode cX7_acceptor 100 = .ok (.bipush 6, 2) := by decide +kernel
theorem dX7_acceptor_102 : decode cX7_acceptor 102 = .ok (.iload_n 1, 1) := by decide +kernel
theorem dX7_acceptor_103 : decode cX7_acceptor 103 = .ok (.imul, 1) := by decide +kernel
theorem dX7_acceptor_104 : decode cX7_acceptor 104 = .ok (.iload_n 2, 1) := by decide +kernel
theorem dX7_acceptor_105 : decode cX7_acceptor 105 = .ok (.iadd, 1) := by decide +kernel
theorem dX7_acceptor_106 : decode cX7_acceptor 106 = .ok (.iaload, 1) := by decide +kernel
theorem dX7_acceptor_107 : decode cX7_acceptor 107 = .ok (.ireturn, 1) := by decide +kernel
theorem dX7_acceptor_108 : decode cX7_acceptor 108 = .ok (.iconst (-1), 1) := by decide +kernel
theorem dX7_acceptor_109 : decode cX7_acceptor 109 = .ok (.ireturn, 1) := by decide +kernel
theorem dX7_leader_0 : decode cX7_leader 0 = .ok (.aload_n 0, 1) := by decide +kernel
theorem dX7_leader_1 : decode cX7_leader 1 = .ok (.iload_n 1, 1) := by decide +kernel
theorem dX7_leader_2 : decode cX7_leader 2 = .ok (.invokestatic 108, 3) := by decide +kernel
theorem dX7_leader_5 : decode cX7_leader 5 = .ok (.invokevirtual 93, 3) := by decide +kernel
theorem dX7_leader_8 : decode cX7_leader 8 = .ok (.ifCond .eq 5, 3) := by decide +kernel
theorem dX7_leader_11 : decode cX7_leader 11 = .ok (.iconst 0, 1) := by decide +kernel
theorem dX7_leader_12 : decode cX7_leader 12 = .ok (.ireturn, 1) := by decide +kernel
theorem dX7_leader_13 : decode cX7_leader 13 = .ok (.iload_n 2, 1) := by decide +kernel
theorem dX7_leader_14 : decode cX7_leader 14 = .ok (.tableswitch 107 0 5 #[38, 45, 52, 59, 66, 83], 38) := by decide +kernel
theorem dX7_leader_52 : decode cX7_leader 52 = .ok (.aload_n 0, 1) := by decide +kernel
theorem dX7_leader_53 : decode cX7_leader 53 = .ok (.getfield 39, 3) := by decide +kernel
theorem dX7_leader_56 : decode cX7_leader 56 = .ok (.iload_n 1, 1) := by decide +kernel
theorem dX7_leader_57 : decode cX7_leader 57 = .ok (.iaload, 1) := by decide +kernel
theorem dX7_leader_58 : decode cX7_leader 58 = .ok (.ireturn, 1) := by decide +kernel
theorem dX7_leader_59 : decode cX7_leader 59 = .ok (.aload_n 0, 1) := by decide +kernel
theorem dX7_leader_60 : decode cX7_leader 60 = .ok (.getfield 42, 3) := by decide +kernel
theorem dX7_leader_63 : decode cX7_leader 63 = .ok (.iload_n 1, 1) := by decide +kernel
theorem dX7_leader_64 : decode cX7_leader 64 = .ok (.iaload, 1) := by decide +kernel
theorem dX7_leader_65 : decode cX7_leader 65 = .ok (.ireturn, 1) := by decide +kernel
theorem dX7_leader_66 : decode cX7_leader 66 = .ok (.aload_n 0, 1) := by decide +kernel
theorem dX7_leader_67 : decode cX7_leader 67 = .ok (.getfield 45, 3) := by decide +kernel
theorem dX7_leader_70 : decode cX7_leader 70 = .ok (.iload_n 1, 1) := by decide +kernel
theorem dX7_leader_71 : decode cX7_leader 71 = .ok (.iaload, 1) := by decide +kernel
theorem dX7_leader_72 : decode cX7_leader 72 = .ok (.ireturn, 1) := by decide +kernel
theorem dX7_leader_73 : decode cX7_leader 73 = .ok (.aload_n 0, 1) := by decide +kernel
theorem dX7_leader_74 : decode cX7_leader 74 = .ok (.getfield 48, 3) := by decide +kernel
theorem dX7_leader_77 : decode cX7_leader 77 = .ok (.iload_n 1, 1) := by decide +kernel
theorem dX7_leader_78 : decode cX7_leader 78 = .ok (.iaload, 1) := by decide +kernel
theorem dX7_leader_79 : decode cX7_leader 79 = .ok (.ireturn, 1) := by decide +kernel
theorem dX7_leader_80 : decode cX7_leader 80 = .ok (.aload_n 0, 1) := by decide +kernel
theorem dX7_leader_81 : decode cX7_leader 81 = .ok (.getfield 21, 3) := by decide +kernel
theorem dX7_leader_84 : decode cX7_leader 84 = .ok (.iconst 2, 1) := by decide +kernel
theorem dX7_leader_85 : decode cX7_leader 85 = .ok (.aaload, 1) := by decide +kernel
theorem dX7_leader_86 : decode cX7_leader 86 = .ok (.iload_n 1, 1) := by decide +kernel
theorem dX7_leader_87 : decode cX7_leader 87 = .ok (.baload, 1) := by decide +kernel
theorem dX7_leader_88 : decode cX7_leader 88 = .ok (.ifCond .eq 7, 3) := by decide +kernel
theorem dX7_leader_91 : decode cX7_leader 91 = .ok (.iconst 1, 1) := by decide +kernel
theorem dX7_leader_92 : decode cX7_leader 92 = .ok (.goto 4, 3) := by decide +kernel
theorem dX7_leader_95 : decode cX7_leader 95 = .ok (.iconst 0, 1) := by decide +kernel
theorem dX7_leader_96 : decode cX7_leader 96 = .ok (.ireturn, 1) := by decide +kernel
theorem dX7_leader_97 : decode cX7_leader 97 = .ok (.aload_n 0, 1) := by decide +kernel
theorem dX7_leader_98 : decode cX7_leader 98 = .ok (.getfield 42, 3) := by decide +kernel
theorem dX7_leader_101 : decode cX7_leader 101 = .ok (.iload_n 1, 1) := by decide +kernel
theorem dX7_leader_102 : decode cX7_leader 102 = .ok (.iaload, 1) := by decide +kernel
theorem dX7_leader_103 : decode cX7_leader 103 = .ok (.iconst 1, 1) := by decide +kernel
theorem dX7_leader_104 : decode cX7_leader 104 = .ok (.if_icmp .ne 15, 3) := by decide +kernel
theorem dX7_leader_107 : decode cX7_leader 107 = .ok (.aload_n 0, 1) := by decide +kernel
theorem dX7_leader_108 : decode cX7_leader 108 = .ok (.getfield 51, 3) := by decide +kernel
theorem dX7_leader_111 : decode cX7_leader 111 = .ok (.iload_n 1, 1) := by decide +kernel
theorem dX7_leader_112 : decode cX7_leader 112 = .ok (.iaload, 1) := by decide +kernel
theorem dX7_leader_113 : decode cX7_leader 113 = .ok (.invokestatic 118, 3) := by decide +kernel
theorem dX7_leader_116 : decode cX7_leader 116 = .ok (.goto 4, 3) := by decide +kernel
theorem dX7_leader_119 : decode cX7_leader 119 = .ok (.iconst 0, 1) := by decide +kernel
theorem dX7_leader_120 : decode cX7_leader 120 = .ok (.ireturn, 1) := by decide +kernel
theorem dX7_leader_121 : decode cX7_leader 121 = .ok (.iconst (-1), 1) := by decide +kernel
theorem dX7_leader_122 : decode cX7_leader 122 = .ok (.ireturn, 1) := by decide +kernel
theorem dX7_outcome_0 : decode cX7_outcome 0 = .ok (.aload_n 0, 1) := by decide +kernel
theorem dX7_outcome_1 : decode cX7_outcome 1 = .ok (.iload_n 1, 1) := by decide +kernel
theorem dX7_outcome_2 : decode cX7_outcome 2 = .ok (.invokestatic 108, 3) := by decide +kernel
theorem dX7_outcome_5 : decode cX7_outcome 5 = .ok (.ifCond .eq 15, 3) := by decide +kernel
theorem dX7_outcome_8 : decode cX7_outcome 8 = .ok (.aload_n 0, 1) := by decide +kernel
theorem dX7_outcome_9 : decode cX7_outcome 9 = .ok (.iload_n 2, 1) := by decide +kernel
theorem dX7_outcome_10 : decode cX7_outcome 10 = .ok (.invokevirtual 89, 3) := by decide +kernel
theorem dX7_outcome_13 : decode cX7_outcome 13 = .ok (.ifCond .eq 7, 3) := by decide +kernel
theorem dX7_outcome_16 : decode cX7_outcome 16 = .ok (.iconst 1, 1) := by decide +kernel
theorem dX7_outcome_17 : decode cX7_outcome 17 = .ok (.goto 4, 3) := by decide +kernel
theorem dX7_outcome_20 : decode cX7_outcome 20 = .ok (.iconst 0, 1) := by decide +kernel
theorem dX7_outcome_21 : decode cX7_outcome 21 = .ok (.invokevirtual 93, 3) := by decide +kernel
theorem dX7_outcome_24 : decode cX7_outcome 24 = .ok (.ifCond .eq 7, 3) := by decide +kernel
theorem dX7_outcome_27 : decode cX7_outcome 27 = .ok (.iconst 0, 1) := by decide +kernel
theorem dX7_outcome_28 : decode cX7_outcome 28 = .ok (.goto 14, 3) := by decide +kernel
theorem dX7_outcome_31 : decode cX7_outcome 31 = .ok (.aload_n 0, 1) := by decide +kernel
theorem dX7_outcome_32 : decode cX7_outcome 32 = .ok (.getfield 66, 3) := by decide +kernel
theorem dX7_outcome_35 : decode cX7_outcome 35 = .ok (.iload_n 1, 1) := by decide +kernel
theorem dX7_outcome_36 : decode cX7_outcome 36 = .ok (.bipush 6, 2) := by decide +kernel
theorem dX7_outcome_38 : decode cX7_outcome 38 = .ok (.imul, 1) := by decide +kernel
theorem dX7_outcome_39 : decode cX7_outcome 39 = .ok (.iload_n 2, 1) := by decide +kernel
theorem dX7_outcome_40 : decode cX7_outcome 40 = .ok (.iadd, 1) := by decide +kernel
theorem dX7_outcome_41 : decode cX7_outcome 41 = .ok (.iaload, 1) := by decide +kernel
theorem dX7_outcome_42 : decode cX7_outcome 42 = .ok (.ireturn, 1) := by decide +kernel
theorem dX7_seen_0 : decode cX7_seen 0 = .ok (.aload_n 0, 1) := by decide +kernel
theorem dX7_seen_1 : decode cX7_seen 1 = .ok (.iload_n 1, 1) := by decide +kernel
theorem dX7_seen_2 : decode cX7_seen 2 = .ok (.invokestatic 108, 3) := by decide +kernel
theorem dX7_seen_5 : decode cX7_seen 5 = .ok (.ifCond .eq 23, 3) := by decide +kernel
theorem dX7_seen_8 : decode cX7_seen 8 = .ok (.aload_n 0, 1) := by decide +kernel
theorem dX7_seen_9 : decode cX7_seen 9 = .ok (.iload_n 2, 1) := by decide +kernel
theorem dX7_seen_10 : decode cX7_seen 10 = .ok (.invokevirtual 89, 3) := by decide +kernel
theorem dX7_seen_13 : decode cX7_seen 13 = .ok (.ifCond .eq 15, 3) := by decide +kernel
theorem dX7_seen_16 : decode cX7_seen 16 = .ok (.aload_n 0, 1) := by decide +kernel
theorem dX7_seen_17 : decode cX7_seen 17 = .ok (.iload_n 3, 1) := by decide +kernel
theorem dX7_seen_18 : decode cX7_seen 18 = .ok (.invokevirtual 187, 3) := by decide +kernel
theorem dX7_seen_21 : decode cX7_seen 21 = .ok (.ifCond .eq 7, 3) := by decide +kernel
theorem dX7_seen_24 : decode cX7_seen 24 = .ok (.iconst 1, 1) := by decide +kernel
theorem dX7_seen_25 : decode cX7_seen 25 = .ok (.goto 4, 3) := by decide +kernel
theorem dX7_seen_28 : decode cX7_seen 28 = .ok (.iconst 0, 1) := by decide +kernel
theorem dX7_seen_29 : decode cX7_seen 29 = .ok (.invokevirtual 93, 3) := by decide +kernel
theorem dX7_seen_32 : decode cX7_seen 32 = .ok (.ifCond .eq 7, 3) := by decide +kernel
theorem dX7_seen_35 : decode cX7_seen 35 = .ok (.iconst 0, 1) := by decide +kernel
theorem dX7_seen_36 : decode cX7_seen 36 = .ok (.goto 15, 3) := by decide +kernel
theorem dX7_seen_39 : decode cX7_seen 39 = .ok (.aload_n 0, 1) := by decide +kernel
theorem dX7_seen_40 : decode cX7_seen 40 = .ok (.getfield 60, 3) := by decide +kernel
theorem dX7_seen_43 : decode cX7_seen 43 = .ok (.aload_n 0, 1) := by decide +kernel
theorem dX7_seen_44 : decode cX7_seen 44 = .ok (.iload_n 1, 1) := by decide +kernel
theorem dX7_seen_45 : decode cX7_seen 45 = .ok (.iload_n 2, 1) := by decide +kernel
theorem dX7_seen_46 : decode cX7_seen 46 = .ok (.iload_n 3, 1) := by decide +kernel
theorem dX7_seen_47 : decode cX7_seen 47 = .ok (.invokevirtual 136, 3) := by decide +kernel
theorem dX7_seen_50 : decode cX7_seen 50 = .ok (.iaload, 1) := by decide +kernel
theorem dX7_seen_51 : decode cX7_seen 51 = .ok (.ireturn, 1) := by decide +kernel
theorem dX7_chosen_0 : decode cX7_chosen 0 = .ok (.aload_n 0, 1) := by decide +kernel
theorem dX7_chosen_1 : decode cX7_chosen 1 = .ok (.aload_n 0, 1) := by decide +kernel
theorem dX7_chosen_2 : decode cX7_chosen 2 = .ok (.iload_n 1, 1) := by decide +kernel
theorem dX7_chosen_3 : decode cX7_chosen 3 = .ok (.invokevirtual 89, 3) := by decide +kernel
theorem dX7_chosen_6 : decode cX7_chosen 6 = .ok (.invokevirtual 93, 3) := by decide +kernel
theorem dX7_chosen_9 : decode cX7_chosen 9 = .ok (.ifCond .eq 5, 3) := by decide +kernel
theorem dX7_chosen_12 : decode cX7_chosen 12 = .ok (.iconst 0, 1) := by decide +kernel
theorem dX7_chosen_13 : decode cX7_chosen 13 = .ok (.ireturn, 1) := by decide +kernel
theorem dX7_chosen_14 : decode cX7_chosen 14 = .ok (.iconst 0, 1) := by decide +kernel
theorem dX7_chosen_15 : decode cX7_chosen 15 = .ok (.istore_n 2, 1) := by decide +kernel
theorem dX7_chosen_16 : decode cX7_chosen 16 = .ok (.iload_n 2, 1) := by decide +kernel
theorem dX7_chosen_17 : decode cX7_chosen 17 = .ok (.sipush 1600, 3) := by decide +kernel
theorem dX7_chosen_20 : decode cX7_chosen 20 = .ok (.if_icmp .ge 42, 3) := by decide +kernel
theorem dX7_chosen_23 : decode cX7_chosen 23 = .ok (.aload_n 0, 1) := by decide +kernel
theorem dX7_chosen_24 : decode cX7_chosen 24 = .ok (.aload_n 0, 1) := by decide +kernel
theorem dX7_chosen_25 : decode cX7_chosen 25 = .ok (.getfield 33, 3) := by decide +kernel
theorem dX7_chosen_28 : decode cX7_chosen 28 = .ok (.bipush 6, 2) := by decide +kernel
theorem dX7_chosen_30 : decode cX7_chosen 30 = .ok (.iload_n 2, 1) := by decide +kernel
theorem dX7_chosen_31 : decode cX7_chosen 31 = .ok (.imul, 1) := by decide +kernel
theorem dX7_chosen_32 : decode cX7_chosen 32 = .ok (.iload_n 1, 1) := by decide +kernel
theorem dX7_chosen_33 : decode cX7_chosen 33 = .ok (.iadd, 1) := by decide +kernel
theorem dX7_chosen_34 : decode cX7_chosen 34 = .ok (.iaload, 1) := by decide +kernel
theorem dX7_chosen_35 : decode cX7_chosen 35 = .ok (.invokestatic 118, 3) := by decide +kernel
theorem dX7_chosen_38 : decode cX7_chosen 38 = .ok (.invokevirtual 122, 3) := by decide +kernel
theorem dX7_chosen_41 : decode cX7_chosen 41 = .ok (.ifCond .eq 15, 3) := by decide +kernel
theorem dX7_chosen_44 : decode cX7_chosen 44 = .ok (.aload_n 0, 1) := by decide +kernel
theorem dX7_chosen_45 : decode cX7_chosen 45 = .ok (.getfield 36, 3) := by decide +kernel
theorem dX7_chosen_48 : decode cX7_chosen 48 = .ok (.bipush 6, 2) := by decide +kernel
theorem dX7_chosen_50 : decode cX7_chosen 50 = .ok (.iload_n 2, 1) := by decide +kernel
theorem dX7_chosen_51 : decode cX7_chosen 51 = .ok (.imul, 1) := by decide +kernel
theorem dX7_chosen_52 : decode cX7_chosen 52 = .ok (.iload_n 1, 1) := by decide +kernel
theorem dX7_chosen_53 : decode cX7_chosen 53 = .ok (.iadd, 1) := by decide +kernel
theorem dX7_chosen_54 : decode cX7_chosen 54 = .ok (.iaload, 1) := by decide +kernel
theorem dX7_chosen_55 : decode cX7_chosen 55 = .ok (.ireturn, 1) := by decide +kernel
theorem dX7_chosen_56 : decode cX7_chosen 56 = .ok (.iinc 2 1, 3) := by decide +kernel
theorem dX7_chosen_59 : decode cX7_chosen 59 = .ok (.goto (-43), 3) := by decide +kernel
theorem dX7_chosen_62 : decode cX7_chosen 62 = .ok (.iconst 0, 1) := by decide +kernel
theorem dX7_chosen_63 : decode cX7_chosen 63 = .ok (.ireturn, 1) := by decide +kernel
theorem dX7_count_0 : decode cX7_count 0 = .ok (.aload_n 0, 1) := by decide +kernel
theorem dX7_count_1 : decode cX7_count 1 = .ok (.iconst 0, 1) := by decide +kernel
theorem dX7_count_2 : decode cX7_count 2 = .ok (.putfield 76, 3) := by decide +kernel
theorem dX7_count_5 : decode cX7_count 5 = .ok (.iconst 0, 1) := by decide +kernel
theorem dX7_count_6 : decode cX7_count 6 = .ok (.istore_n 2, 1) := by decide +kernel
theorem dX7_count_7 : decode cX7_count 7 = .ok (.iload_n 1, 1) := by decide +kernel
theorem dX7_count_8 : decode cX7_count 8 = .ok (.tableswitch 166 0 9 #[56, 61, 66, 71, 76, 81, 81, 123, 123, 161], 56) := by decide +kernel
theorem dX7_count_64 : decode cX7_count 64 = .ok (.aload_n 0, 1) := by decide +kernel
theorem dX7_count_65 : decode cX7_count 65 = .ok (.getfield 69, 3) := by decide +kernel
theorem dX7_count_68 : decode cX7_count 68 = .ok (.ireturn, 1) := by decide +kernel
theorem dX7_count_69 : decode cX7_count 69 = .ok (.aload_n 0, 1) := by decide +kernel
theorem dX7_count_70 : decode cX7_count 70 = .ok (.getfield 73, 3) := by decide +kernel
theorem dX7_count_73 : decode cX7_count 73 = .ok (.ireturn, 1) := by decide +kernel
theorem dX7_count_74 : decode cX7_count 74 = .ok (.aload_n 0, 1) := by decide +kernel
theorem dX7_count_75 : decode cX7_count 75 = .ok (.getfield 79, 3) := by decide +kernel
theorem dX7_count_78 : decode cX7_count 78 = .ok (.ireturn, 1) := by decide +kernel
theorem dX7_count_79 : decode cX7_count 79 = .ok (.aload_n 0, 1) := by decide +kernel
theorem dX7_count_80 : decode cX7_count 80 = .ok (.getfield 82, 3) := by decide +kernel
theorem dX7_count_83 : decode cX7_count 83 = .ok (.ireturn, 1) := by decide +kernel
theorem dX7_count_84 : decode cX7_count 84 = .ok (.aload_n 0, 1) := by decide +kernel
theorem dX7_count_85 : decode cX7_count 85 = .ok (.getfield 159, 3) := by decide +kernel
theorem dX7_count_88 : decode cX7_count 88 = .ok (.ireturn, 1) := by decide +kernel
theorem dX7_count_89 : decode cX7_count 89 = .ok (.iconst 0, 1) := by decide +kernel
theorem dX7_count_90 : decode cX7_count 90 = .ok (.istore_n 3, 1) := by decide +kernel
theorem dX7_count_91 : decode cX7_count 91 = .ok (.iload_n 3, 1) := by decide +kernel
theorem dX7_count_92 : decode cX7_count 92 = .ok (.aload_n 0, 1) := by decide +kernel
theorem dX7_count_93 : decode cX7_count 93 = .ok (.iload_n 1, 1) := by decide +kernel
theorem dX7_count_94 : decode cX7_count 94 = .ok (.iconst 5, 1) := by decide +kernel
theorem dX7_count_95 : decode cX7_count 95 = .ok (.isub, 1) := by decide +kernel
theorem dX7_count_96 : decode cX7_count 96 = .ok (.invokevirtual 180, 3) := by decide +kernel
theorem dX7_count_99 : decode cX7_count 99 = .ok (.if_icmp .ge 30, 3) := by decide +kernel
theorem dX7_count_102 : decode cX7_count 102 = .ok (.iload_n 2, 1) := by decide +kernel
theorem dX7_count_103 : decode cX7_count 103 = .ok (.aload_n 0, 1) := by decide +kernel
theorem dX7_count_104 : decode cX7_count 104 = .ok (.getfield 21, 3) := by decide +kernel
theorem dX7_count_107 : decode cX7_count 107 = .ok (.iload_n 1, 1) := by decide +kernel
theorem dX7_count_108 : decode cX7_count 108 = .ok (.iconst 5, 1) := by decide +kernel
theorem dX7_count_109 : decode cX7_count 109 = .ok (.isub, 1) := by decide +kernel
theorem dX7_count_110 : decode cX7_count 110 = .ok (.aaload, 1) := by decide +kernel
theorem dX7_count_111 : decode cX7_count 111 = .ok (.iload_n 3, 1) := by decide +kernel
theorem dX7_count_112 : decode cX7_count 112 = .ok (.baload, 1) := by decide +kernel
theorem dX7_count_113 : decode cX7_count 113 = .ok (.ifCond .eq 7, 3) := by decide +kernel
theorem dX7_count_116 : decode cX7_count 116 = .ok (.iconst 1, 1) := by decide +kernel
theorem dX7_count_117 : decode cX7_count 117 = .ok (.goto 4, 3) := by decide +kernel
theorem dX7_count_120 : decode cX7_count 120 = .ok (.iconst 0, 1) := by decide +kernel
theorem dX7_count_121 : decode cX7_count 121 = .ok (.iadd, 1) := by decide +kernel
theorem dX7_count_122 : decode cX7_count 122 = .ok (.istore_n 2, 1) := by decide +kernel
theorem dX7_count_123 : decode cX7_count 123 = .ok (.iinc 3 1, 3) := by decide +kernel
theorem dX7_count_126 : decode cX7_count 126 = .ok (.goto (-35), 3) := by decide +kernel
theorem dX7_count_129 : decode cX7_count 129 = .ok (.iload_n 2, 1) := by decide +kernel
theorem dX7_count_130 : decode cX7_count 130 = .ok (.ireturn, 1) := by decide +kernel
theorem dX7_count_131 : decode cX7_count 131 = .ok (.iconst 0, 1) := by decide +kernel
theorem dX7_count_132 : decode cX7_count 132 = .ok (.istore_n 3, 1) := by decide +kernel
theorem dX7_count_133 : decode cX7_count 133 = .ok (.iload_n 3, 1) := by decide +kernel
theorem dX7_count_134 : decode cX7_count 134 = .ok (.aload_n 0, 1) := by decide +kernel
theorem dX7_count_135 : decode cX7_count 135 = .ok (.getfield 69, 3) := by decide +kernel
theorem dX7_count_138 : decode cX7_count 138 = .ok (.if_icmp .ge 29, 3) := by decide +kernel
theorem dX7_count_141 : decode cX7_count 141 = .ok (.iload_n 2, 1) := by decide +kernel
theorem dX7_count_142 : decode cX7_count 142 = .ok (.aload_n 0, 1) := by decide +kernel
theorem dX7_count_143 : decode cX7_count 143 = .ok (.getfield 16, 3) := by decide +kernel
theorem dX7_count_146 : decode cX7_count 146 = .ok (.iload_n 3, 1) := by decide +kernel
theorem dX7_count_147 : decode cX7_count 147 = .ok (.iaload, 1) := by decide +kernel
theorem dX7_count_148 : decode cX7_count 148 = .ok (.iload_n 1, 1) := by decide +kernel
theorem dX7_count_149 : decode cX7_count 149 = .ok (.iconst 4, 1) := by decide +kernel
theorem dX7_count_150 : decode cX7_count 150 = .ok (.isub, 1) := by decide +kernel
theorem dX7_count_151 : decode cX7_count 151 = .ok (.if_icmp .ne 7, 3) := by decide +kernel
theorem dX7_count_154 : decode cX7_count 154 = .ok (.iconst 1, 1) := by decide +kernel
theorem dX7_count_155 : decode cX7_count 155 = .ok (.goto 4, 3) := by decide +kernel
theorem dX7_count_158 : decode cX7_count 158 = .ok (.iconst 0, 1) := by decide +kernel
theorem dX7_count_159 : decode cX7_count 159 = .ok (.iadd, 1) := by decide +kernel
theorem dX7_count_160 : decode cX7_count 160 = .ok (.istore_n 2, 1) := by decide +kernel
theorem dX7_count_161 : decode cX7_count 161 = .ok (.iinc 3 1, 3) := by decide +kernel
theorem dX7_count_164 : decode cX7_count 164 = .ok (.goto (-31), 3) := by decide +kernel
theorem dX7_count_167 : decode cX7_count 167 = .ok (.iload_n 2, 1) := by decide +kernel
theorem dX7_count_168 : decode cX7_count 168 = .ok (.ireturn, 1) := by decide +kernel
theorem dX7_count_169 : decode cX7_count 169 = .ok (.aload_n 0, 1) := by decide +kernel
theorem dX7_count_170 : decode cX7_count 170 = .ok (.getfield 111, 3) := by decide +kernel
theorem dX7_count_173 : decode cX7_count 173 = .ok (.ireturn, 1) := by decide +kernel
theorem dX7_count_174 : decode cX7_count 174 = .ok (.iconst (-1), 1) := by decide +kernel
theorem dX7_count_175 : decode cX7_count 175 = .ok (.ireturn, 1) := by decide +kernel
theorem dX7_astray_0 : decode cX7_astray 0 = .ok (.aload_n 0, 1) := by decide +kernel
theorem dX7_astray_1 : decode cX7_astray 1 = .ok (.iconst 0, 1) := by decide +kernel
theorem dX7_astray_2 : decode cX7_astray 2 = .ok (.putfield 76, 3) := by decide +kernel
theorem dX7_astray_5 : decode cX7_astray 5 = .ok (.iconst 0, 1) := by decide +kernel
theorem dX7_astray_6 : decode cX7_astray 6 = .ok (.ireturn, 1) := by decide +kernel
end
section
/-! THE LOGIC: what a method does, said over a store of ints (cells by numbers, places by numbers); the machine's heap holds the store -/
abbrev gAV : Type := Int32 ⊕ Nat
def gv (ad : Nat → Nat) (x : gAV) : Value := match x with
  | .inl i => .int i
  | .inr k => .ref (ad k)
theorem gv_cat (ad : Nat → Nat) (x : gAV) : (gv ad x).category = 1 := by cases x <;> rfl
theorem gv_sum (ad : Nat → Nat) : ∀ st : List gAV, ((st.map (gv ad)).map fun v => v.category).sum = st.length
  | [] => rfl
  | x :: st => by
    show (gv ad x).category + ((st.map (gv ad)).map fun v => v.category).sum = st.length + 1
    rw [gv_cat, gv_sum ad st, Nat.add_comm]
abbrev gSt : Type := Nat → Nat → Int32
def gup (σ : gSt) (k j : Nat) (v : Int32) : gSt := fun a b => if a = k ∧ b = j then v else σ a b
theorem gup_ne (σ : gSt) {k j a : Nat} (v : Int32) (h : a ≠ k) : gup σ k j v a = σ a := by
  funext b
  unfold gup
  rw [if_neg (fun q => h q.1)]
theorem gup_self (σ : gSt) (k j : Nat) (v : Int32) : gup σ k j v k = upd (σ k) j v := by
  funext b
  unfold gup upd
  by_cases h : b = j
  · rw [if_pos ⟨rfl, h⟩, if_pos h]
  · rw [if_neg (fun q => h q.2), if_neg h]
def gur (σ : gSt) (k : Nat) (f : Nat → Int32) : gSt := fun a => if a = k then f else σ a
theorem gur_ne (σ : gSt) {k a : Nat} (f : Nat → Int32) (h : a ≠ k) : gur σ k f a = σ a := if_neg h
theorem gur_self (σ : gSt) (k : Nat) (f : Nat → Int32) : gur σ k f k = f := if_pos rfl
/-- what a cell is: an array (its type's number, its length, and where its places are references the cells that they name), or an object (its class's number; of each field none: an int, or the cell that it names) -/
abbrev gSh : Type := (Nat × Nat × Option (Nat → Nat)) ⊕ (Nat × List (Option Nat))
def gfl (ad : Nat → Nat) (f : Nat → Int32) : Nat → List (Option Nat) → List Value
  | _, [] => []
  | j, none :: r => .int (f j) :: gfl ad f (j + 1) r
  | j, some t :: r => .ref (ad t) :: gfl ad f (j + 1) r
theorem gfl_len (ad : Nat → Nat) (f : Nat → Int32) : ∀ (fs : List (Option Nat)) (i : Nat), (gfl ad f i fs).length = fs.length
  | [], _ => rfl
  | none :: r, i => congrArg (· + 1) (gfl_len ad f r (i + 1))
  | some _ :: r, i => congrArg (· + 1) (gfl_len ad f r (i + 1))
theorem gfl_int (ad : Nat → Nat) (f : Nat → Int32) : ∀ (fs : List (Option Nat)) (i k : Nat), fs[k]? = some none → (gfl ad f i fs)[k]? = some (.int (f (i + k)))
  | [], _, k, h => by simp at h
  | none :: r, i, 0, _ => rfl
  | some t :: r, i, 0, h => by simp at h
  | none :: r, i, k + 1, h => by
    rw [List.getElem?_cons_succ] at h
    show (gfl ad f (i + 1) r)[k]? = _
    rw [gfl_int ad f r (i + 1) k h, show i + 1 + k = i + (k + 1) by omega]
  | some t :: r, i, k + 1, h => by
    rw [List.getElem?_cons_succ] at h
    show (gfl ad f (i + 1) r)[k]? = _
    rw [gfl_int ad f r (i + 1) k h, show i + 1 + k = i + (k + 1) by omega]
theorem gfl_ref (ad : Nat → Nat) (f : Nat → Int32) : ∀ (fs : List (Option Nat)) (i k t : Nat), fs[k]? = some (some t) → (gfl ad f i fs)[k]? = some (.ref (ad t))
  | [], _, k, t, h => by simp at h
  | none :: r, i, 0, t, h => by simp at h
  | some u :: r, i, 0, t, h => by
    rw [List.getElem?_cons_zero] at h
    cases h
    rfl
  | none :: r, i, k + 1, t, h => by
    rw [List.getElem?_cons_succ] at h
    exact gfl_ref ad f r (i + 1) k t h
  | some u :: r, i, k + 1, t, h => by
    rw [List.getElem?_cons_succ] at h
    exact gfl_ref ad f r (i + 1) k t h
theorem gfl_upd0 (ad : Nat → Nat) (f : Nat → Int32) (j : Nat) (v : Int32) : ∀ (fs : List (Option Nat)) (i : Nat), j < i → gfl ad (upd f j v) i fs = gfl ad f i fs
  | [], _, _ => rfl
  | none :: r, i, h => by
    show Value.int (upd f j v i) :: gfl ad (upd f j v) (i + 1) r = .int (f i) :: gfl ad f (i + 1) r
    rw [gfl_upd0 ad f j v r (i + 1) (by omega)]
    congr 2
    unfold upd
    rw [if_neg (by omega)]
  | some t :: r, i, h => by
    show Value.ref (ad t) :: gfl ad (upd f j v) (i + 1) r = .ref (ad t) :: gfl ad f (i + 1) r
    rw [gfl_upd0 ad f j v r (i + 1) (by omega)]
theorem gfl_upd (ad : Nat → Nat) (f : Nat → Int32) (v : Int32) : ∀ (fs : List (Option Nat)) (i k : Nat), fs[k]? = some none → gfl ad (upd f (i + k) v) i fs = (gfl ad f i fs).set k (.int v)
  | [], _, k, h => by simp at h
  | none :: r, i, 0, _ => by
    show Value.int (upd f (i + 0) v i) :: gfl ad (upd f (i + 0) v) (i + 1) r = .int v :: gfl ad f (i + 1) r
    rw [gfl_upd0 ad f (i + 0) v r (i + 1) (by omega)]
    congr 2
    unfold upd
    rw [if_pos (by omega)]
  | some t :: r, i, 0, h => by simp at h
  | none :: r, i, k + 1, h => by
    rw [List.getElem?_cons_succ] at h
    show Value.int (upd f (i + (k + 1)) v i) :: gfl ad (upd f (i + (k + 1)) v) (i + 1) r = .int (f i) :: (gfl ad f (i + 1) r).set k (.int v)
    rw [show i + (k + 1) = i + 1 + k by omega, gfl_upd ad f v r (i + 1) k h]
    congr 2
    unfold upd
    rw [if_neg (by omega)]
  | some t :: r, i, k + 1, h => by
    rw [List.getElem?_cons_succ] at h
    show Value.ref (ad t) :: gfl ad (upd f (i + (k + 1)) v) (i + 1) r = .ref (ad t) :: (gfl ad f (i + 1) r).set k (.int v)
    rw [show i + (k + 1) = i + 1 + k by omega, gfl_upd ad f v r (i + 1) k h]
def gce (cy : Nat → ClassId) (ad : Nat → Nat) (f : Nat → Int32) (x : gSh) : va_E := match x with
  | .inl (ty, n, none) => .inl (cy ty, n, .inl f)
  | .inl (ty, n, some g) => .inl (cy ty, n, .inr (.inr (.inr (.inr (fun j => some (ad (g j)))))))
  | .inr (ci, fs) => .inr (ci, gfl ad f 0 fs)
/-- the array types by their numbers -/
def gty : Nat → FieldType
  | 0 => .int
  | 1 => .boolean
  | 2 => .object RX0
  | 3 => .object RX1
  | 4 => .object RX4
  | _ => .array .boolean
def gtys (cy : Nat → ClassId) : List (ClassId × FieldType) := [(cy 0, gty 0), (cy 1, gty 1), (cy 2, gty 2), (cy 3, gty 3), (cy 4, gty 4), (cy 5, gty 5)]
/-- which cells there are, and what each is -/
abbrev gG : Type := List Nat × (Nat → gSh)
def gP (G : gG) (D : va_G) (cy : Nat → ClassId) (ad : Nat → Nat) (σ : gSt) (H : Heap) : Prop := ∀ k, k ∈ G.1 → va_at D vwCl (ad k, gce cy ad (σ k) (G.2 k)) H
/-- the cells are apart -/
def gNd (G : gG) : Prop := ∀ (i j a : Nat), G.1[i]? = some a → G.1[j]? = some a → i = j
def gInj (G : gG) (ad : Nat → Nat) : Prop := gNd G ∧ ∀ i j, i ∈ G.1 → j ∈ G.1 → ad i = ad j → i = j
def gA (G : gG) (ad : Nat → Nat) (sz : Nat) : Nat → Prop := fun q => (∃ k, k ∈ G.1 ∧ ad k = q) ∨ sz ≤ q
theorem gA_in {G : gG} {ad : Nat → Nat} {sz k : Nat} (h : k ∈ G.1) : gA G ad sz (ad k) := Or.inl ⟨k, h, rfl⟩
theorem gA_new {G : gG} {ad : Nat → Nat} {sz q : Nat} (h : sz ≤ q) : gA G ad sz q := Or.inr h
theorem gA_le {G : gG} {ad : Nat → Nat} {sz sz2 : Nat} (h : sz ≤ sz2) : ∀ q, gA G ad sz2 q → gA G ad sz q := fun q hq => hq.elim Or.inl (fun z => Or.inr (Nat.le_trans h z))
/-- the world as the kit has worlds -/
def gws (G : gG) (cy : Nat → ClassId) (ad : Nat → Nat) (σ : gSt) : va_W := G.1.map (fun k => (ad k, gce cy ad (σ k) (G.2 k)))
theorem gws_P {G : gG} {D : va_G} {cy : Nat → ClassId} {ad : Nat → Nat} {σ : gSt} {H : Heap} (h : gP G D cy ad σ H) : va_P D vwCl (gws G cy ad σ) H := by
  intro i q hq
  obtain ⟨k, hk, rfl⟩ := List.mem_map.mp (List.mem_of_getElem? hq)
  exact h k hk
theorem gP_ws {G : gG} {D : va_G} {cy : Nat → ClassId} {ad : Nat → Nat} {σ : gSt} {H : Heap} (h : va_P D vwCl (gws G cy ad σ) H) : gP G D cy ad σ H := by
  intro k hk
  obtain ⟨i, hi⟩ := List.getElem?_of_mem (List.mem_map.mpr ⟨k, hk, rfl⟩ : (ad k, gce cy ad (σ k) (G.2 k)) ∈ gws G cy ad σ)
  exact h i _ hi
theorem gws_D {G : gG} {cy : Nat → ClassId} {ad : Nat → Nat} {σ : gSt} {sz : Nat} (h : gInj G ad) : va_D (gA G ad sz) (gws G cy ad σ) := by
  refine ⟨fun i j p q hi hj e => ?_, fun i q hq => ?_⟩
  · unfold gws at hi hj
    rw [List.getElem?_map] at hi hj
    cases ha : G.1[i]? with
    | none => rw [ha] at hi; cases hi
    | some a =>
      cases hb : G.1[j]? with
      | none => rw [hb] at hj; cases hj
      | some b =>
        rw [ha] at hi
        rw [hb] at hj
        cases hi
        cases hj
        have hab := h.2 a b (List.mem_of_getElem? ha) (List.mem_of_getElem? hb) e
        subst hab
        exact h.1 i j a ha hb
  · obtain ⟨k, hk, rfl⟩ := List.mem_map.mp (List.mem_of_getElem? hq)
    exact gA_in hk
theorem gws_at {G : gG} {cy : Nat → ClassId} {ad : Nat → Nat} {σ : gSt} {k : Nat} (hk : k ∈ G.1) {x : gSh} (hx : G.2 k = x) : ∃ i : Nat, G.1[i]? = some k ∧ (gws G cy ad σ)[i]? = some (ad k, gce cy ad (σ k) x) := by
  obtain ⟨i, hi⟩ := List.getElem?_of_mem hk
  refine ⟨i, hi, ?_⟩
  unfold gws
  rw [List.getElem?_map, hi, ← hx]
  rfl
theorem gws_set {G : gG} {cy : Nat → ClassId} {ad : Nat → Nat} {σ σ' : gSt} {i k : Nat} (hn : gNd G) (hi : G.1[i]? = some k) {e : va_E} (he : gce cy ad (σ' k) (G.2 k) = e) (hs : ∀ a, a ≠ k → σ' a = σ a) : (gws G cy ad σ).set i (ad k, e) = gws G cy ad σ' := by
  apply List.ext_getElem?
  intro j
  unfold gws
  by_cases hj : j = i
  · subst hj
    have hl : j < (G.1.map (fun k => (ad k, gce cy ad (σ k) (G.2 k)))).length := by rw [List.length_map]; exact (List.getElem?_eq_some_iff.mp hi).1
    rw [List.getElem?_set_self hl, List.getElem?_map, hi, ← he]
    rfl
  · rw [List.getElem?_set_ne (fun q => hj q.symm), List.getElem?_map, List.getElem?_map]
    cases ha : G.1[j]? with
    | none => rfl
    | some a =>
      have hak : a ≠ k := by
        intro q
        subst q
        exact hj (hn j i _ ha hi)
      show some (ad a, gce cy ad (σ a) (G.2 a)) = some (ad a, gce cy ad (σ' a) (G.2 a))
      rw [hs a hak]
theorem gP_kept {G : gG} {D : va_G} {cy : Nat → ClassId} {ad : Nat → Nat} {σ : gSt} {H H1 : Heap} (h : gP G D cy ad σ H) (hq : ∀ k, k ∈ G.1 → H1[ad k]? = H[ad k]?) : gP G D cy ad σ H1 := fun k hk => (h k hk).kept (hq k hk)
/-- the locals: of each none (not known), or what it holds -/
def gpl (ad : Nat → Nat) : Nat → List (Option gAV) → List (Nat × Value)
  | _, [] => []
  | i, none :: r => gpl ad (i + 1) r
  | i, some v :: r => (i, gv ad v) :: gpl ad (i + 1) r
theorem gpl_mem (ad : Nat → Nat) : ∀ (lv : List (Option gAV)) (i : Nat) (q : Nat × Value), q ∈ gpl ad i lv → ∃ (j : Nat) (v : gAV), lv[j]? = some (some v) ∧ q = (i + j, gv ad v)
  | [], _, q, h => by cases h
  | none :: r, i, q, h => by
    obtain ⟨j, v, h1, h2⟩ := gpl_mem ad r (i + 1) q h
    exact ⟨j + 1, v, by rw [List.getElem?_cons_succ]; exact h1, by rw [h2, show i + 1 + j = i + (j + 1) by omega]⟩
  | some w :: r, i, q, h => by
    rcases List.mem_cons.mp h with h | h
    · exact ⟨0, w, rfl, h⟩
    · obtain ⟨j, v, h1, h2⟩ := gpl_mem ad r (i + 1) q h
      exact ⟨j + 1, v, by rw [List.getElem?_cons_succ]; exact h1, by rw [h2, show i + 1 + j = i + (j + 1) by omega]⟩
theorem gpl_in (ad : Nat → Nat) : ∀ (lv : List (Option gAV)) (i j : Nat) (v : gAV), lv[j]? = some (some v) → (i + j, gv ad v) ∈ gpl ad i lv
  | [], _, j, v, h => by simp at h
  | none :: r, i, 0, v, h => by simp at h
  | some w :: r, i, 0, v, h => by
    rw [List.getElem?_cons_zero] at h
    cases h
    exact List.mem_cons_self
  | none :: r, i, j + 1, v, h => by
    rw [List.getElem?_cons_succ] at h
    have h1 := gpl_in ad r (i + 1) j v h
    rw [show i + 1 + j = i + (j + 1) by omega] at h1
    exact h1
  | some w :: r, i, j + 1, v, h => by
    rw [List.getElem?_cons_succ] at h
    have h1 := gpl_in ad r (i + 1) j v h
    rw [show i + 1 + j = i + (j + 1) by omega] at h1
    exact List.mem_cons_of_mem _ h1
def gLs (ad : Nat → Nat) (nL : Nat) (lv : List (Option gAV)) (ls : Array Slot) : Prop := lv_has ls nL (gpl ad 0 lv)
theorem gLs_at {ad : Nat → Nat} {nL : Nat} {lv : List (Option gAV)} {ls : Array Slot} (h : gLs ad nL lv ls) {i : Nat} {v : gAV} (hi : lv[i]? = some (some v)) : ls[i]? = some (.val (gv ad v)) := by
  have h1 := h.2.2 _ (gpl_in ad lv 0 i v hi)
  simpa using h1
theorem gLs_set {ad : Nat → Nat} {nL : Nat} {lv : List (Option gAV)} {ls : Array Slot} {i : Nat} {v : gAV} (h : lv_has ls nL ((i, gv ad v) :: (gpl ad 0 lv).filter (fun q => !(q.1 == i) && !(q.1 + 1 == i && q.2.category == 2)))) : gLs ad nL (lv.set i (some v)) ls := by
  refine ⟨h.1, h.2.1, fun q hq => ?_⟩
  obtain ⟨j, w, h1, h2⟩ := gpl_mem ad _ 0 q hq
  rw [Nat.zero_add] at h2
  subst h2
  by_cases e : j = i
  · subst e
    have hl : j < lv.length := by
      have := (List.getElem?_eq_some_iff.mp h1).1
      rwa [List.length_set] at this
    rw [List.getElem?_set_self hl] at h1
    cases h1
    exact h.2.2 _ List.mem_cons_self
  · rw [List.getElem?_set_ne (fun q => e q.symm)] at h1
    refine h.2.2 _ (List.mem_cons_of_mem _ (List.mem_filter.mpr ⟨?_, ?_⟩))
    · have h3 := gpl_in ad lv 0 j w h1
      rwa [Nat.zero_add] at h3
    · show (!(j == i) && !(j + 1 == i && (gv ad w).category == 2)) = true
      rw [gv_cat]
      simp [e]
theorem gLs_sub {ad : Nat → Nat} {nL : Nat} {lv lv' : List (Option gAV)} {ls : Array Slot} (h : gLs ad nL lv ls) (hs : ∀ (i : Nat) (v : gAV), lv'[i]? = some (some v) → lv[i]? = some (some v)) : gLs ad nL lv' ls := by
  refine ⟨h.1, h.2.1, fun q hq => ?_⟩
  obtain ⟨j, w, h1, h2⟩ := gpl_mem ad _ 0 q hq
  have h3 := gpl_in ad lv 0 j w (hs j w h1)
  rw [← h2] at h3
  exact h.2.2 _ h3
abbrev gOut : Type := Option gAV ⊕ Nat
/-- the exceptions by their numbers -/
def gE : Nat → String
  | 0 => "java/lang/IndexOutOfBoundsException"
  | _ => "java/lang/IllegalArgumentException"
/-- a method: its name, bytes, number of locals, words, frames and stack words that it needs -/
abbrev gM : Type := MethodName × ByteArray × Nat × List Cond × Nat × Nat × Option FieldType
abbrev gM.y (M : gM) : MethodName := M.1
abbrev gM.cc (M : gM) : ByteArray := M.2.1
abbrev gM.nL (M : gM) : Nat := M.2.2.1
abbrev gM.ws (M : gM) : List Cond := M.2.2.2.1
abbrev gM.fr (M : gM) : Nat := M.2.2.2.2.1
abbrev gM.lo (M : gM) : Nat := M.2.2.2.2.2.1
abbrev gM.ret (M : gM) : Option FieldType := M.2.2.2.2.2.2
/-- what the tables give beside the methods' own words -/
def gNest : List Cond := [.methodLinkNest RX0 17 yX6_voteOf RX6, .methodLinkNest RX1 59 yX6_ballotOf RX6, .methodLinkNest RX1 66 yX6_wordOf RX6, .methodLinkNest RX0 1 yX5_init RX6, .methodLinkNest RX1 3 yX5_init RX6, .methodLinkNest RX4 1 yX5_init RX6, .methodLinkNest RX6 15 yX4_init RX6]
def gCast : List Cond := [.castable (gE 0) (gE 0), .castable (gE 1) (gE 1), .declares (Bundle.initS "java/lang/RuntimeException"), .declares (Bundle.initS "java/lang/Exception"), .declares (Bundle.initS Bundle.tN)]
def gEnv (A : Nat → Prop) (U : State) (H : Heap) : Prop :=
  (∀ w ∈ gNest, va_Nw w U) ∧ (∀ w ∈ gCast, va_Nw w U) ∧ (∃ a, vk_R RX6 113 "n is not 0 .. 400" a U) ∧ (∃ a, vk_R RX6 192 "there is no such one" a U) ∧ (∃ a, vk_R RX6 200 "there is no such sort" a U) ∧
  vx_Zq Bundle.tN "UNASSIGNED_STACK" Bundle.steD A U H ∧ vx_Zq Bundle.tN "SUPPRESSED_SENTINEL" Bundle.listD A U H
theorem gNest_warm {s U : State} (hW : s.WarmedH U.vm) (h : ∀ w ∈ gNest, va_Nw w s) : ∀ w ∈ gNest, va_Nw w U := by
  intro w hw
  have h0 := h w hw
  unfold gNest at hw
  simp only [List.mem_cons, List.not_mem_nil, or_false] at hw
  rcases hw with rfl | rfl | rfl | rfl | rfl | rfl | rfl <;> exact va_Nw.warmM hW h0
theorem gCast_warm {s U : State} (hW : s.WarmedH U.vm) (h : ∀ w ∈ gCast, va_Nw w s) : ∀ w ∈ gCast, va_Nw w U := by
  intro w hw
  have h0 := h w hw
  unfold gCast at hw
  simp only [List.mem_cons, List.not_mem_nil, or_false] at hw
  rcases hw with rfl | rfl | rfl | rfl | rfl <;> first | exact va_Nw.warmC hW h0 | exact va_Nw.warmD hW h0
/-- seen from a callee: warmer tables, the same heap, fewer cells that may change -/
theorem gEnv.warm {A B : Nat → Prop} {s U : State} {H : Heap} (h : gEnv A s H) (hW : s.WarmedH U.vm) (hAB : ∀ q, B q → A q) : gEnv B U H := by
  obtain ⟨h1, h2, ⟨a3, h3⟩, ⟨a4, h4⟩, ⟨a5, h5⟩, h6, h7⟩ := h
  exact ⟨gNest_warm hW h1, gCast_warm hW h2, ⟨a3, h3.warm hW⟩, ⟨a4, h4.warm hW⟩, ⟨a5, h5.warm hW⟩, (h6.moved hW.alike).narrow hAB, (h7.moved hW.alike).narrow hAB⟩
theorem gEnv.kept {A : Nat → Prop} {s : State} {H H1 : Heap} (h : gEnv A s H) (hq : ∀ a : Nat, a < H.size → ¬ A a → H1[a]? = H[a]?) : gEnv A s H1 := by
  obtain ⟨h1, h2, h3, h4, h5, h6, h7⟩ := h
  exact ⟨h1, h2, h3, h4, h5, h6.kept hq, h7.kept hq⟩
theorem gEnv.step {A : Nat → Prop} {s : State} {H H1 : Heap} {locs locs1 : List Loc} (h : gEnv A s H) (hA : ∀ q, s.heap.size ≤ q → A q) (h0 : va_S A s.heap H locs) (h1 : va_S A s.heap H1 locs1) : gEnv A s H1 := by
  refine h.kept (fun a _ hn => ?_)
  have hlt : a < s.heap.size := Nat.lt_of_not_le (fun z => hn (hA a z))
  rw [h1.2.1 a hlt hn, h0.2.1 a hlt hn]
theorem gEnv.calling {A : Nat → Prop} {U : State} {H : Heap} {g : JFrame} {mk : MethodId} {a : Array Value} (h : gEnv A U H) : gEnv A (U.calling g mk a) H := by
  obtain ⟨h1, h2, ⟨a3, h3⟩, ⟨a4, h4⟩, ⟨a5, h5⟩, h6, h7⟩ := h
  have hv : (U.calling g mk a).vm = U.vm := rfl
  refine ⟨fun w hw => ?_, fun w hw => ?_, ⟨a3, h3.same hv⟩, ⟨a4, h4.same hv⟩, ⟨a5, h5.same hv⟩, h6.moved (Vm.Alike.refl U.vm), h7.moved (Vm.Alike.refl U.vm)⟩
  · have h0 := h1 w hw
    unfold gNest at hw
    simp only [List.mem_cons, List.not_mem_nil, or_false] at hw
    rcases hw with rfl | rfl | rfl | rfl | rfl | rfl | rfl <;> exact va_Nw.same rfl hv.symm h0
  · have h0 := h2 w hw
    unfold gCast at hw
    simp only [List.mem_cons, List.not_mem_nil, or_false] at hw
    rcases hw with rfl | rfl | rfl | rfl | rfl <;> exact va_Nw.same rfl hv.symm h0
/-- a method's start -/
def gPc (G : gG) (D : va_G) (cy : Nat → ClassId) (ad : Nat → Nat) (sz : Nat) (as : List gAV) (σ : gSt) : Array Value → State → Prop :=
  va_Pc (as.map (gv ad)) (fun U => U.heap.size = sz ∧ gP G D cy ad σ U.heap ∧ va_K D vwCl (gtys cy) U ∧ gEnv (gA G ad sz) U U.heap)
/-- a method's ends -/
def gQc (G : gG) (D : va_G) (cy : Nat → ClassId) (ad : Nat → Nat) (A : Nat → Prop) (Q : gOut → gSt → Prop) : Array Value → State → Outcome → State → Prop := fun _ st oc t =>
  (∃ (v : Option gAV) (σ : gSt), oc = .returned (v.map (gv ad)) ∧ Q (.inl v) σ ∧ gP G D cy ad σ t.heap) ∧ va_F A st t
def gXC (G : gG) (D : va_G) (cy : Nat → ClassId) (ad : Nat → Nat) (A : Nat → Prop) (Q : gOut → gSt → Prop) : String → State → State → Prop := fun E st t =>
  (∃ (k : Nat) (σ : gSt), E = gE k ∧ Q (.inr k) σ ∧ gP G D cy ad σ t.heap) ∧ va_F A st t
/-- THE CONTRACT: the method M, called with as in the store σ, with room for b exceptions, ends as Q says -/
def gEM (G : gG) (M : gM) (b : Nat) (as : List gAV) (σ : gSt) (Q : gOut → gSt → Prop) : Prop :=
  ∀ (l : Launch) (D : va_G) (cy : Nat → ClassId) (ad : Nat → Nat) (sz : Nat), l.stackTraces = false → gInj G ad →
    vx_Met l M.y M.ws { frames := M.fr, cells := b, slots := 6 * b, locals := M.lo } (gPc G D cy ad sz as σ) (gQc G D cy ad (gA G ad sz) Q) (gXC G D cy ad (gA G ad sz) Q) b (6 * b) (gA G ad sz)
/-- what holds all along a walk of M's body -/
def gCx (G : gG) (M : gM) (b : Nat) (p : Program) (l : Launch) (R : Room) (s : State) (m : MethodId) (args : Array Value) (meth : Method) (c : Code) (D : va_G) (cy : Nat → ClassId) (ad : Nat → Nat) (cells slots mc ms : Nat) : Prop :=
  (p.tables.exec = Jvm.exec ∧ c.code = M.cc ∧ c.maxLocals = M.nL ∧ s.vm.findClass M.y.cls = some m.cls ∧ (∀ w ∈ M.ws, w.before args s = true)) ∧ l.stackTraces = false ∧ gInj G ad ∧
  (M.fr ≤ R.frames ∧ M.lo ≤ R.locals ∧ mc ≤ R.cells ∧ ms ≤ R.slots) ∧ (∀ x ∈ c.exceptionTable.toList, False) ∧ meth.locks = false ∧ va_K D vwCl (gtys cy) s ∧ (cells + b ≤ mc ∧ slots + 6 * b ≤ ms) ∧ meth.sig.returnType = M.ret
/-- what the heap holds there -/
def gHx (G : gG) (s : State) (D : va_G) (cy : Nat → ClassId) (ad : Nat → Nat) (σ : gSt) (H : Heap) (locs : List Loc) : Prop :=
  gP G D cy ad σ H ∧ va_S (gA G ad s.heap.size) s.heap H locs ∧ gEnv (gA G ad s.heap.size) s H
/-- FROM HERE: M's body at pc, with the locals lv and the operands st, in the store σ, comes to an end that Q allows -/
def gEx (G : gG) (M : gM) (b : Nat) (pc : Nat) (lv : List (Option gAV)) (st : List gAV) (σ : gSt) (Q : gOut → gSt → Prop) : Prop :=
  ∀ (p : Program) (l : Launch) (e : Env) (R : Room) (s : State) (m : MethodId) (args : Array Value) (below : List Frame) (meth : Method) (c : Code) (D : va_G) (cy : Nat → ClassId) (ad : Nat → Nat) (H : Heap) (locs : List Loc) (cells slots mc ms : Nat) (ls : Array Slot),
    gCx G M b p l R s m args meth c D cy ad cells slots mc ms → gHx G s D cy ad σ H locs → gLs ad M.nL lv ls →
    W p l e R s m args below meth c H locs cells slots (vx_MQ below (gQc G D cy ad (gA G ad s.heap.size) Q) (gXC G D cy ad (gA G ad s.heap.size) Q) args s mc ms (gA G ad s.heap.size)) (F0 m pc ls (st.map (gv ad)))
theorem gEx.eq {G : gG} {M : gM} {b pc : Nat} {lv lv' : List (Option gAV)} {st st' : List gAV} {σ σ' : gSt} {Q : gOut → gSt → Prop} (h1 : lv = lv') (h2 : st = st') (h3 : σ = σ') (k : gEx G M b pc lv' st' σ' Q) : gEx G M b pc lv st σ Q := by
  subst h1; subst h2; subst h3; exact k
/-- the locals with which a method begins -/
def gL0 (as : List gAV) (nL : Nat) : List (Option gAV) := as.map some ++ List.replicate (nL - as.length) none
theorem gsl (ad : Nat → Nat) : ∀ as : List gAV, lg_sl (as.map (gv ad)) = as.map (fun a => Slot.val (gv ad a))
  | [] => rfl
  | a :: as => by
    have h := gsl ad as
    unfold lg_sl at h ⊢
    rw [List.map_cons, List.flatMap_cons, h, gv_cat]
    rfl
theorem gar (ad : Nat → Nat) : ∀ (as : List gAV) (i j : Nat) (v : gAV), as[j]? = some v → (i + j, gv ad v) ∈ lv_args i (as.map (gv ad))
  | [], _, j, v, h => by simp at h
  | a :: as, i, 0, v, h => by
    rw [List.getElem?_cons_zero] at h
    cases h
    exact List.mem_cons_self
  | a :: as, i, j + 1, v, h => by
    rw [List.getElem?_cons_succ] at h
    have h1 := gar ad as (i + 1) j v h
    rw [show i + 1 + j = i + (j + 1) by omega] at h1
    show _ ∈ (i, gv ad a) :: lv_args (if (gv ad a).category = 2 then i + 2 else i + 1) (as.map (gv ad))
    rw [gv_cat]
    exact List.mem_cons_of_mem _ h1
theorem gLs_0 {ad : Nat → Nat} {as : List gAV} {nL : Nat} (h : as.length ≤ nL) : gLs ad nL (gL0 as nL) ((lg_sl (as.map (gv ad)) ++ List.replicate (nL - (lg_sl (as.map (gv ad))).length) Slot.unset).toArray) := by
  have hlen : (lg_sl (as.map (gv ad))).length = as.length := by rw [gsl, List.length_map]
  have h1 := lv_entry (as.map (gv ad)) (n := nL) (by rw [hlen]; exact h)
  refine ⟨h1.1, h1.2.1, fun q hq => ?_⟩
  obtain ⟨j, v, h2, h3⟩ := gpl_mem ad _ 0 q hq
  unfold gL0 at h2
  have h4 : as[j]? = some v := by
    by_cases hj : j < (as.map some).length
    · rw [List.getElem?_append_left hj, List.getElem?_map] at h2
      cases ha : as[j]? with
      | none => rw [ha] at h2; cases h2
      | some w => rw [ha] at h2; cases h2; rfl
    · rw [List.getElem?_append_right (by omega)] at h2
      have h5 := List.mem_of_getElem? h2
      have := (List.mem_replicate.mp h5).2
      cases this
  rw [h3]
  exact h1.2.2 _ (gar ad as 0 j v h4)
theorem gEM_of {G : gG} {M : gM} {b : Nat} {as : List gAV} {σ : gSt} {Q : gOut → gSt → Prop} {ws' : List Cond} (hy : plainName M.y.cls = true) (hw : M.ws = Cond.code M.y M.cc M.nL M.ret :: ws') (hn : as.length ≤ M.nL)
    (k : gEx G M b 0 (gL0 as M.nL) [] σ Q) : gEM G M b as σ Q := by
  intro l D cy ad sz hl hi
  refine vx_ofW (cc := M.cc) (maxL := M.nL) (ret := M.ret) hy hw ?_
  intro p e s m args below meth c s₁ B hml ht hv
  obtain ⟨hargs, hsz, hP, hK, hE⟩ := hv
  subst hsz
  subst hargs
  rw [lg_entry_eq]
  exact k p l e _ s m _ below meth c D cy ad s.heap [] 0 0 b (6 * b) _ ⟨⟨B.exec, B.bytes, hml, findClass_of_methodNamed B.named, atoms_spec (ws := M.ws) B.pre⟩, hl, hi, ⟨Nat.le_refl _, Nat.le_refl _, Nat.le_refl _, Nat.le_refl _⟩, ht, B.notSynchronized, hK, by omega, B.returns⟩ ⟨hP, va_S.rf, hE⟩ (gLs_0 hn)
theorem gEM_mono {G : gG} {M : gM} {b : Nat} {as : List gAV} {σ : gSt} {Q Q' : gOut → gSt → Prop} (h : gEM G M b as σ Q) (hq : ∀ o σ', Q o σ' → Q' o σ') : gEM G M b as σ Q' := by
  intro l D cy ad sz hl hi p e ha hc hk s m args below hf happ hP hK
  obtain ⟨n, o, h1, h2, h3, h4⟩ := h l D cy ad sz hl hi p e ha hc hk s m args below hf happ hP hK
  refine ⟨n, o, h1, h2, h3, ?_⟩
  rcases h4 with ⟨⟨⟨v, σ1, e1, e2, e3⟩, e4⟩, e5⟩ | ⟨q, e1, E, ce, L, ⟨⟨k, σ1, f1, f2, f3⟩, f4⟩, f5⟩
  · exact Or.inl ⟨⟨⟨v, σ1, e1, hq _ _ e2, e3⟩, e4⟩, e5⟩
  · exact Or.inr ⟨q, e1, E, ce, L, ⟨⟨k, σ1, f1, hq _ _ f2, f3⟩, f4⟩, f5⟩
end
section
section GR
variable {G : gG} {M : gM} {b pc : Nat} {lv : List (Option gAV)} {st : List gAV} {σ : gSt} {Q : gOut → gSt → Prop}
theorem g_iconst {n : Int} (v : Int32) (d : decode M.cc pc = .ok (.iconst n, 1)) (hv : Int32.ofInt n = v) (k : gEx G M b (pc + 1) lv (.inl v :: st) σ Q) : gEx G M b pc lv st σ Q := by
  intro p l e R s m args below meth c D cy ad H locs cells slots mc ms ls C X L
  exact lv_iconst C.1.1 C.1.2.1 d hv (k p l e R s m args below meth c D cy ad H locs cells slots mc ms ls C X L)
theorem g_bipush {n : Int} (v : Int32) (d : decode M.cc pc = .ok (.bipush n, 2)) (hv : (Int8.ofInt n).toInt32 = v) (k : gEx G M b (pc + 2) lv (.inl v :: st) σ Q) : gEx G M b pc lv st σ Q := by
  intro p l e R s m args below meth c D cy ad H locs cells slots mc ms ls C X L
  exact lv_bipush C.1.1 C.1.2.1 d hv (k p l e R s m args below meth c D cy ad H locs cells slots mc ms ls C X L)
theorem g_sipush {n : Int} (v : Int32) (d : decode M.cc pc = .ok (.sipush n, 3)) (hv : (Int16.ofInt n).toInt32 = v) (k : gEx G M b (pc + 3) lv (.inl v :: st) σ Q) : gEx G M b pc lv st σ Q := by
  intro p l e R s m args below meth c D cy ad H locs cells slots mc ms ls C X L
  exact lv_sipush C.1.1 C.1.2.1 d hv (k p l e R s m args below meth c D cy ad H locs cells slots mc ms ls C X L)
theorem g_iload_n {i : Fin 4} {x : Int32} (d : decode M.cc pc = .ok (.iload_n i, 1)) (h : lv[(i : Nat)]? = some (some (.inl x))) (k : gEx G M b (pc + 1) lv (.inl x :: st) σ Q) : gEx G M b pc lv st σ Q := by
  intro p l e R s m args below meth c D cy ad H locs cells slots mc ms ls C X L
  exact lv_iload_n C.1.1 C.1.2.1 d rfl (gLs_at L h) (k p l e R s m args below meth c D cy ad H locs cells slots mc ms ls C X L)
theorem g_iload {i : Nat} {x : Int32} (d : decode M.cc pc = .ok (.iload i, 2)) (h : lv[i]? = some (some (.inl x))) (k : gEx G M b (pc + 2) lv (.inl x :: st) σ Q) : gEx G M b pc lv st σ Q := by
  intro p l e R s m args below meth c D cy ad H locs cells slots mc ms ls C X L
  exact lv_iload C.1.1 C.1.2.1 d (gLs_at L h) (k p l e R s m args below meth c D cy ad H locs cells slots mc ms ls C X L)
theorem g_aload_n {i : Fin 4} {x : Nat} (d : decode M.cc pc = .ok (.aload_n i, 1)) (h : lv[(i : Nat)]? = some (some (.inr x))) (k : gEx G M b (pc + 1) lv (.inr x :: st) σ Q) : gEx G M b pc lv st σ Q := by
  intro p l e R s m args below meth c D cy ad H locs cells slots mc ms ls C X L
  exact lv_aload_n C.1.1 C.1.2.1 d rfl (gLs_at L h) (k p l e R s m args below meth c D cy ad H locs cells slots mc ms ls C X L)
theorem g_aload {i : Nat} {x : Nat} (d : decode M.cc pc = .ok (.aload i, 2)) (h : lv[i]? = some (some (.inr x))) (k : gEx G M b (pc + 2) lv (.inr x :: st) σ Q) : gEx G M b pc lv st σ Q := by
  intro p l e R s m args below meth c D cy ad H locs cells slots mc ms ls C X L
  exact lv_aload C.1.1 C.1.2.1 d (gLs_at L h) (k p l e R s m args below meth c D cy ad H locs cells slots mc ms ls C X L)
theorem g_istore_n {i : Fin 4} {x : Int32} (d : decode M.cc pc = .ok (.istore_n i, 1)) (hn : (i : Nat) < M.nL) (k : gEx G M b (pc + 1) (lv.set i (some (.inl x))) st σ Q) : gEx G M b pc lv (.inl x :: st) σ Q := by
  intro p l e R s m args below meth c D cy ad H locs cells slots mc ms ls C X L
  exact lv_istore_n (lv := gpl ad 0 lv) C.1.1 C.1.2.1 d rfl L hn rfl (fun ls1 h1 => k p l e R s m args below meth c D cy ad H locs cells slots mc ms ls1 C X (gLs_set h1))
theorem g_istore {i : Nat} {x : Int32} (d : decode M.cc pc = .ok (.istore i, 2)) (hn : i < M.nL) (k : gEx G M b (pc + 2) (lv.set i (some (.inl x))) st σ Q) : gEx G M b pc lv (.inl x :: st) σ Q := by
  intro p l e R s m args below meth c D cy ad H locs cells slots mc ms ls C X L
  exact lv_istore (lv := gpl ad 0 lv) C.1.1 C.1.2.1 d L hn rfl (fun ls1 h1 => k p l e R s m args below meth c D cy ad H locs cells slots mc ms ls1 C X (gLs_set h1))
theorem g_astore_n {i : Fin 4} {x : Nat} (d : decode M.cc pc = .ok (.astore_n i, 1)) (hn : (i : Nat) < M.nL) (k : gEx G M b (pc + 1) (lv.set i (some (.inr x))) st σ Q) : gEx G M b pc lv (.inr x :: st) σ Q := by
  intro p l e R s m args below meth c D cy ad H locs cells slots mc ms ls C X L
  exact lv_astore_n (lv := gpl ad 0 lv) C.1.1 C.1.2.1 d rfl L hn rfl (fun ls1 h1 => k p l e R s m args below meth c D cy ad H locs cells slots mc ms ls1 C X (gLs_set h1))
theorem g_astore {i : Nat} {x : Nat} (d : decode M.cc pc = .ok (.astore i, 2)) (hn : i < M.nL) (k : gEx G M b (pc + 2) (lv.set i (some (.inr x))) st σ Q) : gEx G M b pc lv (.inr x :: st) σ Q := by
  intro p l e R s m args below meth c D cy ad H locs cells slots mc ms ls C X L
  exact lv_astore (lv := gpl ad 0 lv) C.1.1 C.1.2.1 d L hn rfl (fun ls1 h1 => k p l e R s m args below meth c D cy ad H locs cells slots mc ms ls1 C X (gLs_set h1))
theorem g_iinc {i : Nat} {n : Int} {x : Int32} (v : Int32) (d : decode M.cc pc = .ok (.iinc i n, 3)) (h : lv[i]? = some (some (.inl x))) (hv : x + Int32.ofInt n = v) (hn : i < M.nL) (k : gEx G M b (pc + 3) (lv.set i (some (.inl v))) st σ Q) : gEx G M b pc lv st σ Q := by
  intro p l e R s m args below meth c D cy ad H locs cells slots mc ms ls C X L
  have h0 := gpl_in ad lv 0 i _ h
  rw [Nat.zero_add] at h0
  obtain ⟨j, hj⟩ := List.getElem?_of_mem h0
  exact lv_iinc (v := v) (lv := gpl ad 0 lv) C.1.1 C.1.2.1 d L hj hv hn rfl (fun ls1 h1 => k p l e R s m args below meth c D cy ad H locs cells slots mc ms ls1 C X (gLs_set (v := .inl v) h1))
theorem g_iadd {x y : Int32} (d : decode M.cc pc = .ok (.iadd, 1)) (k : gEx G M b (pc + 1) lv (.inl (x + y) :: st) σ Q) : gEx G M b pc lv (.inl y :: .inl x :: st) σ Q := by
  intro p l e R s m args below meth c D cy ad H locs cells slots mc ms ls C X L
  exact lv_iadd C.1.1 C.1.2.1 d (k p l e R s m args below meth c D cy ad H locs cells slots mc ms ls C X L)
theorem g_isub {x y : Int32} (d : decode M.cc pc = .ok (.isub, 1)) (k : gEx G M b (pc + 1) lv (.inl (x - y) :: st) σ Q) : gEx G M b pc lv (.inl y :: .inl x :: st) σ Q := by
  intro p l e R s m args below meth c D cy ad H locs cells slots mc ms ls C X L
  exact lv_isub C.1.1 C.1.2.1 d (k p l e R s m args below meth c D cy ad H locs cells slots mc ms ls C X L)
theorem g_imul {x y : Int32} (d : decode M.cc pc = .ok (.imul, 1)) (k : gEx G M b (pc + 1) lv (.inl (x * y) :: st) σ Q) : gEx G M b pc lv (.inl y :: .inl x :: st) σ Q := by
  intro p l e R s m args below meth c D cy ad H locs cells slots mc ms ls C X L
  exact lv_imul C.1.1 C.1.2.1 d (k p l e R s m args below meth c D cy ad H locs cells slots mc ms ls C X L)
theorem g_iand {x y : Int32} (d : decode M.cc pc = .ok (.iand, 1)) (k : gEx G M b (pc + 1) lv (.inl (x &&& y) :: st) σ Q) : gEx G M b pc lv (.inl y :: .inl x :: st) σ Q := by
  intro p l e R s m args below meth c D cy ad H locs cells slots mc ms ls C X L
  exact lv_iand C.1.1 C.1.2.1 d (k p l e R s m args below meth c D cy ad H locs cells slots mc ms ls C X L)
theorem g_ior {x y : Int32} (d : decode M.cc pc = .ok (.ior, 1)) (k : gEx G M b (pc + 1) lv (.inl (x ||| y) :: st) σ Q) : gEx G M b pc lv (.inl y :: .inl x :: st) σ Q := by
  intro p l e R s m args below meth c D cy ad H locs cells slots mc ms ls C X L
  exact lv_ior C.1.1 C.1.2.1 d (k p l e R s m args below meth c D cy ad H locs cells slots mc ms ls C X L)
theorem g_ixor {x y : Int32} (d : decode M.cc pc = .ok (.ixor, 1)) (k : gEx G M b (pc + 1) lv (.inl (x ^^^ y) :: st) σ Q) : gEx G M b pc lv (.inl y :: .inl x :: st) σ Q := by
  intro p l e R s m args below meth c D cy ad H locs cells slots mc ms ls C X L
  exact lv_ixor C.1.1 C.1.2.1 d (k p l e R s m args below meth c D cy ad H locs cells slots mc ms ls C X L)
theorem g_ishl {x y : Int32} (d : decode M.cc pc = .ok (.ishl, 1)) (k : gEx G M b (pc + 1) lv (.inl (x <<< (y &&& 31)) :: st) σ Q) : gEx G M b pc lv (.inl y :: .inl x :: st) σ Q := by
  intro p l e R s m args below meth c D cy ad H locs cells slots mc ms ls C X L
  exact lv_ishl C.1.1 C.1.2.1 d (k p l e R s m args below meth c D cy ad H locs cells slots mc ms ls C X L)
theorem g_ishr {x y : Int32} (d : decode M.cc pc = .ok (.ishr, 1)) (k : gEx G M b (pc + 1) lv (.inl (x >>> (y &&& 31)) :: st) σ Q) : gEx G M b pc lv (.inl y :: .inl x :: st) σ Q := by
  intro p l e R s m args below meth c D cy ad H locs cells slots mc ms ls C X L
  exact lv_ishr C.1.1 C.1.2.1 d (k p l e R s m args below meth c D cy ad H locs cells slots mc ms ls C X L)
theorem g_idiv {x y : Int32} (d : decode M.cc pc = .ok (.idiv, 1)) (hne : ¬ y = 0) (k : gEx G M b (pc + 1) lv (.inl (x / y) :: st) σ Q) : gEx G M b pc lv (.inl y :: .inl x :: st) σ Q := by
  intro p l e R s m args below meth c D cy ad H locs cells slots mc ms ls C X L
  exact lv_idiv C.1.1 C.1.2.1 d hne (k p l e R s m args below meth c D cy ad H locs cells slots mc ms ls C X L)
theorem g_irem {x y : Int32} (d : decode M.cc pc = .ok (.irem, 1)) (hne : ¬ y = 0) (k : gEx G M b (pc + 1) lv (.inl (x - x / y * y) :: st) σ Q) : gEx G M b pc lv (.inl y :: .inl x :: st) σ Q := by
  intro p l e R s m args below meth c D cy ad H locs cells slots mc ms ls C X L
  exact lv_irem C.1.1 C.1.2.1 d hne (k p l e R s m args below meth c D cy ad H locs cells slots mc ms ls C X L)
theorem g_iushr {x y : Int32} (d : decode M.cc pc = .ok (.iushr, 1)) (k : gEx G M b (pc + 1) lv (.inl ((x.toUInt32 >>> (y.toUInt32 &&& Int32.toUInt32 31)).toInt32) :: st) σ Q) : gEx G M b pc lv (.inl y :: .inl x :: st) σ Q := by
  intro p l e R s m args below meth c D cy ad H locs cells slots mc ms ls C X L
  exact lv_iushr C.1.1 C.1.2.1 d rfl (k p l e R s m args below meth c D cy ad H locs cells slots mc ms ls C X L)
theorem g_ineg {x : Int32} (d : decode M.cc pc = .ok (.ineg, 1)) (k : gEx G M b (pc + 1) lv (.inl (-x) :: st) σ Q) : gEx G M b pc lv (.inl x :: st) σ Q := by
  intro p l e R s m args below meth c D cy ad H locs cells slots mc ms ls C X L
  exact lv_ineg C.1.1 C.1.2.1 d (k p l e R s m args below meth c D cy ad H locs cells slots mc ms ls C X L)
theorem g_dup {x : gAV} (d : decode M.cc pc = .ok (.dup, 1)) (k : gEx G M b (pc + 1) lv (x :: x :: st) σ Q) : gEx G M b pc lv (x :: st) σ Q := by
  intro p l e R s m args below meth c D cy ad H locs cells slots mc ms ls C X L
  exact lv_dup C.1.1 C.1.2.1 d (gv_cat ad x) (k p l e R s m args below meth c D cy ad H locs cells slots mc ms ls C X L)
theorem g_pop {x : gAV} (d : decode M.cc pc = .ok (.pop, 1)) (k : gEx G M b (pc + 1) lv st σ Q) : gEx G M b pc lv (x :: st) σ Q := by
  intro p l e R s m args below meth c D cy ad H locs cells slots mc ms ls C X L
  exact lv_pop C.1.1 C.1.2.1 d (gv_cat ad x) (k p l e R s m args below meth c D cy ad H locs cells slots mc ms ls C X L)
theorem g_dup2 {x y : gAV} (d : decode M.cc pc = .ok (.dup2, 1)) (k : gEx G M b (pc + 1) lv (x :: y :: x :: y :: st) σ Q) : gEx G M b pc lv (x :: y :: st) σ Q := by
  intro p l e R s m args below meth c D cy ad H locs cells slots mc ms ls C X L
  exact lv_dup2_11 C.1.1 C.1.2.1 d (gv_cat ad x) (gv_cat ad y) (k p l e R s m args below meth c D cy ad H locs cells slots mc ms ls C X L)
theorem g_goto {off : Int} (tgt : Nat) (d : decode M.cc pc = .ok (.goto off, 3)) (ht : (pc : Int) + off = (tgt : Int)) (k : gEx G M b tgt lv st σ Q) : gEx G M b pc lv st σ Q := by
  intro p l e R s m args below meth c D cy ad H locs cells slots mc ms ls C X L
  exact lv_goto C.1.1 C.1.2.1 d ht (k p l e R s m args below meth c D cy ad H locs cells slots mc ms ls C X L)
theorem g_icmp_eq {x y : Int32} {off : Int} (tgt : Nat) (d : decode M.cc pc = .ok (.if_icmp .eq off, 3)) (ht : (pc : Int) + off = (tgt : Int)) (kt : x = y → gEx G M b tgt lv st σ Q) (kf : ¬ (x = y) → gEx G M b (pc + 3) lv st σ Q) : gEx G M b pc lv (.inl y :: .inl x :: st) σ Q := by
  intro p l e R s m args below meth c D cy ad H locs cells slots mc ms ls C X L
  exact lv_icmp_eq C.1.1 C.1.2.1 d ht (fun h => kt (by first | exact h | simpa using h) p l e R s m args below meth c D cy ad H locs cells slots mc ms ls C X L) (fun h => kf (by first | exact h | simpa using h) p l e R s m args below meth c D cy ad H locs cells slots mc ms ls C X L)
theorem g_if_eq {x : Int32} {off : Int} (tgt : Nat) (d : decode M.cc pc = .ok (.ifCond .eq off, 3)) (ht : (pc : Int) + off = (tgt : Int)) (kt : x = 0 → gEx G M b tgt lv st σ Q) (kf : ¬ (x = 0) → gEx G M b (pc + 3) lv st σ Q) : gEx G M b pc lv (.inl x :: st) σ Q := by
  intro p l e R s m args below meth c D cy ad H locs cells slots mc ms ls C X L
  exact lv_if_eq C.1.1 C.1.2.1 d ht (fun h => kt (by first | exact h | simpa using h) p l e R s m args below meth c D cy ad H locs cells slots mc ms ls C X L) (fun h => kf (by first | exact h | simpa using h) p l e R s m args below meth c D cy ad H locs cells slots mc ms ls C X L)
theorem g_icmp_ne {x y : Int32} {off : Int} (tgt : Nat) (d : decode M.cc pc = .ok (.if_icmp .ne off, 3)) (ht : (pc : Int) + off = (tgt : Int)) (kt : ¬ x = y → gEx G M b tgt lv st σ Q) (kf : ¬ (¬ x = y) → gEx G M b (pc + 3) lv st σ Q) : gEx G M b pc lv (.inl y :: .inl x :: st) σ Q := by
  intro p l e R s m args below meth c D cy ad H locs cells slots mc ms ls C X L
  exact lv_icmp_ne C.1.1 C.1.2.1 d ht (fun h => kt (by first | exact h | simpa using h) p l e R s m args below meth c D cy ad H locs cells slots mc ms ls C X L) (fun h => kf (by first | exact h | simpa using h) p l e R s m args below meth c D cy ad H locs cells slots mc ms ls C X L)
theorem g_if_ne {x : Int32} {off : Int} (tgt : Nat) (d : decode M.cc pc = .ok (.ifCond .ne off, 3)) (ht : (pc : Int) + off = (tgt : Int)) (kt : ¬ x = 0 → gEx G M b tgt lv st σ Q) (kf : ¬ (¬ x = 0) → gEx G M b (pc + 3) lv st σ Q) : gEx G M b pc lv (.inl x :: st) σ Q := by
  intro p l e R s m args below meth c D cy ad H locs cells slots mc ms ls C X L
  exact lv_if_ne C.1.1 C.1.2.1 d ht (fun h => kt (by first | exact h | simpa using h) p l e R s m args below meth c D cy ad H locs cells slots mc ms ls C X L) (fun h => kf (by first | exact h | simpa using h) p l e R s m args below meth c D cy ad H locs cells slots mc ms ls C X L)
theorem g_icmp_lt {x y : Int32} {off : Int} (tgt : Nat) (d : decode M.cc pc = .ok (.if_icmp .lt off, 3)) (ht : (pc : Int) + off = (tgt : Int)) (kt : x < y → gEx G M b tgt lv st σ Q) (kf : ¬ (x < y) → gEx G M b (pc + 3) lv st σ Q) : gEx G M b pc lv (.inl y :: .inl x :: st) σ Q := by
  intro p l e R s m args below meth c D cy ad H locs cells slots mc ms ls C X L
  exact lv_icmp_lt C.1.1 C.1.2.1 d ht (fun h => kt (by first | exact h | simpa using h) p l e R s m args below meth c D cy ad H locs cells slots mc ms ls C X L) (fun h => kf (by first | exact h | simpa using h) p l e R s m args below meth c D cy ad H locs cells slots mc ms ls C X L)
theorem g_if_lt {x : Int32} {off : Int} (tgt : Nat) (d : decode M.cc pc = .ok (.ifCond .lt off, 3)) (ht : (pc : Int) + off = (tgt : Int)) (kt : x < 0 → gEx G M b tgt lv st σ Q) (kf : ¬ (x < 0) → gEx G M b (pc + 3) lv st σ Q) : gEx G M b pc lv (.inl x :: st) σ Q := by
  intro p l e R s m args below meth c D cy ad H locs cells slots mc ms ls C X L
  exact lv_if_lt C.1.1 C.1.2.1 d ht (fun h => kt (by first | exact h | simpa using h) p l e R s m args below meth c D cy ad H locs cells slots mc ms ls C X L) (fun h => kf (by first | exact h | simpa using h) p l e R s m args below meth c D cy ad H locs cells slots mc ms ls C X L)
theorem g_icmp_ge {x y : Int32} {off : Int} (tgt : Nat) (d : decode M.cc pc = .ok (.if_icmp .ge off, 3)) (ht : (pc : Int) + off = (tgt : Int)) (kt : y ≤ x → gEx G M b tgt lv st σ Q) (kf : ¬ (y ≤ x) → gEx G M b (pc + 3) lv st σ Q) : gEx G M b pc lv (.inl y :: .inl x :: st) σ Q := by
  intro p l e R s m args below meth c D cy ad H locs cells slots mc ms ls C X L
  exact lv_icmp_ge C.1.1 C.1.2.1 d ht (fun h => kt (by first | exact h | simpa using h) p l e R s m args below meth c D cy ad H locs cells slots mc ms ls C X L) (fun h => kf (by first | exact h | simpa using h) p l e R s m args below meth c D cy ad H locs cells slots mc ms ls C X L)
theorem g_if_ge {x : Int32} {off : Int} (tgt : Nat) (d : decode M.cc pc = .ok (.ifCond .ge off, 3)) (ht : (pc : Int) + off = (tgt : Int)) (kt : 0 ≤ x → gEx G M b tgt lv st σ Q) (kf : ¬ (0 ≤ x) → gEx G M b (pc + 3) lv st σ Q) : gEx G M b pc lv (.inl x :: st) σ Q := by
  intro p l e R s m args below meth c D cy ad H locs cells slots mc ms ls C X L
  exact lv_if_ge C.1.1 C.1.2.1 d ht (fun h => kt (by first | exact h | simpa using h) p l e R s m args below meth c D cy ad H locs cells slots mc ms ls C X L) (fun h => kf (by first | exact h | simpa using h) p l e R s m args below meth c D cy ad H locs cells slots mc ms ls C X L)
theorem g_icmp_gt {x y : Int32} {off : Int} (tgt : Nat) (d : decode M.cc pc = .ok (.if_icmp .gt off, 3)) (ht : (pc : Int) + off = (tgt : Int)) (kt : y < x → gEx G M b tgt lv st σ Q) (kf : ¬ (y < x) → gEx G M b (pc + 3) lv st σ Q) : gEx G M b pc lv (.inl y :: .inl x :: st) σ Q := by
  intro p l e R s m args below meth c D cy ad H locs cells slots mc ms ls C X L
  exact lv_icmp_gt C.1.1 C.1.2.1 d ht (fun h => kt (by first | exact h | simpa using h) p l e R s m args below meth c D cy ad H locs cells slots mc ms ls C X L) (fun h => kf (by first | exact h | simpa using h) p l e R s m args below meth c D cy ad H locs cells slots mc ms ls C X L)
theorem g_if_gt {x : Int32} {off : Int} (tgt : Nat) (d : decode M.cc pc = .ok (.ifCond .gt off, 3)) (ht : (pc : Int) + off = (tgt : Int)) (kt : 0 < x → gEx G M b tgt lv st σ Q) (kf : ¬ (0 < x) → gEx G M b (pc + 3) lv st σ Q) : gEx G M b pc lv (.inl x :: st) σ Q := by
  intro p l e R s m args below meth c D cy ad H locs cells slots mc ms ls C X L
  exact lv_if_gt C.1.1 C.1.2.1 d ht (fun h => kt (by first | exact h | simpa using h) p l e R s m args below meth c D cy ad H locs cells slots mc ms ls C X L) (fun h => kf (by first | exact h | simpa using h) p l e R s m args below meth c D cy ad H locs cells slots mc ms ls C X L)
theorem g_icmp_le {x y : Int32} {off : Int} (tgt : Nat) (d : decode M.cc pc = .ok (.if_icmp .le off, 3)) (ht : (pc : Int) + off = (tgt : Int)) (kt : x ≤ y → gEx G M b tgt lv st σ Q) (kf : ¬ (x ≤ y) → gEx G M b (pc + 3) lv st σ Q) : gEx G M b pc lv (.inl y :: .inl x :: st) σ Q := by
  intro p l e R s m args below meth c D cy ad H locs cells slots mc ms ls C X L
  exact lv_icmp_le C.1.1 C.1.2.1 d ht (fun h => kt (by first | exact h | simpa using h) p l e R s m args below meth c D cy ad H locs cells slots mc ms ls C X L) (fun h => kf (by first | exact h | simpa using h) p l e R s m args below meth c D cy ad H locs cells slots mc ms ls C X L)
theorem g_if_le {x : Int32} {off : Int} (tgt : Nat) (d : decode M.cc pc = .ok (.ifCond .le off, 3)) (ht : (pc : Int) + off = (tgt : Int)) (kt : x ≤ 0 → gEx G M b tgt lv st σ Q) (kf : ¬ (x ≤ 0) → gEx G M b (pc + 3) lv st σ Q) : gEx G M b pc lv (.inl x :: st) σ Q := by
  intro p l e R s m args below meth c D cy ad H locs cells slots mc ms ls C X L
  exact lv_if_le C.1.1 C.1.2.1 d ht (fun h => kt (by first | exact h | simpa using h) p l e R s m args below meth c D cy ad H locs cells slots mc ms ls C X L) (fun h => kf (by first | exact h | simpa using h) p l e R s m args below meth c D cy ad H locs cells slots mc ms ls C X L)
theorem g_tableIn {dflt lo hi : Int} {offs : Array Int} {len : Nat} {x : Int32} {off : Int} (tgt : Nat) (d : decode M.cc pc = .ok (.tableswitch dflt lo hi offs, len)) (h1 : ¬ x.toInt < lo) (h2 : ¬ hi < x.toInt) (ho : offs[(x.toInt - lo).toNat]? = some off) (ht : (pc : Int) + off = (tgt : Int)) (k : gEx G M b tgt lv st σ Q) : gEx G M b pc lv (.inl x :: st) σ Q := by
  intro p l e R s m args below meth c D cy ad H locs cells slots mc ms ls C X L
  exact lv_tableIn C.1.1 C.1.2.1 d h1 h2 ho ht (k p l e R s m args below meth c D cy ad H locs cells slots mc ms ls C X L)
theorem g_tableOut {dflt lo hi : Int} {offs : Array Int} {len : Nat} {x : Int32} (tgt : Nat) (d : decode M.cc pc = .ok (.tableswitch dflt lo hi offs, len)) (h : x.toInt < lo ∨ hi < x.toInt) (ht : (pc : Int) + dflt = (tgt : Int)) (k : gEx G M b tgt lv st σ Q) : gEx G M b pc lv (.inl x :: st) σ Q := by
  intro p l e R s m args below meth c D cy ad H locs cells slots mc ms ls C X L
  exact lv_tableOut C.1.1 C.1.2.1 d h ht (k p l e R s m args below meth c D cy ad H locs cells slots mc ms ls C X L)
theorem g_lookup {dflt : Int} {ps : Array (Int × Int)} {len : Nat} {x : Int32} {off : Int} (tgt : Nat) (d : decode M.cc pc = .ok (.lookupswitch dflt ps, len)) (hp : (ps.toList.zip (ps.toList.drop 1)).all (fun (a, next) => a.1 < next.1) = true) (ho : Op.lookupswitch.offset ps.toList dflt x.toInt = off) (ht : (pc : Int) + off = (tgt : Int)) (k : gEx G M b tgt lv st σ Q) : gEx G M b pc lv (.inl x :: st) σ Q := by
  intro p l e R s m args below meth c D cy ad H locs cells slots mc ms ls C X L
  exact lv_lookup C.1.1 C.1.2.1 d hp ho ht (k p l e R s m args below meth c D cy ad H locs cells slots mc ms ls C X L)
theorem g_ldc {i : Nat} (v : Int32) (d : decode M.cc pc = .ok (.ldc i, 2)) (hw : Cond.constant M.y.cls i v ∈ M.ws) (k : gEx G M b (pc + 2) lv (.inl v :: st) σ Q) : gEx G M b pc lv st σ Q := by
  intro p l e R s m args below meth c D cy ad H locs cells slots mc ms ls C X L
  exact lv_ldc C.1.1 C.1.2.1 C.1.2.2.2.1 (C.1.2.2.2.2 _ hw) d (k p l e R s m args below meth c D cy ad H locs cells slots mc ms ls C X L)
/-- a field that holds an int -/
theorem g_get {i o ci : Nat} {fs : List (Option Nat)} {ref Cn : String} {T : u_T} {N : Nat} (j : Nat) (d : decode M.cc pc = .ok (.getfield i, 3)) (ho : o ∈ G.1) (hs : G.2 o = .inr (ci, fs)) (hc : vwCl[ci]? = some (Cn, T, N)) (hin : ∀ w ∈ u_ws Cn T N, w ∈ M.ws) (hj : j < N)
    (hl : Cond.fieldLink M.y.cls i ref (T j).2.1 (T j).2.2.1 ∈ M.ws) (hsame : ref = (T j).1 ∨ Cond.sameField ref (T j).1 (T j).2.1 (T j).2.2.1 ∈ M.ws) (hf : fs[j]? = some none) (k : gEx G M b (pc + 3) lv (.inl (σ o j) :: st) σ Q) : gEx G M b pc lv (.inr o :: st) σ Q := by
  intro p l e R s m args below meth c D cy ad H locs cells slots mc ms ls C X L
  obtain ⟨i0, -, hw⟩ := gws_at (cy := cy) (ad := ad) (σ := σ) ho hs
  refine va_get (D := D) (ws := gws G cy ad σ) (tys := gtys cy) (v := .int (σ o j)) C.1.1 C.1.2.1 C.1.2.2.2.2 hin C.1.2.2.2.1 C.2.2.2.2.2.2.1 (gws_P X.1) i0 hw hc j hj (C.1.2.2.2.2 _ hl) (fun x hx => ?_) ?_ d (k p l e R s m args below meth c D cy ad H locs cells slots mc ms ls C X L)
  · rcases hsame with h | h
    · rw [h]; exact hx
    · exact u_same (C.1.2.2.2.2 _ h) x hx
  · have h1 := gfl_int ad (σ o) fs 0 j hf
    rwa [Nat.zero_add] at h1
/-- a field that names a cell -/
theorem g_getr {i o t ci : Nat} {fs : List (Option Nat)} {ref Cn : String} {T : u_T} {N : Nat} (j : Nat) (d : decode M.cc pc = .ok (.getfield i, 3)) (ho : o ∈ G.1) (hs : G.2 o = .inr (ci, fs)) (hc : vwCl[ci]? = some (Cn, T, N)) (hin : ∀ w ∈ u_ws Cn T N, w ∈ M.ws) (hj : j < N)
    (hl : Cond.fieldLink M.y.cls i ref (T j).2.1 (T j).2.2.1 ∈ M.ws) (hsame : ref = (T j).1 ∨ Cond.sameField ref (T j).1 (T j).2.1 (T j).2.2.1 ∈ M.ws) (hf : fs[j]? = some (some t)) (k : gEx G M b (pc + 3) lv (.inr t :: st) σ Q) : gEx G M b pc lv (.inr o :: st) σ Q := by
  intro p l e R s m args below meth c D cy ad H locs cells slots mc ms ls C X L
  obtain ⟨i0, -, hw⟩ := gws_at (cy := cy) (ad := ad) (σ := σ) ho hs
  refine va_get (D := D) (ws := gws G cy ad σ) (tys := gtys cy) (v := .ref (ad t)) C.1.1 C.1.2.1 C.1.2.2.2.2 hin C.1.2.2.2.1 C.2.2.2.2.2.2.1 (gws_P X.1) i0 hw hc j hj (C.1.2.2.2.2 _ hl) (fun x hx => ?_) (gfl_ref ad (σ o) fs 0 j t hf) d (k p l e R s m args below meth c D cy ad H locs cells slots mc ms ls C X L)
  rcases hsame with h | h
  · rw [h]; exact hx
  · exact u_same (C.1.2.2.2.2 _ h) x hx
theorem g_put {i o ci : Nat} {fs : List (Option Nat)} {ref Cn : String} {T : u_T} {N : Nat} {ty0 : Nat → FieldType} {v : Int32} (j : Nat) (d : decode M.cc pc = .ok (.putfield i, 3)) (ho : o ∈ G.1) (hs : G.2 o = .inr (ci, fs)) (hc : vwCl[ci]? = some (Cn, T, N)) (hin : ∀ w ∈ u_ws Cn T N, w ∈ M.ws) (hty : ∀ k, k < N → parseFieldDescriptor (T k).2.2.1 = some (ty0 k)) (hnm : ∀ a, a < N → ∀ b, b < N → a ≠ b → (T a).2.1 ≠ (T b).2.1) (hj : j < N)
    (hl : Cond.fieldLink M.y.cls i ref (T j).2.1 (T j).2.2.1 ∈ M.ws) (hsame : ref = (T j).1 ∨ Cond.sameField ref (T j).1 (T j).2.1 (T j).2.2.1 ∈ M.ws) (hf : fs[j]? = some none) (hfin : (T j).2.2.2 = false) (hn : narrow (ty0 j) (.int v) = .int v) (hfit : fits (ty0 j) (.int v) = true)
    (k : gEx G M b (pc + 3) lv st (gup σ o j v) Q) : gEx G M b pc lv (.inl v :: .inr o :: st) σ Q := by
  intro p l e R s m args below meth c D cy ad H locs cells slots mc ms ls C X L
  obtain ⟨i0, hi0, hw⟩ := gws_at (cy := cy) (ad := ad) (σ := σ) ho hs
  refine va_put (D := D) (ws := gws G cy ad σ) (tys := gtys cy) (ty := ty0 j) (v := .int v) C.1.1 C.1.2.1 C.1.2.2.2.2 hin ty0 hty hnm C.1.2.2.2.1 C.2.2.2.2.2.2.1 (gws_P X.1) (gws_D C.2.2.1) X.2.1 i0 hw hc j hj (C.1.2.2.2.2 _ hl) (fun x hx => ?_) hfin (hty j hj) hn hfit (by rw [gfl_len]; exact (List.getElem?_eq_some_iff.mp hf).1) d (fun H1 locs1 hP1 hD1 hS1 => ?_)
  · rcases hsame with h | h
    · rw [h]; exact hx
    · exact u_same (C.1.2.2.2.2 _ h) x hx
  · rw [gws_set (σ' := gup σ o j v) C.2.2.1.1 hi0 (by rw [hs, gup_self]; show (Sum.inr (ci, gfl ad (upd (σ o) j v) 0 fs) : va_E) = _; rw [← gfl_upd ad (σ o) v fs 0 j hf, Nat.zero_add]) (fun a ha => gup_ne σ v ha)] at hP1
    exact k p l e R s m args below meth c D cy ad H1 locs1 cells slots mc ms ls C ⟨gP_ws hP1, hS1, X.2.2.step (fun q h => gA_new h) X.2.1 hS1⟩ L
theorem g_iald {a n : Nat} {i : Int32} (d : decode M.cc pc = .ok (.iaload, 1)) (ha : a ∈ G.1) (hs : G.2 a = .inl (0, n, none)) (hi : vp_in i n) (k : gEx G M b (pc + 1) lv (.inl (σ a i.toNatClampNeg) :: st) σ Q) : gEx G M b pc lv (.inl i :: .inr a :: st) σ Q := by
  intro p l e R s m args below meth c D cy ad H locs cells slots mc ms ls C X L
  obtain ⟨i0, -, hw⟩ := gws_at (cy := cy) (ad := ad) (σ := σ) ha hs
  exact va_iald (D := D) (ws := gws G cy ad σ) (tys := gtys cy) C.1.1 C.1.2.1 C.2.2.2.2.2.2.1 (gws_P X.1) i0 0 hw rfl hi d (k p l e R s m args below meth c D cy ad H locs cells slots mc ms ls C X L)
theorem g_zald {a n : Nat} {i : Int32} (d : decode M.cc pc = .ok (.baload, 1)) (ha : a ∈ G.1) (hs : G.2 a = .inl (1, n, none)) (hi : vp_in i n) (k : gEx G M b (pc + 1) lv (.inl (σ a i.toNatClampNeg) :: st) σ Q) : gEx G M b pc lv (.inl i :: .inr a :: st) σ Q := by
  intro p l e R s m args below meth c D cy ad H locs cells slots mc ms ls C X L
  obtain ⟨i0, -, hw⟩ := gws_at (cy := cy) (ad := ad) (σ := σ) ha hs
  exact va_zald (D := D) (ws := gws G cy ad σ) (tys := gtys cy) C.1.1 C.1.2.1 C.2.2.2.2.2.2.1 (gws_P X.1) i0 1 hw rfl hi d (k p l e R s m args below meth c D cy ad H locs cells slots mc ms ls C X L)
theorem g_iast {a n : Nat} {i x : Int32} (d : decode M.cc pc = .ok (.iastore, 1)) (ha : a ∈ G.1) (hs : G.2 a = .inl (0, n, none)) (hi : vp_in i n) (k : gEx G M b (pc + 1) lv st (gup σ a i.toNatClampNeg (x)) Q) : gEx G M b pc lv (.inl x :: .inl i :: .inr a :: st) σ Q := by
  intro p l e R s m args below meth c D cy ad H locs cells slots mc ms ls C X L
  obtain ⟨i0, hi0, hw⟩ := gws_at (cy := cy) (ad := ad) (σ := σ) ha hs
  refine va_iast (D := D) (ws := gws G cy ad σ) (tys := gtys cy) C.1.1 C.1.2.1 C.2.2.2.2.2.2.1 (gws_P X.1) (gws_D C.2.2.1) X.2.1 i0 0 hw rfl hi d (fun H1 locs1 hP1 hD1 hS1 => ?_)
  rw [gws_set (σ' := gup σ a i.toNatClampNeg (x)) C.2.2.1.1 hi0 (by rw [hs, gup_self]; rfl) (fun a ha => gup_ne σ _ ha)] at hP1
  exact k p l e R s m args below meth c D cy ad H1 locs1 cells slots mc ms ls C ⟨gP_ws hP1, hS1, X.2.2.step (fun q h => gA_new h) X.2.1 hS1⟩ L
theorem g_zast {a n : Nat} {i x : Int32} (d : decode M.cc pc = .ok (.bastore, 1)) (ha : a ∈ G.1) (hs : G.2 a = .inl (1, n, none)) (hi : vp_in i n) (k : gEx G M b (pc + 1) lv st (gup σ a i.toNatClampNeg (vp_nar .boolean x)) Q) : gEx G M b pc lv (.inl x :: .inl i :: .inr a :: st) σ Q := by
  intro p l e R s m args below meth c D cy ad H locs cells slots mc ms ls C X L
  obtain ⟨i0, hi0, hw⟩ := gws_at (cy := cy) (ad := ad) (σ := σ) ha hs
  refine va_zast (D := D) (ws := gws G cy ad σ) (tys := gtys cy) C.1.1 C.1.2.1 C.2.2.2.2.2.2.1 (gws_P X.1) (gws_D C.2.2.1) X.2.1 i0 1 hw rfl hi d (fun H1 locs1 hP1 hD1 hS1 => ?_)
  rw [gws_set (σ' := gup σ a i.toNatClampNeg (vp_nar .boolean x)) C.2.2.1.1 hi0 (by rw [hs, gup_self]; rfl) (fun a ha => gup_ne σ _ ha)] at hP1
  exact k p l e R s m args below meth c D cy ad H1 locs1 cells slots mc ms ls C ⟨gP_ws hP1, hS1, X.2.2.step (fun q h => gA_new h) X.2.1 hS1⟩ L
theorem g_alen {a ty n : Nat} {r : Option (Nat → Nat)} (v : Int32) (d : decode M.cc pc = .ok (.arraylength, 1)) (ha : a ∈ G.1) (hs : G.2 a = .inl (ty, n, r)) (ht : ty < 6) (hv : nI n = v) (k : gEx G M b (pc + 1) lv (.inl v :: st) σ Q) : gEx G M b pc lv (.inr a :: st) σ Q := by
  intro p l e R s m args below meth c D cy ad H locs cells slots mc ms ls C X L
  obtain ⟨i0, -, hw⟩ := gws_at (cy := cy) (ad := ad) (σ := σ) ha hs
  have ht6 : (gtys cy)[ty]? = some (cy ty, gty ty) := by
    rcases (show ty = 0 ∨ ty = 1 ∨ ty = 2 ∨ ty = 3 ∨ ty = 4 ∨ ty = 5 by omega) with h | h | h | h | h | h <;> subst h <;> rfl
  cases r with
  | none => exact va_alen (D := D) (ws := gws G cy ad σ) (tys := gtys cy) C.1.1 C.1.2.1 C.2.2.2.2.2.2.1 (gws_P X.1) i0 ty hw ht6 hv d (k p l e R s m args below meth c D cy ad H locs cells slots mc ms ls C X L)
  | some g => exact va_alen (D := D) (ws := gws G cy ad σ) (tys := gtys cy) C.1.1 C.1.2.1 C.2.2.2.2.2.2.1 (gws_P X.1) i0 ty hw ht6 hv d (k p l e R s m args below meth c D cy ad H locs cells slots mc ms ls C X L)
theorem g_aald2 {a n : Nat} {g : Nat → Nat} {i : Int32} (d : decode M.cc pc = .ok (.aaload, 1)) (ha : a ∈ G.1) (hs : G.2 a = .inl (2, n, some g)) (hi : vp_in i n) (k : gEx G M b (pc + 1) lv (.inr (g i.toNatClampNeg) :: st) σ Q) : gEx G M b pc lv (.inl i :: .inr a :: st) σ Q := by
  intro p l e R s m args below meth c D cy ad H locs cells slots mc ms ls C X L
  obtain ⟨i0, -, hw⟩ := gws_at (cy := cy) (ad := ad) (σ := σ) ha hs
  exact va_aldq (D := D) (C := RX0) (ws := gws G cy ad σ) (tys := gtys cy) C.1.1 C.1.2.1 C.2.2.2.2.2.2.1 (gws_P X.1) i0 2 hw rfl hi d (k p l e R s m args below meth c D cy ad H locs cells slots mc ms ls C X L)
theorem g_aald3 {a n : Nat} {g : Nat → Nat} {i : Int32} (d : decode M.cc pc = .ok (.aaload, 1)) (ha : a ∈ G.1) (hs : G.2 a = .inl (3, n, some g)) (hi : vp_in i n) (k : gEx G M b (pc + 1) lv (.inr (g i.toNatClampNeg) :: st) σ Q) : gEx G M b pc lv (.inl i :: .inr a :: st) σ Q := by
  intro p l e R s m args below meth c D cy ad H locs cells slots mc ms ls C X L
  obtain ⟨i0, -, hw⟩ := gws_at (cy := cy) (ad := ad) (σ := σ) ha hs
  exact va_aldq (D := D) (C := RX1) (ws := gws G cy ad σ) (tys := gtys cy) C.1.1 C.1.2.1 C.2.2.2.2.2.2.1 (gws_P X.1) i0 3 hw rfl hi d (k p l e R s m args below meth c D cy ad H locs cells slots mc ms ls C X L)
theorem g_aald4 {a n : Nat} {g : Nat → Nat} {i : Int32} (d : decode M.cc pc = .ok (.aaload, 1)) (ha : a ∈ G.1) (hs : G.2 a = .inl (4, n, some g)) (hi : vp_in i n) (k : gEx G M b (pc + 1) lv (.inr (g i.toNatClampNeg) :: st) σ Q) : gEx G M b pc lv (.inl i :: .inr a :: st) σ Q := by
  intro p l e R s m args below meth c D cy ad H locs cells slots mc ms ls C X L
  obtain ⟨i0, -, hw⟩ := gws_at (cy := cy) (ad := ad) (σ := σ) ha hs
  exact va_aldq (D := D) (C := RX4) (ws := gws G cy ad σ) (tys := gtys cy) C.1.1 C.1.2.1 C.2.2.2.2.2.2.1 (gws_P X.1) i0 4 hw rfl hi d (k p l e R s m args below meth c D cy ad H locs cells slots mc ms ls C X L)
theorem g_aald5 {a n : Nat} {g : Nat → Nat} {i : Int32} (d : decode M.cc pc = .ok (.aaload, 1)) (ha : a ∈ G.1) (hs : G.2 a = .inl (5, n, some g)) (hi : vp_in i n) (k : gEx G M b (pc + 1) lv (.inr (g i.toNatClampNeg) :: st) σ Q) : gEx G M b pc lv (.inl i :: .inr a :: st) σ Q := by
  intro p l e R s m args below meth c D cy ad H locs cells slots mc ms ls C X L
  obtain ⟨i0, -, hw⟩ := gws_at (cy := cy) (ad := ad) (σ := σ) ha hs
  have hlt : i.toNatClampNeg < n := Nat.not_le.mp fun q => hi (Or.inr q)
  exact W.aald (v := va_rf ((fun j => some (ad (g j))) i.toNatClampNeg)) (ty := .array .boolean) C.1.1 C.1.2.1 (gws_P X.1 i0 _ hw) ((C.2.2.2.2.2.2.1.2 5 _ rfl).1 n (fun j => va_rf ((fun j => some (ad (g j))) j))) rfl (fun q => by cases q) (by show ¬ (i < 0 ∨ (arrV _ _ _).slots.size ≤ _); rw [arrV_size]; exact hi) (by show (arrV _ _ _).slots[_]? = _; rw [arrV_read _ _ hlt]) rfl rfl d (k p l e R s m args below meth c D cy ad H locs cells slots mc ms ls C X L)
theorem g_iret {x : Int32} (d : decode M.cc pc = .ok (.ireturn, 1)) (hr : M.ret = some .int) (hq : Q (.inl (some (.inl x))) σ) : gEx G M b pc lv [.inl x] σ Q := by
  intro p l e R s m args below meth c D cy ad H locs cells slots mc ms ls C X L
  have hlocks : meth.locks = false := C.2.2.2.2.2.1
  refine vx_ret (W.widen (k := mc) (n := ms) (by have := C.2.2.2.2.2.2.2.1; omega) (by have := C.2.2.2.2.2.2.2.1; omega) ?_)
  exact W.iret (v := x) C.1.1 C.1.2.1 (C.2.2.2.2.2.2.2.2.trans hr) (fun t ht hW => ⟨⟨some (.inl x), σ, rfl, hq, by rw [ht]; exact X.1⟩, X.2.1.F ht⟩) X.2.1.2.2 d
theorem g_zret {x : Int32} (d : decode M.cc pc = .ok (.ireturn, 1)) (hr : M.ret = some .boolean) (hx : narrow .boolean (.int x) = .int x) (hq : Q (.inl (some (.inl x))) σ) : gEx G M b pc lv [.inl x] σ Q := by
  intro p l e R s m args below meth c D cy ad H locs cells slots mc ms ls C X L
  have hlocks : meth.locks = false := C.2.2.2.2.2.1
  refine vx_ret (W.widen (k := mc) (n := ms) (by have := C.2.2.2.2.2.2.2.1; omega) (by have := C.2.2.2.2.2.2.2.1; omega) ?_)
  exact W.zret (v := x) C.1.1 C.1.2.1 (C.2.2.2.2.2.2.2.2.trans hr) hx (fun t ht hW => ⟨⟨some (.inl x), σ, rfl, hq, by rw [ht]; exact X.1⟩, X.2.1.F ht⟩) X.2.1.2.2 d
theorem g_aret {x : Nat} {n : String} (d : decode M.cc pc = .ok (.areturn, 1)) (hr : M.ret = some (.object n)) (hq : Q (.inl (some (.inr x))) σ) : gEx G M b pc lv [.inr x] σ Q := by
  intro p l e R s m args below meth c D cy ad H locs cells slots mc ms ls C X L
  have hlocks : meth.locks = false := C.2.2.2.2.2.1
  refine vx_ret (W.widen (k := mc) (n := ms) (by have := C.2.2.2.2.2.2.2.1; omega) (by have := C.2.2.2.2.2.2.2.1; omega) ?_)
  exact W.aret (v := .ref (ad x)) C.1.1 C.1.2.1 (C.2.2.2.2.2.2.2.2.trans hr) (Or.inl ⟨_, rfl⟩) (Or.inr ⟨_, rfl⟩) (fun t ht hW => ⟨⟨some (.inr x), σ, rfl, hq, by rw [ht]; exact X.1⟩, X.2.1.F ht⟩) X.2.1.2.2 d
theorem g_vret (d : decode M.cc pc = .ok (.return_, 1)) (hr : M.ret = none) (hq : Q (.inl none) σ) : gEx G M b pc lv [] σ Q := by
  intro p l e R s m args below meth c D cy ad H locs cells slots mc ms ls C X L
  have hlocks : meth.locks = false := C.2.2.2.2.2.1
  refine vx_ret (W.widen (k := mc) (n := ms) (by have := C.2.2.2.2.2.2.2.1; omega) (by have := C.2.2.2.2.2.2.2.1; omega) ?_)
  exact W.vret C.1.1 C.1.2.1 (C.2.2.2.2.2.2.2.2.trans hr) (fun t ht hW => ⟨⟨none, σ, rfl, hq, by rw [ht]; exact X.1⟩, X.2.1.F ht⟩) X.2.1.2.2 d
end GR
end
section
/-! CALLS in the logic -/
theorem gPc_blind {G : gG} {D : va_G} {cy : Nat → ClassId} {ad : Nat → Nat} {sz : Nat} {as : List gAV} {σ : gSt} : FrameBlind (gPc G D cy ad sz as σ) := by
  intro a U g mk h
  obtain ⟨h1, h2, h3, h4, h5⟩ := h
  exact ⟨h1, h2, h3, va_K.moved (u := U) (U := U.calling g mk a) (Vm.Alike.refl U.vm) h4, h5.calling⟩
theorem gPc_at {G : gG} {D : va_G} {cy : Nat → ClassId} {ad : Nat → Nat} {as : List gAV} {σ : gSt} {s U : State} {H : Heap} {locs : List Loc} (X : gHx G s D cy ad σ H locs) (hK : va_K D vwCl (gtys cy) s) (hU : U.heap = H) (hW : s.WarmedH U.vm) : gPc G D cy ad H.size as σ (as.map (gv ad)).toArray U := by
  subst hU
  exact ⟨rfl, rfl, X.1, va_K.moved hW.alike hK, X.2.2.warm hW (gA_le X.2.1.1)⟩
theorem vx_run_of {p : Program} {l : Launch} {e : Env} {R : Room} {s : State} {m : MethodId} {args : Array Value} {below : List Frame} {meth : Method} {c : Code} {H : Heap} {locs : List Loc} {cells slots mc ms : Nat} {g : JFrame} {rest : List Value} {Qa : State → Outcome → State → Prop} {XC : String → State → State → Prop} {free : Addr → Prop}
    (h : va_Run p l e R s m args below meth c H locs cells slots mc ms g rest Qa free) : vx_Run p l e R s m args below meth c H locs cells slots mc ms g rest Qa XC free := fun T hT X => Or.inl (h T hT X)
/-- a contract without throws is one of the kit's -/
theorem gEM_met {G : gG} {M : gM} {b : Nat} {as : List gAV} {σ : gSt} {Q : gOut → gSt → Prop} (h : gEM G M b as σ Q) (hn : ∀ k σ', ¬ Q (.inr k) σ') {l : Launch} {D : va_G} {cy : Nat → ClassId} {ad : Nat → Nat} {sz : Nat} (hl : l.stackTraces = false) (hi : gInj G ad) :
    Met l M.y M.ws { frames := M.fr, cells := b, slots := 6 * b, locals := M.lo } (gPc G D cy ad sz as σ) (gQc G D cy ad (gA G ad sz) Q) b (6 * b) (gA G ad sz) := by
  intro p e ha hc hk s m args below hf happ hP hK
  obtain ⟨n, o, h1, h2, h3, h4⟩ := h l D cy ad sz hl hi p e ha hc hk s m args below hf happ hP hK
  refine ⟨n, o, h1, h2, h3, ?_⟩
  rcases h4 with h4 | ⟨q, e1, E, ce, L, ⟨⟨k, σ1, f1, f2, f3⟩, f4⟩, f5⟩
  · exact h4
  · exact absurd f2 (hn k σ1)
section GC
variable {G : gG} {M M' : gM} {b b' pc : Nat} {lv : List (Option gAV)} {σ : gSt} {Q Q' : gOut → gSt → Prop}
theorem g_after {p : Program} {l : Launch} {e : Env} {R : Room} {s : State} {m : MethodId} {args : Array Value} {below : List Frame} {meth : Method} {c : Code} {D : va_G} {cy : Nat → ClassId} {ad : Nat → Nat} {H : Heap} {locs : List Loc} {cells slots mc ms : Nat} {ls : Array Slot} {st0 rest : List Value} {st : List gAV} {a : Array Value}
    (C : gCx G M b p l R s m args meth c D cy ad cells slots mc ms) (X : gHx G s D cy ad σ H locs) (L : gLs ad M.nL lv ls) (hb : b' ≤ b) (hrest : rest = st.map (gv ad))
    (hr : vx_Run p l e R s m args below meth c H locs cells slots b' (6 * b') (F0 m pc ls st0) rest (gQc G D cy ad (gA G ad H.size) Q' a) (gXC G D cy ad (gA G ad H.size) Q') (gA G ad H.size))
    (kr : ∀ (v : Option gAV) (σ' : gSt), Q' (.inl v) σ' → gEx G M (b - b') (pc + 3) lv (v.toList ++ st) σ' Q) (kx : ∀ (k : Nat) (σ' : gSt), Q' (.inr k) σ' → Q (.inr k) σ') :
    W p l e R s m args below meth c H locs cells slots (vx_MQ below (gQc G D cy ad (gA G ad s.heap.size) Q) (gXC G D cy ad (gA G ad s.heap.size) Q) args s mc ms (gA G ad s.heap.size)) (F0 m pc ls st0) := by
  intro T hT Xs
  have hA1 : ∀ q, q < H.size → gA G ad H.size q → gA G ad s.heap.size q := fun q _ h => gA_le X.2.1.1 q h
  have hf1 : ∀ q, gA G ad H.size q → gA G ad s.heap.size q := fun q h => gA_le X.2.1.1 q h
  have hc9 := C.2.2.2.2.2.2.2.1
  have C1 : gCx G M (b - b') p l R s m args meth c D cy ad (cells + b') (slots + 6 * b') mc ms := ⟨C.1, C.2.1, C.2.2.1, C.2.2.2.1, C.2.2.2.2.1, C.2.2.2.2.2.1, C.2.2.2.2.2.2.1, ⟨by omega, by omega⟩, C.2.2.2.2.2.2.2.2⟩
  rcases hr T hT Xs with ⟨v, st₀, t, T', L', h0, X', hL, e1, e2, ⟨⟨v', σ', ev, hQ, hP⟩, hF⟩, step⟩ | ⟨q, st₀, t, T', L', E, ce, h0, X', hL, e1, e2, ⟨⟨k, σ', eE, hQ, hP⟩, hF⟩, hce, hcv, hcl, step⟩
  · obtain ⟨k1, k2, k3⟩ := vx_keep h0 e1 X.2.1 hA1 hf1 hL hF
    cases ev
    have X1 : gHx G s D cy ad σ' T'.heap (locs ++ L') := ⟨by rw [e1]; exact hP, k3, X.2.2.step (fun q h => gA_new h) X.2.1 k3⟩
    obtain ⟨t2, a1, b1⟩ := kr v' σ' hQ p l e R s m args below meth c D cy ad T'.heap (locs ++ L') (cells + b') (slots + 6 * b') mc ms ls C1 X1 L T' rfl X'
    refine ⟨t2, step t2 ?_, b1⟩
    have es : (v'.map (gv ad)).toList ++ rest = (v'.toList ++ st).map (gv ad) := by
      rw [hrest]
      cases v' <;> rfl
    show Steps p.tables e below (T'.setTop (F0 m (pc + 3) ls ((v'.map (gv ad)).toList ++ rest))) t2
    rw [es]
    exact a1
  · obtain ⟨k1, k2, k3⟩ := vx_keep h0 e1 X.2.1 hA1 hf1 hL hF
    subst eE
    have K : vx_W p l e R s m args below meth c T'.heap (locs ++ L') (cells + b') (slots + 6 * b') (vx_MQ below (gQc G D cy ad (gA G ad s.heap.size) Q) (gXC G D cy ad (gA G ad s.heap.size) Q) args s mc ms (gA G ad s.heap.size)) (F0 m pc ls rest) q :=
      vx_out (fun x hx => (C.2.2.2.2.1 x hx).elim) C.2.2.2.2.2.1 (by rw [e1]; exact hce) hcv hcl (fun t9 h9 _ => ⟨⟨k, σ', rfl, kx k σ' hQ, by rw [h9, e1]; exact hP⟩, k3.F h9⟩) k3.2.2 (by omega) (by omega)
    obtain ⟨t2, a1, b1⟩ := K T' rfl X'
    exact ⟨t2, step.trans a1, b1⟩
/-- a call of an object's own method -/
theorem g_callV {n9 o ci index : Nat} {fs : List (Option Nat)} {Cn : String} {T : u_T} {N : Nat} {ws' : List Cond} (as st : List gAV) {stk : List gAV} (h : gEM G M' b' (.inr o :: as) σ Q') (d : decode M.cc pc = .ok (.invokevirtual index, 3)) (hg : GoodIn M.ws (wsV M.y.cls index Cn M'.y M'.ws)) (hw : M'.ws = Cond.code M'.y M'.cc M'.nL M'.ret :: ws')
    (hd : M'.y.cls = Cn ∧ M'.y.cls ≠ "java/lang/invoke/MethodHandle" ∧ M'.y.cls ≠ "java/lang/invoke/VarHandle" ∧ (parseMethodDescriptor M'.y.desc).map (fun d => d.parameters.length) = some n9) (hn9 : as.length = n9) (hR : M'.fr + 1 ≤ M.fr ∧ 8 + (M'.nL + 11) + M'.lo ≤ M.lo)
    (ho : o ∈ G.1) (hs : G.2 o = .inr (ci, fs)) (hc : vwCl[ci]? = some (Cn, T, N)) (hst : stk = as.reverse ++ .inr o :: st) (hl : st.length ≤ 8) (hb : b' ≤ b)
    (kr : ∀ (v : Option gAV) (σ' : gSt), Q' (.inl v) σ' → gEx G M (b - b') (pc + 3) lv (v.toList ++ st) σ' Q) (kx : ∀ (k : Nat) (σ' : gSt), Q' (.inr k) σ' → Q (.inr k) σ') : gEx G M b pc lv stk σ Q := by
  subst hn9
  intro p l e R s m args below meth c D cy ad H locs cells slots mc ms ls C X L
  have hc9 := C.2.2.2.2.2.2.2.1
  have hr9 := C.2.2.2.1
  obtain ⟨i0, -, hw0⟩ := gws_at (cy := cy) (ad := ad) (σ := σ) ho hs
  refine g_after (b' := b') (Q' := Q') (st := st) (rest := st.map (gv ad)) (a := ((.inr o :: as).map (gv ad)).toArray) C X L hb rfl ?_ kr kx
  exact vx_runV (As := as.map (gv ad)) (rest := st.map (gv ad)) (b := ad o) C.1 (h l D cy ad H.size C.2.1 C.2.2.1) (cwV as.length C.1.2.2.2.2 hg hw rfl rfl hd ⟨by show M'.fr + 1 ≤ R.frames; omega, by show 8 + (M'.nL + 11) + M'.lo ≤ R.locals; omega⟩)
    ⟨gPc_blind, va_recv C.2.2.2.2.2.2.1 (gws_P X.1) hc hw0, fun U hU hW => gPc_at (as := .inr o :: as) X C.2.2.2.2.2.2.1 hU hW⟩ rfl (by rw [List.length_map]) (L.1) (by show stk.map (gv ad) = _; rw [hst, List.map_append, List.map_reverse]; rfl) (lv_room (by rw [gv_sum]; exact hl)) d ⟨by omega, by omega⟩
/-- a static call -/
theorem g_callS {n9 index : Nat} {ws' : List Cond} (as st : List gAV) {stk : List gAV} (h : gEM G M' b' as σ Q') (d : decode M.cc pc = .ok (.invokestatic index, 3)) (hg : GoodIn M.ws (va_wsS M.y.cls index M'.y M'.ws)) (hw : M'.ws = Cond.code M'.y M'.cc M'.nL M'.ret :: ws')
    (hd : M'.y.cls ≠ "java/lang/invoke/MethodHandle" ∧ M'.y.cls ≠ "java/lang/invoke/VarHandle" ∧ (parseMethodDescriptor M'.y.desc).map (fun d => d.parameters.length) = some n9) (hn9 : as.length = n9) (hR : M'.fr + 1 ≤ M.fr ∧ 8 + (M'.nL + 11) + M'.lo ≤ M.lo)
    (hst : stk = as.reverse ++ st) (hl : st.length ≤ 8) (hb : b' ≤ b)
    (kr : ∀ (v : Option gAV) (σ' : gSt), Q' (.inl v) σ' → gEx G M (b - b') (pc + 3) lv (v.toList ++ st) σ' Q) (kx : ∀ (k : Nat) (σ' : gSt), Q' (.inr k) σ' → Q (.inr k) σ') : gEx G M b pc lv stk σ Q := by
  subst hn9
  intro p l e R s m args below meth c D cy ad H locs cells slots mc ms ls C X L
  have hc9 := C.2.2.2.2.2.2.2.1
  have hr9 := C.2.2.2.1
  refine g_after (b' := b') (Q' := Q') (st := st) (rest := st.map (gv ad)) (a := (as.map (gv ad)).toArray) C X L hb rfl ?_ kr kx
  exact vx_runS (As := as.map (gv ad)) (rest := st.map (gv ad)) C.1 (h l D cy ad H.size C.2.1 C.2.2.1) (va_cwS as.length C.1.2.2.2.2 hg hw rfl rfl hd ⟨by show M'.fr + 1 ≤ R.frames; omega, by show 8 + (M'.nL + 11) + M'.lo ≤ R.locals; omega⟩)
    ⟨gPc_blind, fun U hU hW => gPc_at (as := as) X C.2.2.2.2.2.2.1 hU hW⟩ rfl (by rw [List.length_map]) (L.1) (by show stk.map (gv ad) = _; rw [hst, List.map_append, List.map_reverse]) (lv_room (by rw [gv_sum]; exact hl)) d ⟨by omega, by omega⟩
/-- a static call of a nest mate's private method, which doesn't throw -/
theorem g_callSN {n9 index : Nat} {host : String} {ws' : List Cond} (as st : List gAV) {stk : List gAV} (h : gEM G M' b' as σ Q') (d : decode M.cc pc = .ok (.invokestatic index, 3)) (hg : GoodIn M.ws M'.ws) (hw : M'.ws = Cond.code M'.y M'.cc M'.nL M'.ret :: ws') (hn : Cond.methodLinkNest M.y.cls index M'.y host ∈ gNest) (hini : Cond.initialized M'.y.cls ∈ M.ws) (hsta : Cond.static M'.y ∈ M.ws)
    (hd : M'.y.cls ≠ "java/lang/invoke/MethodHandle" ∧ M'.y.cls ≠ "java/lang/invoke/VarHandle" ∧ (parseMethodDescriptor M'.y.desc).map (fun d => d.parameters.length) = some n9) (hn9 : as.length = n9) (hR : M'.fr + 1 ≤ M.fr ∧ 8 + (M'.nL + 11) + M'.lo ≤ M.lo)
    (hst : stk = as.reverse ++ st) (hl : st.length ≤ 8) (hb : b' ≤ b)
    (kr : ∀ (v : Option gAV) (σ' : gSt), Q' (.inl v) σ' → gEx G M (b - b') (pc + 3) lv (v.toList ++ st) σ' Q) (kx : ∀ (k : Nat) (σ' : gSt), ¬ Q' (.inr k) σ') : gEx G M b pc lv stk σ Q := by
  subst hn9
  intro p l e R s m args below meth c D cy ad H locs cells slots mc ms ls C X L
  have hc9 := C.2.2.2.2.2.2.2.1
  have hr9 := C.2.2.2.1
  refine g_after (b' := b') (Q' := Q') (st := st) (rest := st.map (gv ad)) (a := (as.map (gv ad)).toArray) C X L hb rfl (vx_run_of ?_) kr (fun k σ' hq => absurd hq (kx k σ'))
  exact va_runSN (As := as.map (gv ad)) (rest := st.map (gv ad)) C.1 (gEM_met h kx C.2.1 C.2.2.1) ⟨va_cnB as.length C.1.2.2.2.2 hg hw rfl rfl (X.2.2.1 _ hn) (C.1.2.2.2.2 _ hini) hd ⟨by show M'.fr + 1 ≤ R.frames; omega, by show 8 + (M'.nL + 11) + M'.lo ≤ R.locals; omega⟩, C.1.2.2.2.2 _ hsta, trivial⟩
    ⟨gPc_blind, fun U hU hW => gPc_at (as := as) X C.2.2.2.2.2.2.1 hU hW⟩ rfl (by rw [List.length_map]) (L.1) (by show stk.map (gv ad) = _; rw [hst, List.map_append, List.map_reverse]) (lv_room (by rw [gv_sum]; exact hl)) d ⟨by omega, by omega⟩
end GC
end
section
/-! one list of words for all methods -/
def wsU : List Cond := lw_tbl.filter goodWord
theorem wsU_T {w : Cond} (h : w ∈ tables_1) (g : goodWord w = true) : w ∈ wsU := List.mem_filter.mpr ⟨List.mem_append_right _ h, g⟩
theorem wsU_S {q : MethodName × Nat} (h : q ∈ lw_privs) : Cond.selects q.1.cls q.1 q.1 ∈ wsU := List.mem_filter.mpr ⟨List.mem_append_left _ (List.mem_map.mpr ⟨q, h, rfl⟩), rfl⟩
theorem wsU_in {w : Cond} (h : w ∈ wsU) : w ∈ lw_tbl := (List.mem_filter.mp h).1
theorem uw_1_0 : ((Jvm.Cond.initialized "CommitCouncilLaw")) ∈ wsU := wsU_T (List.mem_append_left _ (List.mem_of_getElem? (i := 0) rfl)) rfl
theorem uw_1_1 : ((Jvm.Cond.initialized "CommitCouncil")) ∈ wsU := wsU_T (List.mem_append_left _ (List.mem_of_getElem? (i := 1) rfl)) rfl
theorem uw_1_2 : ((Jvm.Cond.initialized "CommitCouncil$Member")) ∈ wsU := wsU_T (List.mem_append_left _ (List.mem_of_getElem? (i := 2) rfl)) rfl
theorem uw_1_3 : ((Jvm.Cond.initialized "CommitCouncil$Manager")) ∈ wsU := wsU_T (List.mem_append_left _ (List.mem_of_getElem? (i := 3) rfl)) rfl
theorem uw_1_4 : ((Jvm.Cond.initialized "CommitCouncil$Acceptor")) ∈ wsU := wsU_T (List.mem_append_left _ (List.mem_of_getElem? (i := 4) rfl)) rfl
theorem uw_1_5 : ((Jvm.Cond.initialized "CommitCouncil$Leader")) ∈ wsU := wsU_T (List.mem_append_left _ (List.mem_of_getElem? (i := 5) rfl)) rfl
theorem uw_1_6 : ((Jvm.Cond.initialized "CommitCouncil$Mail")) ∈ wsU := wsU_T (List.mem_append_left _ (List.mem_of_getElem? (i := 6) rfl)) rfl
theorem uw_1_7 : ((Jvm.Cond.initialized "CommitCouncil$Ledger")) ∈ wsU := wsU_T (List.mem_append_left _ (List.mem_of_getElem? (i := 7) rfl)) rfl
theorem uw_1_8 : ((Jvm.Cond.initialized "CommitCouncilModel")) ∈ wsU := wsU_T (List.mem_append_left _ (List.mem_of_getElem? (i := 8) rfl)) rfl
theorem uw_1_9 : ((Jvm.Cond.initialized "java/lang/Throwable")) ∈ wsU := wsU_T (List.mem_append_left _ (List.mem_of_getElem? (i := 9) rfl)) rfl
theorem uw_1_10 : ((Jvm.Cond.initialized "java/lang/Exception")) ∈ wsU := wsU_T (List.mem_append_left _ (List.mem_of_getElem? (i := 10) rfl)) rfl
theorem uw_1_11 : ((Jvm.Cond.initialized "java/lang/RuntimeException")) ∈ wsU := wsU_T (List.mem_append_left _ (List.mem_of_getElem? (i := 11) rfl)) rfl
theorem uw_1_12 : ((Jvm.Cond.initialized "java/lang/IndexOutOfBoundsException")) ∈ wsU := wsU_T (List.mem_append_left _ (List.mem_of_getElem? (i := 12) rfl)) rfl
theorem uw_1_13 : ((Jvm.Cond.initialized "java/util/Arrays")) ∈ wsU := wsU_T (List.mem_append_left _ (List.mem_of_getElem? (i := 13) rfl)) rfl
theorem uw_1_14 : ((Jvm.Cond.initialized "java/lang/Integer")) ∈ wsU := wsU_T (List.mem_append_left _ (List.mem_of_getElem? (i := 14) rfl)) rfl
theorem uw_1_15 : ((Jvm.Cond.initialized "java/lang/Math")) ∈ wsU := wsU_T (List.mem_append_left _ (List.mem_of_getElem? (i := 15) rfl)) rfl
theorem uw_1_16 : ((Jvm.Cond.initialized "java/lang/System")) ∈ wsU := wsU_T (List.mem_append_left _ (List.mem_of_getElem? (i := 16) rfl)) rfl
theorem uw_1_17 : ((Jvm.Cond.initialized "java/lang/IllegalArgumentException")) ∈ wsU := wsU_T (List.mem_append_left _ (List.mem_of_getElem? (i := 17) rfl)) rfl
theorem uw_1_18 : ((Jvm.Cond.classLink "CommitCouncilLaw" (8 : Nat) "CommitCouncil")) ∈ wsU := wsU_T (List.mem_append_left _ (List.mem_of_getElem? (i := 18) rfl)) rfl
theorem uw_1_19 : ((Jvm.Cond.instantiable "CommitCouncil" (7 : Nat))) ∈ wsU := wsU_T (List.mem_append_left _ (List.mem_of_getElem? (i := 19) rfl)) rfl
theorem uw_1_20 : ((Jvm.Cond.methodLink "CommitCouncilLaw" (83 : Nat) ({ cls := "CommitCouncil", name := "<init>", desc := "(II)V" } : Jvm.MethodName))) ∈ wsU := wsU_T (List.mem_append_left _ (List.mem_of_getElem? (i := 20) rfl)) rfl
theorem uw_1_21 : ((Jvm.Cond.instanceMethod ({ cls := "CommitCouncil", name := "<init>", desc := "(II)V" } : Jvm.MethodName))) ∈ wsU := wsU_T (List.mem_append_left _ (List.mem_of_getElem? (i := 21) rfl)) rfl
theorem uw_1_22 : ((Jvm.Cond.code ({ cls := "CommitCouncil", name := "<init>", desc := "(II)V" } : Jvm.MethodName) prog_1_method_1_code (6 : Nat) (Option.none : Option Jvm.ClassFile.FieldType))) ∈ wsU := wsU_T (List.mem_append_left _ (List.mem_of_getElem? (i := 22) rfl)) rfl
theorem uw_1_23 : ((Jvm.Cond.methodLink "CommitCouncil" (1 : Nat) ({ cls := "java/lang/Object", name := "<init>", desc := "()V" } : Jvm.MethodName))) ∈ wsU := wsU_T (List.mem_append_left _ (List.mem_of_getElem? (i := 23) rfl)) rfl
theorem uw_1_24 : ((Jvm.Cond.instanceMethod ({ cls := "java/lang/Object", name := "<init>", desc := "()V" } : Jvm.MethodName))) ∈ wsU := wsU_T (List.mem_append_left _ (List.mem_of_getElem? (i := 24) rfl)) rfl
theorem uw_1_25 : ((Jvm.Cond.code ({ cls := "java/lang/Object", name := "<init>", desc := "()V" } : Jvm.MethodName) object_method_1_code (1 : Nat) (Option.none : Option Jvm.ClassFile.FieldType))) ∈ wsU := wsU_T (List.mem_append_left _ (List.mem_of_getElem? (i := 25) rfl)) rfl
theorem uw_1_26 : ((Jvm.Cond.classLink "CommitCouncil" (9 : Nat) "CommitCouncil$Manager")) ∈ wsU := wsU_T (List.mem_append_left _ (List.mem_of_getElem? (i := 26) rfl)) rfl
theorem uw_1_28 : ((Jvm.Cond.instantiable "CommitCouncil$Manager" (3 : Nat))) ∈ wsU := wsU_T (List.mem_append_left _ (List.mem_of_getElem? (i := 28) rfl)) rfl
theorem uw_1_30 : ((Jvm.Cond.instanceMethod ({ cls := "CommitCouncil$Manager", name := "<init>", desc := "()V" } : Jvm.MethodName))) ∈ wsU := wsU_T (List.mem_append_left _ (List.mem_of_getElem? (i := 30) rfl)) rfl
theorem uw_1_31 : ((Jvm.Cond.code ({ cls := "CommitCouncil$Manager", name := "<init>", desc := "()V" } : Jvm.MethodName) prog_6_method_1_code (1 : Nat) (Option.none : Option Jvm.ClassFile.FieldType))) ∈ wsU := wsU_T (List.mem_append_left _ (List.mem_of_getElem? (i := 31) rfl)) rfl
theorem uw_1_33 : ((Jvm.Cond.instanceMethod ({ cls := "CommitCouncil$Member", name := "<init>", desc := "()V" } : Jvm.MethodName))) ∈ wsU := wsU_T (List.mem_append_left _ (List.mem_of_getElem? (i := 33) rfl)) rfl
theorem uw_1_34 : ((Jvm.Cond.code ({ cls := "CommitCouncil$Member", name := "<init>", desc := "()V" } : Jvm.MethodName) prog_7_method_1_code (1 : Nat) (Option.none : Option Jvm.ClassFile.FieldType))) ∈ wsU := wsU_T (List.mem_append_left _ (List.mem_of_getElem? (i := 34) rfl)) rfl
theorem uw_1_35 : ((Jvm.Cond.methodLink "CommitCouncil$Member" (1 : Nat) ({ cls := "java/lang/Object", name := "<init>", desc := "()V" } : Jvm.MethodName))) ∈ wsU := wsU_T (List.mem_append_left _ (List.mem_of_getElem? (i := 35) rfl)) rfl
theorem uw_1_36 : ((Jvm.Cond.fieldLink "CommitCouncil$Manager" (9 : Nat) "CommitCouncil$Manager" "state" "I")) ∈ wsU := wsU_T (List.mem_append_left _ (List.mem_of_getElem? (i := 36) rfl)) rfl
theorem uw_1_37 : ((Jvm.Cond.fieldLink "CommitCouncil" (55 : Nat) "CommitCouncil$Manager" "state" "I")) ∈ wsU := wsU_T (List.mem_append_left _ (List.mem_of_getElem? (i := 37) rfl)) rfl
theorem uw_1_38 : ((Jvm.Cond.fieldLink "CommitCouncil" (67 : Nat) "CommitCouncil$Manager" "proposed" "I")) ∈ wsU := wsU_T (List.mem_append_left _ (List.mem_of_getElem? (i := 38) rfl)) rfl
theorem uw_1_39 : ((Jvm.Cond.fieldLink "CommitCouncil$Member" (7 : Nat) "CommitCouncil$Member" "up" "Z")) ∈ wsU := wsU_T (List.mem_append_left _ (List.mem_of_getElem? (i := 39) rfl)) rfl
theorem uw_1_40 : ((Jvm.Cond.fieldLink "CommitCouncil" (59 : Nat) "CommitCouncil$Manager" "up" "Z")) ∈ wsU := wsU_T (List.mem_append_left _ (List.mem_of_getElem? (i := 40) rfl)) rfl
theorem uw_1_41 : ((Jvm.Cond.sameField "CommitCouncil$Manager" "CommitCouncil$Member" "up" "Z")) ∈ wsU := wsU_T (List.mem_append_left _ (List.mem_of_getElem? (i := 41) rfl)) rfl
theorem uw_1_42 : ((Jvm.Cond.fieldLink "CommitCouncil" (88 : Nat) "CommitCouncil$Leader" "up" "Z")) ∈ wsU := wsU_T (List.mem_append_left _ (List.mem_of_getElem? (i := 42) rfl)) rfl
theorem uw_1_43 : ((Jvm.Cond.sameField "CommitCouncil$Leader" "CommitCouncil$Member" "up" "Z")) ∈ wsU := wsU_T (List.mem_append_left _ (List.mem_of_getElem? (i := 43) rfl)) rfl
theorem uw_1_44 : ((Jvm.Cond.fieldLink "CommitCouncil" (122 : Nat) "CommitCouncil$Member" "up" "Z")) ∈ wsU := wsU_T (List.mem_append_left _ (List.mem_of_getElem? (i := 44) rfl)) rfl
theorem uw_1_45 : ((Jvm.Cond.fieldLink "CommitCouncil" (143 : Nat) "CommitCouncil$Acceptor" "up" "Z")) ∈ wsU := wsU_T (List.mem_append_left _ (List.mem_of_getElem? (i := 45) rfl)) rfl
theorem uw_1_46 : ((Jvm.Cond.sameField "CommitCouncil$Acceptor" "CommitCouncil$Member" "up" "Z")) ∈ wsU := wsU_T (List.mem_append_left _ (List.mem_of_getElem? (i := 46) rfl)) rfl
theorem uw_1_47 : ((Jvm.Cond.lays "CommitCouncil$Manager" "CommitCouncil$Manager" "state" "I")) ∈ wsU := wsU_T (List.mem_append_left _ (List.mem_of_getElem? (i := 47) rfl)) rfl
theorem uw_1_49 : ((Jvm.Cond.lays "CommitCouncil$Manager" "CommitCouncil$Manager" "proposed" "I")) ∈ wsU := wsU_T (List.mem_append_left _ (List.mem_of_getElem? (i := 49) rfl)) rfl
theorem uw_1_51 : ((Jvm.Cond.lays "CommitCouncil$Manager" "CommitCouncil$Member" "up" "Z")) ∈ wsU := wsU_T (List.mem_append_left _ (List.mem_of_getElem? (i := 51) rfl)) rfl
theorem uw_1_53 : ((Jvm.Cond.superclass "CommitCouncil$Manager" "CommitCouncil$Member")) ∈ wsU := wsU_T (List.mem_append_left _ (List.mem_of_getElem? (i := 53) rfl)) rfl
theorem uw_1_54 : ((Jvm.Cond.classLink "CommitCouncil" (16 : Nat) "CommitCouncil$Acceptor")) ∈ wsU := wsU_T (List.mem_append_left _ (List.mem_of_getElem? (i := 54) rfl)) rfl
theorem uw_1_56 : ((Jvm.Cond.instantiable "CommitCouncil$Acceptor" (3 : Nat))) ∈ wsU := wsU_T (List.mem_append_left _ (List.mem_of_getElem? (i := 56) rfl)) rfl
theorem uw_1_57 : ((Jvm.Cond.methodLink "CommitCouncil" (22 : Nat) ({ cls := "CommitCouncil$Acceptor", name := "<init>", desc := "(I)V" } : Jvm.MethodName))) ∈ wsU := wsU_T (List.mem_append_left _ (List.mem_of_getElem? (i := 57) rfl)) rfl
theorem uw_1_58 : ((Jvm.Cond.instanceMethod ({ cls := "CommitCouncil$Acceptor", name := "<init>", desc := "(I)V" } : Jvm.MethodName))) ∈ wsU := wsU_T (List.mem_append_left _ (List.mem_of_getElem? (i := 58) rfl)) rfl
theorem uw_1_59 : ((Jvm.Cond.code ({ cls := "CommitCouncil$Acceptor", name := "<init>", desc := "(I)V" } : Jvm.MethodName) prog_2_method_1_code (2 : Nat) (Option.none : Option Jvm.ClassFile.FieldType))) ∈ wsU := wsU_T (List.mem_append_left _ (List.mem_of_getElem? (i := 59) rfl)) rfl
theorem uw_1_61 : ((Jvm.Cond.fieldLink "CommitCouncil$Acceptor" (13 : Nat) "CommitCouncil$Acceptor" "promised" "I")) ∈ wsU := wsU_T (List.mem_append_left _ (List.mem_of_getElem? (i := 61) rfl)) rfl
theorem uw_1_62 : ((Jvm.Cond.fieldLink "CommitCouncil" (140 : Nat) "CommitCouncil$Acceptor" "promised" "I")) ∈ wsU := wsU_T (List.mem_append_left _ (List.mem_of_getElem? (i := 62) rfl)) rfl
theorem uw_1_63 : ((Jvm.Cond.fieldLink "CommitCouncil$Acceptor" (7 : Nat) "CommitCouncil$Acceptor" "accepted" "[I")) ∈ wsU := wsU_T (List.mem_append_left _ (List.mem_of_getElem? (i := 63) rfl)) rfl
theorem uw_1_64 : ((Jvm.Cond.fieldLink "CommitCouncil" (144 : Nat) "CommitCouncil$Acceptor" "accepted" "[I")) ∈ wsU := wsU_T (List.mem_append_left _ (List.mem_of_getElem? (i := 64) rfl)) rfl
theorem uw_1_65 : ((Jvm.Cond.lays "CommitCouncil$Acceptor" "CommitCouncil$Acceptor" "promised" "I")) ∈ wsU := wsU_T (List.mem_append_left _ (List.mem_of_getElem? (i := 65) rfl)) rfl
theorem uw_1_67 : ((Jvm.Cond.laysFinal "CommitCouncil$Acceptor" "CommitCouncil$Acceptor" "accepted" "[I")) ∈ wsU := wsU_T (List.mem_append_left _ (List.mem_of_getElem? (i := 67) rfl)) rfl
theorem uw_1_69 : ((Jvm.Cond.lays "CommitCouncil$Acceptor" "CommitCouncil$Member" "up" "Z")) ∈ wsU := wsU_T (List.mem_append_left _ (List.mem_of_getElem? (i := 69) rfl)) rfl
theorem uw_1_70 : ((Jvm.Cond.superclass "CommitCouncil$Acceptor" "CommitCouncil$Member")) ∈ wsU := wsU_T (List.mem_append_left _ (List.mem_of_getElem? (i := 70) rfl)) rfl
theorem uw_1_71 : ((Jvm.Cond.arrayClass Jvm.ClassFile.FieldType.int)) ∈ wsU := wsU_T (List.mem_append_left _ (List.mem_of_getElem? (i := 71) rfl)) rfl
theorem uw_1_72 : ((Jvm.Cond.classLink "CommitCouncil" (25 : Nat) "CommitCouncil$Leader")) ∈ wsU := wsU_T (List.mem_append_left _ (List.mem_of_getElem? (i := 72) rfl)) rfl
theorem uw_1_74 : ((Jvm.Cond.instantiable "CommitCouncil$Leader" (10 : Nat))) ∈ wsU := wsU_T (List.mem_append_left _ (List.mem_of_getElem? (i := 74) rfl)) rfl
theorem uw_1_75 : ((Jvm.Cond.methodLink "CommitCouncil" (31 : Nat) ({ cls := "CommitCouncil$Leader", name := "<init>", desc := "(II)V" } : Jvm.MethodName))) ∈ wsU := wsU_T (List.mem_append_left _ (List.mem_of_getElem? (i := 75) rfl)) rfl
theorem uw_1_76 : ((Jvm.Cond.instanceMethod ({ cls := "CommitCouncil$Leader", name := "<init>", desc := "(II)V" } : Jvm.MethodName))) ∈ wsU := wsU_T (List.mem_append_left _ (List.mem_of_getElem? (i := 76) rfl)) rfl
theorem uw_1_77 : ((Jvm.Cond.code ({ cls := "CommitCouncil$Leader", name := "<init>", desc := "(II)V" } : Jvm.MethodName) prog_3_method_1_code (3 : Nat) (Option.none : Option Jvm.ClassFile.FieldType))) ∈ wsU := wsU_T (List.mem_append_left _ (List.mem_of_getElem? (i := 77) rfl)) rfl
theorem uw_1_79 : ((Jvm.Cond.fieldLink "CommitCouncil$Leader" (25 : Nat) "CommitCouncil$Leader" "ballot" "I")) ∈ wsU := wsU_T (List.mem_append_left _ (List.mem_of_getElem? (i := 79) rfl)) rfl
theorem uw_1_80 : ((Jvm.Cond.fieldLink "CommitCouncil" (148 : Nat) "CommitCouncil$Leader" "ballot" "I")) ∈ wsU := wsU_T (List.mem_append_left _ (List.mem_of_getElem? (i := 80) rfl)) rfl
theorem uw_1_81 : ((Jvm.Cond.fieldLink "CommitCouncil$Leader" (31 : Nat) "CommitCouncil$Leader" "phase" "I")) ∈ wsU := wsU_T (List.mem_append_left _ (List.mem_of_getElem? (i := 81) rfl)) rfl
theorem uw_1_82 : ((Jvm.Cond.fieldLink "CommitCouncil" (151 : Nat) "CommitCouncil$Leader" "phase" "I")) ∈ wsU := wsU_T (List.mem_append_left _ (List.mem_of_getElem? (i := 82) rfl)) rfl
theorem uw_1_83 : ((Jvm.Cond.fieldLink "CommitCouncil$Leader" (28 : Nat) "CommitCouncil$Leader" "highest" "I")) ∈ wsU := wsU_T (List.mem_append_left _ (List.mem_of_getElem? (i := 83) rfl)) rfl
theorem uw_1_84 : ((Jvm.Cond.fieldLink "CommitCouncil" (78 : Nat) "CommitCouncil$Leader" "highest" "I")) ∈ wsU := wsU_T (List.mem_append_left _ (List.mem_of_getElem? (i := 84) rfl)) rfl
theorem uw_1_85 : ((Jvm.Cond.fieldLink "CommitCouncil$Leader" (49 : Nat) "CommitCouncil$Leader" "decision" "I")) ∈ wsU := wsU_T (List.mem_append_left _ (List.mem_of_getElem? (i := 85) rfl)) rfl
theorem uw_1_86 : ((Jvm.Cond.fieldLink "CommitCouncil" (85 : Nat) "CommitCouncil$Leader" "decision" "I")) ∈ wsU := wsU_T (List.mem_append_left _ (List.mem_of_getElem? (i := 86) rfl)) rfl
theorem uw_1_87 : ((Jvm.Cond.fieldLink "CommitCouncil$Leader" (34 : Nat) "CommitCouncil$Leader" "toldBy" "I")) ∈ wsU := wsU_T (List.mem_append_left _ (List.mem_of_getElem? (i := 87) rfl)) rfl
theorem uw_1_88 : ((Jvm.Cond.fieldLink "CommitCouncil" (154 : Nat) "CommitCouncil$Leader" "toldBy" "I")) ∈ wsU := wsU_T (List.mem_append_left _ (List.mem_of_getElem? (i := 88) rfl)) rfl
theorem uw_1_89 : ((Jvm.Cond.fieldLink "CommitCouncil$Leader" (15 : Nat) "CommitCouncil$Leader" "latest" "[I")) ∈ wsU := wsU_T (List.mem_append_left _ (List.mem_of_getElem? (i := 89) rfl)) rfl
theorem uw_1_90 : ((Jvm.Cond.fieldLink "CommitCouncil" (262 : Nat) "CommitCouncil$Leader" "latest" "[I")) ∈ wsU := wsU_T (List.mem_append_left _ (List.mem_of_getElem? (i := 90) rfl)) rfl
theorem uw_1_91 : ((Jvm.Cond.fieldLink "CommitCouncil$Leader" (19 : Nat) "CommitCouncil$Leader" "outcomes" "[I")) ∈ wsU := wsU_T (List.mem_append_left _ (List.mem_of_getElem? (i := 91) rfl)) rfl
theorem uw_1_92 : ((Jvm.Cond.fieldLink "CommitCouncil" (162 : Nat) "CommitCouncil$Leader" "outcomes" "[I")) ∈ wsU := wsU_T (List.mem_append_left _ (List.mem_of_getElem? (i := 92) rfl)) rfl
theorem uw_1_93 : ((Jvm.Cond.fieldLink "CommitCouncil$Leader" (9 : Nat) "CommitCouncil$Leader" "acceptorCount" "I")) ∈ wsU := wsU_T (List.mem_append_left _ (List.mem_of_getElem? (i := 93) rfl)) rfl
theorem uw_1_94 : ((Jvm.Cond.fieldLink "CommitCouncil$Leader" (22 : Nat) "CommitCouncil$Leader" "sights" "[I")) ∈ wsU := wsU_T (List.mem_append_left _ (List.mem_of_getElem? (i := 94) rfl)) rfl
theorem uw_1_95 : ((Jvm.Cond.lays "CommitCouncil$Leader" "CommitCouncil$Leader" "ballot" "I")) ∈ wsU := wsU_T (List.mem_append_left _ (List.mem_of_getElem? (i := 95) rfl)) rfl
theorem uw_1_97 : ((Jvm.Cond.lays "CommitCouncil$Leader" "CommitCouncil$Leader" "phase" "I")) ∈ wsU := wsU_T (List.mem_append_left _ (List.mem_of_getElem? (i := 97) rfl)) rfl
theorem uw_1_99 : ((Jvm.Cond.lays "CommitCouncil$Leader" "CommitCouncil$Leader" "highest" "I")) ∈ wsU := wsU_T (List.mem_append_left _ (List.mem_of_getElem? (i := 99) rfl)) rfl
theorem uw_1_101 : ((Jvm.Cond.lays "CommitCouncil$Leader" "CommitCouncil$Leader" "decision" "I")) ∈ wsU := wsU_T (List.mem_append_left _ (List.mem_of_getElem? (i := 101) rfl)) rfl
theorem uw_1_103 : ((Jvm.Cond.lays "CommitCouncil$Leader" "CommitCouncil$Leader" "toldBy" "I")) ∈ wsU := wsU_T (List.mem_append_left _ (List.mem_of_getElem? (i := 103) rfl)) rfl
theorem uw_1_105 : ((Jvm.Cond.laysFinal "CommitCouncil$Leader" "CommitCouncil$Leader" "latest" "[I")) ∈ wsU := wsU_T (List.mem_append_left _ (List.mem_of_getElem? (i := 105) rfl)) rfl
theorem uw_1_107 : ((Jvm.Cond.laysFinal "CommitCouncil$Leader" "CommitCouncil$Leader" "outcomes" "[I")) ∈ wsU := wsU_T (List.mem_append_left _ (List.mem_of_getElem? (i := 107) rfl)) rfl
theorem uw_1_109 : ((Jvm.Cond.laysFinal "CommitCouncil$Leader" "CommitCouncil$Leader" "acceptorCount" "I")) ∈ wsU := wsU_T (List.mem_append_left _ (List.mem_of_getElem? (i := 109) rfl)) rfl
theorem uw_1_111 : ((Jvm.Cond.laysFinal "CommitCouncil$Leader" "CommitCouncil$Leader" "sights" "[I")) ∈ wsU := wsU_T (List.mem_append_left _ (List.mem_of_getElem? (i := 111) rfl)) rfl
theorem uw_1_113 : ((Jvm.Cond.lays "CommitCouncil$Leader" "CommitCouncil$Member" "up" "Z")) ∈ wsU := wsU_T (List.mem_append_left _ (List.mem_of_getElem? (i := 113) rfl)) rfl
theorem uw_1_114 : ((Jvm.Cond.superclass "CommitCouncil$Leader" "CommitCouncil$Member")) ∈ wsU := wsU_T (List.mem_append_left _ (List.mem_of_getElem? (i := 114) rfl)) rfl
theorem uw_1_115 : ((Jvm.Cond.classLink "CommitCouncil" (34 : Nat) "CommitCouncil$Mail")) ∈ wsU := wsU_T (List.mem_append_left _ (List.mem_of_getElem? (i := 115) rfl)) rfl
theorem uw_1_116 : ((Jvm.Cond.instantiable "CommitCouncil$Mail" (4 : Nat))) ∈ wsU := wsU_T (List.mem_append_left _ (List.mem_of_getElem? (i := 116) rfl)) rfl
theorem uw_1_117 : ((Jvm.Cond.methodLink "CommitCouncil" (36 : Nat) ({ cls := "CommitCouncil$Mail", name := "<init>", desc := "(I)V" } : Jvm.MethodName))) ∈ wsU := wsU_T (List.mem_append_left _ (List.mem_of_getElem? (i := 117) rfl)) rfl
theorem uw_1_118 : ((Jvm.Cond.instanceMethod ({ cls := "CommitCouncil$Mail", name := "<init>", desc := "(I)V" } : Jvm.MethodName))) ∈ wsU := wsU_T (List.mem_append_left _ (List.mem_of_getElem? (i := 118) rfl)) rfl
theorem uw_1_119 : ((Jvm.Cond.code ({ cls := "CommitCouncil$Mail", name := "<init>", desc := "(I)V" } : Jvm.MethodName) prog_5_method_1_code (2 : Nat) (Option.none : Option Jvm.ClassFile.FieldType))) ∈ wsU := wsU_T (List.mem_append_left _ (List.mem_of_getElem? (i := 119) rfl)) rfl
theorem uw_1_120 : ((Jvm.Cond.methodLink "CommitCouncil$Mail" (5 : Nat) ({ cls := "java/lang/Object", name := "<init>", desc := "()V" } : Jvm.MethodName))) ∈ wsU := wsU_T (List.mem_append_left _ (List.mem_of_getElem? (i := 120) rfl)) rfl
theorem uw_1_121 : ((Jvm.Cond.fieldLink "CommitCouncil$Mail" (19 : Nat) "CommitCouncil$Mail" "size" "I")) ∈ wsU := wsU_T (List.mem_append_left _ (List.mem_of_getElem? (i := 121) rfl)) rfl
theorem uw_1_122 : ((Jvm.Cond.fieldLink "CommitCouncil" (98 : Nat) "CommitCouncil$Mail" "size" "I")) ∈ wsU := wsU_T (List.mem_append_left _ (List.mem_of_getElem? (i := 122) rfl)) rfl
theorem uw_1_123 : ((Jvm.Cond.fieldLink "CommitCouncil$Mail" (22 : Nat) "CommitCouncil$Mail" "sent" "I")) ∈ wsU := wsU_T (List.mem_append_left _ (List.mem_of_getElem? (i := 123) rfl)) rfl
theorem uw_1_124 : ((Jvm.Cond.fieldLink "CommitCouncil" (171 : Nat) "CommitCouncil$Mail" "sent" "I")) ∈ wsU := wsU_T (List.mem_append_left _ (List.mem_of_getElem? (i := 124) rfl)) rfl
theorem uw_1_125 : ((Jvm.Cond.fieldLink "CommitCouncil$Mail" (11 : Nat) "CommitCouncil$Mail" "width" "I")) ∈ wsU := wsU_T (List.mem_append_left _ (List.mem_of_getElem? (i := 125) rfl)) rfl
theorem uw_1_126 : ((Jvm.Cond.fieldLink "CommitCouncil$Mail" (15 : Nat) "CommitCouncil$Mail" "cells" "[I")) ∈ wsU := wsU_T (List.mem_append_left _ (List.mem_of_getElem? (i := 126) rfl)) rfl
theorem uw_1_127 : ((Jvm.Cond.lays "CommitCouncil$Mail" "CommitCouncil$Mail" "size" "I")) ∈ wsU := wsU_T (List.mem_append_left _ (List.mem_of_getElem? (i := 127) rfl)) rfl
theorem uw_1_129 : ((Jvm.Cond.lays "CommitCouncil$Mail" "CommitCouncil$Mail" "sent" "I")) ∈ wsU := wsU_T (List.mem_append_left _ (List.mem_of_getElem? (i := 129) rfl)) rfl
theorem uw_1_131 : ((Jvm.Cond.laysFinal "CommitCouncil$Mail" "CommitCouncil$Mail" "width" "I")) ∈ wsU := wsU_T (List.mem_append_left _ (List.mem_of_getElem? (i := 131) rfl)) rfl
theorem uw_1_133 : ((Jvm.Cond.laysFinal "CommitCouncil$Mail" "CommitCouncil$Mail" "cells" "[I")) ∈ wsU := wsU_T (List.mem_append_left _ (List.mem_of_getElem? (i := 133) rfl)) rfl
theorem uw_1_135 : ((Jvm.Cond.superclass "CommitCouncil$Mail" "java/lang/Object")) ∈ wsU := wsU_T (List.mem_append_left _ (List.mem_of_getElem? (i := 135) rfl)) rfl
theorem uw_1_136 : ((Jvm.Cond.classLink "CommitCouncil" (41 : Nat) "CommitCouncil$Ledger")) ∈ wsU := wsU_T (List.mem_append_left _ (List.mem_of_getElem? (i := 136) rfl)) rfl
theorem uw_1_137 : ((Jvm.Cond.instantiable "CommitCouncil$Ledger" (4 : Nat))) ∈ wsU := wsU_T (List.mem_append_left _ (List.mem_of_getElem? (i := 137) rfl)) rfl
theorem uw_1_138 : ((Jvm.Cond.methodLink "CommitCouncil" (43 : Nat) ({ cls := "CommitCouncil$Ledger", name := "<init>", desc := "(II)V" } : Jvm.MethodName))) ∈ wsU := wsU_T (List.mem_append_left _ (List.mem_of_getElem? (i := 138) rfl)) rfl
theorem uw_1_139 : ((Jvm.Cond.instanceMethod ({ cls := "CommitCouncil$Ledger", name := "<init>", desc := "(II)V" } : Jvm.MethodName))) ∈ wsU := wsU_T (List.mem_append_left _ (List.mem_of_getElem? (i := 139) rfl)) rfl
theorem uw_1_140 : ((Jvm.Cond.code ({ cls := "CommitCouncil$Ledger", name := "<init>", desc := "(II)V" } : Jvm.MethodName) prog_4_method_1_code (3 : Nat) (Option.none : Option Jvm.ClassFile.FieldType))) ∈ wsU := wsU_T (List.mem_append_left _ (List.mem_of_getElem? (i := 140) rfl)) rfl
theorem uw_1_141 : ((Jvm.Cond.methodLink "CommitCouncil$Ledger" (3 : Nat) ({ cls := "java/lang/Object", name := "<init>", desc := "()V" } : Jvm.MethodName))) ∈ wsU := wsU_T (List.mem_append_left _ (List.mem_of_getElem? (i := 141) rfl)) rfl
theorem uw_1_142 : ((Jvm.Cond.fieldLink "CommitCouncil$Ledger" (15 : Nat) "CommitCouncil$Ledger" "words" "[I")) ∈ wsU := wsU_T (List.mem_append_left _ (List.mem_of_getElem? (i := 142) rfl)) rfl
theorem uw_1_143 : ((Jvm.Cond.fieldLink "CommitCouncil" (168 : Nat) "CommitCouncil$Ledger" "words" "[I")) ∈ wsU := wsU_T (List.mem_append_left _ (List.mem_of_getElem? (i := 143) rfl)) rfl
theorem uw_1_144 : ((Jvm.Cond.fieldLink "CommitCouncil$Ledger" (19 : Nat) "CommitCouncil$Ledger" "unlike" "[Z")) ∈ wsU := wsU_T (List.mem_append_left _ (List.mem_of_getElem? (i := 144) rfl)) rfl
theorem uw_1_145 : ((Jvm.Cond.fieldLink "CommitCouncil" (183 : Nat) "CommitCouncil$Ledger" "unlike" "[Z")) ∈ wsU := wsU_T (List.mem_append_left _ (List.mem_of_getElem? (i := 145) rfl)) rfl
theorem uw_1_146 : ((Jvm.Cond.fieldLink "CommitCouncil$Ledger" (9 : Nat) "CommitCouncil$Ledger" "acceptorCount" "I")) ∈ wsU := wsU_T (List.mem_append_left _ (List.mem_of_getElem? (i := 146) rfl)) rfl
theorem uw_1_147 : ((Jvm.Cond.fieldLink "CommitCouncil$Ledger" (23 : Nat) "CommitCouncil$Ledger" "takers" "[I")) ∈ wsU := wsU_T (List.mem_append_left _ (List.mem_of_getElem? (i := 147) rfl)) rfl
theorem uw_1_148 : ((Jvm.Cond.laysFinal "CommitCouncil$Ledger" "CommitCouncil$Ledger" "words" "[I")) ∈ wsU := wsU_T (List.mem_append_left _ (List.mem_of_getElem? (i := 148) rfl)) rfl
theorem uw_1_150 : ((Jvm.Cond.laysFinal "CommitCouncil$Ledger" "CommitCouncil$Ledger" "unlike" "[Z")) ∈ wsU := wsU_T (List.mem_append_left _ (List.mem_of_getElem? (i := 150) rfl)) rfl
theorem uw_1_152 : ((Jvm.Cond.laysFinal "CommitCouncil$Ledger" "CommitCouncil$Ledger" "acceptorCount" "I")) ∈ wsU := wsU_T (List.mem_append_left _ (List.mem_of_getElem? (i := 152) rfl)) rfl
theorem uw_1_154 : ((Jvm.Cond.laysFinal "CommitCouncil$Ledger" "CommitCouncil$Ledger" "takers" "[I")) ∈ wsU := wsU_T (List.mem_append_left _ (List.mem_of_getElem? (i := 154) rfl)) rfl
theorem uw_1_156 : ((Jvm.Cond.superclass "CommitCouncil$Ledger" "java/lang/Object")) ∈ wsU := wsU_T (List.mem_append_left _ (List.mem_of_getElem? (i := 156) rfl)) rfl
theorem uw_1_157 : ((Jvm.Cond.arrayClass Jvm.ClassFile.FieldType.boolean)) ∈ wsU := wsU_T (List.mem_append_left _ (List.mem_of_getElem? (i := 157) rfl)) rfl
theorem uw_1_158 : ((Jvm.Cond.fieldLink "CommitCouncil" (11 : Nat) "CommitCouncil" "managers" "[LCommitCouncil$Manager;")) ∈ wsU := wsU_T (List.mem_append_left _ (List.mem_of_getElem? (i := 158) rfl)) rfl
theorem uw_1_159 : ((Jvm.Cond.fieldLink "CommitCouncil" (18 : Nat) "CommitCouncil" "acceptors" "[LCommitCouncil$Acceptor;")) ∈ wsU := wsU_T (List.mem_append_left _ (List.mem_of_getElem? (i := 159) rfl)) rfl
theorem uw_1_160 : ((Jvm.Cond.fieldLink "CommitCouncil" (27 : Nat) "CommitCouncil" "leaders" "[LCommitCouncil$Leader;")) ∈ wsU := wsU_T (List.mem_append_left _ (List.mem_of_getElem? (i := 160) rfl)) rfl
theorem uw_1_161 : ((Jvm.Cond.fieldLink "CommitCouncil" (37 : Nat) "CommitCouncil" "mail" "LCommitCouncil$Mail;")) ∈ wsU := wsU_T (List.mem_append_left _ (List.mem_of_getElem? (i := 161) rfl)) rfl
theorem uw_1_162 : ((Jvm.Cond.fieldLink "CommitCouncil" (44 : Nat) "CommitCouncil" "ledger" "LCommitCouncil$Ledger;")) ∈ wsU := wsU_T (List.mem_append_left _ (List.mem_of_getElem? (i := 162) rfl)) rfl
theorem uw_1_163 : ((Jvm.Cond.fieldLink "CommitCouncil" (174 : Nat) "CommitCouncil" "came" "I")) ∈ wsU := wsU_T (List.mem_append_left _ (List.mem_of_getElem? (i := 163) rfl)) rfl
theorem uw_1_164 : ((Jvm.Cond.fieldLink "CommitCouncil" (92 : Nat) "CommitCouncil" "begun" "I")) ∈ wsU := wsU_T (List.mem_append_left _ (List.mem_of_getElem? (i := 164) rfl)) rfl
theorem uw_1_165 : ((Jvm.Cond.laysFinal "CommitCouncil" "CommitCouncil" "managers" "[LCommitCouncil$Manager;")) ∈ wsU := wsU_T (List.mem_append_left _ (List.mem_of_getElem? (i := 165) rfl)) rfl
theorem uw_1_167 : ((Jvm.Cond.laysFinal "CommitCouncil" "CommitCouncil" "acceptors" "[LCommitCouncil$Acceptor;")) ∈ wsU := wsU_T (List.mem_append_left _ (List.mem_of_getElem? (i := 167) rfl)) rfl
theorem uw_1_169 : ((Jvm.Cond.laysFinal "CommitCouncil" "CommitCouncil" "leaders" "[LCommitCouncil$Leader;")) ∈ wsU := wsU_T (List.mem_append_left _ (List.mem_of_getElem? (i := 169) rfl)) rfl
theorem uw_1_171 : ((Jvm.Cond.laysFinal "CommitCouncil" "CommitCouncil" "mail" "LCommitCouncil$Mail;")) ∈ wsU := wsU_T (List.mem_append_left _ (List.mem_of_getElem? (i := 171) rfl)) rfl
theorem uw_1_173 : ((Jvm.Cond.laysFinal "CommitCouncil" "CommitCouncil" "ledger" "LCommitCouncil$Ledger;")) ∈ wsU := wsU_T (List.mem_append_left _ (List.mem_of_getElem? (i := 173) rfl)) rfl
theorem uw_1_175 : ((Jvm.Cond.lays "CommitCouncil" "CommitCouncil" "came" "I")) ∈ wsU := wsU_T (List.mem_append_left _ (List.mem_of_getElem? (i := 175) rfl)) rfl
theorem uw_1_177 : ((Jvm.Cond.lays "CommitCouncil" "CommitCouncil" "begun" "I")) ∈ wsU := wsU_T (List.mem_append_left _ (List.mem_of_getElem? (i := 177) rfl)) rfl
theorem uw_1_179 : ((Jvm.Cond.superclass "CommitCouncil" "java/lang/Object")) ∈ wsU := wsU_T (List.mem_append_left _ (List.mem_of_getElem? (i := 179) rfl)) rfl
theorem uw_1_180 : ((Jvm.Cond.methodLink "CommitCouncilLaw" (155 : Nat) ({ cls := "CommitCouncil", name := "count", desc := "(I)I" } : Jvm.MethodName))) ∈ wsU := wsU_T (List.mem_append_left _ (List.mem_of_getElem? (i := 180) rfl)) rfl
theorem uw_1_181 : ((Jvm.Cond.instanceMethod ({ cls := "CommitCouncil", name := "count", desc := "(I)I" } : Jvm.MethodName))) ∈ wsU := wsU_T (List.mem_append_left _ (List.mem_of_getElem? (i := 181) rfl)) rfl
theorem uw_1_182 : ((Jvm.Cond.selects "CommitCouncil" ({ cls := "CommitCouncil", name := "count", desc := "(I)I" } : Jvm.MethodName) ({ cls := "CommitCouncil", name := "count", desc := "(I)I" } : Jvm.MethodName))) ∈ wsU := wsU_T (List.mem_append_left _ (List.mem_of_getElem? (i := 182) rfl)) rfl
theorem uw_1_183 : ((Jvm.Cond.code ({ cls := "CommitCouncil", name := "count", desc := "(I)I" } : Jvm.MethodName) prog_1_method_21_code (2 : Nat) (Option.some Jvm.ClassFile.FieldType.int))) ∈ wsU := wsU_T (List.mem_append_left _ (List.mem_of_getElem? (i := 183) rfl)) rfl
theorem uw_1_184 : ((Jvm.Cond.methodLink "CommitCouncil" (177 : Nat) ({ cls := "CommitCouncil", name := "howManyUp", desc := "(II)I" } : Jvm.MethodName))) ∈ wsU := wsU_T (List.mem_append_left _ (List.mem_of_getElem? (i := 184) rfl)) rfl
theorem uw_1_186 : ((Jvm.Cond.instanceMethod ({ cls := "CommitCouncil", name := "howManyUp", desc := "(II)I" } : Jvm.MethodName))) ∈ wsU := wsU_T (List.mem_append_left _ (List.mem_of_getElem? (i := 186) rfl)) rfl
theorem uw_1_187 : ((Jvm.Cond.code ({ cls := "CommitCouncil", name := "howManyUp", desc := "(II)I" } : Jvm.MethodName) prog_1_method_29_code (5 : Nat) (Option.some Jvm.ClassFile.FieldType.int))) ∈ wsU := wsU_T (List.mem_append_left _ (List.mem_of_getElem? (i := 187) rfl)) rfl
theorem uw_1_188 : ((Jvm.Cond.methodLink "CommitCouncil" (118 : Nat) ({ cls := "CommitCouncil", name := "memberOf", desc := "(II)LCommitCouncil$Member;" } : Jvm.MethodName))) ∈ wsU := wsU_T (List.mem_append_left _ (List.mem_of_getElem? (i := 188) rfl)) rfl
theorem uw_1_190 : ((Jvm.Cond.instanceMethod ({ cls := "CommitCouncil", name := "memberOf", desc := "(II)LCommitCouncil$Member;" } : Jvm.MethodName))) ∈ wsU := wsU_T (List.mem_append_left _ (List.mem_of_getElem? (i := 190) rfl)) rfl
theorem uw_1_191 : ((Jvm.Cond.code ({ cls := "CommitCouncil", name := "memberOf", desc := "(II)LCommitCouncil$Member;" } : Jvm.MethodName) prog_1_method_32_code (3 : Nat) (Option.some (Jvm.ClassFile.FieldType.object "CommitCouncil$Member")))) ∈ wsU := wsU_T (List.mem_append_left _ (List.mem_of_getElem? (i := 191) rfl)) rfl
theorem uw_1_192 : ((Jvm.Cond.methodLink "CommitCouncil" (48 : Nat) ({ cls := "CommitCouncil", name := "checkOne", desc := "(II)V" } : Jvm.MethodName))) ∈ wsU := wsU_T (List.mem_append_left _ (List.mem_of_getElem? (i := 192) rfl)) rfl
theorem uw_1_193 : ((Jvm.Cond.static ({ cls := "CommitCouncil", name := "checkOne", desc := "(II)V" } : Jvm.MethodName))) ∈ wsU := wsU_T (List.mem_append_left _ (List.mem_of_getElem? (i := 193) rfl)) rfl
theorem uw_1_194 : ((Jvm.Cond.code ({ cls := "CommitCouncil", name := "checkOne", desc := "(II)V" } : Jvm.MethodName) prog_1_method_23_code (2 : Nat) (Option.none : Option Jvm.ClassFile.FieldType))) ∈ wsU := wsU_T (List.mem_append_left _ (List.mem_of_getElem? (i := 194) rfl)) rfl
theorem uw_1_195 : ((Jvm.Cond.classLink "CommitCouncil" (190 : Nat) "java/lang/IndexOutOfBoundsException")) ∈ wsU := wsU_T (List.mem_append_left _ (List.mem_of_getElem? (i := 195) rfl)) rfl
theorem uw_1_196 : ((Jvm.Cond.instantiable "java/lang/IndexOutOfBoundsException" (6 : Nat))) ∈ wsU := wsU_T (List.mem_append_left _ (List.mem_of_getElem? (i := 196) rfl)) rfl
theorem uw_1_204 : ((Jvm.Cond.selects "java/lang/IndexOutOfBoundsException" ({ cls := "java/lang/Throwable", name := "fillInStackTrace", desc := "(I)Ljava/lang/Throwable;" } : Jvm.MethodName) ({ cls := "java/lang/Throwable", name := "fillInStackTrace", desc := "(I)Ljava/lang/Throwable;" } : Jvm.MethodName))) ∈ wsU := wsU_T (List.mem_append_left _ (List.mem_of_getElem? (i := 204) rfl)) rfl
theorem uw_1_205 : ((Jvm.Cond.selects "java/lang/IndexOutOfBoundsException" ({ cls := "java/lang/Throwable", name := "fillInStackTrace", desc := "()Ljava/lang/Throwable;" } : Jvm.MethodName) ({ cls := "java/lang/Throwable", name := "fillInStackTrace", desc := "()Ljava/lang/Throwable;" } : Jvm.MethodName))) ∈ wsU := wsU_T (List.mem_append_left _ (List.mem_of_getElem? (i := 205) rfl)) rfl
theorem uw_1_206 : ((Jvm.Cond.lays "java/lang/IndexOutOfBoundsException" "java/lang/Throwable" "cause" "Ljava/lang/Throwable;")) ∈ wsU := wsU_T (List.mem_append_left _ (List.mem_of_getElem? (i := 206) rfl)) rfl
theorem uw_1_207 : ((Jvm.Cond.lays "java/lang/Throwable" "java/lang/Throwable" "cause" "Ljava/lang/Throwable;")) ∈ wsU := wsU_T (List.mem_append_left _ (List.mem_of_getElem? (i := 207) rfl)) rfl
theorem uw_1_208 : ((Jvm.Cond.lays "java/lang/IndexOutOfBoundsException" "java/lang/Throwable" "stackTrace" "[Ljava/lang/StackTraceElement;")) ∈ wsU := wsU_T (List.mem_append_left _ (List.mem_of_getElem? (i := 208) rfl)) rfl
theorem uw_1_209 : ((Jvm.Cond.lays "java/lang/Throwable" "java/lang/Throwable" "stackTrace" "[Ljava/lang/StackTraceElement;")) ∈ wsU := wsU_T (List.mem_append_left _ (List.mem_of_getElem? (i := 209) rfl)) rfl
theorem uw_1_210 : ((Jvm.Cond.lays "java/lang/IndexOutOfBoundsException" "java/lang/Throwable" "suppressedExceptions" "Ljava/util/List;")) ∈ wsU := wsU_T (List.mem_append_left _ (List.mem_of_getElem? (i := 210) rfl)) rfl
theorem uw_1_211 : ((Jvm.Cond.lays "java/lang/Throwable" "java/lang/Throwable" "suppressedExceptions" "Ljava/util/List;")) ∈ wsU := wsU_T (List.mem_append_left _ (List.mem_of_getElem? (i := 211) rfl)) rfl
theorem uw_1_212 : ((Jvm.Cond.lays "java/lang/IndexOutOfBoundsException" "java/lang/Throwable" "detailMessage" "Ljava/lang/String;")) ∈ wsU := wsU_T (List.mem_append_left _ (List.mem_of_getElem? (i := 212) rfl)) rfl
theorem uw_1_213 : ((Jvm.Cond.lays "java/lang/Throwable" "java/lang/Throwable" "detailMessage" "Ljava/lang/String;")) ∈ wsU := wsU_T (List.mem_append_left _ (List.mem_of_getElem? (i := 213) rfl)) rfl
theorem uw_1_214 : ((Jvm.Cond.lays "java/lang/IndexOutOfBoundsException" "java/lang/Throwable" "backtrace" "Ljava/lang/Object;")) ∈ wsU := wsU_T (List.mem_append_left _ (List.mem_of_getElem? (i := 214) rfl)) rfl
theorem uw_1_215 : ((Jvm.Cond.lays "java/lang/Throwable" "java/lang/Throwable" "backtrace" "Ljava/lang/Object;")) ∈ wsU := wsU_T (List.mem_append_left _ (List.mem_of_getElem? (i := 215) rfl)) rfl
theorem uw_1_216 : ((Jvm.Cond.fieldLink "java/lang/Throwable" (198 : Nat) "java/lang/Throwable" "backtrace" "Ljava/lang/Object;")) ∈ wsU := wsU_T (List.mem_append_left _ (List.mem_of_getElem? (i := 216) rfl)) rfl
theorem uw_1_217 : ((Jvm.Cond.superclass "java/lang/Throwable" "java/lang/Object")) ∈ wsU := wsU_T (List.mem_append_left _ (List.mem_of_getElem? (i := 217) rfl)) rfl
theorem uw_1_218 : ((Jvm.Cond.instanceMethod ({ cls := "java/lang/Throwable", name := "<init>", desc := "()V" } : Jvm.MethodName))) ∈ wsU := wsU_T (List.mem_append_left _ (List.mem_of_getElem? (i := 218) rfl)) rfl
theorem uw_1_219 : ((Jvm.Cond.code ({ cls := "java/lang/Throwable", name := "<init>", desc := "()V" } : Jvm.MethodName) prog_18_method_1_code (1 : Nat) (Option.none : Option Jvm.ClassFile.FieldType))) ∈ wsU := wsU_T (List.mem_append_left _ (List.mem_of_getElem? (i := 219) rfl)) rfl
theorem uw_1_220 : ((Jvm.Cond.methodLink "java/lang/Throwable" (1 : Nat) ({ cls := "java/lang/Object", name := "<init>", desc := "()V" } : Jvm.MethodName))) ∈ wsU := wsU_T (List.mem_append_left _ (List.mem_of_getElem? (i := 220) rfl)) rfl
theorem uw_1_221 : ((Jvm.Cond.fieldLink "java/lang/Throwable" (13 : Nat) "java/lang/Throwable" "UNASSIGNED_STACK" "[Ljava/lang/StackTraceElement;")) ∈ wsU := wsU_T (List.mem_append_left _ (List.mem_of_getElem? (i := 221) rfl)) rfl
theorem uw_1_223 : ((Jvm.Cond.fieldLink "java/lang/Throwable" (20 : Nat) "java/lang/Throwable" "SUPPRESSED_SENTINEL" "Ljava/util/List;")) ∈ wsU := wsU_T (List.mem_append_left _ (List.mem_of_getElem? (i := 223) rfl)) rfl
theorem uw_1_225 : ((Jvm.Cond.methodLink "java/lang/Throwable" (27 : Nat) ({ cls := "java/lang/Throwable", name := "fillInStackTrace", desc := "()Ljava/lang/Throwable;" } : Jvm.MethodName))) ∈ wsU := wsU_T (List.mem_append_left _ (List.mem_of_getElem? (i := 225) rfl)) rfl
theorem uw_1_226 : ((Jvm.Cond.instanceMethod ({ cls := "java/lang/Throwable", name := "fillInStackTrace", desc := "()Ljava/lang/Throwable;" } : Jvm.MethodName))) ∈ wsU := wsU_T (List.mem_append_left _ (List.mem_of_getElem? (i := 226) rfl)) rfl
theorem uw_1_227 : ((Jvm.Cond.sameMethod "java/lang/Throwable" "java/lang/Throwable" "fillInStackTrace" "()Ljava/lang/Throwable;")) ∈ wsU := wsU_T (List.mem_append_left _ (List.mem_of_getElem? (i := 227) rfl)) rfl
theorem uw_1_228 : ((Jvm.Cond.selects "java/lang/IllegalArgumentException" ({ cls := "java/lang/Throwable", name := "fillInStackTrace", desc := "()Ljava/lang/Throwable;" } : Jvm.MethodName) ({ cls := "java/lang/Throwable", name := "fillInStackTrace", desc := "()Ljava/lang/Throwable;" } : Jvm.MethodName))) ∈ wsU := wsU_T (List.mem_append_left _ (List.mem_of_getElem? (i := 228) rfl)) rfl
theorem uw_1_229 : ((Jvm.Cond.codeSync ({ cls := "java/lang/Throwable", name := "fillInStackTrace", desc := "()Ljava/lang/Throwable;" } : Jvm.MethodName) prog_18_method_18_code (1 : Nat) (Option.some (Jvm.ClassFile.FieldType.object "java/lang/Throwable")))) ∈ wsU := wsU_T (List.mem_append_left _ (List.mem_of_getElem? (i := 229) rfl)) rfl
theorem uw_1_230 : ((Jvm.Cond.methodLink "java/lang/Throwable" (202 : Nat) ({ cls := "java/lang/Throwable", name := "fillInStackTrace", desc := "(I)Ljava/lang/Throwable;" } : Jvm.MethodName))) ∈ wsU := wsU_T (List.mem_append_left _ (List.mem_of_getElem? (i := 230) rfl)) rfl
theorem uw_1_232 : ((Jvm.Cond.instanceMethod ({ cls := "java/lang/Throwable", name := "fillInStackTrace", desc := "(I)Ljava/lang/Throwable;" } : Jvm.MethodName))) ∈ wsU := wsU_T (List.mem_append_left _ (List.mem_of_getElem? (i := 232) rfl)) rfl
theorem uw_1_233 : ((Jvm.Cond.instantiable "java/lang/Throwable" (6 : Nat))) ∈ wsU := wsU_T (List.mem_append_left _ (List.mem_of_getElem? (i := 233) rfl)) rfl
theorem uw_1_234 : ((Jvm.Cond.native ({ cls := "java/lang/Throwable", name := "fillInStackTrace", desc := "(I)Ljava/lang/Throwable;" } : Jvm.MethodName))) ∈ wsU := wsU_T (List.mem_append_left _ (List.mem_of_getElem? (i := 234) rfl)) rfl
theorem uw_1_236 : ((Jvm.Cond.methodLink "CommitCouncil" (194 : Nat) ({ cls := "java/lang/IndexOutOfBoundsException", name := "<init>", desc := "(Ljava/lang/String;)V" } : Jvm.MethodName))) ∈ wsU := wsU_T (List.mem_append_left _ (List.mem_of_getElem? (i := 236) rfl)) rfl
theorem uw_1_237 : ((Jvm.Cond.instanceMethod ({ cls := "java/lang/IndexOutOfBoundsException", name := "<init>", desc := "(Ljava/lang/String;)V" } : Jvm.MethodName))) ∈ wsU := wsU_T (List.mem_append_left _ (List.mem_of_getElem? (i := 237) rfl)) rfl
theorem uw_1_238 : ((Jvm.Cond.code ({ cls := "java/lang/IndexOutOfBoundsException", name := "<init>", desc := "(Ljava/lang/String;)V" } : Jvm.MethodName) prog_12_method_2_code (2 : Nat) (Option.none : Option Jvm.ClassFile.FieldType))) ∈ wsU := wsU_T (List.mem_append_left _ (List.mem_of_getElem? (i := 238) rfl)) rfl
theorem uw_1_239 : ((Jvm.Cond.methodLink "java/lang/IndexOutOfBoundsException" (7 : Nat) ({ cls := "java/lang/RuntimeException", name := "<init>", desc := "(Ljava/lang/String;)V" } : Jvm.MethodName))) ∈ wsU := wsU_T (List.mem_append_left _ (List.mem_of_getElem? (i := 239) rfl)) rfl
theorem uw_2_0 : ((Jvm.Cond.instanceMethod ({ cls := "java/lang/RuntimeException", name := "<init>", desc := "(Ljava/lang/String;)V" } : Jvm.MethodName))) ∈ wsU := wsU_T (List.mem_append_right _ (List.mem_append_left _ (List.mem_of_getElem? (i := 0) rfl))) rfl
theorem uw_2_1 : ((Jvm.Cond.code ({ cls := "java/lang/RuntimeException", name := "<init>", desc := "(Ljava/lang/String;)V" } : Jvm.MethodName) prog_15_method_2_code (2 : Nat) (Option.none : Option Jvm.ClassFile.FieldType))) ∈ wsU := wsU_T (List.mem_append_right _ (List.mem_append_left _ (List.mem_of_getElem? (i := 1) rfl))) rfl
theorem uw_2_2 : ((Jvm.Cond.methodLink "java/lang/RuntimeException" (7 : Nat) ({ cls := "java/lang/Exception", name := "<init>", desc := "(Ljava/lang/String;)V" } : Jvm.MethodName))) ∈ wsU := wsU_T (List.mem_append_right _ (List.mem_append_left _ (List.mem_of_getElem? (i := 2) rfl))) rfl
theorem uw_2_3 : ((Jvm.Cond.instanceMethod ({ cls := "java/lang/Exception", name := "<init>", desc := "(Ljava/lang/String;)V" } : Jvm.MethodName))) ∈ wsU := wsU_T (List.mem_append_right _ (List.mem_append_left _ (List.mem_of_getElem? (i := 3) rfl))) rfl
theorem uw_2_4 : ((Jvm.Cond.code ({ cls := "java/lang/Exception", name := "<init>", desc := "(Ljava/lang/String;)V" } : Jvm.MethodName) prog_10_method_2_code (2 : Nat) (Option.none : Option Jvm.ClassFile.FieldType))) ∈ wsU := wsU_T (List.mem_append_right _ (List.mem_append_left _ (List.mem_of_getElem? (i := 4) rfl))) rfl
theorem uw_2_5 : ((Jvm.Cond.methodLink "java/lang/Exception" (7 : Nat) ({ cls := "java/lang/Throwable", name := "<init>", desc := "(Ljava/lang/String;)V" } : Jvm.MethodName))) ∈ wsU := wsU_T (List.mem_append_right _ (List.mem_append_left _ (List.mem_of_getElem? (i := 5) rfl))) rfl
theorem uw_2_6 : ((Jvm.Cond.instanceMethod ({ cls := "java/lang/Throwable", name := "<init>", desc := "(Ljava/lang/String;)V" } : Jvm.MethodName))) ∈ wsU := wsU_T (List.mem_append_right _ (List.mem_append_left _ (List.mem_of_getElem? (i := 6) rfl))) rfl
theorem uw_2_7 : ((Jvm.Cond.code ({ cls := "java/lang/Throwable", name := "<init>", desc := "(Ljava/lang/String;)V" } : Jvm.MethodName) prog_18_method_2_code (2 : Nat) (Option.none : Option Jvm.ClassFile.FieldType))) ∈ wsU := wsU_T (List.mem_append_right _ (List.mem_append_left _ (List.mem_of_getElem? (i := 7) rfl))) rfl
theorem uw_2_8 : ((Jvm.Cond.fieldLink "java/lang/Throwable" (198 : Nat) "java/lang/Throwable" "backtrace" "Ljava/lang/Object;")) ∈ wsU := wsU_T (List.mem_append_right _ (List.mem_append_left _ (List.mem_of_getElem? (i := 8) rfl))) rfl
theorem uw_2_9 : ((Jvm.Cond.fieldLink "java/lang/Throwable" (31 : Nat) "java/lang/Throwable" "detailMessage" "Ljava/lang/String;")) ∈ wsU := wsU_T (List.mem_append_right _ (List.mem_append_left _ (List.mem_of_getElem? (i := 9) rfl))) rfl
theorem uw_2_10 : ((Jvm.Cond.fieldLink "java/lang/Throwable" (7 : Nat) "java/lang/Throwable" "cause" "Ljava/lang/Throwable;")) ∈ wsU := wsU_T (List.mem_append_right _ (List.mem_append_left _ (List.mem_of_getElem? (i := 10) rfl))) rfl
theorem uw_2_11 : ((Jvm.Cond.fieldLink "java/lang/Throwable" (17 : Nat) "java/lang/Throwable" "stackTrace" "[Ljava/lang/StackTraceElement;")) ∈ wsU := wsU_T (List.mem_append_right _ (List.mem_append_left _ (List.mem_of_getElem? (i := 11) rfl))) rfl
theorem uw_2_12 : ((Jvm.Cond.fieldLink "java/lang/Throwable" (24 : Nat) "java/lang/Throwable" "suppressedExceptions" "Ljava/util/List;")) ∈ wsU := wsU_T (List.mem_append_right _ (List.mem_append_left _ (List.mem_of_getElem? (i := 12) rfl))) rfl
theorem uw_2_17 : ((Jvm.Cond.lays "java/lang/IndexOutOfBoundsException" "java/lang/Throwable" "depth" "I")) ∈ wsU := wsU_T (List.mem_append_right _ (List.mem_append_left _ (List.mem_of_getElem? (i := 17) rfl))) rfl
theorem uw_2_20 : ((Jvm.Cond.superclass "java/lang/IndexOutOfBoundsException" "java/lang/RuntimeException")) ∈ wsU := wsU_T (List.mem_append_right _ (List.mem_append_left _ (List.mem_of_getElem? (i := 20) rfl))) rfl
theorem uw_2_21 : ((Jvm.Cond.arrayClass Jvm.ClassFile.FieldType.byte)) ∈ wsU := wsU_T (List.mem_append_right _ (List.mem_append_left _ (List.mem_of_getElem? (i := 21) rfl))) rfl
theorem uw_2_22 : ((Jvm.Cond.classLink "CommitCouncil" (111 : Nat) "java/lang/IllegalArgumentException")) ∈ wsU := wsU_T (List.mem_append_right _ (List.mem_append_left _ (List.mem_of_getElem? (i := 22) rfl))) rfl
theorem uw_2_23 : ((Jvm.Cond.instantiable "java/lang/IllegalArgumentException" (6 : Nat))) ∈ wsU := wsU_T (List.mem_append_right _ (List.mem_append_left _ (List.mem_of_getElem? (i := 23) rfl))) rfl
theorem uw_2_25 : ((Jvm.Cond.selects "java/lang/IllegalArgumentException" ({ cls := "java/lang/Throwable", name := "fillInStackTrace", desc := "(I)Ljava/lang/Throwable;" } : Jvm.MethodName) ({ cls := "java/lang/Throwable", name := "fillInStackTrace", desc := "(I)Ljava/lang/Throwable;" } : Jvm.MethodName))) ∈ wsU := wsU_T (List.mem_append_right _ (List.mem_append_left _ (List.mem_of_getElem? (i := 25) rfl))) rfl
theorem uw_2_26 : ((Jvm.Cond.lays "java/lang/IllegalArgumentException" "java/lang/Throwable" "cause" "Ljava/lang/Throwable;")) ∈ wsU := wsU_T (List.mem_append_right _ (List.mem_append_left _ (List.mem_of_getElem? (i := 26) rfl))) rfl
theorem uw_2_27 : ((Jvm.Cond.lays "java/lang/IllegalArgumentException" "java/lang/Throwable" "stackTrace" "[Ljava/lang/StackTraceElement;")) ∈ wsU := wsU_T (List.mem_append_right _ (List.mem_append_left _ (List.mem_of_getElem? (i := 27) rfl))) rfl
theorem uw_2_28 : ((Jvm.Cond.lays "java/lang/IllegalArgumentException" "java/lang/Throwable" "suppressedExceptions" "Ljava/util/List;")) ∈ wsU := wsU_T (List.mem_append_right _ (List.mem_append_left _ (List.mem_of_getElem? (i := 28) rfl))) rfl
theorem uw_2_29 : ((Jvm.Cond.lays "java/lang/IllegalArgumentException" "java/lang/Throwable" "detailMessage" "Ljava/lang/String;")) ∈ wsU := wsU_T (List.mem_append_right _ (List.mem_append_left _ (List.mem_of_getElem? (i := 29) rfl))) rfl
theorem uw_2_30 : ((Jvm.Cond.lays "java/lang/IllegalArgumentException" "java/lang/Throwable" "backtrace" "Ljava/lang/Object;")) ∈ wsU := wsU_T (List.mem_append_right _ (List.mem_append_left _ (List.mem_of_getElem? (i := 30) rfl))) rfl
theorem uw_2_32 : ((Jvm.Cond.methodLink "CommitCouncil" (115 : Nat) ({ cls := "java/lang/IllegalArgumentException", name := "<init>", desc := "(Ljava/lang/String;)V" } : Jvm.MethodName))) ∈ wsU := wsU_T (List.mem_append_right _ (List.mem_append_left _ (List.mem_of_getElem? (i := 32) rfl))) rfl
theorem uw_2_33 : ((Jvm.Cond.instanceMethod ({ cls := "java/lang/IllegalArgumentException", name := "<init>", desc := "(Ljava/lang/String;)V" } : Jvm.MethodName))) ∈ wsU := wsU_T (List.mem_append_right _ (List.mem_append_left _ (List.mem_of_getElem? (i := 33) rfl))) rfl
theorem uw_2_34 : ((Jvm.Cond.code ({ cls := "java/lang/IllegalArgumentException", name := "<init>", desc := "(Ljava/lang/String;)V" } : Jvm.MethodName) prog_11_method_2_code (2 : Nat) (Option.none : Option Jvm.ClassFile.FieldType))) ∈ wsU := wsU_T (List.mem_append_right _ (List.mem_append_left _ (List.mem_of_getElem? (i := 34) rfl))) rfl
theorem uw_2_35 : ((Jvm.Cond.methodLink "java/lang/IllegalArgumentException" (7 : Nat) ({ cls := "java/lang/RuntimeException", name := "<init>", desc := "(Ljava/lang/String;)V" } : Jvm.MethodName))) ∈ wsU := wsU_T (List.mem_append_right _ (List.mem_append_left _ (List.mem_of_getElem? (i := 35) rfl))) rfl
theorem uw_2_36 : ((Jvm.Cond.lays "java/lang/IllegalArgumentException" "java/lang/Throwable" "depth" "I")) ∈ wsU := wsU_T (List.mem_append_right _ (List.mem_append_left _ (List.mem_of_getElem? (i := 36) rfl))) rfl
theorem uw_2_37 : ((Jvm.Cond.superclass "java/lang/IllegalArgumentException" "java/lang/RuntimeException")) ∈ wsU := wsU_T (List.mem_append_right _ (List.mem_append_left _ (List.mem_of_getElem? (i := 37) rfl))) rfl
theorem uw_2_38 : ((Jvm.Cond.methodLink "CommitCouncil" (180 : Nat) ({ cls := "CommitCouncil", name := "howManyManagers", desc := "(I)I" } : Jvm.MethodName))) ∈ wsU := wsU_T (List.mem_append_right _ (List.mem_append_left _ (List.mem_of_getElem? (i := 38) rfl))) rfl
theorem uw_2_40 : ((Jvm.Cond.instanceMethod ({ cls := "CommitCouncil", name := "howManyManagers", desc := "(I)I" } : Jvm.MethodName))) ∈ wsU := wsU_T (List.mem_append_right _ (List.mem_append_left _ (List.mem_of_getElem? (i := 40) rfl))) rfl
theorem uw_2_41 : ((Jvm.Cond.code ({ cls := "CommitCouncil", name := "howManyManagers", desc := "(I)I" } : Jvm.MethodName) prog_1_method_30_code (4 : Nat) (Option.some Jvm.ClassFile.FieldType.int))) ∈ wsU := wsU_T (List.mem_append_right _ (List.mem_append_left _ (List.mem_of_getElem? (i := 41) rfl))) rfl
theorem uw_2_42 : ((Jvm.Cond.methodLink "CommitCouncilLaw" (159 : Nat) ({ cls := "CommitCouncil", name := "astray", desc := "()I" } : Jvm.MethodName))) ∈ wsU := wsU_T (List.mem_append_right _ (List.mem_append_left _ (List.mem_of_getElem? (i := 42) rfl))) rfl
theorem uw_2_43 : ((Jvm.Cond.instanceMethod ({ cls := "CommitCouncil", name := "astray", desc := "()I" } : Jvm.MethodName))) ∈ wsU := wsU_T (List.mem_append_right _ (List.mem_append_left _ (List.mem_of_getElem? (i := 43) rfl))) rfl
theorem uw_2_44 : ((Jvm.Cond.selects "CommitCouncil" ({ cls := "CommitCouncil", name := "astray", desc := "()I" } : Jvm.MethodName) ({ cls := "CommitCouncil", name := "astray", desc := "()I" } : Jvm.MethodName))) ∈ wsU := wsU_T (List.mem_append_right _ (List.mem_append_left _ (List.mem_of_getElem? (i := 44) rfl))) rfl
theorem uw_2_45 : ((Jvm.Cond.code ({ cls := "CommitCouncil", name := "astray", desc := "()I" } : Jvm.MethodName) prog_1_method_22_code (4 : Nat) (Option.some Jvm.ClassFile.FieldType.int))) ∈ wsU := wsU_T (List.mem_append_right _ (List.mem_append_left _ (List.mem_of_getElem? (i := 45) rfl))) rfl
theorem uw_2_46 : ((Jvm.Cond.methodLink "CommitCouncil" (187 : Nat) ({ cls := "CommitCouncil", name := "isBackedByChosen", desc := "(I)Z" } : Jvm.MethodName))) ∈ wsU := wsU_T (List.mem_append_right _ (List.mem_append_left _ (List.mem_of_getElem? (i := 46) rfl))) rfl
theorem uw_2_48 : ((Jvm.Cond.instanceMethod ({ cls := "CommitCouncil", name := "isBackedByChosen", desc := "(I)Z" } : Jvm.MethodName))) ∈ wsU := wsU_T (List.mem_append_right _ (List.mem_append_left _ (List.mem_of_getElem? (i := 48) rfl))) rfl
theorem uw_2_49 : ((Jvm.Cond.code ({ cls := "CommitCouncil", name := "isBackedByChosen", desc := "(I)Z" } : Jvm.MethodName) prog_1_method_31_code (5 : Nat) (Option.some Jvm.ClassFile.FieldType.boolean))) ∈ wsU := wsU_T (List.mem_append_right _ (List.mem_append_left _ (List.mem_of_getElem? (i := 49) rfl))) rfl
theorem uw_2_50 : ((Jvm.Cond.methodLink "CommitCouncilLaw" (77 : Nat) ({ cls := "CommitCouncilLaw", name := "cell", desc := "([II)I" } : Jvm.MethodName))) ∈ wsU := wsU_T (List.mem_append_right _ (List.mem_append_left _ (List.mem_of_getElem? (i := 50) rfl))) rfl
theorem uw_2_51 : ((Jvm.Cond.static ({ cls := "CommitCouncilLaw", name := "cell", desc := "([II)I" } : Jvm.MethodName))) ∈ wsU := wsU_T (List.mem_append_right _ (List.mem_append_left _ (List.mem_of_getElem? (i := 51) rfl))) rfl
theorem uw_2_52 : ((Jvm.Cond.code ({ cls := "CommitCouncilLaw", name := "cell", desc := "([II)I" } : Jvm.MethodName) method_2_code (2 : Nat) (Option.some Jvm.ClassFile.FieldType.int))) ∈ wsU := wsU_T (List.mem_append_right _ (List.mem_append_left _ (List.mem_of_getElem? (i := 52) rfl))) rfl
theorem uw_2_53 : ((Jvm.Cond.methodLink "CommitCouncilLaw" (89 : Nat) ({ cls := "CommitCouncilLaw", name := "prepare", desc := "(LCommitCouncil;I[J)I" } : Jvm.MethodName))) ∈ wsU := wsU_T (List.mem_append_right _ (List.mem_append_left _ (List.mem_of_getElem? (i := 53) rfl))) rfl
theorem uw_2_54 : ((Jvm.Cond.static ({ cls := "CommitCouncilLaw", name := "prepare", desc := "(LCommitCouncil;I[J)I" } : Jvm.MethodName))) ∈ wsU := wsU_T (List.mem_append_right _ (List.mem_append_left _ (List.mem_of_getElem? (i := 54) rfl))) rfl
theorem uw_2_55 : ((Jvm.Cond.codeWith ({ cls := "CommitCouncilLaw", name := "prepare", desc := "(LCommitCouncil;I[J)I" } : Jvm.MethodName) method_3_code (4 : Nat) (Option.some Jvm.ClassFile.FieldType.int) [((0 : Nat), (16 : Nat), (19 : Nat), (13 : Nat))])) ∈ wsU := wsU_T (List.mem_append_right _ (List.mem_append_left _ (List.mem_of_getElem? (i := 55) rfl))) rfl
theorem uw_2_56 : ((Jvm.Cond.classLink "CommitCouncilLaw" (13 : Nat) "java/lang/IndexOutOfBoundsException")) ∈ wsU := wsU_T (List.mem_append_right _ (List.mem_append_left _ (List.mem_of_getElem? (i := 56) rfl))) rfl
theorem uw_2_57 : ((Jvm.Cond.methodLink "CommitCouncilLaw" (7 : Nat) ({ cls := "CommitCouncil", name := "prepare", desc := "(I)Z" } : Jvm.MethodName))) ∈ wsU := wsU_T (List.mem_append_right _ (List.mem_append_left _ (List.mem_of_getElem? (i := 57) rfl))) rfl
theorem uw_2_58 : ((Jvm.Cond.instanceMethod ({ cls := "CommitCouncil", name := "prepare", desc := "(I)Z" } : Jvm.MethodName))) ∈ wsU := wsU_T (List.mem_append_right _ (List.mem_append_left _ (List.mem_of_getElem? (i := 58) rfl))) rfl
theorem uw_2_59 : ((Jvm.Cond.selects "CommitCouncil" ({ cls := "CommitCouncil", name := "prepare", desc := "(I)Z" } : Jvm.MethodName) ({ cls := "CommitCouncil", name := "prepare", desc := "(I)Z" } : Jvm.MethodName))) ∈ wsU := wsU_T (List.mem_append_right _ (List.mem_append_left _ (List.mem_of_getElem? (i := 59) rfl))) rfl
theorem uw_2_60 : ((Jvm.Cond.code ({ cls := "CommitCouncil", name := "prepare", desc := "(I)Z" } : Jvm.MethodName) prog_1_method_2_code (2 : Nat) (Option.some Jvm.ClassFile.FieldType.boolean))) ∈ wsU := wsU_T (List.mem_append_right _ (List.mem_append_left _ (List.mem_of_getElem? (i := 60) rfl))) rfl
theorem uw_2_61 : ((Jvm.Cond.methodLink "CommitCouncil" (51 : Nat) ({ cls := "CommitCouncil", name := "propose", desc := "(III)Z" } : Jvm.MethodName))) ∈ wsU := wsU_T (List.mem_append_right _ (List.mem_append_left _ (List.mem_of_getElem? (i := 61) rfl))) rfl
theorem uw_2_63 : ((Jvm.Cond.instanceMethod ({ cls := "CommitCouncil", name := "propose", desc := "(III)Z" } : Jvm.MethodName))) ∈ wsU := wsU_T (List.mem_append_right _ (List.mem_append_left _ (List.mem_of_getElem? (i := 63) rfl))) rfl
theorem uw_2_64 : ((Jvm.Cond.code ({ cls := "CommitCouncil", name := "propose", desc := "(III)Z" } : Jvm.MethodName) prog_1_method_33_code (5 : Nat) (Option.some Jvm.ClassFile.FieldType.boolean))) ∈ wsU := wsU_T (List.mem_append_right _ (List.mem_append_left _ (List.mem_of_getElem? (i := 64) rfl))) rfl
theorem uw_2_65 : ((Jvm.Cond.methodLink "CommitCouncil" (63 : Nat) ({ cls := "CommitCouncil$Mail", name := "hasRoomFor", desc := "(I)Z" } : Jvm.MethodName))) ∈ wsU := wsU_T (List.mem_append_right _ (List.mem_append_left _ (List.mem_of_getElem? (i := 65) rfl))) rfl
theorem uw_2_66 : ((Jvm.Cond.instanceMethod ({ cls := "CommitCouncil$Mail", name := "hasRoomFor", desc := "(I)Z" } : Jvm.MethodName))) ∈ wsU := wsU_T (List.mem_append_right _ (List.mem_append_left _ (List.mem_of_getElem? (i := 66) rfl))) rfl
theorem uw_2_67 : ((Jvm.Cond.selects "CommitCouncil$Mail" ({ cls := "CommitCouncil$Mail", name := "hasRoomFor", desc := "(I)Z" } : Jvm.MethodName) ({ cls := "CommitCouncil$Mail", name := "hasRoomFor", desc := "(I)Z" } : Jvm.MethodName))) ∈ wsU := wsU_T (List.mem_append_right _ (List.mem_append_left _ (List.mem_of_getElem? (i := 67) rfl))) rfl
theorem uw_2_68 : ((Jvm.Cond.code ({ cls := "CommitCouncil$Mail", name := "hasRoomFor", desc := "(I)Z" } : Jvm.MethodName) prog_5_method_2_code (2 : Nat) (Option.some Jvm.ClassFile.FieldType.boolean))) ∈ wsU := wsU_T (List.mem_append_right _ (List.mem_append_left _ (List.mem_of_getElem? (i := 68) rfl))) rfl
theorem uw_2_69 : ((Jvm.Cond.methodLink "CommitCouncil" (70 : Nat) ({ cls := "CommitCouncil", name := "sendVotes", desc := "(III)V" } : Jvm.MethodName))) ∈ wsU := wsU_T (List.mem_append_right _ (List.mem_append_left _ (List.mem_of_getElem? (i := 69) rfl))) rfl
theorem uw_2_71 : ((Jvm.Cond.instanceMethod ({ cls := "CommitCouncil", name := "sendVotes", desc := "(III)V" } : Jvm.MethodName))) ∈ wsU := wsU_T (List.mem_append_right _ (List.mem_append_left _ (List.mem_of_getElem? (i := 71) rfl))) rfl
theorem uw_2_72 : ((Jvm.Cond.code ({ cls := "CommitCouncil", name := "sendVotes", desc := "(III)V" } : Jvm.MethodName) prog_1_method_34_code (5 : Nat) (Option.none : Option Jvm.ClassFile.FieldType))) ∈ wsU := wsU_T (List.mem_append_right _ (List.mem_append_left _ (List.mem_of_getElem? (i := 72) rfl))) rfl
theorem uw_2_73 : ((Jvm.Cond.methodLink "CommitCouncil" (74 : Nat) ({ cls := "CommitCouncil$Mail", name := "send", desc := "(IIIIII)V" } : Jvm.MethodName))) ∈ wsU := wsU_T (List.mem_append_right _ (List.mem_append_left _ (List.mem_of_getElem? (i := 73) rfl))) rfl
theorem uw_2_74 : ((Jvm.Cond.instanceMethod ({ cls := "CommitCouncil$Mail", name := "send", desc := "(IIIIII)V" } : Jvm.MethodName))) ∈ wsU := wsU_T (List.mem_append_right _ (List.mem_append_left _ (List.mem_of_getElem? (i := 74) rfl))) rfl
theorem uw_2_75 : ((Jvm.Cond.selects "CommitCouncil$Mail" ({ cls := "CommitCouncil$Mail", name := "send", desc := "(IIIIII)V" } : Jvm.MethodName) ({ cls := "CommitCouncil$Mail", name := "send", desc := "(IIIIII)V" } : Jvm.MethodName))) ∈ wsU := wsU_T (List.mem_append_right _ (List.mem_append_left _ (List.mem_of_getElem? (i := 75) rfl))) rfl
theorem uw_2_76 : ((Jvm.Cond.code ({ cls := "CommitCouncil$Mail", name := "send", desc := "(IIIIII)V" } : Jvm.MethodName) prog_5_method_3_code (8 : Nat) (Option.none : Option Jvm.ClassFile.FieldType))) ∈ wsU := wsU_T (List.mem_append_right _ (List.mem_append_left _ (List.mem_of_getElem? (i := 76) rfl))) rfl
theorem uw_2_77 : ((Jvm.Cond.methodLink "CommitCouncilLaw" (97 : Nat) ({ cls := "CommitCouncilLaw", name := "refuse", desc := "(LCommitCouncil;I[J)I" } : Jvm.MethodName))) ∈ wsU := wsU_T (List.mem_append_right _ (List.mem_append_left _ (List.mem_of_getElem? (i := 77) rfl))) rfl
theorem uw_2_78 : ((Jvm.Cond.static ({ cls := "CommitCouncilLaw", name := "refuse", desc := "(LCommitCouncil;I[J)I" } : Jvm.MethodName))) ∈ wsU := wsU_T (List.mem_append_right _ (List.mem_append_left _ (List.mem_of_getElem? (i := 78) rfl))) rfl
theorem uw_2_79 : ((Jvm.Cond.codeWith ({ cls := "CommitCouncilLaw", name := "refuse", desc := "(LCommitCouncil;I[J)I" } : Jvm.MethodName) method_4_code (4 : Nat) (Option.some Jvm.ClassFile.FieldType.int) [((0 : Nat), (16 : Nat), (19 : Nat), (13 : Nat))])) ∈ wsU := wsU_T (List.mem_append_right _ (List.mem_append_left _ (List.mem_of_getElem? (i := 79) rfl))) rfl
theorem uw_2_80 : ((Jvm.Cond.methodLink "CommitCouncilLaw" (15 : Nat) ({ cls := "CommitCouncil", name := "refuse", desc := "(I)Z" } : Jvm.MethodName))) ∈ wsU := wsU_T (List.mem_append_right _ (List.mem_append_left _ (List.mem_of_getElem? (i := 80) rfl))) rfl
theorem uw_2_81 : ((Jvm.Cond.instanceMethod ({ cls := "CommitCouncil", name := "refuse", desc := "(I)Z" } : Jvm.MethodName))) ∈ wsU := wsU_T (List.mem_append_right _ (List.mem_append_left _ (List.mem_of_getElem? (i := 81) rfl))) rfl
theorem uw_2_82 : ((Jvm.Cond.selects "CommitCouncil" ({ cls := "CommitCouncil", name := "refuse", desc := "(I)Z" } : Jvm.MethodName) ({ cls := "CommitCouncil", name := "refuse", desc := "(I)Z" } : Jvm.MethodName))) ∈ wsU := wsU_T (List.mem_append_right _ (List.mem_append_left _ (List.mem_of_getElem? (i := 82) rfl))) rfl
theorem uw_2_83 : ((Jvm.Cond.code ({ cls := "CommitCouncil", name := "refuse", desc := "(I)Z" } : Jvm.MethodName) prog_1_method_3_code (2 : Nat) (Option.some Jvm.ClassFile.FieldType.boolean))) ∈ wsU := wsU_T (List.mem_append_right _ (List.mem_append_left _ (List.mem_of_getElem? (i := 83) rfl))) rfl
theorem uw_2_84 : ((Jvm.Cond.methodLink "CommitCouncilLaw" (100 : Nat) ({ cls := "CommitCouncilLaw", name := "resend", desc := "(LCommitCouncil;I[J)I" } : Jvm.MethodName))) ∈ wsU := wsU_T (List.mem_append_right _ (List.mem_append_left _ (List.mem_of_getElem? (i := 84) rfl))) rfl
theorem uw_2_85 : ((Jvm.Cond.static ({ cls := "CommitCouncilLaw", name := "resend", desc := "(LCommitCouncil;I[J)I" } : Jvm.MethodName))) ∈ wsU := wsU_T (List.mem_append_right _ (List.mem_append_left _ (List.mem_of_getElem? (i := 85) rfl))) rfl
theorem uw_2_86 : ((Jvm.Cond.codeWith ({ cls := "CommitCouncilLaw", name := "resend", desc := "(LCommitCouncil;I[J)I" } : Jvm.MethodName) method_5_code (4 : Nat) (Option.some Jvm.ClassFile.FieldType.int) [((0 : Nat), (16 : Nat), (19 : Nat), (13 : Nat))])) ∈ wsU := wsU_T (List.mem_append_right _ (List.mem_append_left _ (List.mem_of_getElem? (i := 86) rfl))) rfl
theorem uw_2_87 : ((Jvm.Cond.methodLink "CommitCouncilLaw" (18 : Nat) ({ cls := "CommitCouncil", name := "resend", desc := "(I)Z" } : Jvm.MethodName))) ∈ wsU := wsU_T (List.mem_append_right _ (List.mem_append_left _ (List.mem_of_getElem? (i := 87) rfl))) rfl
theorem uw_2_88 : ((Jvm.Cond.instanceMethod ({ cls := "CommitCouncil", name := "resend", desc := "(I)Z" } : Jvm.MethodName))) ∈ wsU := wsU_T (List.mem_append_right _ (List.mem_append_left _ (List.mem_of_getElem? (i := 88) rfl))) rfl
theorem uw_2_89 : ((Jvm.Cond.selects "CommitCouncil" ({ cls := "CommitCouncil", name := "resend", desc := "(I)Z" } : Jvm.MethodName) ({ cls := "CommitCouncil", name := "resend", desc := "(I)Z" } : Jvm.MethodName))) ∈ wsU := wsU_T (List.mem_append_right _ (List.mem_append_left _ (List.mem_of_getElem? (i := 89) rfl))) rfl
theorem uw_2_90 : ((Jvm.Cond.code ({ cls := "CommitCouncil", name := "resend", desc := "(I)Z" } : Jvm.MethodName) prog_1_method_4_code (4 : Nat) (Option.some Jvm.ClassFile.FieldType.boolean))) ∈ wsU := wsU_T (List.mem_append_right _ (List.mem_append_left _ (List.mem_of_getElem? (i := 90) rfl))) rfl
theorem uw_2_91 : ((Jvm.Cond.methodLink "CommitCouncilLaw" (103 : Nat) ({ cls := "CommitCouncilLaw", name := "question", desc := "(LCommitCouncil;I[J)I" } : Jvm.MethodName))) ∈ wsU := wsU_T (List.mem_append_right _ (List.mem_append_left _ (List.mem_of_getElem? (i := 91) rfl))) rfl
theorem uw_2_92 : ((Jvm.Cond.static ({ cls := "CommitCouncilLaw", name := "question", desc := "(LCommitCouncil;I[J)I" } : Jvm.MethodName))) ∈ wsU := wsU_T (List.mem_append_right _ (List.mem_append_left _ (List.mem_of_getElem? (i := 92) rfl))) rfl
theorem uw_2_93 : ((Jvm.Cond.codeWith ({ cls := "CommitCouncilLaw", name := "question", desc := "(LCommitCouncil;I[J)I" } : Jvm.MethodName) method_6_code (4 : Nat) (Option.some Jvm.ClassFile.FieldType.int) [((0 : Nat), (16 : Nat), (19 : Nat), (13 : Nat))])) ∈ wsU := wsU_T (List.mem_append_right _ (List.mem_append_left _ (List.mem_of_getElem? (i := 93) rfl))) rfl
theorem uw_2_94 : ((Jvm.Cond.methodLink "CommitCouncilLaw" (21 : Nat) ({ cls := "CommitCouncil", name := "question", desc := "(I)Z" } : Jvm.MethodName))) ∈ wsU := wsU_T (List.mem_append_right _ (List.mem_append_left _ (List.mem_of_getElem? (i := 94) rfl))) rfl
theorem uw_2_95 : ((Jvm.Cond.instanceMethod ({ cls := "CommitCouncil", name := "question", desc := "(I)Z" } : Jvm.MethodName))) ∈ wsU := wsU_T (List.mem_append_right _ (List.mem_append_left _ (List.mem_of_getElem? (i := 95) rfl))) rfl
theorem uw_2_96 : ((Jvm.Cond.selects "CommitCouncil" ({ cls := "CommitCouncil", name := "question", desc := "(I)Z" } : Jvm.MethodName) ({ cls := "CommitCouncil", name := "question", desc := "(I)Z" } : Jvm.MethodName))) ∈ wsU := wsU_T (List.mem_append_right _ (List.mem_append_left _ (List.mem_of_getElem? (i := 96) rfl))) rfl
theorem uw_2_97 : ((Jvm.Cond.code ({ cls := "CommitCouncil", name := "question", desc := "(I)Z" } : Jvm.MethodName) prog_1_method_5_code (3 : Nat) (Option.some Jvm.ClassFile.FieldType.boolean))) ∈ wsU := wsU_T (List.mem_append_right _ (List.mem_append_left _ (List.mem_of_getElem? (i := 97) rfl))) rfl
theorem uw_2_98 : ((Jvm.Cond.methodLink "CommitCouncilLaw" (106 : Nat) ({ cls := "CommitCouncilLaw", name := "begin", desc := "(LCommitCouncil;I[J)I" } : Jvm.MethodName))) ∈ wsU := wsU_T (List.mem_append_right _ (List.mem_append_left _ (List.mem_of_getElem? (i := 98) rfl))) rfl
theorem uw_2_99 : ((Jvm.Cond.static ({ cls := "CommitCouncilLaw", name := "begin", desc := "(LCommitCouncil;I[J)I" } : Jvm.MethodName))) ∈ wsU := wsU_T (List.mem_append_right _ (List.mem_append_left _ (List.mem_of_getElem? (i := 99) rfl))) rfl
theorem uw_2_100 : ((Jvm.Cond.codeWith ({ cls := "CommitCouncilLaw", name := "begin", desc := "(LCommitCouncil;I[J)I" } : Jvm.MethodName) method_7_code (4 : Nat) (Option.some Jvm.ClassFile.FieldType.int) [((0 : Nat), (9 : Nat), (12 : Nat), (13 : Nat))])) ∈ wsU := wsU_T (List.mem_append_right _ (List.mem_append_left _ (List.mem_of_getElem? (i := 100) rfl))) rfl
theorem uw_2_101 : ((Jvm.Cond.methodLink "CommitCouncilLaw" (24 : Nat) ({ cls := "CommitCouncil", name := "begin", desc := "(I)I" } : Jvm.MethodName))) ∈ wsU := wsU_T (List.mem_append_right _ (List.mem_append_left _ (List.mem_of_getElem? (i := 101) rfl))) rfl
theorem uw_2_102 : ((Jvm.Cond.instanceMethod ({ cls := "CommitCouncil", name := "begin", desc := "(I)I" } : Jvm.MethodName))) ∈ wsU := wsU_T (List.mem_append_right _ (List.mem_append_left _ (List.mem_of_getElem? (i := 102) rfl))) rfl
theorem uw_2_103 : ((Jvm.Cond.selects "CommitCouncil" ({ cls := "CommitCouncil", name := "begin", desc := "(I)I" } : Jvm.MethodName) ({ cls := "CommitCouncil", name := "begin", desc := "(I)I" } : Jvm.MethodName))) ∈ wsU := wsU_T (List.mem_append_right _ (List.mem_append_left _ (List.mem_of_getElem? (i := 103) rfl))) rfl
theorem uw_2_104 : ((Jvm.Cond.code ({ cls := "CommitCouncil", name := "begin", desc := "(I)I" } : Jvm.MethodName) prog_1_method_6_code (6 : Nat) (Option.some Jvm.ClassFile.FieldType.int))) ∈ wsU := wsU_T (List.mem_append_right _ (List.mem_append_left _ (List.mem_of_getElem? (i := 104) rfl))) rfl
theorem uw_2_105 : ((Jvm.Cond.methodLink "CommitCouncil" (81 : Nat) ({ cls := "CommitCouncil", name := "leastOwnAbove", desc := "(II)I" } : Jvm.MethodName))) ∈ wsU := wsU_T (List.mem_append_right _ (List.mem_append_left _ (List.mem_of_getElem? (i := 105) rfl))) rfl
theorem uw_2_106 : ((Jvm.Cond.static ({ cls := "CommitCouncil", name := "leastOwnAbove", desc := "(II)I" } : Jvm.MethodName))) ∈ wsU := wsU_T (List.mem_append_right _ (List.mem_append_left _ (List.mem_of_getElem? (i := 106) rfl))) rfl
theorem uw_2_107 : ((Jvm.Cond.code ({ cls := "CommitCouncil", name := "leastOwnAbove", desc := "(II)I" } : Jvm.MethodName) prog_1_method_27_code (3 : Nat) (Option.some Jvm.ClassFile.FieldType.int))) ∈ wsU := wsU_T (List.mem_append_right _ (List.mem_append_left _ (List.mem_of_getElem? (i := 107) rfl))) rfl
theorem uw_2_108 : ((Jvm.Cond.methodLink "CommitCouncil" (89 : Nat) ({ cls := "CommitCouncil$Leader", name := "startAsking", desc := "(I)V" } : Jvm.MethodName))) ∈ wsU := wsU_T (List.mem_append_right _ (List.mem_append_left _ (List.mem_of_getElem? (i := 108) rfl))) rfl
theorem uw_2_109 : ((Jvm.Cond.instanceMethod ({ cls := "CommitCouncil$Leader", name := "startAsking", desc := "(I)V" } : Jvm.MethodName))) ∈ wsU := wsU_T (List.mem_append_right _ (List.mem_append_left _ (List.mem_of_getElem? (i := 109) rfl))) rfl
theorem uw_2_110 : ((Jvm.Cond.selects "CommitCouncil$Leader" ({ cls := "CommitCouncil$Leader", name := "startAsking", desc := "(I)V" } : Jvm.MethodName) ({ cls := "CommitCouncil$Leader", name := "startAsking", desc := "(I)V" } : Jvm.MethodName))) ∈ wsU := wsU_T (List.mem_append_right _ (List.mem_append_left _ (List.mem_of_getElem? (i := 110) rfl))) rfl
theorem uw_2_111 : ((Jvm.Cond.code ({ cls := "CommitCouncil$Leader", name := "startAsking", desc := "(I)V" } : Jvm.MethodName) prog_3_method_2_code (2 : Nat) (Option.none : Option Jvm.ClassFile.FieldType))) ∈ wsU := wsU_T (List.mem_append_right _ (List.mem_append_left _ (List.mem_of_getElem? (i := 111) rfl))) rfl
theorem uw_2_112 : ((Jvm.Cond.methodLink "CommitCouncil$Leader" (37 : Nat) ({ cls := "java/util/Arrays", name := "fill", desc := "([II)V" } : Jvm.MethodName))) ∈ wsU := wsU_T (List.mem_append_right _ (List.mem_append_left _ (List.mem_of_getElem? (i := 112) rfl))) rfl
theorem uw_2_113 : ((Jvm.Cond.static ({ cls := "java/util/Arrays", name := "fill", desc := "([II)V" } : Jvm.MethodName))) ∈ wsU := wsU_T (List.mem_append_right _ (List.mem_append_left _ (List.mem_of_getElem? (i := 113) rfl))) rfl
theorem uw_2_114 : ((Jvm.Cond.code ({ cls := "java/util/Arrays", name := "fill", desc := "([II)V" } : Jvm.MethodName) prog_19_method_103_code (4 : Nat) (Option.none : Option Jvm.ClassFile.FieldType))) ∈ wsU := wsU_T (List.mem_append_right _ (List.mem_append_left _ (List.mem_of_getElem? (i := 114) rfl))) rfl
theorem uw_2_115 : ((Jvm.Cond.methodLink "CommitCouncil" (95 : Nat) ({ cls := "CommitCouncil", name := "sendDecisions", desc := "(I)V" } : Jvm.MethodName))) ∈ wsU := wsU_T (List.mem_append_right _ (List.mem_append_left _ (List.mem_of_getElem? (i := 115) rfl))) rfl
theorem uw_2_117 : ((Jvm.Cond.instanceMethod ({ cls := "CommitCouncil", name := "sendDecisions", desc := "(I)V" } : Jvm.MethodName))) ∈ wsU := wsU_T (List.mem_append_right _ (List.mem_append_left _ (List.mem_of_getElem? (i := 117) rfl))) rfl
theorem uw_2_118 : ((Jvm.Cond.code ({ cls := "CommitCouncil", name := "sendDecisions", desc := "(I)V" } : Jvm.MethodName) prog_1_method_35_code (3 : Nat) (Option.none : Option Jvm.ClassFile.FieldType))) ∈ wsU := wsU_T (List.mem_append_right _ (List.mem_append_left _ (List.mem_of_getElem? (i := 118) rfl))) rfl
theorem uw_2_119 : ((Jvm.Cond.methodLink "CommitCouncilLaw" (109 : Nat) ({ cls := "CommitCouncilLaw", name := "deliver", desc := "(LCommitCouncil;I[J)I" } : Jvm.MethodName))) ∈ wsU := wsU_T (List.mem_append_right _ (List.mem_append_left _ (List.mem_of_getElem? (i := 119) rfl))) rfl
theorem uw_2_120 : ((Jvm.Cond.static ({ cls := "CommitCouncilLaw", name := "deliver", desc := "(LCommitCouncil;I[J)I" } : Jvm.MethodName))) ∈ wsU := wsU_T (List.mem_append_right _ (List.mem_append_left _ (List.mem_of_getElem? (i := 120) rfl))) rfl
theorem uw_2_121 : ((Jvm.Cond.codeWith ({ cls := "CommitCouncilLaw", name := "deliver", desc := "(LCommitCouncil;I[J)I" } : Jvm.MethodName) method_8_code (4 : Nat) (Option.some Jvm.ClassFile.FieldType.int) [((0 : Nat), (9 : Nat), (12 : Nat), (13 : Nat))])) ∈ wsU := wsU_T (List.mem_append_right _ (List.mem_append_left _ (List.mem_of_getElem? (i := 121) rfl))) rfl
theorem uw_2_122 : ((Jvm.Cond.methodLink "CommitCouncilLaw" (28 : Nat) ({ cls := "CommitCouncil", name := "deliver", desc := "(I)I" } : Jvm.MethodName))) ∈ wsU := wsU_T (List.mem_append_right _ (List.mem_append_left _ (List.mem_of_getElem? (i := 122) rfl))) rfl
theorem uw_2_123 : ((Jvm.Cond.instanceMethod ({ cls := "CommitCouncil", name := "deliver", desc := "(I)I" } : Jvm.MethodName))) ∈ wsU := wsU_T (List.mem_append_right _ (List.mem_append_left _ (List.mem_of_getElem? (i := 123) rfl))) rfl
theorem uw_2_124 : ((Jvm.Cond.selects "CommitCouncil" ({ cls := "CommitCouncil", name := "deliver", desc := "(I)I" } : Jvm.MethodName) ({ cls := "CommitCouncil", name := "deliver", desc := "(I)I" } : Jvm.MethodName))) ∈ wsU := wsU_T (List.mem_append_right _ (List.mem_append_left _ (List.mem_of_getElem? (i := 124) rfl))) rfl
theorem uw_2_125 : ((Jvm.Cond.code ({ cls := "CommitCouncil", name := "deliver", desc := "(I)I" } : Jvm.MethodName) prog_1_method_7_code (2 : Nat) (Option.some Jvm.ClassFile.FieldType.int))) ∈ wsU := wsU_T (List.mem_append_right _ (List.mem_append_left _ (List.mem_of_getElem? (i := 125) rfl))) rfl
theorem uw_2_126 : ((Jvm.Cond.methodLink "CommitCouncil" (101 : Nat) ({ cls := "CommitCouncil", name := "bring", desc := "(I)I" } : Jvm.MethodName))) ∈ wsU := wsU_T (List.mem_append_right _ (List.mem_append_left _ (List.mem_of_getElem? (i := 126) rfl))) rfl
theorem uw_2_128 : ((Jvm.Cond.instanceMethod ({ cls := "CommitCouncil", name := "bring", desc := "(I)I" } : Jvm.MethodName))) ∈ wsU := wsU_T (List.mem_append_right _ (List.mem_append_left _ (List.mem_of_getElem? (i := 128) rfl))) rfl
theorem uw_2_129 : ((Jvm.Cond.code ({ cls := "CommitCouncil", name := "bring", desc := "(I)I" } : Jvm.MethodName) prog_1_method_36_code (6 : Nat) (Option.some Jvm.ClassFile.FieldType.int))) ∈ wsU := wsU_T (List.mem_append_right _ (List.mem_append_left _ (List.mem_of_getElem? (i := 129) rfl))) rfl
theorem uw_2_130 : ((Jvm.Cond.methodLink "CommitCouncil" (128 : Nat) ({ cls := "CommitCouncil$Mail", name := "part", desc := "(II)I" } : Jvm.MethodName))) ∈ wsU := wsU_T (List.mem_append_right _ (List.mem_append_left _ (List.mem_of_getElem? (i := 130) rfl))) rfl
theorem uw_2_131 : ((Jvm.Cond.instanceMethod ({ cls := "CommitCouncil$Mail", name := "part", desc := "(II)I" } : Jvm.MethodName))) ∈ wsU := wsU_T (List.mem_append_right _ (List.mem_append_left _ (List.mem_of_getElem? (i := 131) rfl))) rfl
theorem uw_2_132 : ((Jvm.Cond.selects "CommitCouncil$Mail" ({ cls := "CommitCouncil$Mail", name := "part", desc := "(II)I" } : Jvm.MethodName) ({ cls := "CommitCouncil$Mail", name := "part", desc := "(II)I" } : Jvm.MethodName))) ∈ wsU := wsU_T (List.mem_append_right _ (List.mem_append_left _ (List.mem_of_getElem? (i := 132) rfl))) rfl
theorem uw_2_133 : ((Jvm.Cond.code ({ cls := "CommitCouncil$Mail", name := "part", desc := "(II)I" } : Jvm.MethodName) prog_5_method_7_code (3 : Nat) (Option.some Jvm.ClassFile.FieldType.int))) ∈ wsU := wsU_T (List.mem_append_right _ (List.mem_append_left _ (List.mem_of_getElem? (i := 133) rfl))) rfl
theorem uw_2_134 : ((Jvm.Cond.methodLink "CommitCouncil" (202 : Nat) ({ cls := "CommitCouncil", name := "isUp", desc := "(II)Z" } : Jvm.MethodName))) ∈ wsU := wsU_T (List.mem_append_right _ (List.mem_append_left _ (List.mem_of_getElem? (i := 134) rfl))) rfl
theorem uw_2_136 : ((Jvm.Cond.instanceMethod ({ cls := "CommitCouncil", name := "isUp", desc := "(II)Z" } : Jvm.MethodName))) ∈ wsU := wsU_T (List.mem_append_right _ (List.mem_append_left _ (List.mem_of_getElem? (i := 136) rfl))) rfl
theorem uw_2_137 : ((Jvm.Cond.code ({ cls := "CommitCouncil", name := "isUp", desc := "(II)Z" } : Jvm.MethodName) prog_1_method_37_code (3 : Nat) (Option.some Jvm.ClassFile.FieldType.boolean))) ∈ wsU := wsU_T (List.mem_append_right _ (List.mem_append_left _ (List.mem_of_getElem? (i := 137) rfl))) rfl
theorem uw_2_138 : ((Jvm.Cond.methodLink "CommitCouncil" (206 : Nat) ({ cls := "CommitCouncil", name := "answersTo", desc := "(III)I" } : Jvm.MethodName))) ∈ wsU := wsU_T (List.mem_append_right _ (List.mem_append_left _ (List.mem_of_getElem? (i := 138) rfl))) rfl
theorem uw_2_140 : ((Jvm.Cond.instanceMethod ({ cls := "CommitCouncil", name := "answersTo", desc := "(III)I" } : Jvm.MethodName))) ∈ wsU := wsU_T (List.mem_append_right _ (List.mem_append_left _ (List.mem_of_getElem? (i := 140) rfl))) rfl
theorem uw_2_141 : ((Jvm.Cond.code ({ cls := "CommitCouncil", name := "answersTo", desc := "(III)I" } : Jvm.MethodName) prog_1_method_38_code (9 : Nat) (Option.some Jvm.ClassFile.FieldType.int))) ∈ wsU := wsU_T (List.mem_append_right _ (List.mem_append_left _ (List.mem_of_getElem? (i := 141) rfl))) rfl
theorem uw_2_142 : ((Jvm.Cond.methodLink "CommitCouncil" (213 : Nat) ({ cls := "CommitCouncil", name := "voteOf", desc := "(II)I" } : Jvm.MethodName))) ∈ wsU := wsU_T (List.mem_append_right _ (List.mem_append_left _ (List.mem_of_getElem? (i := 142) rfl))) rfl
theorem uw_2_143 : ((Jvm.Cond.static ({ cls := "CommitCouncil", name := "voteOf", desc := "(II)I" } : Jvm.MethodName))) ∈ wsU := wsU_T (List.mem_append_right _ (List.mem_append_left _ (List.mem_of_getElem? (i := 143) rfl))) rfl
theorem uw_2_144 : ((Jvm.Cond.code ({ cls := "CommitCouncil", name := "voteOf", desc := "(II)I" } : Jvm.MethodName) prog_1_method_24_code (2 : Nat) (Option.some Jvm.ClassFile.FieldType.int))) ∈ wsU := wsU_T (List.mem_append_right _ (List.mem_append_left _ (List.mem_of_getElem? (i := 144) rfl))) rfl
theorem uw_2_145 : ((Jvm.Cond.methodLink "CommitCouncil" (216 : Nat) ({ cls := "CommitCouncil$Leader", name := "decisionAfter", desc := "(III)I" } : Jvm.MethodName))) ∈ wsU := wsU_T (List.mem_append_right _ (List.mem_append_left _ (List.mem_of_getElem? (i := 145) rfl))) rfl
theorem uw_2_146 : ((Jvm.Cond.instanceMethod ({ cls := "CommitCouncil$Leader", name := "decisionAfter", desc := "(III)I" } : Jvm.MethodName))) ∈ wsU := wsU_T (List.mem_append_right _ (List.mem_append_left _ (List.mem_of_getElem? (i := 146) rfl))) rfl
theorem uw_2_147 : ((Jvm.Cond.selects "CommitCouncil$Leader" ({ cls := "CommitCouncil$Leader", name := "decisionAfter", desc := "(III)I" } : Jvm.MethodName) ({ cls := "CommitCouncil$Leader", name := "decisionAfter", desc := "(III)I" } : Jvm.MethodName))) ∈ wsU := wsU_T (List.mem_append_right _ (List.mem_append_left _ (List.mem_of_getElem? (i := 147) rfl))) rfl
theorem uw_2_148 : ((Jvm.Cond.code ({ cls := "CommitCouncil$Leader", name := "decisionAfter", desc := "(III)I" } : Jvm.MethodName) prog_3_method_6_code (6 : Nat) (Option.some Jvm.ClassFile.FieldType.int))) ∈ wsU := wsU_T (List.mem_append_right _ (List.mem_append_left _ (List.mem_of_getElem? (i := 148) rfl))) rfl
theorem uw_2_149 : ((Jvm.Cond.methodLink "CommitCouncil$Leader" (52 : Nat) ({ cls := "CommitCouncil$Leader", name := "outcomeAfter", desc := "(III)I" } : Jvm.MethodName))) ∈ wsU := wsU_T (List.mem_append_right _ (List.mem_append_left _ (List.mem_of_getElem? (i := 149) rfl))) rfl
theorem uw_2_151 : ((Jvm.Cond.instanceMethod ({ cls := "CommitCouncil$Leader", name := "outcomeAfter", desc := "(III)I" } : Jvm.MethodName))) ∈ wsU := wsU_T (List.mem_append_right _ (List.mem_append_left _ (List.mem_of_getElem? (i := 151) rfl))) rfl
theorem uw_2_152 : ((Jvm.Cond.code ({ cls := "CommitCouncil$Leader", name := "outcomeAfter", desc := "(III)I" } : Jvm.MethodName) prog_3_method_8_code (6 : Nat) (Option.some Jvm.ClassFile.FieldType.int))) ∈ wsU := wsU_T (List.mem_append_right _ (List.mem_append_left _ (List.mem_of_getElem? (i := 152) rfl))) rfl
theorem uw_2_154 : ((Jvm.Cond.static ({ cls := "CommitCouncil", name := "ballotOf", desc := "(I)I" } : Jvm.MethodName))) ∈ wsU := wsU_T (List.mem_append_right _ (List.mem_append_left _ (List.mem_of_getElem? (i := 154) rfl))) rfl
theorem uw_2_155 : ((Jvm.Cond.code ({ cls := "CommitCouncil", name := "ballotOf", desc := "(I)I" } : Jvm.MethodName) prog_1_method_25_code (1 : Nat) (Option.some Jvm.ClassFile.FieldType.int))) ∈ wsU := wsU_T (List.mem_append_right _ (List.mem_append_left _ (List.mem_of_getElem? (i := 155) rfl))) rfl
theorem uw_2_156 : ((Jvm.Cond.methodLink "CommitCouncil$Leader" (62 : Nat) ({ cls := "CommitCouncil$Leader", name := "sightOf", desc := "(II)I" } : Jvm.MethodName))) ∈ wsU := wsU_T (List.mem_append_right _ (List.mem_append_left _ (List.mem_of_getElem? (i := 156) rfl))) rfl
theorem uw_2_157 : ((Jvm.Cond.instanceMethod ({ cls := "CommitCouncil$Leader", name := "sightOf", desc := "(II)I" } : Jvm.MethodName))) ∈ wsU := wsU_T (List.mem_append_right _ (List.mem_append_left _ (List.mem_of_getElem? (i := 157) rfl))) rfl
theorem uw_2_158 : ((Jvm.Cond.selects "CommitCouncil$Leader" ({ cls := "CommitCouncil$Leader", name := "sightOf", desc := "(II)I" } : Jvm.MethodName) ({ cls := "CommitCouncil$Leader", name := "sightOf", desc := "(II)I" } : Jvm.MethodName))) ∈ wsU := wsU_T (List.mem_append_right _ (List.mem_append_left _ (List.mem_of_getElem? (i := 158) rfl))) rfl
theorem uw_2_159 : ((Jvm.Cond.code ({ cls := "CommitCouncil$Leader", name := "sightOf", desc := "(II)I" } : Jvm.MethodName) prog_3_method_5_code (4 : Nat) (Option.some Jvm.ClassFile.FieldType.int))) ∈ wsU := wsU_T (List.mem_append_right _ (List.mem_append_left _ (List.mem_of_getElem? (i := 159) rfl))) rfl
theorem uw_2_161 : ((Jvm.Cond.static ({ cls := "CommitCouncil", name := "wordOf", desc := "(I)I" } : Jvm.MethodName))) ∈ wsU := wsU_T (List.mem_append_right _ (List.mem_append_left _ (List.mem_of_getElem? (i := 161) rfl))) rfl
theorem uw_2_162 : ((Jvm.Cond.code ({ cls := "CommitCouncil", name := "wordOf", desc := "(I)I" } : Jvm.MethodName) prog_1_method_26_code (1 : Nat) (Option.some Jvm.ClassFile.FieldType.int))) ∈ wsU := wsU_T (List.mem_append_right _ (List.mem_append_left _ (List.mem_of_getElem? (i := 162) rfl))) rfl
theorem uw_2_163 : ((Jvm.Cond.methodLink "CommitCouncil" (219 : Nat) ({ cls := "CommitCouncil$Leader", name := "keeps", desc := "(II)Z" } : Jvm.MethodName))) ∈ wsU := wsU_T (List.mem_append_right _ (List.mem_append_left _ (List.mem_of_getElem? (i := 163) rfl))) rfl
theorem uw_2_164 : ((Jvm.Cond.instanceMethod ({ cls := "CommitCouncil$Leader", name := "keeps", desc := "(II)Z" } : Jvm.MethodName))) ∈ wsU := wsU_T (List.mem_append_right _ (List.mem_append_left _ (List.mem_of_getElem? (i := 164) rfl))) rfl
theorem uw_2_165 : ((Jvm.Cond.selects "CommitCouncil$Leader" ({ cls := "CommitCouncil$Leader", name := "keeps", desc := "(II)Z" } : Jvm.MethodName) ({ cls := "CommitCouncil$Leader", name := "keeps", desc := "(II)Z" } : Jvm.MethodName))) ∈ wsU := wsU_T (List.mem_append_right _ (List.mem_append_left _ (List.mem_of_getElem? (i := 165) rfl))) rfl
theorem uw_2_166 : ((Jvm.Cond.code ({ cls := "CommitCouncil$Leader", name := "keeps", desc := "(II)Z" } : Jvm.MethodName) prog_3_method_3_code (3 : Nat) (Option.some Jvm.ClassFile.FieldType.boolean))) ∈ wsU := wsU_T (List.mem_append_right _ (List.mem_append_left _ (List.mem_of_getElem? (i := 166) rfl))) rfl
theorem uw_2_167 : ((Jvm.Cond.methodLink "CommitCouncil" (222 : Nat) ({ cls := "CommitCouncil$Leader", name := "oneMoreIsEnough", desc := "()Z" } : Jvm.MethodName))) ∈ wsU := wsU_T (List.mem_append_right _ (List.mem_append_left _ (List.mem_of_getElem? (i := 167) rfl))) rfl
theorem uw_2_168 : ((Jvm.Cond.instanceMethod ({ cls := "CommitCouncil$Leader", name := "oneMoreIsEnough", desc := "()Z" } : Jvm.MethodName))) ∈ wsU := wsU_T (List.mem_append_right _ (List.mem_append_left _ (List.mem_of_getElem? (i := 168) rfl))) rfl
theorem uw_2_169 : ((Jvm.Cond.selects "CommitCouncil$Leader" ({ cls := "CommitCouncil$Leader", name := "oneMoreIsEnough", desc := "()Z" } : Jvm.MethodName) ({ cls := "CommitCouncil$Leader", name := "oneMoreIsEnough", desc := "()Z" } : Jvm.MethodName))) ∈ wsU := wsU_T (List.mem_append_right _ (List.mem_append_left _ (List.mem_of_getElem? (i := 169) rfl))) rfl
theorem uw_2_170 : ((Jvm.Cond.code ({ cls := "CommitCouncil$Leader", name := "oneMoreIsEnough", desc := "()Z" } : Jvm.MethodName) prog_3_method_4_code (1 : Nat) (Option.some Jvm.ClassFile.FieldType.boolean))) ∈ wsU := wsU_T (List.mem_append_right _ (List.mem_append_left _ (List.mem_of_getElem? (i := 170) rfl))) rfl
theorem uw_2_171 : ((Jvm.Cond.methodLink "CommitCouncil$Leader" (43 : Nat) ({ cls := "java/lang/Integer", name := "bitCount", desc := "(I)I" } : Jvm.MethodName))) ∈ wsU := wsU_T (List.mem_append_right _ (List.mem_append_left _ (List.mem_of_getElem? (i := 171) rfl))) rfl
theorem uw_2_172 : ((Jvm.Cond.static ({ cls := "java/lang/Integer", name := "bitCount", desc := "(I)I" } : Jvm.MethodName))) ∈ wsU := wsU_T (List.mem_append_right _ (List.mem_append_left _ (List.mem_of_getElem? (i := 172) rfl))) rfl
theorem uw_2_173 : ((Jvm.Cond.code ({ cls := "java/lang/Integer", name := "bitCount", desc := "(I)I" } : Jvm.MethodName) prog_13_method_49_code (1 : Nat) (Option.some Jvm.ClassFile.FieldType.int))) ∈ wsU := wsU_T (List.mem_append_right _ (List.mem_append_left _ (List.mem_of_getElem? (i := 173) rfl))) rfl
theorem uw_2_174 : ((Jvm.Cond.constant "java/lang/Integer" (265 : Nat) (1431655765 : Int32))) ∈ wsU := wsU_T (List.mem_append_right _ (List.mem_append_left _ (List.mem_of_getElem? (i := 174) rfl))) rfl
theorem uw_2_175 : ((Jvm.Cond.constant "java/lang/Integer" (266 : Nat) (858993459 : Int32))) ∈ wsU := wsU_T (List.mem_append_right _ (List.mem_append_left _ (List.mem_of_getElem? (i := 175) rfl))) rfl
theorem uw_2_176 : ((Jvm.Cond.constant "java/lang/Integer" (267 : Nat) (252645135 : Int32))) ∈ wsU := wsU_T (List.mem_append_right _ (List.mem_append_left _ (List.mem_of_getElem? (i := 176) rfl))) rfl
theorem uw_2_177 : ((Jvm.Cond.methodLink "CommitCouncil" (210 : Nat) ({ cls := "CommitCouncil", name := "take", desc := "(III)V" } : Jvm.MethodName))) ∈ wsU := wsU_T (List.mem_append_right _ (List.mem_append_left _ (List.mem_of_getElem? (i := 177) rfl))) rfl
theorem uw_2_179 : ((Jvm.Cond.instanceMethod ({ cls := "CommitCouncil", name := "take", desc := "(III)V" } : Jvm.MethodName))) ∈ wsU := wsU_T (List.mem_append_right _ (List.mem_append_left _ (List.mem_of_getElem? (i := 179) rfl))) rfl
theorem uw_2_180 : ((Jvm.Cond.code ({ cls := "CommitCouncil", name := "take", desc := "(III)V" } : Jvm.MethodName) prog_1_method_39_code (5 : Nat) (Option.none : Option Jvm.ClassFile.FieldType))) ∈ wsU := wsU_T (List.mem_append_right _ (List.mem_append_left _ (List.mem_of_getElem? (i := 180) rfl))) rfl
theorem uw_2_181 : ((Jvm.Cond.methodLink "CommitCouncil" (226 : Nat) ({ cls := "CommitCouncil", name := "takeVote", desc := "(II)V" } : Jvm.MethodName))) ∈ wsU := wsU_T (List.mem_append_right _ (List.mem_append_left _ (List.mem_of_getElem? (i := 181) rfl))) rfl
theorem uw_2_183 : ((Jvm.Cond.instanceMethod ({ cls := "CommitCouncil", name := "takeVote", desc := "(II)V" } : Jvm.MethodName))) ∈ wsU := wsU_T (List.mem_append_right _ (List.mem_append_left _ (List.mem_of_getElem? (i := 183) rfl))) rfl
theorem uw_2_184 : ((Jvm.Cond.code ({ cls := "CommitCouncil", name := "takeVote", desc := "(II)V" } : Jvm.MethodName) prog_1_method_40_code (7 : Nat) (Option.none : Option Jvm.ClassFile.FieldType))) ∈ wsU := wsU_T (List.mem_append_right _ (List.mem_append_left _ (List.mem_of_getElem? (i := 184) rfl))) rfl
theorem uw_2_185 : ((Jvm.Cond.methodLink "CommitCouncil" (242 : Nat) ({ cls := "CommitCouncil$Acceptor", name := "accept", desc := "(III)V" } : Jvm.MethodName))) ∈ wsU := wsU_T (List.mem_append_right _ (List.mem_append_left _ (List.mem_of_getElem? (i := 185) rfl))) rfl
theorem uw_2_186 : ((Jvm.Cond.instanceMethod ({ cls := "CommitCouncil$Acceptor", name := "accept", desc := "(III)V" } : Jvm.MethodName))) ∈ wsU := wsU_T (List.mem_append_right _ (List.mem_append_left _ (List.mem_of_getElem? (i := 186) rfl))) rfl
theorem uw_2_187 : ((Jvm.Cond.selects "CommitCouncil$Acceptor" ({ cls := "CommitCouncil$Acceptor", name := "accept", desc := "(III)V" } : Jvm.MethodName) ({ cls := "CommitCouncil$Acceptor", name := "accept", desc := "(III)V" } : Jvm.MethodName))) ∈ wsU := wsU_T (List.mem_append_right _ (List.mem_append_left _ (List.mem_of_getElem? (i := 187) rfl))) rfl
theorem uw_2_188 : ((Jvm.Cond.code ({ cls := "CommitCouncil$Acceptor", name := "accept", desc := "(III)V" } : Jvm.MethodName) prog_2_method_2_code (4 : Nat) (Option.none : Option Jvm.ClassFile.FieldType))) ∈ wsU := wsU_T (List.mem_append_right _ (List.mem_append_left _ (List.mem_of_getElem? (i := 188) rfl))) rfl
theorem uw_2_190 : ((Jvm.Cond.methodLink "CommitCouncil" (245 : Nat) ({ cls := "CommitCouncil$Ledger", name := "enter", desc := "(IIII)V" } : Jvm.MethodName))) ∈ wsU := wsU_T (List.mem_append_right _ (List.mem_append_left _ (List.mem_of_getElem? (i := 190) rfl))) rfl
theorem uw_2_191 : ((Jvm.Cond.instanceMethod ({ cls := "CommitCouncil$Ledger", name := "enter", desc := "(IIII)V" } : Jvm.MethodName))) ∈ wsU := wsU_T (List.mem_append_right _ (List.mem_append_left _ (List.mem_of_getElem? (i := 191) rfl))) rfl
theorem uw_2_192 : ((Jvm.Cond.selects "CommitCouncil$Ledger" ({ cls := "CommitCouncil$Ledger", name := "enter", desc := "(IIII)V" } : Jvm.MethodName) ({ cls := "CommitCouncil$Ledger", name := "enter", desc := "(IIII)V" } : Jvm.MethodName))) ∈ wsU := wsU_T (List.mem_append_right _ (List.mem_append_left _ (List.mem_of_getElem? (i := 192) rfl))) rfl
theorem uw_2_193 : ((Jvm.Cond.code ({ cls := "CommitCouncil$Ledger", name := "enter", desc := "(IIII)V" } : Jvm.MethodName) prog_4_method_2_code (7 : Nat) (Option.none : Option Jvm.ClassFile.FieldType))) ∈ wsU := wsU_T (List.mem_append_right _ (List.mem_append_left _ (List.mem_of_getElem? (i := 193) rfl))) rfl
theorem uw_2_194 : ((Jvm.Cond.methodLink "CommitCouncil$Ledger" (26 : Nat) ({ cls := "java/lang/Integer", name := "bitCount", desc := "(I)I" } : Jvm.MethodName))) ∈ wsU := wsU_T (List.mem_append_right _ (List.mem_append_left _ (List.mem_of_getElem? (i := 194) rfl))) rfl
theorem uw_2_195 : ((Jvm.Cond.methodLink "CommitCouncil" (229 : Nat) ({ cls := "CommitCouncil", name := "takeVoted", desc := "(ILCommitCouncil$Leader;)V" } : Jvm.MethodName))) ∈ wsU := wsU_T (List.mem_append_right _ (List.mem_append_left _ (List.mem_of_getElem? (i := 195) rfl))) rfl
theorem uw_2_197 : ((Jvm.Cond.instanceMethod ({ cls := "CommitCouncil", name := "takeVoted", desc := "(ILCommitCouncil$Leader;)V" } : Jvm.MethodName))) ∈ wsU := wsU_T (List.mem_append_right _ (List.mem_append_left _ (List.mem_of_getElem? (i := 197) rfl))) rfl
theorem uw_2_198 : ((Jvm.Cond.code ({ cls := "CommitCouncil", name := "takeVoted", desc := "(ILCommitCouncil$Leader;)V" } : Jvm.MethodName) prog_1_method_42_code (6 : Nat) (Option.none : Option Jvm.ClassFile.FieldType))) ∈ wsU := wsU_T (List.mem_append_right _ (List.mem_append_left _ (List.mem_of_getElem? (i := 198) rfl))) rfl
theorem uw_2_199 : ((Jvm.Cond.methodLink "CommitCouncil" (256 : Nat) ({ cls := "java/lang/Math", name := "max", desc := "(II)I" } : Jvm.MethodName))) ∈ wsU := wsU_T (List.mem_append_right _ (List.mem_append_left _ (List.mem_of_getElem? (i := 199) rfl))) rfl
theorem uw_2_200 : ((Jvm.Cond.static ({ cls := "java/lang/Math", name := "max", desc := "(II)I" } : Jvm.MethodName))) ∈ wsU := wsU_T (List.mem_append_right _ (List.mem_append_left _ (List.mem_of_getElem? (i := 200) rfl))) rfl
theorem uw_2_201 : ((Jvm.Cond.code ({ cls := "java/lang/Math", name := "max", desc := "(II)I" } : Jvm.MethodName) prog_14_method_65_code (2 : Nat) (Option.some Jvm.ClassFile.FieldType.int))) ∈ wsU := wsU_T (List.mem_append_right _ (List.mem_append_left _ (List.mem_of_getElem? (i := 201) rfl))) rfl
theorem uw_2_202 : ((Jvm.Cond.methodLink "CommitCouncil" (259 : Nat) ({ cls := "CommitCouncil$Leader", name := "see", desc := "(III)V" } : Jvm.MethodName))) ∈ wsU := wsU_T (List.mem_append_right _ (List.mem_append_left _ (List.mem_of_getElem? (i := 202) rfl))) rfl
theorem uw_2_203 : ((Jvm.Cond.instanceMethod ({ cls := "CommitCouncil$Leader", name := "see", desc := "(III)V" } : Jvm.MethodName))) ∈ wsU := wsU_T (List.mem_append_right _ (List.mem_append_left _ (List.mem_of_getElem? (i := 203) rfl))) rfl
theorem uw_2_204 : ((Jvm.Cond.selects "CommitCouncil$Leader" ({ cls := "CommitCouncil$Leader", name := "see", desc := "(III)V" } : Jvm.MethodName) ({ cls := "CommitCouncil$Leader", name := "see", desc := "(III)V" } : Jvm.MethodName))) ∈ wsU := wsU_T (List.mem_append_right _ (List.mem_append_left _ (List.mem_of_getElem? (i := 204) rfl))) rfl
theorem uw_2_205 : ((Jvm.Cond.code ({ cls := "CommitCouncil$Leader", name := "see", desc := "(III)V" } : Jvm.MethodName) prog_3_method_7_code (7 : Nat) (Option.none : Option Jvm.ClassFile.FieldType))) ∈ wsU := wsU_T (List.mem_append_right _ (List.mem_append_left _ (List.mem_of_getElem? (i := 205) rfl))) rfl
theorem uw_2_206 : ((Jvm.Cond.methodLink "CommitCouncil$Leader" (56 : Nat) ({ cls := "CommitCouncil$Leader", name := "decisionAfter", desc := "(III)I" } : Jvm.MethodName))) ∈ wsU := wsU_T (List.mem_append_right _ (List.mem_append_left _ (List.mem_of_getElem? (i := 206) rfl))) rfl
theorem uw_2_207 : ((Jvm.Cond.methodLink "CommitCouncil" (233 : Nat) ({ cls := "CommitCouncil", name := "takeAsk", desc := "(II)V" } : Jvm.MethodName))) ∈ wsU := wsU_T (List.mem_append_right _ (List.mem_append_left _ (List.mem_of_getElem? (i := 207) rfl))) rfl
theorem uw_2_209 : ((Jvm.Cond.instanceMethod ({ cls := "CommitCouncil", name := "takeAsk", desc := "(II)V" } : Jvm.MethodName))) ∈ wsU := wsU_T (List.mem_append_right _ (List.mem_append_left _ (List.mem_of_getElem? (i := 209) rfl))) rfl
theorem uw_2_210 : ((Jvm.Cond.code ({ cls := "CommitCouncil", name := "takeAsk", desc := "(II)V" } : Jvm.MethodName) prog_1_method_41_code (4 : Nat) (Option.none : Option Jvm.ClassFile.FieldType))) ∈ wsU := wsU_T (List.mem_append_right _ (List.mem_append_left _ (List.mem_of_getElem? (i := 210) rfl))) rfl
theorem uw_2_211 : ((Jvm.Cond.methodLink "CommitCouncil" (249 : Nat) ({ cls := "CommitCouncil", name := "leaderOf", desc := "(I)I" } : Jvm.MethodName))) ∈ wsU := wsU_T (List.mem_append_right _ (List.mem_append_left _ (List.mem_of_getElem? (i := 211) rfl))) rfl
theorem uw_2_212 : ((Jvm.Cond.static ({ cls := "CommitCouncil", name := "leaderOf", desc := "(I)I" } : Jvm.MethodName))) ∈ wsU := wsU_T (List.mem_append_right _ (List.mem_append_left _ (List.mem_of_getElem? (i := 212) rfl))) rfl
theorem uw_2_213 : ((Jvm.Cond.code ({ cls := "CommitCouncil", name := "leaderOf", desc := "(I)I" } : Jvm.MethodName) prog_1_method_28_code (1 : Nat) (Option.some Jvm.ClassFile.FieldType.int))) ∈ wsU := wsU_T (List.mem_append_right _ (List.mem_append_left _ (List.mem_of_getElem? (i := 213) rfl))) rfl
theorem uw_2_214 : ((Jvm.Cond.methodLink "CommitCouncil" (195 : Nat) ({ cls := "java/lang/Math", name := "floorMod", desc := "(II)I" } : Jvm.MethodName))) ∈ wsU := wsU_T (List.mem_append_right _ (List.mem_append_left _ (List.mem_of_getElem? (i := 214) rfl))) rfl
theorem uw_2_215 : ((Jvm.Cond.static ({ cls := "java/lang/Math", name := "floorMod", desc := "(II)I" } : Jvm.MethodName))) ∈ wsU := wsU_T (List.mem_append_right _ (List.mem_append_left _ (List.mem_of_getElem? (i := 215) rfl))) rfl
theorem uw_2_216 : ((Jvm.Cond.code ({ cls := "java/lang/Math", name := "floorMod", desc := "(II)I" } : Jvm.MethodName) prog_14_method_50_code (3 : Nat) (Option.some Jvm.ClassFile.FieldType.int))) ∈ wsU := wsU_T (List.mem_append_right _ (List.mem_append_left _ (List.mem_of_getElem? (i := 216) rfl))) rfl
theorem uw_2_217 : ((Jvm.Cond.methodLink "CommitCouncil" (252 : Nat) ({ cls := "CommitCouncil$Mail", name := "attach", desc := "([I)V" } : Jvm.MethodName))) ∈ wsU := wsU_T (List.mem_append_right _ (List.mem_append_left _ (List.mem_of_getElem? (i := 217) rfl))) rfl
theorem uw_2_218 : ((Jvm.Cond.instanceMethod ({ cls := "CommitCouncil$Mail", name := "attach", desc := "([I)V" } : Jvm.MethodName))) ∈ wsU := wsU_T (List.mem_append_right _ (List.mem_append_left _ (List.mem_of_getElem? (i := 218) rfl))) rfl
theorem uw_2_219 : ((Jvm.Cond.selects "CommitCouncil$Mail" ({ cls := "CommitCouncil$Mail", name := "attach", desc := "([I)V" } : Jvm.MethodName) ({ cls := "CommitCouncil$Mail", name := "attach", desc := "([I)V" } : Jvm.MethodName))) ∈ wsU := wsU_T (List.mem_append_right _ (List.mem_append_left _ (List.mem_of_getElem? (i := 219) rfl))) rfl
theorem uw_2_220 : ((Jvm.Cond.code ({ cls := "CommitCouncil$Mail", name := "attach", desc := "([I)V" } : Jvm.MethodName) prog_5_method_4_code (2 : Nat) (Option.none : Option Jvm.ClassFile.FieldType))) ∈ wsU := wsU_T (List.mem_append_right _ (List.mem_append_left _ (List.mem_of_getElem? (i := 220) rfl))) rfl
theorem uw_2_221 : ((Jvm.Cond.methodLink "CommitCouncil$Mail" (25 : Nat) ({ cls := "java/lang/System", name := "arraycopy", desc := "(Ljava/lang/Object;ILjava/lang/Object;II)V" } : Jvm.MethodName))) ∈ wsU := wsU_T (List.mem_append_right _ (List.mem_append_left _ (List.mem_of_getElem? (i := 221) rfl))) rfl
theorem uw_2_222 : ((Jvm.Cond.static ({ cls := "java/lang/System", name := "arraycopy", desc := "(Ljava/lang/Object;ILjava/lang/Object;II)V" } : Jvm.MethodName))) ∈ wsU := wsU_T (List.mem_append_right _ (List.mem_append_left _ (List.mem_of_getElem? (i := 222) rfl))) rfl
theorem uw_2_223 : ((Jvm.Cond.native ({ cls := "java/lang/System", name := "arraycopy", desc := "(Ljava/lang/Object;ILjava/lang/Object;II)V" } : Jvm.MethodName))) ∈ wsU := wsU_T (List.mem_append_right _ (List.mem_append_left _ (List.mem_of_getElem? (i := 223) rfl))) rfl
theorem uw_2_224 : ((Jvm.Cond.methodLink "CommitCouncil" (236 : Nat) ({ cls := "CommitCouncil", name := "takeTold", desc := "(ILCommitCouncil$Leader;)V" } : Jvm.MethodName))) ∈ wsU := wsU_T (List.mem_append_right _ (List.mem_append_left _ (List.mem_of_getElem? (i := 224) rfl))) rfl
theorem uw_2_226 : ((Jvm.Cond.instanceMethod ({ cls := "CommitCouncil", name := "takeTold", desc := "(ILCommitCouncil$Leader;)V" } : Jvm.MethodName))) ∈ wsU := wsU_T (List.mem_append_right _ (List.mem_append_left _ (List.mem_of_getElem? (i := 226) rfl))) rfl
theorem uw_2_227 : ((Jvm.Cond.code ({ cls := "CommitCouncil", name := "takeTold", desc := "(ILCommitCouncil$Leader;)V" } : Jvm.MethodName) prog_1_method_43_code (7 : Nat) (Option.none : Option Jvm.ClassFile.FieldType))) ∈ wsU := wsU_T (List.mem_append_right _ (List.mem_append_left _ (List.mem_of_getElem? (i := 227) rfl))) rfl
theorem uw_2_228 : ((Jvm.Cond.methodLink "CommitCouncil" (131 : Nat) ({ cls := "CommitCouncil$Mail", name := "tidings", desc := "(II)I" } : Jvm.MethodName))) ∈ wsU := wsU_T (List.mem_append_right _ (List.mem_append_left _ (List.mem_of_getElem? (i := 228) rfl))) rfl
theorem uw_2_229 : ((Jvm.Cond.instanceMethod ({ cls := "CommitCouncil$Mail", name := "tidings", desc := "(II)I" } : Jvm.MethodName))) ∈ wsU := wsU_T (List.mem_append_right _ (List.mem_append_left _ (List.mem_of_getElem? (i := 229) rfl))) rfl
theorem uw_2_230 : ((Jvm.Cond.selects "CommitCouncil$Mail" ({ cls := "CommitCouncil$Mail", name := "tidings", desc := "(II)I" } : Jvm.MethodName) ({ cls := "CommitCouncil$Mail", name := "tidings", desc := "(II)I" } : Jvm.MethodName))) ∈ wsU := wsU_T (List.mem_append_right _ (List.mem_append_left _ (List.mem_of_getElem? (i := 230) rfl))) rfl
theorem uw_2_231 : ((Jvm.Cond.code ({ cls := "CommitCouncil$Mail", name := "tidings", desc := "(II)I" } : Jvm.MethodName) prog_5_method_8_code (3 : Nat) (Option.some Jvm.ClassFile.FieldType.int))) ∈ wsU := wsU_T (List.mem_append_right _ (List.mem_append_left _ (List.mem_of_getElem? (i := 231) rfl))) rfl
theorem uw_2_232 : ((Jvm.Cond.methodLink "CommitCouncil" (265 : Nat) ({ cls := "CommitCouncil", name := "startVoting", desc := "(LCommitCouncil$Leader;)V" } : Jvm.MethodName))) ∈ wsU := wsU_T (List.mem_append_right _ (List.mem_append_left _ (List.mem_of_getElem? (i := 232) rfl))) rfl
theorem uw_2_234 : ((Jvm.Cond.instanceMethod ({ cls := "CommitCouncil", name := "startVoting", desc := "(LCommitCouncil$Leader;)V" } : Jvm.MethodName))) ∈ wsU := wsU_T (List.mem_append_right _ (List.mem_append_left _ (List.mem_of_getElem? (i := 234) rfl))) rfl
theorem uw_2_235 : ((Jvm.Cond.code ({ cls := "CommitCouncil", name := "startVoting", desc := "(LCommitCouncil$Leader;)V" } : Jvm.MethodName) prog_1_method_44_code (4 : Nat) (Option.none : Option Jvm.ClassFile.FieldType))) ∈ wsU := wsU_T (List.mem_append_right _ (List.mem_append_left _ (List.mem_of_getElem? (i := 235) rfl))) rfl
theorem uw_2_236 : ((Jvm.Cond.methodLink "CommitCouncil" (137 : Nat) ({ cls := "CommitCouncil", name := "wordOf", desc := "(I)I" } : Jvm.MethodName))) ∈ wsU := wsU_T (List.mem_append_right _ (List.mem_append_left _ (List.mem_of_getElem? (i := 236) rfl))) rfl
theorem uw_2_237 : ((Jvm.Cond.methodLink "CommitCouncil" (239 : Nat) ({ cls := "CommitCouncil", name := "takeQuestion", desc := "(II)V" } : Jvm.MethodName))) ∈ wsU := wsU_T (List.mem_append_right _ (List.mem_append_left _ (List.mem_of_getElem? (i := 237) rfl))) rfl
theorem uw_2_239 : ((Jvm.Cond.instanceMethod ({ cls := "CommitCouncil", name := "takeQuestion", desc := "(II)V" } : Jvm.MethodName))) ∈ wsU := wsU_T (List.mem_append_right _ (List.mem_append_left _ (List.mem_of_getElem? (i := 239) rfl))) rfl
theorem uw_3_0 : ((Jvm.Cond.code ({ cls := "CommitCouncil", name := "takeQuestion", desc := "(II)V" } : Jvm.MethodName) prog_1_method_45_code (3 : Nat) (Option.none : Option Jvm.ClassFile.FieldType))) ∈ wsU := wsU_T (List.mem_append_right _ (List.mem_append_right _ (List.mem_append_left _ (List.mem_of_getElem? (i := 0) rfl)))) rfl
theorem uw_3_1 : ((Jvm.Cond.methodLink "CommitCouncil" (105 : Nat) ({ cls := "CommitCouncil$Mail", name := "remove", desc := "(I)V" } : Jvm.MethodName))) ∈ wsU := wsU_T (List.mem_append_right _ (List.mem_append_right _ (List.mem_append_left _ (List.mem_of_getElem? (i := 1) rfl)))) rfl
theorem uw_3_2 : ((Jvm.Cond.instanceMethod ({ cls := "CommitCouncil$Mail", name := "remove", desc := "(I)V" } : Jvm.MethodName))) ∈ wsU := wsU_T (List.mem_append_right _ (List.mem_append_right _ (List.mem_append_left _ (List.mem_of_getElem? (i := 2) rfl)))) rfl
theorem uw_3_3 : ((Jvm.Cond.selects "CommitCouncil$Mail" ({ cls := "CommitCouncil$Mail", name := "remove", desc := "(I)V" } : Jvm.MethodName) ({ cls := "CommitCouncil$Mail", name := "remove", desc := "(I)V" } : Jvm.MethodName))) ∈ wsU := wsU_T (List.mem_append_right _ (List.mem_append_right _ (List.mem_append_left _ (List.mem_of_getElem? (i := 3) rfl)))) rfl
theorem uw_3_4 : ((Jvm.Cond.code ({ cls := "CommitCouncil$Mail", name := "remove", desc := "(I)V" } : Jvm.MethodName) prog_5_method_6_code (2 : Nat) (Option.none : Option Jvm.ClassFile.FieldType))) ∈ wsU := wsU_T (List.mem_append_right _ (List.mem_append_right _ (List.mem_append_left _ (List.mem_of_getElem? (i := 4) rfl)))) rfl
theorem uw_3_5 : ((Jvm.Cond.methodLink "CommitCouncilLaw" (112 : Nat) ({ cls := "CommitCouncilLaw", name := "drop", desc := "(LCommitCouncil;I)I" } : Jvm.MethodName))) ∈ wsU := wsU_T (List.mem_append_right _ (List.mem_append_right _ (List.mem_append_left _ (List.mem_of_getElem? (i := 5) rfl)))) rfl
theorem uw_3_6 : ((Jvm.Cond.static ({ cls := "CommitCouncilLaw", name := "drop", desc := "(LCommitCouncil;I)I" } : Jvm.MethodName))) ∈ wsU := wsU_T (List.mem_append_right _ (List.mem_append_right _ (List.mem_append_left _ (List.mem_of_getElem? (i := 6) rfl)))) rfl
theorem uw_3_7 : ((Jvm.Cond.codeWith ({ cls := "CommitCouncilLaw", name := "drop", desc := "(LCommitCouncil;I)I" } : Jvm.MethodName) method_9_code (3 : Nat) (Option.some Jvm.ClassFile.FieldType.int) [((0 : Nat), (5 : Nat), (8 : Nat), (13 : Nat))])) ∈ wsU := wsU_T (List.mem_append_right _ (List.mem_append_right _ (List.mem_append_left _ (List.mem_of_getElem? (i := 7) rfl)))) rfl
theorem uw_3_8 : ((Jvm.Cond.methodLink "CommitCouncilLaw" (31 : Nat) ({ cls := "CommitCouncil", name := "drop", desc := "(I)V" } : Jvm.MethodName))) ∈ wsU := wsU_T (List.mem_append_right _ (List.mem_append_right _ (List.mem_append_left _ (List.mem_of_getElem? (i := 8) rfl)))) rfl
theorem uw_3_9 : ((Jvm.Cond.instanceMethod ({ cls := "CommitCouncil", name := "drop", desc := "(I)V" } : Jvm.MethodName))) ∈ wsU := wsU_T (List.mem_append_right _ (List.mem_append_right _ (List.mem_append_left _ (List.mem_of_getElem? (i := 9) rfl)))) rfl
theorem uw_3_10 : ((Jvm.Cond.selects "CommitCouncil" ({ cls := "CommitCouncil", name := "drop", desc := "(I)V" } : Jvm.MethodName) ({ cls := "CommitCouncil", name := "drop", desc := "(I)V" } : Jvm.MethodName))) ∈ wsU := wsU_T (List.mem_append_right _ (List.mem_append_right _ (List.mem_append_left _ (List.mem_of_getElem? (i := 10) rfl)))) rfl
theorem uw_3_11 : ((Jvm.Cond.code ({ cls := "CommitCouncil", name := "drop", desc := "(I)V" } : Jvm.MethodName) prog_1_method_8_code (2 : Nat) (Option.none : Option Jvm.ClassFile.FieldType))) ∈ wsU := wsU_T (List.mem_append_right _ (List.mem_append_right _ (List.mem_append_left _ (List.mem_of_getElem? (i := 11) rfl)))) rfl
theorem uw_3_12 : ((Jvm.Cond.methodLink "CommitCouncilLaw" (116 : Nat) ({ cls := "CommitCouncilLaw", name := "copy", desc := "(LCommitCouncil;I[J)I" } : Jvm.MethodName))) ∈ wsU := wsU_T (List.mem_append_right _ (List.mem_append_right _ (List.mem_append_left _ (List.mem_of_getElem? (i := 12) rfl)))) rfl
theorem uw_3_13 : ((Jvm.Cond.static ({ cls := "CommitCouncilLaw", name := "copy", desc := "(LCommitCouncil;I[J)I" } : Jvm.MethodName))) ∈ wsU := wsU_T (List.mem_append_right _ (List.mem_append_right _ (List.mem_append_left _ (List.mem_of_getElem? (i := 13) rfl)))) rfl
theorem uw_3_14 : ((Jvm.Cond.codeWith ({ cls := "CommitCouncilLaw", name := "copy", desc := "(LCommitCouncil;I[J)I" } : Jvm.MethodName) method_10_code (4 : Nat) (Option.some Jvm.ClassFile.FieldType.int) [((0 : Nat), (9 : Nat), (12 : Nat), (13 : Nat))])) ∈ wsU := wsU_T (List.mem_append_right _ (List.mem_append_right _ (List.mem_append_left _ (List.mem_of_getElem? (i := 14) rfl)))) rfl
theorem uw_3_15 : ((Jvm.Cond.methodLink "CommitCouncilLaw" (35 : Nat) ({ cls := "CommitCouncil", name := "copy", desc := "(I)I" } : Jvm.MethodName))) ∈ wsU := wsU_T (List.mem_append_right _ (List.mem_append_right _ (List.mem_append_left _ (List.mem_of_getElem? (i := 15) rfl)))) rfl
theorem uw_3_16 : ((Jvm.Cond.instanceMethod ({ cls := "CommitCouncil", name := "copy", desc := "(I)I" } : Jvm.MethodName))) ∈ wsU := wsU_T (List.mem_append_right _ (List.mem_append_right _ (List.mem_append_left _ (List.mem_of_getElem? (i := 16) rfl)))) rfl
theorem uw_3_17 : ((Jvm.Cond.selects "CommitCouncil" ({ cls := "CommitCouncil", name := "copy", desc := "(I)I" } : Jvm.MethodName) ({ cls := "CommitCouncil", name := "copy", desc := "(I)I" } : Jvm.MethodName))) ∈ wsU := wsU_T (List.mem_append_right _ (List.mem_append_right _ (List.mem_append_left _ (List.mem_of_getElem? (i := 17) rfl)))) rfl
theorem uw_3_18 : ((Jvm.Cond.code ({ cls := "CommitCouncil", name := "copy", desc := "(I)I" } : Jvm.MethodName) prog_1_method_9_code (2 : Nat) (Option.some Jvm.ClassFile.FieldType.int))) ∈ wsU := wsU_T (List.mem_append_right _ (List.mem_append_right _ (List.mem_append_left _ (List.mem_of_getElem? (i := 18) rfl)))) rfl
theorem uw_3_19 : ((Jvm.Cond.methodLink "CommitCouncil" (108 : Nat) ({ cls := "CommitCouncil$Mail", name := "sendLike", desc := "(I)V" } : Jvm.MethodName))) ∈ wsU := wsU_T (List.mem_append_right _ (List.mem_append_right _ (List.mem_append_left _ (List.mem_of_getElem? (i := 19) rfl)))) rfl
theorem uw_3_20 : ((Jvm.Cond.instanceMethod ({ cls := "CommitCouncil$Mail", name := "sendLike", desc := "(I)V" } : Jvm.MethodName))) ∈ wsU := wsU_T (List.mem_append_right _ (List.mem_append_right _ (List.mem_append_left _ (List.mem_of_getElem? (i := 20) rfl)))) rfl
theorem uw_3_21 : ((Jvm.Cond.selects "CommitCouncil$Mail" ({ cls := "CommitCouncil$Mail", name := "sendLike", desc := "(I)V" } : Jvm.MethodName) ({ cls := "CommitCouncil$Mail", name := "sendLike", desc := "(I)V" } : Jvm.MethodName))) ∈ wsU := wsU_T (List.mem_append_right _ (List.mem_append_right _ (List.mem_append_left _ (List.mem_of_getElem? (i := 21) rfl)))) rfl
theorem uw_3_22 : ((Jvm.Cond.code ({ cls := "CommitCouncil$Mail", name := "sendLike", desc := "(I)V" } : Jvm.MethodName) prog_5_method_5_code (2 : Nat) (Option.none : Option Jvm.ClassFile.FieldType))) ∈ wsU := wsU_T (List.mem_append_right _ (List.mem_append_right _ (List.mem_append_left _ (List.mem_of_getElem? (i := 22) rfl)))) rfl
theorem uw_3_23 : ((Jvm.Cond.methodLink "CommitCouncilLaw" (119 : Nat) ({ cls := "CommitCouncilLaw", name := "calm", desc := "(LCommitCouncil;I[J)I" } : Jvm.MethodName))) ∈ wsU := wsU_T (List.mem_append_right _ (List.mem_append_right _ (List.mem_append_left _ (List.mem_of_getElem? (i := 23) rfl)))) rfl
theorem uw_3_24 : ((Jvm.Cond.static ({ cls := "CommitCouncilLaw", name := "calm", desc := "(LCommitCouncil;I[J)I" } : Jvm.MethodName))) ∈ wsU := wsU_T (List.mem_append_right _ (List.mem_append_right _ (List.mem_append_left _ (List.mem_of_getElem? (i := 24) rfl)))) rfl
theorem uw_3_25 : ((Jvm.Cond.codeWith ({ cls := "CommitCouncilLaw", name := "calm", desc := "(LCommitCouncil;I[J)I" } : Jvm.MethodName) method_11_code (4 : Nat) (Option.some Jvm.ClassFile.FieldType.int) [((0 : Nat), (9 : Nat), (12 : Nat), (41 : Nat))])) ∈ wsU := wsU_T (List.mem_append_right _ (List.mem_append_right _ (List.mem_append_left _ (List.mem_of_getElem? (i := 25) rfl)))) rfl
theorem uw_3_26 : ((Jvm.Cond.classLink "CommitCouncilLaw" (41 : Nat) "java/lang/IllegalArgumentException")) ∈ wsU := wsU_T (List.mem_append_right _ (List.mem_append_right _ (List.mem_append_left _ (List.mem_of_getElem? (i := 26) rfl)))) rfl
theorem uw_3_27 : ((Jvm.Cond.methodLink "CommitCouncilLaw" (38 : Nat) ({ cls := "CommitCouncil", name := "calm", desc := "(I)I" } : Jvm.MethodName))) ∈ wsU := wsU_T (List.mem_append_right _ (List.mem_append_right _ (List.mem_append_left _ (List.mem_of_getElem? (i := 27) rfl)))) rfl
theorem uw_3_28 : ((Jvm.Cond.instanceMethod ({ cls := "CommitCouncil", name := "calm", desc := "(I)I" } : Jvm.MethodName))) ∈ wsU := wsU_T (List.mem_append_right _ (List.mem_append_right _ (List.mem_append_left _ (List.mem_of_getElem? (i := 28) rfl)))) rfl
theorem uw_3_29 : ((Jvm.Cond.selects "CommitCouncil" ({ cls := "CommitCouncil", name := "calm", desc := "(I)I" } : Jvm.MethodName) ({ cls := "CommitCouncil", name := "calm", desc := "(I)I" } : Jvm.MethodName))) ∈ wsU := wsU_T (List.mem_append_right _ (List.mem_append_right _ (List.mem_append_left _ (List.mem_of_getElem? (i := 29) rfl)))) rfl
theorem uw_3_30 : ((Jvm.Cond.code ({ cls := "CommitCouncil", name := "calm", desc := "(I)I" } : Jvm.MethodName) prog_1_method_10_code (3 : Nat) (Option.some Jvm.ClassFile.FieldType.int))) ∈ wsU := wsU_T (List.mem_append_right _ (List.mem_append_right _ (List.mem_append_left _ (List.mem_of_getElem? (i := 30) rfl)))) rfl
theorem uw_3_32 : ((Jvm.Cond.methodLink "CommitCouncilLaw" (122 : Nat) ({ cls := "CommitCouncilLaw", name := "crash", desc := "(LCommitCouncil;II[J)I" } : Jvm.MethodName))) ∈ wsU := wsU_T (List.mem_append_right _ (List.mem_append_right _ (List.mem_append_left _ (List.mem_of_getElem? (i := 32) rfl)))) rfl
theorem uw_3_33 : ((Jvm.Cond.static ({ cls := "CommitCouncilLaw", name := "crash", desc := "(LCommitCouncil;II[J)I" } : Jvm.MethodName))) ∈ wsU := wsU_T (List.mem_append_right _ (List.mem_append_right _ (List.mem_append_left _ (List.mem_of_getElem? (i := 33) rfl)))) rfl
theorem uw_3_34 : ((Jvm.Cond.codeWith ({ cls := "CommitCouncilLaw", name := "crash", desc := "(LCommitCouncil;II[J)I" } : Jvm.MethodName) method_12_code (5 : Nat) (Option.some Jvm.ClassFile.FieldType.int) [((0 : Nat), (17 : Nat), (20 : Nat), (41 : Nat)), ((0 : Nat), (17 : Nat), (24 : Nat), (13 : Nat))])) ∈ wsU := wsU_T (List.mem_append_right _ (List.mem_append_right _ (List.mem_append_left _ (List.mem_of_getElem? (i := 34) rfl)))) rfl
theorem uw_3_35 : ((Jvm.Cond.methodLink "CommitCouncilLaw" (43 : Nat) ({ cls := "CommitCouncil", name := "crash", desc := "(II)Z" } : Jvm.MethodName))) ∈ wsU := wsU_T (List.mem_append_right _ (List.mem_append_right _ (List.mem_append_left _ (List.mem_of_getElem? (i := 35) rfl)))) rfl
theorem uw_3_36 : ((Jvm.Cond.instanceMethod ({ cls := "CommitCouncil", name := "crash", desc := "(II)Z" } : Jvm.MethodName))) ∈ wsU := wsU_T (List.mem_append_right _ (List.mem_append_right _ (List.mem_append_left _ (List.mem_of_getElem? (i := 36) rfl)))) rfl
theorem uw_3_37 : ((Jvm.Cond.selects "CommitCouncil" ({ cls := "CommitCouncil", name := "crash", desc := "(II)Z" } : Jvm.MethodName) ({ cls := "CommitCouncil", name := "crash", desc := "(II)Z" } : Jvm.MethodName))) ∈ wsU := wsU_T (List.mem_append_right _ (List.mem_append_right _ (List.mem_append_left _ (List.mem_of_getElem? (i := 37) rfl)))) rfl
theorem uw_3_38 : ((Jvm.Cond.code ({ cls := "CommitCouncil", name := "crash", desc := "(II)Z" } : Jvm.MethodName) prog_1_method_11_code (4 : Nat) (Option.some Jvm.ClassFile.FieldType.boolean))) ∈ wsU := wsU_T (List.mem_append_right _ (List.mem_append_right _ (List.mem_append_left _ (List.mem_of_getElem? (i := 38) rfl)))) rfl
theorem uw_3_39 : ((Jvm.Cond.methodLink "CommitCouncil" (125 : Nat) ({ cls := "CommitCouncil$Member", name := "forget", desc := "()V" } : Jvm.MethodName))) ∈ wsU := wsU_T (List.mem_append_right _ (List.mem_append_right _ (List.mem_append_left _ (List.mem_of_getElem? (i := 39) rfl)))) rfl
theorem uw_3_40 : ((Jvm.Cond.instanceMethod ({ cls := "CommitCouncil$Member", name := "forget", desc := "()V" } : Jvm.MethodName))) ∈ wsU := wsU_T (List.mem_append_right _ (List.mem_append_right _ (List.mem_append_left _ (List.mem_of_getElem? (i := 40) rfl)))) rfl
theorem uw_3_41 : ((Jvm.Cond.sameMethod "CommitCouncil$Member" "CommitCouncil$Member" "forget" "()V")) ∈ wsU := wsU_T (List.mem_append_right _ (List.mem_append_right _ (List.mem_append_left _ (List.mem_of_getElem? (i := 41) rfl)))) rfl
theorem uw_3_42 : ((Jvm.Cond.selects "CommitCouncil$Acceptor" ({ cls := "CommitCouncil$Member", name := "forget", desc := "()V" } : Jvm.MethodName) ({ cls := "CommitCouncil$Member", name := "forget", desc := "()V" } : Jvm.MethodName))) ∈ wsU := wsU_T (List.mem_append_right _ (List.mem_append_right _ (List.mem_append_left _ (List.mem_of_getElem? (i := 42) rfl)))) rfl
theorem uw_3_43 : ((Jvm.Cond.selects "CommitCouncil$Leader" ({ cls := "CommitCouncil$Member", name := "forget", desc := "()V" } : Jvm.MethodName) ({ cls := "CommitCouncil$Leader", name := "forget", desc := "()V" } : Jvm.MethodName))) ∈ wsU := wsU_T (List.mem_append_right _ (List.mem_append_right _ (List.mem_append_left _ (List.mem_of_getElem? (i := 43) rfl)))) rfl
theorem uw_3_44 : ((Jvm.Cond.instanceMethod ({ cls := "CommitCouncil$Leader", name := "forget", desc := "()V" } : Jvm.MethodName))) ∈ wsU := wsU_T (List.mem_append_right _ (List.mem_append_right _ (List.mem_append_left _ (List.mem_of_getElem? (i := 44) rfl)))) rfl
theorem uw_3_45 : ((Jvm.Cond.code ({ cls := "CommitCouncil$Leader", name := "forget", desc := "()V" } : Jvm.MethodName) prog_3_method_9_code (1 : Nat) (Option.none : Option Jvm.ClassFile.FieldType))) ∈ wsU := wsU_T (List.mem_append_right _ (List.mem_append_right _ (List.mem_append_left _ (List.mem_of_getElem? (i := 45) rfl)))) rfl
theorem uw_3_46 : ((Jvm.Cond.selects "CommitCouncil$Manager" ({ cls := "CommitCouncil$Member", name := "forget", desc := "()V" } : Jvm.MethodName) ({ cls := "CommitCouncil$Member", name := "forget", desc := "()V" } : Jvm.MethodName))) ∈ wsU := wsU_T (List.mem_append_right _ (List.mem_append_right _ (List.mem_append_left _ (List.mem_of_getElem? (i := 46) rfl)))) rfl
theorem uw_3_47 : ((Jvm.Cond.code ({ cls := "CommitCouncil$Member", name := "forget", desc := "()V" } : Jvm.MethodName) prog_7_method_2_code (1 : Nat) (Option.none : Option Jvm.ClassFile.FieldType))) ∈ wsU := wsU_T (List.mem_append_right _ (List.mem_append_right _ (List.mem_append_left _ (List.mem_of_getElem? (i := 47) rfl)))) rfl
theorem uw_3_48 : ((Jvm.Cond.methodLink "CommitCouncilLaw" (126 : Nat) ({ cls := "CommitCouncilLaw", name := "recover", desc := "(LCommitCouncil;II[J)I" } : Jvm.MethodName))) ∈ wsU := wsU_T (List.mem_append_right _ (List.mem_append_right _ (List.mem_append_left _ (List.mem_of_getElem? (i := 48) rfl)))) rfl
theorem uw_3_49 : ((Jvm.Cond.static ({ cls := "CommitCouncilLaw", name := "recover", desc := "(LCommitCouncil;II[J)I" } : Jvm.MethodName))) ∈ wsU := wsU_T (List.mem_append_right _ (List.mem_append_right _ (List.mem_append_left _ (List.mem_of_getElem? (i := 49) rfl)))) rfl
theorem uw_3_50 : ((Jvm.Cond.codeWith ({ cls := "CommitCouncilLaw", name := "recover", desc := "(LCommitCouncil;II[J)I" } : Jvm.MethodName) method_13_code (5 : Nat) (Option.some Jvm.ClassFile.FieldType.int) [((0 : Nat), (17 : Nat), (20 : Nat), (41 : Nat)), ((0 : Nat), (17 : Nat), (24 : Nat), (13 : Nat))])) ∈ wsU := wsU_T (List.mem_append_right _ (List.mem_append_right _ (List.mem_append_left _ (List.mem_of_getElem? (i := 50) rfl)))) rfl
theorem uw_3_51 : ((Jvm.Cond.methodLink "CommitCouncilLaw" (47 : Nat) ({ cls := "CommitCouncil", name := "recover", desc := "(II)Z" } : Jvm.MethodName))) ∈ wsU := wsU_T (List.mem_append_right _ (List.mem_append_right _ (List.mem_append_left _ (List.mem_of_getElem? (i := 51) rfl)))) rfl
theorem uw_3_52 : ((Jvm.Cond.instanceMethod ({ cls := "CommitCouncil", name := "recover", desc := "(II)Z" } : Jvm.MethodName))) ∈ wsU := wsU_T (List.mem_append_right _ (List.mem_append_right _ (List.mem_append_left _ (List.mem_of_getElem? (i := 52) rfl)))) rfl
theorem uw_3_53 : ((Jvm.Cond.selects "CommitCouncil" ({ cls := "CommitCouncil", name := "recover", desc := "(II)Z" } : Jvm.MethodName) ({ cls := "CommitCouncil", name := "recover", desc := "(II)Z" } : Jvm.MethodName))) ∈ wsU := wsU_T (List.mem_append_right _ (List.mem_append_right _ (List.mem_append_left _ (List.mem_of_getElem? (i := 53) rfl)))) rfl
theorem uw_3_54 : ((Jvm.Cond.code ({ cls := "CommitCouncil", name := "recover", desc := "(II)Z" } : Jvm.MethodName) prog_1_method_12_code (5 : Nat) (Option.some Jvm.ClassFile.FieldType.boolean))) ∈ wsU := wsU_T (List.mem_append_right _ (List.mem_append_right _ (List.mem_append_left _ (List.mem_of_getElem? (i := 54) rfl)))) rfl
theorem uw_3_55 : ((Jvm.Cond.methodLink "CommitCouncilLaw" (129 : Nat) ({ cls := "CommitCouncilLaw", name := "message", desc := "(LCommitCouncil;II[J)I" } : Jvm.MethodName))) ∈ wsU := wsU_T (List.mem_append_right _ (List.mem_append_right _ (List.mem_append_left _ (List.mem_of_getElem? (i := 55) rfl)))) rfl
theorem uw_3_56 : ((Jvm.Cond.static ({ cls := "CommitCouncilLaw", name := "message", desc := "(LCommitCouncil;II[J)I" } : Jvm.MethodName))) ∈ wsU := wsU_T (List.mem_append_right _ (List.mem_append_right _ (List.mem_append_left _ (List.mem_of_getElem? (i := 56) rfl)))) rfl
theorem uw_3_57 : ((Jvm.Cond.codeWith ({ cls := "CommitCouncilLaw", name := "message", desc := "(LCommitCouncil;II[J)I" } : Jvm.MethodName) method_14_code (5 : Nat) (Option.some Jvm.ClassFile.FieldType.int) [((0 : Nat), (10 : Nat), (13 : Nat), (13 : Nat))])) ∈ wsU := wsU_T (List.mem_append_right _ (List.mem_append_right _ (List.mem_append_left _ (List.mem_of_getElem? (i := 57) rfl)))) rfl
theorem uw_3_58 : ((Jvm.Cond.methodLink "CommitCouncilLaw" (50 : Nat) ({ cls := "CommitCouncil", name := "message", desc := "(II)I" } : Jvm.MethodName))) ∈ wsU := wsU_T (List.mem_append_right _ (List.mem_append_right _ (List.mem_append_left _ (List.mem_of_getElem? (i := 58) rfl)))) rfl
theorem uw_3_59 : ((Jvm.Cond.instanceMethod ({ cls := "CommitCouncil", name := "message", desc := "(II)I" } : Jvm.MethodName))) ∈ wsU := wsU_T (List.mem_append_right _ (List.mem_append_right _ (List.mem_append_left _ (List.mem_of_getElem? (i := 59) rfl)))) rfl
theorem uw_3_60 : ((Jvm.Cond.selects "CommitCouncil" ({ cls := "CommitCouncil", name := "message", desc := "(II)I" } : Jvm.MethodName) ({ cls := "CommitCouncil", name := "message", desc := "(II)I" } : Jvm.MethodName))) ∈ wsU := wsU_T (List.mem_append_right _ (List.mem_append_right _ (List.mem_append_left _ (List.mem_of_getElem? (i := 60) rfl)))) rfl
theorem uw_3_61 : ((Jvm.Cond.code ({ cls := "CommitCouncil", name := "message", desc := "(II)I" } : Jvm.MethodName) prog_1_method_13_code (3 : Nat) (Option.some Jvm.ClassFile.FieldType.int))) ∈ wsU := wsU_T (List.mem_append_right _ (List.mem_append_right _ (List.mem_append_left _ (List.mem_of_getElem? (i := 61) rfl)))) rfl
theorem uw_3_62 : ((Jvm.Cond.methodLink "CommitCouncilLaw" (132 : Nat) ({ cls := "CommitCouncilLaw", name := "told", desc := "(LCommitCouncil;IIZ[J)I" } : Jvm.MethodName))) ∈ wsU := wsU_T (List.mem_append_right _ (List.mem_append_right _ (List.mem_append_left _ (List.mem_of_getElem? (i := 62) rfl)))) rfl
theorem uw_3_63 : ((Jvm.Cond.static ({ cls := "CommitCouncilLaw", name := "told", desc := "(LCommitCouncil;IIZ[J)I" } : Jvm.MethodName))) ∈ wsU := wsU_T (List.mem_append_right _ (List.mem_append_right _ (List.mem_append_left _ (List.mem_of_getElem? (i := 63) rfl)))) rfl
theorem uw_3_64 : ((Jvm.Cond.codeWith ({ cls := "CommitCouncilLaw", name := "told", desc := "(LCommitCouncil;IIZ[J)I" } : Jvm.MethodName) method_15_code (6 : Nat) (Option.some Jvm.ClassFile.FieldType.int) [((0 : Nat), (12 : Nat), (15 : Nat), (13 : Nat))])) ∈ wsU := wsU_T (List.mem_append_right _ (List.mem_append_right _ (List.mem_append_left _ (List.mem_of_getElem? (i := 64) rfl)))) rfl
theorem uw_3_65 : ((Jvm.Cond.methodLink "CommitCouncilLaw" (54 : Nat) ({ cls := "CommitCouncil", name := "told", desc := "(IIZ)I" } : Jvm.MethodName))) ∈ wsU := wsU_T (List.mem_append_right _ (List.mem_append_right _ (List.mem_append_left _ (List.mem_of_getElem? (i := 65) rfl)))) rfl
theorem uw_3_66 : ((Jvm.Cond.instanceMethod ({ cls := "CommitCouncil", name := "told", desc := "(IIZ)I" } : Jvm.MethodName))) ∈ wsU := wsU_T (List.mem_append_right _ (List.mem_append_right _ (List.mem_append_left _ (List.mem_of_getElem? (i := 66) rfl)))) rfl
theorem uw_3_67 : ((Jvm.Cond.selects "CommitCouncil" ({ cls := "CommitCouncil", name := "told", desc := "(IIZ)I" } : Jvm.MethodName) ({ cls := "CommitCouncil", name := "told", desc := "(IIZ)I" } : Jvm.MethodName))) ∈ wsU := wsU_T (List.mem_append_right _ (List.mem_append_right _ (List.mem_append_left _ (List.mem_of_getElem? (i := 67) rfl)))) rfl
theorem uw_3_68 : ((Jvm.Cond.code ({ cls := "CommitCouncil", name := "told", desc := "(IIZ)I" } : Jvm.MethodName) prog_1_method_14_code (5 : Nat) (Option.some Jvm.ClassFile.FieldType.int))) ∈ wsU := wsU_T (List.mem_append_right _ (List.mem_append_right _ (List.mem_append_left _ (List.mem_of_getElem? (i := 68) rfl)))) rfl
theorem uw_3_69 : ((Jvm.Cond.methodLink "CommitCouncil" (134 : Nat) ({ cls := "CommitCouncil", name := "ballotOf", desc := "(I)I" } : Jvm.MethodName))) ∈ wsU := wsU_T (List.mem_append_right _ (List.mem_append_right _ (List.mem_append_left _ (List.mem_of_getElem? (i := 69) rfl)))) rfl
theorem uw_3_70 : ((Jvm.Cond.methodLink "CommitCouncilLaw" (136 : Nat) ({ cls := "CommitCouncilLaw", name := "manager", desc := "(LCommitCouncil;II[J)I" } : Jvm.MethodName))) ∈ wsU := wsU_T (List.mem_append_right _ (List.mem_append_right _ (List.mem_append_left _ (List.mem_of_getElem? (i := 70) rfl)))) rfl
theorem uw_3_71 : ((Jvm.Cond.static ({ cls := "CommitCouncilLaw", name := "manager", desc := "(LCommitCouncil;II[J)I" } : Jvm.MethodName))) ∈ wsU := wsU_T (List.mem_append_right _ (List.mem_append_right _ (List.mem_append_left _ (List.mem_of_getElem? (i := 71) rfl)))) rfl
theorem uw_3_72 : ((Jvm.Cond.codeWith ({ cls := "CommitCouncilLaw", name := "manager", desc := "(LCommitCouncil;II[J)I" } : Jvm.MethodName) method_16_code (5 : Nat) (Option.some Jvm.ClassFile.FieldType.int) [((0 : Nat), (10 : Nat), (13 : Nat), (13 : Nat))])) ∈ wsU := wsU_T (List.mem_append_right _ (List.mem_append_right _ (List.mem_append_left _ (List.mem_of_getElem? (i := 72) rfl)))) rfl
theorem uw_3_73 : ((Jvm.Cond.methodLink "CommitCouncilLaw" (58 : Nat) ({ cls := "CommitCouncil", name := "manager", desc := "(II)I" } : Jvm.MethodName))) ∈ wsU := wsU_T (List.mem_append_right _ (List.mem_append_right _ (List.mem_append_left _ (List.mem_of_getElem? (i := 73) rfl)))) rfl
theorem uw_3_74 : ((Jvm.Cond.instanceMethod ({ cls := "CommitCouncil", name := "manager", desc := "(II)I" } : Jvm.MethodName))) ∈ wsU := wsU_T (List.mem_append_right _ (List.mem_append_right _ (List.mem_append_left _ (List.mem_of_getElem? (i := 74) rfl)))) rfl
theorem uw_3_75 : ((Jvm.Cond.selects "CommitCouncil" ({ cls := "CommitCouncil", name := "manager", desc := "(II)I" } : Jvm.MethodName) ({ cls := "CommitCouncil", name := "manager", desc := "(II)I" } : Jvm.MethodName))) ∈ wsU := wsU_T (List.mem_append_right _ (List.mem_append_right _ (List.mem_append_left _ (List.mem_of_getElem? (i := 75) rfl)))) rfl
theorem uw_3_76 : ((Jvm.Cond.code ({ cls := "CommitCouncil", name := "manager", desc := "(II)I" } : Jvm.MethodName) prog_1_method_15_code (4 : Nat) (Option.some Jvm.ClassFile.FieldType.int))) ∈ wsU := wsU_T (List.mem_append_right _ (List.mem_append_right _ (List.mem_append_left _ (List.mem_of_getElem? (i := 76) rfl)))) rfl
theorem uw_3_77 : ((Jvm.Cond.methodLink "CommitCouncilLaw" (139 : Nat) ({ cls := "CommitCouncilLaw", name := "acceptor", desc := "(LCommitCouncil;III[J)I" } : Jvm.MethodName))) ∈ wsU := wsU_T (List.mem_append_right _ (List.mem_append_right _ (List.mem_append_left _ (List.mem_of_getElem? (i := 77) rfl)))) rfl
theorem uw_3_78 : ((Jvm.Cond.static ({ cls := "CommitCouncilLaw", name := "acceptor", desc := "(LCommitCouncil;III[J)I" } : Jvm.MethodName))) ∈ wsU := wsU_T (List.mem_append_right _ (List.mem_append_right _ (List.mem_append_left _ (List.mem_of_getElem? (i := 78) rfl)))) rfl
theorem uw_3_79 : ((Jvm.Cond.codeWith ({ cls := "CommitCouncilLaw", name := "acceptor", desc := "(LCommitCouncil;III[J)I" } : Jvm.MethodName) method_17_code (6 : Nat) (Option.some Jvm.ClassFile.FieldType.int) [((0 : Nat), (12 : Nat), (15 : Nat), (13 : Nat))])) ∈ wsU := wsU_T (List.mem_append_right _ (List.mem_append_right _ (List.mem_append_left _ (List.mem_of_getElem? (i := 79) rfl)))) rfl
theorem uw_3_80 : ((Jvm.Cond.methodLink "CommitCouncilLaw" (61 : Nat) ({ cls := "CommitCouncil", name := "acceptor", desc := "(III)I" } : Jvm.MethodName))) ∈ wsU := wsU_T (List.mem_append_right _ (List.mem_append_right _ (List.mem_append_left _ (List.mem_of_getElem? (i := 80) rfl)))) rfl
theorem uw_3_81 : ((Jvm.Cond.instanceMethod ({ cls := "CommitCouncil", name := "acceptor", desc := "(III)I" } : Jvm.MethodName))) ∈ wsU := wsU_T (List.mem_append_right _ (List.mem_append_right _ (List.mem_append_left _ (List.mem_of_getElem? (i := 81) rfl)))) rfl
theorem uw_3_82 : ((Jvm.Cond.selects "CommitCouncil" ({ cls := "CommitCouncil", name := "acceptor", desc := "(III)I" } : Jvm.MethodName) ({ cls := "CommitCouncil", name := "acceptor", desc := "(III)I" } : Jvm.MethodName))) ∈ wsU := wsU_T (List.mem_append_right _ (List.mem_append_right _ (List.mem_append_left _ (List.mem_of_getElem? (i := 82) rfl)))) rfl
theorem uw_3_83 : ((Jvm.Cond.code ({ cls := "CommitCouncil", name := "acceptor", desc := "(III)I" } : Jvm.MethodName) prog_1_method_16_code (5 : Nat) (Option.some Jvm.ClassFile.FieldType.int))) ∈ wsU := wsU_T (List.mem_append_right _ (List.mem_append_right _ (List.mem_append_left _ (List.mem_of_getElem? (i := 83) rfl)))) rfl
theorem uw_3_84 : ((Jvm.Cond.methodLink "CommitCouncilLaw" (143 : Nat) ({ cls := "CommitCouncilLaw", name := "leader", desc := "(LCommitCouncil;II[J)I" } : Jvm.MethodName))) ∈ wsU := wsU_T (List.mem_append_right _ (List.mem_append_right _ (List.mem_append_left _ (List.mem_of_getElem? (i := 84) rfl)))) rfl
theorem uw_3_85 : ((Jvm.Cond.static ({ cls := "CommitCouncilLaw", name := "leader", desc := "(LCommitCouncil;II[J)I" } : Jvm.MethodName))) ∈ wsU := wsU_T (List.mem_append_right _ (List.mem_append_right _ (List.mem_append_left _ (List.mem_of_getElem? (i := 85) rfl)))) rfl
theorem uw_3_86 : ((Jvm.Cond.codeWith ({ cls := "CommitCouncilLaw", name := "leader", desc := "(LCommitCouncil;II[J)I" } : Jvm.MethodName) method_18_code (5 : Nat) (Option.some Jvm.ClassFile.FieldType.int) [((0 : Nat), (10 : Nat), (13 : Nat), (13 : Nat))])) ∈ wsU := wsU_T (List.mem_append_right _ (List.mem_append_right _ (List.mem_append_left _ (List.mem_of_getElem? (i := 86) rfl)))) rfl
theorem uw_3_87 : ((Jvm.Cond.methodLink "CommitCouncilLaw" (65 : Nat) ({ cls := "CommitCouncil", name := "leader", desc := "(II)I" } : Jvm.MethodName))) ∈ wsU := wsU_T (List.mem_append_right _ (List.mem_append_right _ (List.mem_append_left _ (List.mem_of_getElem? (i := 87) rfl)))) rfl
theorem uw_3_88 : ((Jvm.Cond.instanceMethod ({ cls := "CommitCouncil", name := "leader", desc := "(II)I" } : Jvm.MethodName))) ∈ wsU := wsU_T (List.mem_append_right _ (List.mem_append_right _ (List.mem_append_left _ (List.mem_of_getElem? (i := 88) rfl)))) rfl
theorem uw_3_89 : ((Jvm.Cond.selects "CommitCouncil" ({ cls := "CommitCouncil", name := "leader", desc := "(II)I" } : Jvm.MethodName) ({ cls := "CommitCouncil", name := "leader", desc := "(II)I" } : Jvm.MethodName))) ∈ wsU := wsU_T (List.mem_append_right _ (List.mem_append_right _ (List.mem_append_left _ (List.mem_of_getElem? (i := 89) rfl)))) rfl
theorem uw_3_90 : ((Jvm.Cond.code ({ cls := "CommitCouncil", name := "leader", desc := "(II)I" } : Jvm.MethodName) prog_1_method_17_code (4 : Nat) (Option.some Jvm.ClassFile.FieldType.int))) ∈ wsU := wsU_T (List.mem_append_right _ (List.mem_append_right _ (List.mem_append_left _ (List.mem_of_getElem? (i := 90) rfl)))) rfl
theorem uw_3_91 : ((Jvm.Cond.methodLink "CommitCouncil" (157 : Nat) ({ cls := "java/lang/Integer", name := "bitCount", desc := "(I)I" } : Jvm.MethodName))) ∈ wsU := wsU_T (List.mem_append_right _ (List.mem_append_right _ (List.mem_append_left _ (List.mem_of_getElem? (i := 91) rfl)))) rfl
theorem uw_3_92 : ((Jvm.Cond.methodLink "CommitCouncilLaw" (146 : Nat) ({ cls := "CommitCouncilLaw", name := "outcome", desc := "(LCommitCouncil;II[J)I" } : Jvm.MethodName))) ∈ wsU := wsU_T (List.mem_append_right _ (List.mem_append_right _ (List.mem_append_left _ (List.mem_of_getElem? (i := 92) rfl)))) rfl
theorem uw_3_93 : ((Jvm.Cond.static ({ cls := "CommitCouncilLaw", name := "outcome", desc := "(LCommitCouncil;II[J)I" } : Jvm.MethodName))) ∈ wsU := wsU_T (List.mem_append_right _ (List.mem_append_right _ (List.mem_append_left _ (List.mem_of_getElem? (i := 93) rfl)))) rfl
theorem uw_3_94 : ((Jvm.Cond.codeWith ({ cls := "CommitCouncilLaw", name := "outcome", desc := "(LCommitCouncil;II[J)I" } : Jvm.MethodName) method_19_code (5 : Nat) (Option.some Jvm.ClassFile.FieldType.int) [((0 : Nat), (10 : Nat), (13 : Nat), (13 : Nat))])) ∈ wsU := wsU_T (List.mem_append_right _ (List.mem_append_right _ (List.mem_append_left _ (List.mem_of_getElem? (i := 94) rfl)))) rfl
theorem uw_3_95 : ((Jvm.Cond.methodLink "CommitCouncilLaw" (68 : Nat) ({ cls := "CommitCouncil", name := "outcome", desc := "(II)I" } : Jvm.MethodName))) ∈ wsU := wsU_T (List.mem_append_right _ (List.mem_append_right _ (List.mem_append_left _ (List.mem_of_getElem? (i := 95) rfl)))) rfl
theorem uw_3_96 : ((Jvm.Cond.instanceMethod ({ cls := "CommitCouncil", name := "outcome", desc := "(II)I" } : Jvm.MethodName))) ∈ wsU := wsU_T (List.mem_append_right _ (List.mem_append_right _ (List.mem_append_left _ (List.mem_of_getElem? (i := 96) rfl)))) rfl
theorem uw_3_97 : ((Jvm.Cond.selects "CommitCouncil" ({ cls := "CommitCouncil", name := "outcome", desc := "(II)I" } : Jvm.MethodName) ({ cls := "CommitCouncil", name := "outcome", desc := "(II)I" } : Jvm.MethodName))) ∈ wsU := wsU_T (List.mem_append_right _ (List.mem_append_right _ (List.mem_append_left _ (List.mem_of_getElem? (i := 97) rfl)))) rfl
theorem uw_3_98 : ((Jvm.Cond.code ({ cls := "CommitCouncil", name := "outcome", desc := "(II)I" } : Jvm.MethodName) prog_1_method_18_code (3 : Nat) (Option.some Jvm.ClassFile.FieldType.int))) ∈ wsU := wsU_T (List.mem_append_right _ (List.mem_append_right _ (List.mem_append_left _ (List.mem_of_getElem? (i := 98) rfl)))) rfl
theorem uw_3_99 : ((Jvm.Cond.methodLink "CommitCouncilLaw" (149 : Nat) ({ cls := "CommitCouncilLaw", name := "seen", desc := "(LCommitCouncil;III[J)I" } : Jvm.MethodName))) ∈ wsU := wsU_T (List.mem_append_right _ (List.mem_append_right _ (List.mem_append_left _ (List.mem_of_getElem? (i := 99) rfl)))) rfl
theorem uw_3_100 : ((Jvm.Cond.static ({ cls := "CommitCouncilLaw", name := "seen", desc := "(LCommitCouncil;III[J)I" } : Jvm.MethodName))) ∈ wsU := wsU_T (List.mem_append_right _ (List.mem_append_right _ (List.mem_append_left _ (List.mem_of_getElem? (i := 100) rfl)))) rfl
theorem uw_3_101 : ((Jvm.Cond.codeWith ({ cls := "CommitCouncilLaw", name := "seen", desc := "(LCommitCouncil;III[J)I" } : Jvm.MethodName) method_20_code (6 : Nat) (Option.some Jvm.ClassFile.FieldType.int) [((0 : Nat), (12 : Nat), (15 : Nat), (13 : Nat))])) ∈ wsU := wsU_T (List.mem_append_right _ (List.mem_append_right _ (List.mem_append_left _ (List.mem_of_getElem? (i := 101) rfl)))) rfl
theorem uw_3_102 : ((Jvm.Cond.methodLink "CommitCouncilLaw" (71 : Nat) ({ cls := "CommitCouncil", name := "seen", desc := "(III)I" } : Jvm.MethodName))) ∈ wsU := wsU_T (List.mem_append_right _ (List.mem_append_right _ (List.mem_append_left _ (List.mem_of_getElem? (i := 102) rfl)))) rfl
theorem uw_3_103 : ((Jvm.Cond.instanceMethod ({ cls := "CommitCouncil", name := "seen", desc := "(III)I" } : Jvm.MethodName))) ∈ wsU := wsU_T (List.mem_append_right _ (List.mem_append_right _ (List.mem_append_left _ (List.mem_of_getElem? (i := 103) rfl)))) rfl
theorem uw_3_104 : ((Jvm.Cond.selects "CommitCouncil" ({ cls := "CommitCouncil", name := "seen", desc := "(III)I" } : Jvm.MethodName) ({ cls := "CommitCouncil", name := "seen", desc := "(III)I" } : Jvm.MethodName))) ∈ wsU := wsU_T (List.mem_append_right _ (List.mem_append_right _ (List.mem_append_left _ (List.mem_of_getElem? (i := 104) rfl)))) rfl
theorem uw_3_105 : ((Jvm.Cond.code ({ cls := "CommitCouncil", name := "seen", desc := "(III)I" } : Jvm.MethodName) prog_1_method_19_code (4 : Nat) (Option.some Jvm.ClassFile.FieldType.int))) ∈ wsU := wsU_T (List.mem_append_right _ (List.mem_append_right _ (List.mem_append_left _ (List.mem_of_getElem? (i := 105) rfl)))) rfl
theorem uw_3_106 : ((Jvm.Cond.methodLink "CommitCouncil" (165 : Nat) ({ cls := "CommitCouncil$Leader", name := "sightOf", desc := "(II)I" } : Jvm.MethodName))) ∈ wsU := wsU_T (List.mem_append_right _ (List.mem_append_right _ (List.mem_append_left _ (List.mem_of_getElem? (i := 106) rfl)))) rfl
theorem uw_3_107 : ((Jvm.Cond.methodLink "CommitCouncilLaw" (152 : Nat) ({ cls := "CommitCouncilLaw", name := "chosen", desc := "(LCommitCouncil;I[J)I" } : Jvm.MethodName))) ∈ wsU := wsU_T (List.mem_append_right _ (List.mem_append_right _ (List.mem_append_left _ (List.mem_of_getElem? (i := 107) rfl)))) rfl
theorem uw_3_108 : ((Jvm.Cond.static ({ cls := "CommitCouncilLaw", name := "chosen", desc := "(LCommitCouncil;I[J)I" } : Jvm.MethodName))) ∈ wsU := wsU_T (List.mem_append_right _ (List.mem_append_right _ (List.mem_append_left _ (List.mem_of_getElem? (i := 108) rfl)))) rfl
theorem uw_3_109 : ((Jvm.Cond.codeWith ({ cls := "CommitCouncilLaw", name := "chosen", desc := "(LCommitCouncil;I[J)I" } : Jvm.MethodName) method_21_code (4 : Nat) (Option.some Jvm.ClassFile.FieldType.int) [((0 : Nat), (9 : Nat), (12 : Nat), (13 : Nat))])) ∈ wsU := wsU_T (List.mem_append_right _ (List.mem_append_right _ (List.mem_append_left _ (List.mem_of_getElem? (i := 109) rfl)))) rfl
theorem uw_3_110 : ((Jvm.Cond.methodLink "CommitCouncilLaw" (74 : Nat) ({ cls := "CommitCouncil", name := "chosen", desc := "(I)I" } : Jvm.MethodName))) ∈ wsU := wsU_T (List.mem_append_right _ (List.mem_append_right _ (List.mem_append_left _ (List.mem_of_getElem? (i := 110) rfl)))) rfl
theorem uw_3_111 : ((Jvm.Cond.instanceMethod ({ cls := "CommitCouncil", name := "chosen", desc := "(I)I" } : Jvm.MethodName))) ∈ wsU := wsU_T (List.mem_append_right _ (List.mem_append_right _ (List.mem_append_left _ (List.mem_of_getElem? (i := 111) rfl)))) rfl
theorem uw_3_112 : ((Jvm.Cond.selects "CommitCouncil" ({ cls := "CommitCouncil", name := "chosen", desc := "(I)I" } : Jvm.MethodName) ({ cls := "CommitCouncil", name := "chosen", desc := "(I)I" } : Jvm.MethodName))) ∈ wsU := wsU_T (List.mem_append_right _ (List.mem_append_right _ (List.mem_append_left _ (List.mem_of_getElem? (i := 112) rfl)))) rfl
theorem uw_3_113 : ((Jvm.Cond.code ({ cls := "CommitCouncil", name := "chosen", desc := "(I)I" } : Jvm.MethodName) prog_1_method_20_code (2 : Nat) (Option.some Jvm.ClassFile.FieldType.int))) ∈ wsU := wsU_T (List.mem_append_right _ (List.mem_append_right _ (List.mem_append_left _ (List.mem_of_getElem? (i := 113) rfl)))) rfl
theorem uw_3_114 : ((Jvm.Cond.classLink "CommitCouncilLaw" (86 : Nat) "CommitCouncilModel")) ∈ wsU := wsU_T (List.mem_append_right _ (List.mem_append_right _ (List.mem_append_left _ (List.mem_of_getElem? (i := 114) rfl)))) rfl
theorem uw_3_115 : ((Jvm.Cond.instantiable "CommitCouncilModel" (26 : Nat))) ∈ wsU := wsU_T (List.mem_append_right _ (List.mem_append_right _ (List.mem_append_left _ (List.mem_of_getElem? (i := 115) rfl)))) rfl
theorem uw_3_116 : ((Jvm.Cond.methodLink "CommitCouncilLaw" (88 : Nat) ({ cls := "CommitCouncilModel", name := "<init>", desc := "(II)V" } : Jvm.MethodName))) ∈ wsU := wsU_T (List.mem_append_right _ (List.mem_append_right _ (List.mem_append_left _ (List.mem_of_getElem? (i := 116) rfl)))) rfl
theorem uw_3_117 : ((Jvm.Cond.instanceMethod ({ cls := "CommitCouncilModel", name := "<init>", desc := "(II)V" } : Jvm.MethodName))) ∈ wsU := wsU_T (List.mem_append_right _ (List.mem_append_right _ (List.mem_append_left _ (List.mem_of_getElem? (i := 117) rfl)))) rfl
theorem uw_3_118 : ((Jvm.Cond.code ({ cls := "CommitCouncilModel", name := "<init>", desc := "(II)V" } : Jvm.MethodName) prog_9_method_1_code (5 : Nat) (Option.none : Option Jvm.ClassFile.FieldType))) ∈ wsU := wsU_T (List.mem_append_right _ (List.mem_append_right _ (List.mem_append_left _ (List.mem_of_getElem? (i := 118) rfl)))) rfl
theorem uw_3_119 : ((Jvm.Cond.methodLink "CommitCouncilModel" (1 : Nat) ({ cls := "java/lang/Object", name := "<init>", desc := "()V" } : Jvm.MethodName))) ∈ wsU := wsU_T (List.mem_append_right _ (List.mem_append_right _ (List.mem_append_left _ (List.mem_of_getElem? (i := 119) rfl)))) rfl
theorem uw_3_120 : ((Jvm.Cond.classLink "CommitCouncilModel" (19 : Nat) "[[Z")) ∈ wsU := wsU_T (List.mem_append_right _ (List.mem_append_right _ (List.mem_append_left _ (List.mem_of_getElem? (i := 120) rfl)))) rfl
theorem uw_3_122 : ((Jvm.Cond.fieldLink "CommitCouncilModel" (76 : Nat) "CommitCouncilModel" "thrown" "I")) ∈ wsU := wsU_T (List.mem_append_right _ (List.mem_append_right _ (List.mem_append_left _ (List.mem_of_getElem? (i := 122) rfl)))) rfl
theorem uw_3_123 : ((Jvm.Cond.fieldLink "CommitCouncilModel" (69 : Nat) "CommitCouncilModel" "managers" "I")) ∈ wsU := wsU_T (List.mem_append_right _ (List.mem_append_right _ (List.mem_append_left _ (List.mem_of_getElem? (i := 123) rfl)))) rfl
theorem uw_3_124 : ((Jvm.Cond.fieldLink "CommitCouncilModel" (73 : Nat) "CommitCouncilModel" "acceptors" "I")) ∈ wsU := wsU_T (List.mem_append_right _ (List.mem_append_right _ (List.mem_append_left _ (List.mem_of_getElem? (i := 124) rfl)))) rfl
theorem uw_3_125 : ((Jvm.Cond.fieldLink "CommitCouncilModel" (9 : Nat) "CommitCouncilModel" "message" "[I")) ∈ wsU := wsU_T (List.mem_append_right _ (List.mem_append_right _ (List.mem_append_left _ (List.mem_of_getElem? (i := 125) rfl)))) rfl
theorem uw_3_126 : ((Jvm.Cond.fieldLink "CommitCouncilModel" (13 : Nat) "CommitCouncilModel" "made" "[I")) ∈ wsU := wsU_T (List.mem_append_right _ (List.mem_append_right _ (List.mem_append_left _ (List.mem_of_getElem? (i := 126) rfl)))) rfl
theorem uw_3_127 : ((Jvm.Cond.fieldLink "CommitCouncilModel" (79 : Nat) "CommitCouncilModel" "many" "I")) ∈ wsU := wsU_T (List.mem_append_right _ (List.mem_append_right _ (List.mem_append_left _ (List.mem_of_getElem? (i := 127) rfl)))) rfl
theorem uw_3_128 : ((Jvm.Cond.fieldLink "CommitCouncilModel" (82 : Nat) "CommitCouncilModel" "sent" "I")) ∈ wsU := wsU_T (List.mem_append_right _ (List.mem_append_right _ (List.mem_append_left _ (List.mem_of_getElem? (i := 128) rfl)))) rfl
theorem uw_3_129 : ((Jvm.Cond.fieldLink "CommitCouncilModel" (159 : Nat) "CommitCouncilModel" "came" "I")) ∈ wsU := wsU_T (List.mem_append_right _ (List.mem_append_right _ (List.mem_append_left _ (List.mem_of_getElem? (i := 129) rfl)))) rfl
theorem uw_3_130 : ((Jvm.Cond.fieldLink "CommitCouncilModel" (111 : Nat) "CommitCouncilModel" "begun" "I")) ∈ wsU := wsU_T (List.mem_append_right _ (List.mem_append_right _ (List.mem_append_left _ (List.mem_of_getElem? (i := 130) rfl)))) rfl
theorem uw_3_131 : ((Jvm.Cond.fieldLink "CommitCouncilModel" (16 : Nat) "CommitCouncilModel" "how" "[I")) ∈ wsU := wsU_T (List.mem_append_right _ (List.mem_append_right _ (List.mem_append_left _ (List.mem_of_getElem? (i := 131) rfl)))) rfl
theorem uw_3_132 : ((Jvm.Cond.fieldLink "CommitCouncilModel" (21 : Nat) "CommitCouncilModel" "up" "[[Z")) ∈ wsU := wsU_T (List.mem_append_right _ (List.mem_append_right _ (List.mem_append_left _ (List.mem_of_getElem? (i := 132) rfl)))) rfl
theorem uw_3_133 : ((Jvm.Cond.fieldLink "CommitCouncilModel" (24 : Nat) "CommitCouncilModel" "promised" "[I")) ∈ wsU := wsU_T (List.mem_append_right _ (List.mem_append_right _ (List.mem_append_left _ (List.mem_of_getElem? (i := 133) rfl)))) rfl
theorem uw_3_134 : ((Jvm.Cond.fieldLink "CommitCouncilModel" (27 : Nat) "CommitCouncilModel" "acceptedBallot" "[I")) ∈ wsU := wsU_T (List.mem_append_right _ (List.mem_append_right _ (List.mem_append_left _ (List.mem_of_getElem? (i := 134) rfl)))) rfl
theorem uw_3_135 : ((Jvm.Cond.fieldLink "CommitCouncilModel" (30 : Nat) "CommitCouncilModel" "acceptedWord" "[I")) ∈ wsU := wsU_T (List.mem_append_right _ (List.mem_append_right _ (List.mem_append_left _ (List.mem_of_getElem? (i := 135) rfl)))) rfl
theorem uw_3_136 : ((Jvm.Cond.fieldLink "CommitCouncilModel" (33 : Nat) "CommitCouncilModel" "ever" "[I")) ∈ wsU := wsU_T (List.mem_append_right _ (List.mem_append_right _ (List.mem_append_left _ (List.mem_of_getElem? (i := 136) rfl)))) rfl
theorem uw_3_137 : ((Jvm.Cond.fieldLink "CommitCouncilModel" (36 : Nat) "CommitCouncilModel" "everWord" "[I")) ∈ wsU := wsU_T (List.mem_append_right _ (List.mem_append_right _ (List.mem_append_left _ (List.mem_of_getElem? (i := 137) rfl)))) rfl
theorem uw_3_138 : ((Jvm.Cond.fieldLink "CommitCouncilModel" (39 : Nat) "CommitCouncilModel" "ballot" "[I")) ∈ wsU := wsU_T (List.mem_append_right _ (List.mem_append_right _ (List.mem_append_left _ (List.mem_of_getElem? (i := 138) rfl)))) rfl
theorem uw_3_139 : ((Jvm.Cond.fieldLink "CommitCouncilModel" (42 : Nat) "CommitCouncilModel" "phase" "[I")) ∈ wsU := wsU_T (List.mem_append_right _ (List.mem_append_right _ (List.mem_append_left _ (List.mem_of_getElem? (i := 139) rfl)))) rfl
theorem uw_3_140 : ((Jvm.Cond.fieldLink "CommitCouncilModel" (45 : Nat) "CommitCouncilModel" "highest" "[I")) ∈ wsU := wsU_T (List.mem_append_right _ (List.mem_append_right _ (List.mem_append_left _ (List.mem_of_getElem? (i := 140) rfl)))) rfl
theorem uw_3_141 : ((Jvm.Cond.fieldLink "CommitCouncilModel" (48 : Nat) "CommitCouncilModel" "decision" "[I")) ∈ wsU := wsU_T (List.mem_append_right _ (List.mem_append_right _ (List.mem_append_left _ (List.mem_of_getElem? (i := 141) rfl)))) rfl
theorem uw_3_142 : ((Jvm.Cond.fieldLink "CommitCouncilModel" (51 : Nat) "CommitCouncilModel" "told" "[I")) ∈ wsU := wsU_T (List.mem_append_right _ (List.mem_append_right _ (List.mem_append_left _ (List.mem_of_getElem? (i := 142) rfl)))) rfl
theorem uw_3_143 : ((Jvm.Cond.fieldLink "CommitCouncilModel" (54 : Nat) "CommitCouncilModel" "toldBallot" "[I")) ∈ wsU := wsU_T (List.mem_append_right _ (List.mem_append_right _ (List.mem_append_left _ (List.mem_of_getElem? (i := 143) rfl)))) rfl
theorem uw_3_144 : ((Jvm.Cond.fieldLink "CommitCouncilModel" (57 : Nat) "CommitCouncilModel" "toldWord" "[I")) ∈ wsU := wsU_T (List.mem_append_right _ (List.mem_append_right _ (List.mem_append_left _ (List.mem_of_getElem? (i := 144) rfl)))) rfl
theorem uw_3_145 : ((Jvm.Cond.fieldLink "CommitCouncilModel" (60 : Nat) "CommitCouncilModel" "seenBallot" "[I")) ∈ wsU := wsU_T (List.mem_append_right _ (List.mem_append_right _ (List.mem_append_left _ (List.mem_of_getElem? (i := 145) rfl)))) rfl
theorem uw_3_146 : ((Jvm.Cond.fieldLink "CommitCouncilModel" (63 : Nat) "CommitCouncilModel" "seenWord" "[I")) ∈ wsU := wsU_T (List.mem_append_right _ (List.mem_append_right _ (List.mem_append_left _ (List.mem_of_getElem? (i := 146) rfl)))) rfl
theorem uw_3_147 : ((Jvm.Cond.fieldLink "CommitCouncilModel" (66 : Nat) "CommitCouncilModel" "outcome" "[I")) ∈ wsU := wsU_T (List.mem_append_right _ (List.mem_append_right _ (List.mem_append_left _ (List.mem_of_getElem? (i := 147) rfl)))) rfl
theorem uw_3_148 : ((Jvm.Cond.lays "CommitCouncilModel" "CommitCouncilModel" "thrown" "I")) ∈ wsU := wsU_T (List.mem_append_right _ (List.mem_append_right _ (List.mem_append_left _ (List.mem_of_getElem? (i := 148) rfl)))) rfl
theorem uw_3_150 : ((Jvm.Cond.laysFinal "CommitCouncilModel" "CommitCouncilModel" "managers" "I")) ∈ wsU := wsU_T (List.mem_append_right _ (List.mem_append_right _ (List.mem_append_left _ (List.mem_of_getElem? (i := 150) rfl)))) rfl
theorem uw_3_152 : ((Jvm.Cond.laysFinal "CommitCouncilModel" "CommitCouncilModel" "acceptors" "I")) ∈ wsU := wsU_T (List.mem_append_right _ (List.mem_append_right _ (List.mem_append_left _ (List.mem_of_getElem? (i := 152) rfl)))) rfl
theorem uw_3_154 : ((Jvm.Cond.laysFinal "CommitCouncilModel" "CommitCouncilModel" "message" "[I")) ∈ wsU := wsU_T (List.mem_append_right _ (List.mem_append_right _ (List.mem_append_left _ (List.mem_of_getElem? (i := 154) rfl)))) rfl
theorem uw_3_156 : ((Jvm.Cond.laysFinal "CommitCouncilModel" "CommitCouncilModel" "made" "[I")) ∈ wsU := wsU_T (List.mem_append_right _ (List.mem_append_right _ (List.mem_append_left _ (List.mem_of_getElem? (i := 156) rfl)))) rfl
theorem uw_3_158 : ((Jvm.Cond.lays "CommitCouncilModel" "CommitCouncilModel" "many" "I")) ∈ wsU := wsU_T (List.mem_append_right _ (List.mem_append_right _ (List.mem_append_left _ (List.mem_of_getElem? (i := 158) rfl)))) rfl
theorem uw_3_160 : ((Jvm.Cond.lays "CommitCouncilModel" "CommitCouncilModel" "sent" "I")) ∈ wsU := wsU_T (List.mem_append_right _ (List.mem_append_right _ (List.mem_append_left _ (List.mem_of_getElem? (i := 160) rfl)))) rfl
theorem uw_3_162 : ((Jvm.Cond.lays "CommitCouncilModel" "CommitCouncilModel" "came" "I")) ∈ wsU := wsU_T (List.mem_append_right _ (List.mem_append_right _ (List.mem_append_left _ (List.mem_of_getElem? (i := 162) rfl)))) rfl
theorem uw_3_164 : ((Jvm.Cond.lays "CommitCouncilModel" "CommitCouncilModel" "begun" "I")) ∈ wsU := wsU_T (List.mem_append_right _ (List.mem_append_right _ (List.mem_append_left _ (List.mem_of_getElem? (i := 164) rfl)))) rfl
theorem uw_3_166 : ((Jvm.Cond.laysFinal "CommitCouncilModel" "CommitCouncilModel" "how" "[I")) ∈ wsU := wsU_T (List.mem_append_right _ (List.mem_append_right _ (List.mem_append_left _ (List.mem_of_getElem? (i := 166) rfl)))) rfl
theorem uw_3_168 : ((Jvm.Cond.laysFinal "CommitCouncilModel" "CommitCouncilModel" "up" "[[Z")) ∈ wsU := wsU_T (List.mem_append_right _ (List.mem_append_right _ (List.mem_append_left _ (List.mem_of_getElem? (i := 168) rfl)))) rfl
theorem uw_3_170 : ((Jvm.Cond.laysFinal "CommitCouncilModel" "CommitCouncilModel" "promised" "[I")) ∈ wsU := wsU_T (List.mem_append_right _ (List.mem_append_right _ (List.mem_append_left _ (List.mem_of_getElem? (i := 170) rfl)))) rfl
theorem uw_3_172 : ((Jvm.Cond.laysFinal "CommitCouncilModel" "CommitCouncilModel" "acceptedBallot" "[I")) ∈ wsU := wsU_T (List.mem_append_right _ (List.mem_append_right _ (List.mem_append_left _ (List.mem_of_getElem? (i := 172) rfl)))) rfl
theorem uw_3_174 : ((Jvm.Cond.laysFinal "CommitCouncilModel" "CommitCouncilModel" "acceptedWord" "[I")) ∈ wsU := wsU_T (List.mem_append_right _ (List.mem_append_right _ (List.mem_append_left _ (List.mem_of_getElem? (i := 174) rfl)))) rfl
theorem uw_3_176 : ((Jvm.Cond.laysFinal "CommitCouncilModel" "CommitCouncilModel" "ever" "[I")) ∈ wsU := wsU_T (List.mem_append_right _ (List.mem_append_right _ (List.mem_append_left _ (List.mem_of_getElem? (i := 176) rfl)))) rfl
theorem uw_3_178 : ((Jvm.Cond.laysFinal "CommitCouncilModel" "CommitCouncilModel" "everWord" "[I")) ∈ wsU := wsU_T (List.mem_append_right _ (List.mem_append_right _ (List.mem_append_left _ (List.mem_of_getElem? (i := 178) rfl)))) rfl
theorem uw_3_180 : ((Jvm.Cond.laysFinal "CommitCouncilModel" "CommitCouncilModel" "ballot" "[I")) ∈ wsU := wsU_T (List.mem_append_right _ (List.mem_append_right _ (List.mem_append_left _ (List.mem_of_getElem? (i := 180) rfl)))) rfl
theorem uw_3_182 : ((Jvm.Cond.laysFinal "CommitCouncilModel" "CommitCouncilModel" "phase" "[I")) ∈ wsU := wsU_T (List.mem_append_right _ (List.mem_append_right _ (List.mem_append_left _ (List.mem_of_getElem? (i := 182) rfl)))) rfl
theorem uw_3_184 : ((Jvm.Cond.laysFinal "CommitCouncilModel" "CommitCouncilModel" "highest" "[I")) ∈ wsU := wsU_T (List.mem_append_right _ (List.mem_append_right _ (List.mem_append_left _ (List.mem_of_getElem? (i := 184) rfl)))) rfl
theorem uw_3_186 : ((Jvm.Cond.laysFinal "CommitCouncilModel" "CommitCouncilModel" "decision" "[I")) ∈ wsU := wsU_T (List.mem_append_right _ (List.mem_append_right _ (List.mem_append_left _ (List.mem_of_getElem? (i := 186) rfl)))) rfl
theorem uw_3_188 : ((Jvm.Cond.laysFinal "CommitCouncilModel" "CommitCouncilModel" "told" "[I")) ∈ wsU := wsU_T (List.mem_append_right _ (List.mem_append_right _ (List.mem_append_left _ (List.mem_of_getElem? (i := 188) rfl)))) rfl
theorem uw_3_190 : ((Jvm.Cond.laysFinal "CommitCouncilModel" "CommitCouncilModel" "toldBallot" "[I")) ∈ wsU := wsU_T (List.mem_append_right _ (List.mem_append_right _ (List.mem_append_left _ (List.mem_of_getElem? (i := 190) rfl)))) rfl
theorem uw_3_192 : ((Jvm.Cond.laysFinal "CommitCouncilModel" "CommitCouncilModel" "toldWord" "[I")) ∈ wsU := wsU_T (List.mem_append_right _ (List.mem_append_right _ (List.mem_append_left _ (List.mem_of_getElem? (i := 192) rfl)))) rfl
theorem uw_3_194 : ((Jvm.Cond.laysFinal "CommitCouncilModel" "CommitCouncilModel" "seenBallot" "[I")) ∈ wsU := wsU_T (List.mem_append_right _ (List.mem_append_right _ (List.mem_append_left _ (List.mem_of_getElem? (i := 194) rfl)))) rfl
theorem uw_3_196 : ((Jvm.Cond.laysFinal "CommitCouncilModel" "CommitCouncilModel" "seenWord" "[I")) ∈ wsU := wsU_T (List.mem_append_right _ (List.mem_append_right _ (List.mem_append_left _ (List.mem_of_getElem? (i := 196) rfl)))) rfl
theorem uw_3_198 : ((Jvm.Cond.laysFinal "CommitCouncilModel" "CommitCouncilModel" "outcome" "[I")) ∈ wsU := wsU_T (List.mem_append_right _ (List.mem_append_right _ (List.mem_append_left _ (List.mem_of_getElem? (i := 198) rfl)))) rfl
theorem uw_3_200 : ((Jvm.Cond.superclass "CommitCouncilModel" "java/lang/Object")) ∈ wsU := wsU_T (List.mem_append_right _ (List.mem_append_right _ (List.mem_append_left _ (List.mem_of_getElem? (i := 200) rfl)))) rfl
theorem uw_3_201 : ((Jvm.Cond.methodLink "CommitCouncilLaw" (93 : Nat) ({ cls := "CommitCouncilModel", name := "thrown", desc := "()I" } : Jvm.MethodName))) ∈ wsU := wsU_T (List.mem_append_right _ (List.mem_append_right _ (List.mem_append_left _ (List.mem_of_getElem? (i := 201) rfl)))) rfl
theorem uw_3_202 : ((Jvm.Cond.instanceMethod ({ cls := "CommitCouncilModel", name := "thrown", desc := "()I" } : Jvm.MethodName))) ∈ wsU := wsU_T (List.mem_append_right _ (List.mem_append_right _ (List.mem_append_left _ (List.mem_of_getElem? (i := 202) rfl)))) rfl
theorem uw_3_203 : ((Jvm.Cond.selects "CommitCouncilModel" ({ cls := "CommitCouncilModel", name := "thrown", desc := "()I" } : Jvm.MethodName) ({ cls := "CommitCouncilModel", name := "thrown", desc := "()I" } : Jvm.MethodName))) ∈ wsU := wsU_T (List.mem_append_right _ (List.mem_append_right _ (List.mem_append_left _ (List.mem_of_getElem? (i := 203) rfl)))) rfl
theorem uw_3_204 : ((Jvm.Cond.code ({ cls := "CommitCouncilModel", name := "thrown", desc := "()I" } : Jvm.MethodName) prog_9_method_2_code (1 : Nat) (Option.some Jvm.ClassFile.FieldType.int))) ∈ wsU := wsU_T (List.mem_append_right _ (List.mem_append_right _ (List.mem_append_left _ (List.mem_of_getElem? (i := 204) rfl)))) rfl
theorem uw_3_205 : ((Jvm.Cond.methodLink "CommitCouncilLaw" (92 : Nat) ({ cls := "CommitCouncilModel", name := "prepare", desc := "(I)Z" } : Jvm.MethodName))) ∈ wsU := wsU_T (List.mem_append_right _ (List.mem_append_right _ (List.mem_append_left _ (List.mem_of_getElem? (i := 205) rfl)))) rfl
theorem uw_3_206 : ((Jvm.Cond.instanceMethod ({ cls := "CommitCouncilModel", name := "prepare", desc := "(I)Z" } : Jvm.MethodName))) ∈ wsU := wsU_T (List.mem_append_right _ (List.mem_append_right _ (List.mem_append_left _ (List.mem_of_getElem? (i := 206) rfl)))) rfl
theorem uw_3_207 : ((Jvm.Cond.selects "CommitCouncilModel" ({ cls := "CommitCouncilModel", name := "prepare", desc := "(I)Z" } : Jvm.MethodName) ({ cls := "CommitCouncilModel", name := "prepare", desc := "(I)Z" } : Jvm.MethodName))) ∈ wsU := wsU_T (List.mem_append_right _ (List.mem_append_right _ (List.mem_append_left _ (List.mem_of_getElem? (i := 207) rfl)))) rfl
theorem uw_3_208 : ((Jvm.Cond.code ({ cls := "CommitCouncilModel", name := "prepare", desc := "(I)Z" } : Jvm.MethodName) prog_9_method_13_code (2 : Nat) (Option.some Jvm.ClassFile.FieldType.boolean))) ∈ wsU := wsU_T (List.mem_append_right _ (List.mem_append_right _ (List.mem_append_left _ (List.mem_of_getElem? (i := 208) rfl)))) rfl
theorem uw_3_209 : ((Jvm.Cond.methodLink "CommitCouncilModel" (104 : Nat) ({ cls := "CommitCouncilModel", name := "becomes", desc := "(II)Z" } : Jvm.MethodName))) ∈ wsU := wsU_T (List.mem_append_right _ (List.mem_append_right _ (List.mem_append_left _ (List.mem_of_getElem? (i := 209) rfl)))) rfl
theorem uw_3_211 : ((Jvm.Cond.instanceMethod ({ cls := "CommitCouncilModel", name := "becomes", desc := "(II)Z" } : Jvm.MethodName))) ∈ wsU := wsU_T (List.mem_append_right _ (List.mem_append_right _ (List.mem_append_left _ (List.mem_of_getElem? (i := 211) rfl)))) rfl
theorem uw_3_212 : ((Jvm.Cond.code ({ cls := "CommitCouncilModel", name := "becomes", desc := "(II)Z" } : Jvm.MethodName) prog_9_method_12_code (3 : Nat) (Option.some Jvm.ClassFile.FieldType.boolean))) ∈ wsU := wsU_T (List.mem_append_right _ (List.mem_append_right _ (List.mem_append_left _ (List.mem_of_getElem? (i := 212) rfl)))) rfl
theorem uw_3_213 : ((Jvm.Cond.methodLink "CommitCouncilModel" (89 : Nat) ({ cls := "CommitCouncilModel", name := "isManager", desc := "(I)Z" } : Jvm.MethodName))) ∈ wsU := wsU_T (List.mem_append_right _ (List.mem_append_right _ (List.mem_append_left _ (List.mem_of_getElem? (i := 213) rfl)))) rfl
theorem uw_3_215 : ((Jvm.Cond.instanceMethod ({ cls := "CommitCouncilModel", name := "isManager", desc := "(I)Z" } : Jvm.MethodName))) ∈ wsU := wsU_T (List.mem_append_right _ (List.mem_append_right _ (List.mem_append_left _ (List.mem_of_getElem? (i := 215) rfl)))) rfl
theorem uw_3_216 : ((Jvm.Cond.code ({ cls := "CommitCouncilModel", name := "isManager", desc := "(I)Z" } : Jvm.MethodName) prog_9_method_4_code (2 : Nat) (Option.some Jvm.ClassFile.FieldType.boolean))) ∈ wsU := wsU_T (List.mem_append_right _ (List.mem_append_right _ (List.mem_append_left _ (List.mem_of_getElem? (i := 216) rfl)))) rfl
theorem uw_3_217 : ((Jvm.Cond.methodLink "CommitCouncilModel" (93 : Nat) ({ cls := "CommitCouncilModel", name := "lacks", desc := "(Z)Z" } : Jvm.MethodName))) ∈ wsU := wsU_T (List.mem_append_right _ (List.mem_append_right _ (List.mem_append_left _ (List.mem_of_getElem? (i := 217) rfl)))) rfl
theorem uw_3_219 : ((Jvm.Cond.instanceMethod ({ cls := "CommitCouncilModel", name := "lacks", desc := "(Z)Z" } : Jvm.MethodName))) ∈ wsU := wsU_T (List.mem_append_right _ (List.mem_append_right _ (List.mem_append_left _ (List.mem_of_getElem? (i := 219) rfl)))) rfl
theorem uw_3_220 : ((Jvm.Cond.code ({ cls := "CommitCouncilModel", name := "lacks", desc := "(Z)Z" } : Jvm.MethodName) prog_9_method_3_code (2 : Nat) (Option.some Jvm.ClassFile.FieldType.boolean))) ∈ wsU := wsU_T (List.mem_append_right _ (List.mem_append_right _ (List.mem_append_left _ (List.mem_of_getElem? (i := 220) rfl)))) rfl
theorem uw_3_221 : ((Jvm.Cond.methodLink "CommitCouncilModel" (97 : Nat) ({ cls := "CommitCouncilModel", name := "hasRoom", desc := "(I)Z" } : Jvm.MethodName))) ∈ wsU := wsU_T (List.mem_append_right _ (List.mem_append_right _ (List.mem_append_left _ (List.mem_of_getElem? (i := 221) rfl)))) rfl
theorem uw_3_223 : ((Jvm.Cond.instanceMethod ({ cls := "CommitCouncilModel", name := "hasRoom", desc := "(I)Z" } : Jvm.MethodName))) ∈ wsU := wsU_T (List.mem_append_right _ (List.mem_append_right _ (List.mem_append_left _ (List.mem_of_getElem? (i := 223) rfl)))) rfl
theorem uw_3_224 : ((Jvm.Cond.code ({ cls := "CommitCouncilModel", name := "hasRoom", desc := "(I)Z" } : Jvm.MethodName) prog_9_method_11_code (2 : Nat) (Option.some Jvm.ClassFile.FieldType.boolean))) ∈ wsU := wsU_T (List.mem_append_right _ (List.mem_append_right _ (List.mem_append_left _ (List.mem_of_getElem? (i := 224) rfl)))) rfl
theorem uw_3_225 : ((Jvm.Cond.methodLink "CommitCouncilModel" (100 : Nat) ({ cls := "CommitCouncilModel", name := "votes", desc := "(III)V" } : Jvm.MethodName))) ∈ wsU := wsU_T (List.mem_append_right _ (List.mem_append_right _ (List.mem_append_left _ (List.mem_of_getElem? (i := 225) rfl)))) rfl
theorem uw_3_227 : ((Jvm.Cond.instanceMethod ({ cls := "CommitCouncilModel", name := "votes", desc := "(III)V" } : Jvm.MethodName))) ∈ wsU := wsU_T (List.mem_append_right _ (List.mem_append_right _ (List.mem_append_left _ (List.mem_of_getElem? (i := 227) rfl)))) rfl
theorem uw_3_228 : ((Jvm.Cond.code ({ cls := "CommitCouncilModel", name := "votes", desc := "(III)V" } : Jvm.MethodName) prog_9_method_10_code (5 : Nat) (Option.none : Option Jvm.ClassFile.FieldType))) ∈ wsU := wsU_T (List.mem_append_right _ (List.mem_append_right _ (List.mem_append_left _ (List.mem_of_getElem? (i := 228) rfl)))) rfl
theorem uw_3_229 : ((Jvm.Cond.methodLink "CommitCouncilModel" (85 : Nat) ({ cls := "CommitCouncilModel", name := "sends", desc := "(IIIIII)V" } : Jvm.MethodName))) ∈ wsU := wsU_T (List.mem_append_right _ (List.mem_append_right _ (List.mem_append_left _ (List.mem_of_getElem? (i := 229) rfl)))) rfl
theorem uw_3_231 : ((Jvm.Cond.instanceMethod ({ cls := "CommitCouncilModel", name := "sends", desc := "(IIIIII)V" } : Jvm.MethodName))) ∈ wsU := wsU_T (List.mem_append_right _ (List.mem_append_right _ (List.mem_append_left _ (List.mem_of_getElem? (i := 231) rfl)))) rfl
theorem uw_3_232 : ((Jvm.Cond.code ({ cls := "CommitCouncilModel", name := "sends", desc := "(IIIIII)V" } : Jvm.MethodName) prog_9_method_9_code (9 : Nat) (Option.none : Option Jvm.ClassFile.FieldType))) ∈ wsU := wsU_T (List.mem_append_right _ (List.mem_append_right _ (List.mem_append_left _ (List.mem_of_getElem? (i := 232) rfl)))) rfl
theorem uw_3_233 : ((Jvm.Cond.methodLink "CommitCouncilLaw" (99 : Nat) ({ cls := "CommitCouncilModel", name := "refuse", desc := "(I)Z" } : Jvm.MethodName))) ∈ wsU := wsU_T (List.mem_append_right _ (List.mem_append_right _ (List.mem_append_left _ (List.mem_of_getElem? (i := 233) rfl)))) rfl
theorem uw_3_234 : ((Jvm.Cond.instanceMethod ({ cls := "CommitCouncilModel", name := "refuse", desc := "(I)Z" } : Jvm.MethodName))) ∈ wsU := wsU_T (List.mem_append_right _ (List.mem_append_right _ (List.mem_append_left _ (List.mem_of_getElem? (i := 234) rfl)))) rfl
theorem uw_3_235 : ((Jvm.Cond.selects "CommitCouncilModel" ({ cls := "CommitCouncilModel", name := "refuse", desc := "(I)Z" } : Jvm.MethodName) ({ cls := "CommitCouncilModel", name := "refuse", desc := "(I)Z" } : Jvm.MethodName))) ∈ wsU := wsU_T (List.mem_append_right _ (List.mem_append_right _ (List.mem_append_left _ (List.mem_of_getElem? (i := 235) rfl)))) rfl
theorem uw_3_236 : ((Jvm.Cond.code ({ cls := "CommitCouncilModel", name := "refuse", desc := "(I)Z" } : Jvm.MethodName) prog_9_method_14_code (2 : Nat) (Option.some Jvm.ClassFile.FieldType.boolean))) ∈ wsU := wsU_T (List.mem_append_right _ (List.mem_append_right _ (List.mem_append_left _ (List.mem_of_getElem? (i := 236) rfl)))) rfl
theorem uw_3_237 : ((Jvm.Cond.methodLink "CommitCouncilLaw" (102 : Nat) ({ cls := "CommitCouncilModel", name := "resend", desc := "(I)Z" } : Jvm.MethodName))) ∈ wsU := wsU_T (List.mem_append_right _ (List.mem_append_right _ (List.mem_append_left _ (List.mem_of_getElem? (i := 237) rfl)))) rfl
theorem uw_3_238 : ((Jvm.Cond.instanceMethod ({ cls := "CommitCouncilModel", name := "resend", desc := "(I)Z" } : Jvm.MethodName))) ∈ wsU := wsU_T (List.mem_append_right _ (List.mem_append_right _ (List.mem_append_left _ (List.mem_of_getElem? (i := 238) rfl)))) rfl
theorem uw_3_239 : ((Jvm.Cond.selects "CommitCouncilModel" ({ cls := "CommitCouncilModel", name := "resend", desc := "(I)Z" } : Jvm.MethodName) ({ cls := "CommitCouncilModel", name := "resend", desc := "(I)Z" } : Jvm.MethodName))) ∈ wsU := wsU_T (List.mem_append_right _ (List.mem_append_right _ (List.mem_append_left _ (List.mem_of_getElem? (i := 239) rfl)))) rfl
theorem uw_4_0 : ((Jvm.Cond.code ({ cls := "CommitCouncilModel", name := "resend", desc := "(I)Z" } : Jvm.MethodName) prog_9_method_15_code (2 : Nat) (Option.some Jvm.ClassFile.FieldType.boolean))) ∈ wsU := wsU_T (List.mem_append_right _ (List.mem_append_right _ (List.mem_append_right _ (List.mem_of_getElem? (i := 0) rfl)))) rfl
theorem uw_4_1 : ((Jvm.Cond.methodLink "CommitCouncilLaw" (105 : Nat) ({ cls := "CommitCouncilModel", name := "question", desc := "(I)Z" } : Jvm.MethodName))) ∈ wsU := wsU_T (List.mem_append_right _ (List.mem_append_right _ (List.mem_append_right _ (List.mem_of_getElem? (i := 1) rfl)))) rfl
theorem uw_4_2 : ((Jvm.Cond.instanceMethod ({ cls := "CommitCouncilModel", name := "question", desc := "(I)Z" } : Jvm.MethodName))) ∈ wsU := wsU_T (List.mem_append_right _ (List.mem_append_right _ (List.mem_append_right _ (List.mem_of_getElem? (i := 2) rfl)))) rfl
theorem uw_4_3 : ((Jvm.Cond.selects "CommitCouncilModel" ({ cls := "CommitCouncilModel", name := "question", desc := "(I)Z" } : Jvm.MethodName) ({ cls := "CommitCouncilModel", name := "question", desc := "(I)Z" } : Jvm.MethodName))) ∈ wsU := wsU_T (List.mem_append_right _ (List.mem_append_right _ (List.mem_append_right _ (List.mem_of_getElem? (i := 3) rfl)))) rfl
theorem uw_4_4 : ((Jvm.Cond.code ({ cls := "CommitCouncilModel", name := "question", desc := "(I)Z" } : Jvm.MethodName) prog_9_method_16_code (3 : Nat) (Option.some Jvm.ClassFile.FieldType.boolean))) ∈ wsU := wsU_T (List.mem_append_right _ (List.mem_append_right _ (List.mem_append_right _ (List.mem_of_getElem? (i := 4) rfl)))) rfl
theorem uw_4_5 : ((Jvm.Cond.methodLink "CommitCouncilLaw" (108 : Nat) ({ cls := "CommitCouncilModel", name := "begin", desc := "(I)I" } : Jvm.MethodName))) ∈ wsU := wsU_T (List.mem_append_right _ (List.mem_append_right _ (List.mem_append_right _ (List.mem_of_getElem? (i := 5) rfl)))) rfl
theorem uw_4_6 : ((Jvm.Cond.instanceMethod ({ cls := "CommitCouncilModel", name := "begin", desc := "(I)I" } : Jvm.MethodName))) ∈ wsU := wsU_T (List.mem_append_right _ (List.mem_append_right _ (List.mem_append_right _ (List.mem_of_getElem? (i := 6) rfl)))) rfl
theorem uw_4_7 : ((Jvm.Cond.selects "CommitCouncilModel" ({ cls := "CommitCouncilModel", name := "begin", desc := "(I)I" } : Jvm.MethodName) ({ cls := "CommitCouncilModel", name := "begin", desc := "(I)I" } : Jvm.MethodName))) ∈ wsU := wsU_T (List.mem_append_right _ (List.mem_append_right _ (List.mem_append_right _ (List.mem_of_getElem? (i := 7) rfl)))) rfl
theorem uw_4_8 : ((Jvm.Cond.code ({ cls := "CommitCouncilModel", name := "begin", desc := "(I)I" } : Jvm.MethodName) prog_9_method_17_code (4 : Nat) (Option.some Jvm.ClassFile.FieldType.int))) ∈ wsU := wsU_T (List.mem_append_right _ (List.mem_append_right _ (List.mem_append_right _ (List.mem_of_getElem? (i := 8) rfl)))) rfl
theorem uw_4_9 : ((Jvm.Cond.methodLink "CommitCouncilModel" (108 : Nat) ({ cls := "CommitCouncilModel", name := "isLeader", desc := "(I)Z" } : Jvm.MethodName))) ∈ wsU := wsU_T (List.mem_append_right _ (List.mem_append_right _ (List.mem_append_right _ (List.mem_of_getElem? (i := 9) rfl)))) rfl
theorem uw_4_10 : ((Jvm.Cond.static ({ cls := "CommitCouncilModel", name := "isLeader", desc := "(I)Z" } : Jvm.MethodName))) ∈ wsU := wsU_T (List.mem_append_right _ (List.mem_append_right _ (List.mem_append_right _ (List.mem_of_getElem? (i := 10) rfl)))) rfl
theorem uw_4_11 : ((Jvm.Cond.code ({ cls := "CommitCouncilModel", name := "isLeader", desc := "(I)Z" } : Jvm.MethodName) prog_9_method_6_code (1 : Nat) (Option.some Jvm.ClassFile.FieldType.boolean))) ∈ wsU := wsU_T (List.mem_append_right _ (List.mem_append_right _ (List.mem_append_right _ (List.mem_of_getElem? (i := 11) rfl)))) rfl
theorem uw_4_12 : ((Jvm.Cond.methodLink "CommitCouncilLaw" (111 : Nat) ({ cls := "CommitCouncilModel", name := "deliver", desc := "(I)I" } : Jvm.MethodName))) ∈ wsU := wsU_T (List.mem_append_right _ (List.mem_append_right _ (List.mem_append_right _ (List.mem_of_getElem? (i := 12) rfl)))) rfl
theorem uw_4_13 : ((Jvm.Cond.instanceMethod ({ cls := "CommitCouncilModel", name := "deliver", desc := "(I)I" } : Jvm.MethodName))) ∈ wsU := wsU_T (List.mem_append_right _ (List.mem_append_right _ (List.mem_append_right _ (List.mem_of_getElem? (i := 13) rfl)))) rfl
theorem uw_4_14 : ((Jvm.Cond.selects "CommitCouncilModel" ({ cls := "CommitCouncilModel", name := "deliver", desc := "(I)I" } : Jvm.MethodName) ({ cls := "CommitCouncilModel", name := "deliver", desc := "(I)I" } : Jvm.MethodName))) ∈ wsU := wsU_T (List.mem_append_right _ (List.mem_append_right _ (List.mem_append_right _ (List.mem_of_getElem? (i := 14) rfl)))) rfl
theorem uw_4_15 : ((Jvm.Cond.code ({ cls := "CommitCouncilModel", name := "deliver", desc := "(I)I" } : Jvm.MethodName) prog_9_method_28_code (2 : Nat) (Option.some Jvm.ClassFile.FieldType.int))) ∈ wsU := wsU_T (List.mem_append_right _ (List.mem_append_right _ (List.mem_append_right _ (List.mem_of_getElem? (i := 15) rfl)))) rfl
theorem uw_4_16 : ((Jvm.Cond.methodLink "CommitCouncilModel" (146 : Nat) ({ cls := "CommitCouncilModel", name := "isMessage", desc := "(I)Z" } : Jvm.MethodName))) ∈ wsU := wsU_T (List.mem_append_right _ (List.mem_append_right _ (List.mem_append_right _ (List.mem_of_getElem? (i := 16) rfl)))) rfl
theorem uw_4_18 : ((Jvm.Cond.instanceMethod ({ cls := "CommitCouncilModel", name := "isMessage", desc := "(I)Z" } : Jvm.MethodName))) ∈ wsU := wsU_T (List.mem_append_right _ (List.mem_append_right _ (List.mem_append_right _ (List.mem_of_getElem? (i := 18) rfl)))) rfl
theorem uw_4_19 : ((Jvm.Cond.code ({ cls := "CommitCouncilModel", name := "isMessage", desc := "(I)Z" } : Jvm.MethodName) prog_9_method_7_code (2 : Nat) (Option.some Jvm.ClassFile.FieldType.boolean))) ∈ wsU := wsU_T (List.mem_append_right _ (List.mem_append_right _ (List.mem_append_right _ (List.mem_of_getElem? (i := 19) rfl)))) rfl
theorem uw_4_20 : ((Jvm.Cond.methodLink "CommitCouncilModel" (149 : Nat) ({ cls := "CommitCouncilModel", name := "comes", desc := "(I)I" } : Jvm.MethodName))) ∈ wsU := wsU_T (List.mem_append_right _ (List.mem_append_right _ (List.mem_append_right _ (List.mem_of_getElem? (i := 20) rfl)))) rfl
theorem uw_4_22 : ((Jvm.Cond.instanceMethod ({ cls := "CommitCouncilModel", name := "comes", desc := "(I)I" } : Jvm.MethodName))) ∈ wsU := wsU_T (List.mem_append_right _ (List.mem_append_right _ (List.mem_append_right _ (List.mem_of_getElem? (i := 22) rfl)))) rfl
theorem uw_4_23 : ((Jvm.Cond.code ({ cls := "CommitCouncilModel", name := "comes", desc := "(I)I" } : Jvm.MethodName) prog_9_method_29_code (6 : Nat) (Option.some Jvm.ClassFile.FieldType.int))) ∈ wsU := wsU_T (List.mem_append_right _ (List.mem_append_right _ (List.mem_append_right _ (List.mem_of_getElem? (i := 23) rfl)))) rfl
theorem uw_4_24 : ((Jvm.Cond.methodLink "CommitCouncilModel" (114 : Nat) ({ cls := "CommitCouncilModel", name := "of", desc := "(II)I" } : Jvm.MethodName))) ∈ wsU := wsU_T (List.mem_append_right _ (List.mem_append_right _ (List.mem_append_right _ (List.mem_of_getElem? (i := 24) rfl)))) rfl
theorem uw_4_26 : ((Jvm.Cond.instanceMethod ({ cls := "CommitCouncilModel", name := "of", desc := "(II)I" } : Jvm.MethodName))) ∈ wsU := wsU_T (List.mem_append_right _ (List.mem_append_right _ (List.mem_append_right _ (List.mem_of_getElem? (i := 26) rfl)))) rfl
theorem uw_4_27 : ((Jvm.Cond.code ({ cls := "CommitCouncilModel", name := "of", desc := "(II)I" } : Jvm.MethodName) prog_9_method_8_code (3 : Nat) (Option.some Jvm.ClassFile.FieldType.int))) ∈ wsU := wsU_T (List.mem_append_right _ (List.mem_append_right _ (List.mem_append_right _ (List.mem_of_getElem? (i := 27) rfl)))) rfl
theorem uw_4_28 : ((Jvm.Cond.methodLink "CommitCouncilModel" (152 : Nat) ({ cls := "CommitCouncilModel", name := "leadsTo", desc := "(I)I" } : Jvm.MethodName))) ∈ wsU := wsU_T (List.mem_append_right _ (List.mem_append_right _ (List.mem_append_right _ (List.mem_of_getElem? (i := 28) rfl)))) rfl
theorem uw_4_30 : ((Jvm.Cond.instanceMethod ({ cls := "CommitCouncilModel", name := "leadsTo", desc := "(I)I" } : Jvm.MethodName))) ∈ wsU := wsU_T (List.mem_append_right _ (List.mem_append_right _ (List.mem_append_right _ (List.mem_of_getElem? (i := 30) rfl)))) rfl
theorem uw_4_31 : ((Jvm.Cond.code ({ cls := "CommitCouncilModel", name := "leadsTo", desc := "(I)I" } : Jvm.MethodName) prog_9_method_21_code (4 : Nat) (Option.some Jvm.ClassFile.FieldType.int))) ∈ wsU := wsU_T (List.mem_append_right _ (List.mem_append_right _ (List.mem_append_right _ (List.mem_of_getElem? (i := 31) rfl)))) rfl
theorem uw_4_32 : ((Jvm.Cond.methodLink "CommitCouncilModel" (118 : Nat) ({ cls := "CommitCouncilModel", name := "bits", desc := "(I)I" } : Jvm.MethodName))) ∈ wsU := wsU_T (List.mem_append_right _ (List.mem_append_right _ (List.mem_append_right _ (List.mem_of_getElem? (i := 32) rfl)))) rfl
theorem uw_4_33 : ((Jvm.Cond.static ({ cls := "CommitCouncilModel", name := "bits", desc := "(I)I" } : Jvm.MethodName))) ∈ wsU := wsU_T (List.mem_append_right _ (List.mem_append_right _ (List.mem_append_right _ (List.mem_of_getElem? (i := 33) rfl)))) rfl
theorem uw_4_34 : ((Jvm.Cond.code ({ cls := "CommitCouncilModel", name := "bits", desc := "(I)I" } : Jvm.MethodName) prog_9_method_19_code (3 : Nat) (Option.some Jvm.ClassFile.FieldType.int))) ∈ wsU := wsU_T (List.mem_append_right _ (List.mem_append_right _ (List.mem_append_right _ (List.mem_of_getElem? (i := 34) rfl)))) rfl
theorem uw_4_35 : ((Jvm.Cond.methodLink "CommitCouncilModel" (122 : Nat) ({ cls := "CommitCouncilModel", name := "isMost", desc := "(I)Z" } : Jvm.MethodName))) ∈ wsU := wsU_T (List.mem_append_right _ (List.mem_append_right _ (List.mem_append_right _ (List.mem_of_getElem? (i := 35) rfl)))) rfl
theorem uw_4_37 : ((Jvm.Cond.instanceMethod ({ cls := "CommitCouncilModel", name := "isMost", desc := "(I)Z" } : Jvm.MethodName))) ∈ wsU := wsU_T (List.mem_append_right _ (List.mem_append_right _ (List.mem_append_right _ (List.mem_of_getElem? (i := 37) rfl)))) rfl
theorem uw_4_38 : ((Jvm.Cond.code ({ cls := "CommitCouncilModel", name := "isMost", desc := "(I)Z" } : Jvm.MethodName) prog_9_method_20_code (2 : Nat) (Option.some Jvm.ClassFile.FieldType.boolean))) ∈ wsU := wsU_T (List.mem_append_right _ (List.mem_append_right _ (List.mem_append_right _ (List.mem_of_getElem? (i := 38) rfl)))) rfl
theorem uw_4_39 : ((Jvm.Cond.methodLink "CommitCouncilModel" (125 : Nat) ({ cls := "CommitCouncilModel", name := "decides", desc := "(I)Z" } : Jvm.MethodName))) ∈ wsU := wsU_T (List.mem_append_right _ (List.mem_append_right _ (List.mem_append_right _ (List.mem_of_getElem? (i := 39) rfl)))) rfl
theorem uw_4_41 : ((Jvm.Cond.instanceMethod ({ cls := "CommitCouncilModel", name := "decides", desc := "(I)Z" } : Jvm.MethodName))) ∈ wsU := wsU_T (List.mem_append_right _ (List.mem_append_right _ (List.mem_append_right _ (List.mem_of_getElem? (i := 41) rfl)))) rfl
theorem uw_4_42 : ((Jvm.Cond.code ({ cls := "CommitCouncilModel", name := "decides", desc := "(I)Z" } : Jvm.MethodName) prog_9_method_27_code (3 : Nat) (Option.some Jvm.ClassFile.FieldType.boolean))) ∈ wsU := wsU_T (List.mem_append_right _ (List.mem_append_right _ (List.mem_append_right _ (List.mem_of_getElem? (i := 42) rfl)))) rfl
theorem uw_4_43 : ((Jvm.Cond.methodLink "CommitCouncilModel" (143 : Nat) ({ cls := "CommitCouncilModel", name := "decided", desc := "(II)I" } : Jvm.MethodName))) ∈ wsU := wsU_T (List.mem_append_right _ (List.mem_append_right _ (List.mem_append_right _ (List.mem_of_getElem? (i := 43) rfl)))) rfl
theorem uw_4_45 : ((Jvm.Cond.instanceMethod ({ cls := "CommitCouncilModel", name := "decided", desc := "(II)I" } : Jvm.MethodName))) ∈ wsU := wsU_T (List.mem_append_right _ (List.mem_append_right _ (List.mem_append_right _ (List.mem_of_getElem? (i := 45) rfl)))) rfl
theorem uw_4_46 : ((Jvm.Cond.code ({ cls := "CommitCouncilModel", name := "decided", desc := "(II)I" } : Jvm.MethodName) prog_9_method_26_code (6 : Nat) (Option.some Jvm.ClassFile.FieldType.int))) ∈ wsU := wsU_T (List.mem_append_right _ (List.mem_append_right _ (List.mem_append_right _ (List.mem_of_getElem? (i := 46) rfl)))) rfl
theorem uw_4_47 : ((Jvm.Cond.methodLink "CommitCouncilModel" (140 : Nat) ({ cls := "CommitCouncilModel", name := "settled", desc := "(III)I" } : Jvm.MethodName))) ∈ wsU := wsU_T (List.mem_append_right _ (List.mem_append_right _ (List.mem_append_right _ (List.mem_of_getElem? (i := 47) rfl)))) rfl
theorem uw_4_49 : ((Jvm.Cond.instanceMethod ({ cls := "CommitCouncilModel", name := "settled", desc := "(III)I" } : Jvm.MethodName))) ∈ wsU := wsU_T (List.mem_append_right _ (List.mem_append_right _ (List.mem_append_right _ (List.mem_of_getElem? (i := 49) rfl)))) rfl
theorem uw_4_50 : ((Jvm.Cond.code ({ cls := "CommitCouncilModel", name := "settled", desc := "(III)I" } : Jvm.MethodName) prog_9_method_23_code (8 : Nat) (Option.some Jvm.ClassFile.FieldType.int))) ∈ wsU := wsU_T (List.mem_append_right _ (List.mem_append_right _ (List.mem_append_right _ (List.mem_of_getElem? (i := 50) rfl)))) rfl
theorem uw_4_51 : ((Jvm.Cond.methodLink "CommitCouncilModel" (128 : Nat) ({ cls := "CommitCouncilModel", name := "ballotSeen", desc := "(IIII)I" } : Jvm.MethodName))) ∈ wsU := wsU_T (List.mem_append_right _ (List.mem_append_right _ (List.mem_append_right _ (List.mem_of_getElem? (i := 51) rfl)))) rfl
theorem uw_4_53 : ((Jvm.Cond.instanceMethod ({ cls := "CommitCouncilModel", name := "ballotSeen", desc := "(IIII)I" } : Jvm.MethodName))) ∈ wsU := wsU_T (List.mem_append_right _ (List.mem_append_right _ (List.mem_append_right _ (List.mem_of_getElem? (i := 53) rfl)))) rfl
theorem uw_4_54 : ((Jvm.Cond.code ({ cls := "CommitCouncilModel", name := "ballotSeen", desc := "(IIII)I" } : Jvm.MethodName) prog_9_method_25_code (5 : Nat) (Option.some Jvm.ClassFile.FieldType.int))) ∈ wsU := wsU_T (List.mem_append_right _ (List.mem_append_right _ (List.mem_append_right _ (List.mem_of_getElem? (i := 54) rfl)))) rfl
theorem uw_4_55 : ((Jvm.Cond.methodLink "CommitCouncilModel" (132 : Nat) ({ cls := "CommitCouncilModel", name := "isNew", desc := "(IIII)Z" } : Jvm.MethodName))) ∈ wsU := wsU_T (List.mem_append_right _ (List.mem_append_right _ (List.mem_append_right _ (List.mem_of_getElem? (i := 55) rfl)))) rfl
theorem uw_4_57 : ((Jvm.Cond.instanceMethod ({ cls := "CommitCouncilModel", name := "isNew", desc := "(IIII)Z" } : Jvm.MethodName))) ∈ wsU := wsU_T (List.mem_append_right _ (List.mem_append_right _ (List.mem_append_right _ (List.mem_of_getElem? (i := 57) rfl)))) rfl
theorem uw_4_58 : ((Jvm.Cond.code ({ cls := "CommitCouncilModel", name := "isNew", desc := "(IIII)Z" } : Jvm.MethodName) prog_9_method_24_code (5 : Nat) (Option.some Jvm.ClassFile.FieldType.boolean))) ∈ wsU := wsU_T (List.mem_append_right _ (List.mem_append_right _ (List.mem_append_right _ (List.mem_of_getElem? (i := 58) rfl)))) rfl
theorem uw_4_59 : ((Jvm.Cond.methodLink "CommitCouncilModel" (136 : Nat) ({ cls := "CommitCouncilModel", name := "seenAt", desc := "(III)I" } : Jvm.MethodName))) ∈ wsU := wsU_T (List.mem_append_right _ (List.mem_append_right _ (List.mem_append_right _ (List.mem_of_getElem? (i := 59) rfl)))) rfl
theorem uw_4_61 : ((Jvm.Cond.instanceMethod ({ cls := "CommitCouncilModel", name := "seenAt", desc := "(III)I" } : Jvm.MethodName))) ∈ wsU := wsU_T (List.mem_append_right _ (List.mem_append_right _ (List.mem_append_right _ (List.mem_of_getElem? (i := 61) rfl)))) rfl
theorem uw_4_62 : ((Jvm.Cond.code ({ cls := "CommitCouncilModel", name := "seenAt", desc := "(III)I" } : Jvm.MethodName) prog_9_method_22_code (4 : Nat) (Option.some Jvm.ClassFile.FieldType.int))) ∈ wsU := wsU_T (List.mem_append_right _ (List.mem_append_right _ (List.mem_append_right _ (List.mem_of_getElem? (i := 62) rfl)))) rfl
theorem uw_4_63 : ((Jvm.Cond.methodLink "CommitCouncilModel" (155 : Nat) ({ cls := "CommitCouncilModel", name := "remove", desc := "(I)V" } : Jvm.MethodName))) ∈ wsU := wsU_T (List.mem_append_right _ (List.mem_append_right _ (List.mem_append_right _ (List.mem_of_getElem? (i := 63) rfl)))) rfl
theorem uw_4_65 : ((Jvm.Cond.instanceMethod ({ cls := "CommitCouncilModel", name := "remove", desc := "(I)V" } : Jvm.MethodName))) ∈ wsU := wsU_T (List.mem_append_right _ (List.mem_append_right _ (List.mem_append_right _ (List.mem_of_getElem? (i := 65) rfl)))) rfl
theorem uw_4_66 : ((Jvm.Cond.code ({ cls := "CommitCouncilModel", name := "remove", desc := "(I)V" } : Jvm.MethodName) prog_9_method_18_code (3 : Nat) (Option.none : Option Jvm.ClassFile.FieldType))) ∈ wsU := wsU_T (List.mem_append_right _ (List.mem_append_right _ (List.mem_append_right _ (List.mem_of_getElem? (i := 66) rfl)))) rfl
theorem uw_4_67 : ((Jvm.Cond.methodLink "CommitCouncilModel" (162 : Nat) ({ cls := "CommitCouncilModel", name := "voteComes", desc := "(I)V" } : Jvm.MethodName))) ∈ wsU := wsU_T (List.mem_append_right _ (List.mem_append_right _ (List.mem_append_right _ (List.mem_of_getElem? (i := 67) rfl)))) rfl
theorem uw_4_69 : ((Jvm.Cond.instanceMethod ({ cls := "CommitCouncilModel", name := "voteComes", desc := "(I)V" } : Jvm.MethodName))) ∈ wsU := wsU_T (List.mem_append_right _ (List.mem_append_right _ (List.mem_append_right _ (List.mem_of_getElem? (i := 69) rfl)))) rfl
theorem uw_4_70 : ((Jvm.Cond.code ({ cls := "CommitCouncilModel", name := "voteComes", desc := "(I)V" } : Jvm.MethodName) prog_9_method_30_code (6 : Nat) (Option.none : Option Jvm.ClassFile.FieldType))) ∈ wsU := wsU_T (List.mem_append_right _ (List.mem_append_right _ (List.mem_append_right _ (List.mem_of_getElem? (i := 70) rfl)))) rfl
theorem uw_4_71 : ((Jvm.Cond.methodLink "CommitCouncilModel" (165 : Nat) ({ cls := "CommitCouncilModel", name := "askComes", desc := "(I)V" } : Jvm.MethodName))) ∈ wsU := wsU_T (List.mem_append_right _ (List.mem_append_right _ (List.mem_append_right _ (List.mem_of_getElem? (i := 71) rfl)))) rfl
theorem uw_4_73 : ((Jvm.Cond.instanceMethod ({ cls := "CommitCouncilModel", name := "askComes", desc := "(I)V" } : Jvm.MethodName))) ∈ wsU := wsU_T (List.mem_append_right _ (List.mem_append_right _ (List.mem_append_right _ (List.mem_of_getElem? (i := 73) rfl)))) rfl
theorem uw_4_74 : ((Jvm.Cond.code ({ cls := "CommitCouncilModel", name := "askComes", desc := "(I)V" } : Jvm.MethodName) prog_9_method_31_code (5 : Nat) (Option.none : Option Jvm.ClassFile.FieldType))) ∈ wsU := wsU_T (List.mem_append_right _ (List.mem_append_right _ (List.mem_append_right _ (List.mem_of_getElem? (i := 74) rfl)))) rfl
theorem uw_4_75 : ((Jvm.Cond.methodLink "CommitCouncilModel" (168 : Nat) ({ cls := "CommitCouncilModel", name := "toldComes", desc := "(I)V" } : Jvm.MethodName))) ∈ wsU := wsU_T (List.mem_append_right _ (List.mem_append_right _ (List.mem_append_right _ (List.mem_of_getElem? (i := 75) rfl)))) rfl
theorem uw_4_77 : ((Jvm.Cond.instanceMethod ({ cls := "CommitCouncilModel", name := "toldComes", desc := "(I)V" } : Jvm.MethodName))) ∈ wsU := wsU_T (List.mem_append_right _ (List.mem_append_right _ (List.mem_append_right _ (List.mem_of_getElem? (i := 77) rfl)))) rfl
theorem uw_4_78 : ((Jvm.Cond.code ({ cls := "CommitCouncilModel", name := "toldComes", desc := "(I)V" } : Jvm.MethodName) prog_9_method_32_code (8 : Nat) (Option.none : Option Jvm.ClassFile.FieldType))) ∈ wsU := wsU_T (List.mem_append_right _ (List.mem_append_right _ (List.mem_append_right _ (List.mem_of_getElem? (i := 78) rfl)))) rfl
theorem uw_4_79 : ((Jvm.Cond.methodLink "CommitCouncilModel" (175 : Nat) ({ cls := "java/lang/Math", name := "max", desc := "(II)I" } : Jvm.MethodName))) ∈ wsU := wsU_T (List.mem_append_right _ (List.mem_append_right _ (List.mem_append_right _ (List.mem_of_getElem? (i := 79) rfl)))) rfl
theorem uw_4_80 : ((Jvm.Cond.methodLink "CommitCouncilModel" (171 : Nat) ({ cls := "CommitCouncilModel", name := "votedComes", desc := "(IZ)V" } : Jvm.MethodName))) ∈ wsU := wsU_T (List.mem_append_right _ (List.mem_append_right _ (List.mem_append_right _ (List.mem_of_getElem? (i := 80) rfl)))) rfl
theorem uw_4_82 : ((Jvm.Cond.instanceMethod ({ cls := "CommitCouncilModel", name := "votedComes", desc := "(IZ)V" } : Jvm.MethodName))) ∈ wsU := wsU_T (List.mem_append_right _ (List.mem_append_right _ (List.mem_append_right _ (List.mem_of_getElem? (i := 82) rfl)))) rfl
theorem uw_4_83 : ((Jvm.Cond.code ({ cls := "CommitCouncilModel", name := "votedComes", desc := "(IZ)V" } : Jvm.MethodName) prog_9_method_33_code (6 : Nat) (Option.none : Option Jvm.ClassFile.FieldType))) ∈ wsU := wsU_T (List.mem_append_right _ (List.mem_append_right _ (List.mem_append_right _ (List.mem_of_getElem? (i := 83) rfl)))) rfl
theorem uw_4_84 : ((Jvm.Cond.methodLink "CommitCouncilLaw" (115 : Nat) ({ cls := "CommitCouncilModel", name := "drop", desc := "(I)V" } : Jvm.MethodName))) ∈ wsU := wsU_T (List.mem_append_right _ (List.mem_append_right _ (List.mem_append_right _ (List.mem_of_getElem? (i := 84) rfl)))) rfl
theorem uw_4_85 : ((Jvm.Cond.instanceMethod ({ cls := "CommitCouncilModel", name := "drop", desc := "(I)V" } : Jvm.MethodName))) ∈ wsU := wsU_T (List.mem_append_right _ (List.mem_append_right _ (List.mem_append_right _ (List.mem_of_getElem? (i := 85) rfl)))) rfl
theorem uw_4_86 : ((Jvm.Cond.selects "CommitCouncilModel" ({ cls := "CommitCouncilModel", name := "drop", desc := "(I)V" } : Jvm.MethodName) ({ cls := "CommitCouncilModel", name := "drop", desc := "(I)V" } : Jvm.MethodName))) ∈ wsU := wsU_T (List.mem_append_right _ (List.mem_append_right _ (List.mem_append_right _ (List.mem_of_getElem? (i := 86) rfl)))) rfl
theorem uw_4_87 : ((Jvm.Cond.code ({ cls := "CommitCouncilModel", name := "drop", desc := "(I)V" } : Jvm.MethodName) prog_9_method_34_code (2 : Nat) (Option.none : Option Jvm.ClassFile.FieldType))) ∈ wsU := wsU_T (List.mem_append_right _ (List.mem_append_right _ (List.mem_append_right _ (List.mem_of_getElem? (i := 87) rfl)))) rfl
theorem uw_4_88 : ((Jvm.Cond.methodLink "CommitCouncilLaw" (118 : Nat) ({ cls := "CommitCouncilModel", name := "copy", desc := "(I)I" } : Jvm.MethodName))) ∈ wsU := wsU_T (List.mem_append_right _ (List.mem_append_right _ (List.mem_append_right _ (List.mem_of_getElem? (i := 88) rfl)))) rfl
theorem uw_4_89 : ((Jvm.Cond.instanceMethod ({ cls := "CommitCouncilModel", name := "copy", desc := "(I)I" } : Jvm.MethodName))) ∈ wsU := wsU_T (List.mem_append_right _ (List.mem_append_right _ (List.mem_append_right _ (List.mem_of_getElem? (i := 89) rfl)))) rfl
theorem uw_4_90 : ((Jvm.Cond.selects "CommitCouncilModel" ({ cls := "CommitCouncilModel", name := "copy", desc := "(I)I" } : Jvm.MethodName) ({ cls := "CommitCouncilModel", name := "copy", desc := "(I)I" } : Jvm.MethodName))) ∈ wsU := wsU_T (List.mem_append_right _ (List.mem_append_right _ (List.mem_append_right _ (List.mem_of_getElem? (i := 90) rfl)))) rfl
theorem uw_4_91 : ((Jvm.Cond.code ({ cls := "CommitCouncilModel", name := "copy", desc := "(I)I" } : Jvm.MethodName) prog_9_method_35_code (3 : Nat) (Option.some Jvm.ClassFile.FieldType.int))) ∈ wsU := wsU_T (List.mem_append_right _ (List.mem_append_right _ (List.mem_append_right _ (List.mem_of_getElem? (i := 91) rfl)))) rfl
theorem uw_4_92 : ((Jvm.Cond.methodLink "CommitCouncilLaw" (121 : Nat) ({ cls := "CommitCouncilModel", name := "calm", desc := "(I)I" } : Jvm.MethodName))) ∈ wsU := wsU_T (List.mem_append_right _ (List.mem_append_right _ (List.mem_append_right _ (List.mem_of_getElem? (i := 92) rfl)))) rfl
theorem uw_4_93 : ((Jvm.Cond.instanceMethod ({ cls := "CommitCouncilModel", name := "calm", desc := "(I)I" } : Jvm.MethodName))) ∈ wsU := wsU_T (List.mem_append_right _ (List.mem_append_right _ (List.mem_append_right _ (List.mem_of_getElem? (i := 93) rfl)))) rfl
theorem uw_4_94 : ((Jvm.Cond.selects "CommitCouncilModel" ({ cls := "CommitCouncilModel", name := "calm", desc := "(I)I" } : Jvm.MethodName) ({ cls := "CommitCouncilModel", name := "calm", desc := "(I)I" } : Jvm.MethodName))) ∈ wsU := wsU_T (List.mem_append_right _ (List.mem_append_right _ (List.mem_append_right _ (List.mem_of_getElem? (i := 94) rfl)))) rfl
theorem uw_4_95 : ((Jvm.Cond.code ({ cls := "CommitCouncilModel", name := "calm", desc := "(I)I" } : Jvm.MethodName) prog_9_method_36_code (3 : Nat) (Option.some Jvm.ClassFile.FieldType.int))) ∈ wsU := wsU_T (List.mem_append_right _ (List.mem_append_right _ (List.mem_append_right _ (List.mem_of_getElem? (i := 95) rfl)))) rfl
theorem uw_4_96 : ((Jvm.Cond.methodLink "CommitCouncilLaw" (125 : Nat) ({ cls := "CommitCouncilModel", name := "crash", desc := "(II)Z" } : Jvm.MethodName))) ∈ wsU := wsU_T (List.mem_append_right _ (List.mem_append_right _ (List.mem_append_right _ (List.mem_of_getElem? (i := 96) rfl)))) rfl
theorem uw_4_97 : ((Jvm.Cond.instanceMethod ({ cls := "CommitCouncilModel", name := "crash", desc := "(II)Z" } : Jvm.MethodName))) ∈ wsU := wsU_T (List.mem_append_right _ (List.mem_append_right _ (List.mem_append_right _ (List.mem_of_getElem? (i := 97) rfl)))) rfl
theorem uw_4_98 : ((Jvm.Cond.selects "CommitCouncilModel" ({ cls := "CommitCouncilModel", name := "crash", desc := "(II)Z" } : Jvm.MethodName) ({ cls := "CommitCouncilModel", name := "crash", desc := "(II)Z" } : Jvm.MethodName))) ∈ wsU := wsU_T (List.mem_append_right _ (List.mem_append_right _ (List.mem_append_right _ (List.mem_of_getElem? (i := 98) rfl)))) rfl
theorem uw_4_99 : ((Jvm.Cond.code ({ cls := "CommitCouncilModel", name := "crash", desc := "(II)Z" } : Jvm.MethodName) prog_9_method_39_code (3 : Nat) (Option.some Jvm.ClassFile.FieldType.boolean))) ∈ wsU := wsU_T (List.mem_append_right _ (List.mem_append_right _ (List.mem_append_right _ (List.mem_of_getElem? (i := 99) rfl)))) rfl
theorem uw_4_100 : ((Jvm.Cond.methodLink "CommitCouncilModel" (183 : Nat) ({ cls := "CommitCouncilModel", name := "turns", desc := "(IIZ)Z" } : Jvm.MethodName))) ∈ wsU := wsU_T (List.mem_append_right _ (List.mem_append_right _ (List.mem_append_right _ (List.mem_of_getElem? (i := 100) rfl)))) rfl
theorem uw_4_102 : ((Jvm.Cond.instanceMethod ({ cls := "CommitCouncilModel", name := "turns", desc := "(IIZ)Z" } : Jvm.MethodName))) ∈ wsU := wsU_T (List.mem_append_right _ (List.mem_append_right _ (List.mem_append_right _ (List.mem_of_getElem? (i := 102) rfl)))) rfl
theorem uw_4_103 : ((Jvm.Cond.code ({ cls := "CommitCouncilModel", name := "turns", desc := "(IIZ)Z" } : Jvm.MethodName) prog_9_method_38_code (6 : Nat) (Option.some Jvm.ClassFile.FieldType.boolean))) ∈ wsU := wsU_T (List.mem_append_right _ (List.mem_append_right _ (List.mem_append_right _ (List.mem_of_getElem? (i := 103) rfl)))) rfl
theorem uw_4_104 : ((Jvm.Cond.methodLink "CommitCouncilModel" (180 : Nat) ({ cls := "CommitCouncilModel", name := "manyOf", desc := "(I)I" } : Jvm.MethodName))) ∈ wsU := wsU_T (List.mem_append_right _ (List.mem_append_right _ (List.mem_append_right _ (List.mem_of_getElem? (i := 104) rfl)))) rfl
theorem uw_4_106 : ((Jvm.Cond.instanceMethod ({ cls := "CommitCouncilModel", name := "manyOf", desc := "(I)I" } : Jvm.MethodName))) ∈ wsU := wsU_T (List.mem_append_right _ (List.mem_append_right _ (List.mem_append_right _ (List.mem_of_getElem? (i := 106) rfl)))) rfl
theorem uw_4_107 : ((Jvm.Cond.code ({ cls := "CommitCouncilModel", name := "manyOf", desc := "(I)I" } : Jvm.MethodName) prog_9_method_37_code (2 : Nat) (Option.some Jvm.ClassFile.FieldType.int))) ∈ wsU := wsU_T (List.mem_append_right _ (List.mem_append_right _ (List.mem_append_right _ (List.mem_of_getElem? (i := 107) rfl)))) rfl
theorem uw_4_108 : ((Jvm.Cond.methodLink "CommitCouncilLaw" (128 : Nat) ({ cls := "CommitCouncilModel", name := "recover", desc := "(II)Z" } : Jvm.MethodName))) ∈ wsU := wsU_T (List.mem_append_right _ (List.mem_append_right _ (List.mem_append_right _ (List.mem_of_getElem? (i := 108) rfl)))) rfl
theorem uw_4_109 : ((Jvm.Cond.instanceMethod ({ cls := "CommitCouncilModel", name := "recover", desc := "(II)Z" } : Jvm.MethodName))) ∈ wsU := wsU_T (List.mem_append_right _ (List.mem_append_right _ (List.mem_append_right _ (List.mem_of_getElem? (i := 109) rfl)))) rfl
theorem uw_4_110 : ((Jvm.Cond.selects "CommitCouncilModel" ({ cls := "CommitCouncilModel", name := "recover", desc := "(II)Z" } : Jvm.MethodName) ({ cls := "CommitCouncilModel", name := "recover", desc := "(II)Z" } : Jvm.MethodName))) ∈ wsU := wsU_T (List.mem_append_right _ (List.mem_append_right _ (List.mem_append_right _ (List.mem_of_getElem? (i := 110) rfl)))) rfl
theorem uw_4_111 : ((Jvm.Cond.code ({ cls := "CommitCouncilModel", name := "recover", desc := "(II)Z" } : Jvm.MethodName) prog_9_method_40_code (3 : Nat) (Option.some Jvm.ClassFile.FieldType.boolean))) ∈ wsU := wsU_T (List.mem_append_right _ (List.mem_append_right _ (List.mem_append_right _ (List.mem_of_getElem? (i := 111) rfl)))) rfl
theorem uw_4_112 : ((Jvm.Cond.methodLink "CommitCouncilLaw" (131 : Nat) ({ cls := "CommitCouncilModel", name := "message", desc := "(II)I" } : Jvm.MethodName))) ∈ wsU := wsU_T (List.mem_append_right _ (List.mem_append_right _ (List.mem_append_right _ (List.mem_of_getElem? (i := 112) rfl)))) rfl
theorem uw_4_113 : ((Jvm.Cond.instanceMethod ({ cls := "CommitCouncilModel", name := "message", desc := "(II)I" } : Jvm.MethodName))) ∈ wsU := wsU_T (List.mem_append_right _ (List.mem_append_right _ (List.mem_append_right _ (List.mem_of_getElem? (i := 113) rfl)))) rfl
theorem uw_4_114 : ((Jvm.Cond.selects "CommitCouncilModel" ({ cls := "CommitCouncilModel", name := "message", desc := "(II)I" } : Jvm.MethodName) ({ cls := "CommitCouncilModel", name := "message", desc := "(II)I" } : Jvm.MethodName))) ∈ wsU := wsU_T (List.mem_append_right _ (List.mem_append_right _ (List.mem_append_right _ (List.mem_of_getElem? (i := 114) rfl)))) rfl
theorem uw_4_115 : ((Jvm.Cond.code ({ cls := "CommitCouncilModel", name := "message", desc := "(II)I" } : Jvm.MethodName) prog_9_method_41_code (3 : Nat) (Option.some Jvm.ClassFile.FieldType.int))) ∈ wsU := wsU_T (List.mem_append_right _ (List.mem_append_right _ (List.mem_append_right _ (List.mem_of_getElem? (i := 115) rfl)))) rfl
theorem uw_4_116 : ((Jvm.Cond.methodLink "CommitCouncilLaw" (135 : Nat) ({ cls := "CommitCouncilModel", name := "told", desc := "(IIZ)I" } : Jvm.MethodName))) ∈ wsU := wsU_T (List.mem_append_right _ (List.mem_append_right _ (List.mem_append_right _ (List.mem_of_getElem? (i := 116) rfl)))) rfl
theorem uw_4_117 : ((Jvm.Cond.instanceMethod ({ cls := "CommitCouncilModel", name := "told", desc := "(IIZ)I" } : Jvm.MethodName))) ∈ wsU := wsU_T (List.mem_append_right _ (List.mem_append_right _ (List.mem_append_right _ (List.mem_of_getElem? (i := 117) rfl)))) rfl
theorem uw_4_118 : ((Jvm.Cond.selects "CommitCouncilModel" ({ cls := "CommitCouncilModel", name := "told", desc := "(IIZ)I" } : Jvm.MethodName) ({ cls := "CommitCouncilModel", name := "told", desc := "(IIZ)I" } : Jvm.MethodName))) ∈ wsU := wsU_T (List.mem_append_right _ (List.mem_append_right _ (List.mem_append_right _ (List.mem_of_getElem? (i := 118) rfl)))) rfl
theorem uw_4_119 : ((Jvm.Cond.code ({ cls := "CommitCouncilModel", name := "told", desc := "(IIZ)I" } : Jvm.MethodName) prog_9_method_42_code (4 : Nat) (Option.some Jvm.ClassFile.FieldType.int))) ∈ wsU := wsU_T (List.mem_append_right _ (List.mem_append_right _ (List.mem_append_right _ (List.mem_of_getElem? (i := 119) rfl)))) rfl
theorem uw_4_120 : ((Jvm.Cond.methodLink "CommitCouncilLaw" (138 : Nat) ({ cls := "CommitCouncilModel", name := "manager", desc := "(II)I" } : Jvm.MethodName))) ∈ wsU := wsU_T (List.mem_append_right _ (List.mem_append_right _ (List.mem_append_right _ (List.mem_of_getElem? (i := 120) rfl)))) rfl
theorem uw_4_121 : ((Jvm.Cond.instanceMethod ({ cls := "CommitCouncilModel", name := "manager", desc := "(II)I" } : Jvm.MethodName))) ∈ wsU := wsU_T (List.mem_append_right _ (List.mem_append_right _ (List.mem_append_right _ (List.mem_of_getElem? (i := 121) rfl)))) rfl
theorem uw_4_122 : ((Jvm.Cond.selects "CommitCouncilModel" ({ cls := "CommitCouncilModel", name := "manager", desc := "(II)I" } : Jvm.MethodName) ({ cls := "CommitCouncilModel", name := "manager", desc := "(II)I" } : Jvm.MethodName))) ∈ wsU := wsU_T (List.mem_append_right _ (List.mem_append_right _ (List.mem_append_right _ (List.mem_of_getElem? (i := 122) rfl)))) rfl
theorem uw_4_123 : ((Jvm.Cond.code ({ cls := "CommitCouncilModel", name := "manager", desc := "(II)I" } : Jvm.MethodName) prog_9_method_43_code (3 : Nat) (Option.some Jvm.ClassFile.FieldType.int))) ∈ wsU := wsU_T (List.mem_append_right _ (List.mem_append_right _ (List.mem_append_right _ (List.mem_of_getElem? (i := 123) rfl)))) rfl
theorem uw_4_124 : ((Jvm.Cond.methodLink "CommitCouncilLaw" (142 : Nat) ({ cls := "CommitCouncilModel", name := "acceptor", desc := "(III)I" } : Jvm.MethodName))) ∈ wsU := wsU_T (List.mem_append_right _ (List.mem_append_right _ (List.mem_append_right _ (List.mem_of_getElem? (i := 124) rfl)))) rfl
theorem uw_4_125 : ((Jvm.Cond.instanceMethod ({ cls := "CommitCouncilModel", name := "acceptor", desc := "(III)I" } : Jvm.MethodName))) ∈ wsU := wsU_T (List.mem_append_right _ (List.mem_append_right _ (List.mem_append_right _ (List.mem_of_getElem? (i := 125) rfl)))) rfl
theorem uw_4_126 : ((Jvm.Cond.selects "CommitCouncilModel" ({ cls := "CommitCouncilModel", name := "acceptor", desc := "(III)I" } : Jvm.MethodName) ({ cls := "CommitCouncilModel", name := "acceptor", desc := "(III)I" } : Jvm.MethodName))) ∈ wsU := wsU_T (List.mem_append_right _ (List.mem_append_right _ (List.mem_append_right _ (List.mem_of_getElem? (i := 126) rfl)))) rfl
theorem uw_4_127 : ((Jvm.Cond.code ({ cls := "CommitCouncilModel", name := "acceptor", desc := "(III)I" } : Jvm.MethodName) prog_9_method_44_code (4 : Nat) (Option.some Jvm.ClassFile.FieldType.int))) ∈ wsU := wsU_T (List.mem_append_right _ (List.mem_append_right _ (List.mem_append_right _ (List.mem_of_getElem? (i := 127) rfl)))) rfl
theorem uw_4_128 : ((Jvm.Cond.methodLink "CommitCouncilModel" (187 : Nat) ({ cls := "CommitCouncilModel", name := "isAcceptor", desc := "(I)Z" } : Jvm.MethodName))) ∈ wsU := wsU_T (List.mem_append_right _ (List.mem_append_right _ (List.mem_append_right _ (List.mem_of_getElem? (i := 128) rfl)))) rfl
theorem uw_4_130 : ((Jvm.Cond.instanceMethod ({ cls := "CommitCouncilModel", name := "isAcceptor", desc := "(I)Z" } : Jvm.MethodName))) ∈ wsU := wsU_T (List.mem_append_right _ (List.mem_append_right _ (List.mem_append_right _ (List.mem_of_getElem? (i := 130) rfl)))) rfl
theorem uw_4_131 : ((Jvm.Cond.code ({ cls := "CommitCouncilModel", name := "isAcceptor", desc := "(I)Z" } : Jvm.MethodName) prog_9_method_5_code (2 : Nat) (Option.some Jvm.ClassFile.FieldType.boolean))) ∈ wsU := wsU_T (List.mem_append_right _ (List.mem_append_right _ (List.mem_append_right _ (List.mem_of_getElem? (i := 131) rfl)))) rfl
theorem uw_4_132 : ((Jvm.Cond.methodLink "CommitCouncilLaw" (145 : Nat) ({ cls := "CommitCouncilModel", name := "leader", desc := "(II)I" } : Jvm.MethodName))) ∈ wsU := wsU_T (List.mem_append_right _ (List.mem_append_right _ (List.mem_append_right _ (List.mem_of_getElem? (i := 132) rfl)))) rfl
theorem uw_4_133 : ((Jvm.Cond.instanceMethod ({ cls := "CommitCouncilModel", name := "leader", desc := "(II)I" } : Jvm.MethodName))) ∈ wsU := wsU_T (List.mem_append_right _ (List.mem_append_right _ (List.mem_append_right _ (List.mem_of_getElem? (i := 133) rfl)))) rfl
theorem uw_4_134 : ((Jvm.Cond.selects "CommitCouncilModel" ({ cls := "CommitCouncilModel", name := "leader", desc := "(II)I" } : Jvm.MethodName) ({ cls := "CommitCouncilModel", name := "leader", desc := "(II)I" } : Jvm.MethodName))) ∈ wsU := wsU_T (List.mem_append_right _ (List.mem_append_right _ (List.mem_append_right _ (List.mem_of_getElem? (i := 134) rfl)))) rfl
theorem uw_4_135 : ((Jvm.Cond.code ({ cls := "CommitCouncilModel", name := "leader", desc := "(II)I" } : Jvm.MethodName) prog_9_method_45_code (3 : Nat) (Option.some Jvm.ClassFile.FieldType.int))) ∈ wsU := wsU_T (List.mem_append_right _ (List.mem_append_right _ (List.mem_append_right _ (List.mem_of_getElem? (i := 135) rfl)))) rfl
theorem uw_4_136 : ((Jvm.Cond.methodLink "CommitCouncilLaw" (148 : Nat) ({ cls := "CommitCouncilModel", name := "outcome", desc := "(II)I" } : Jvm.MethodName))) ∈ wsU := wsU_T (List.mem_append_right _ (List.mem_append_right _ (List.mem_append_right _ (List.mem_of_getElem? (i := 136) rfl)))) rfl
theorem uw_4_137 : ((Jvm.Cond.instanceMethod ({ cls := "CommitCouncilModel", name := "outcome", desc := "(II)I" } : Jvm.MethodName))) ∈ wsU := wsU_T (List.mem_append_right _ (List.mem_append_right _ (List.mem_append_right _ (List.mem_of_getElem? (i := 137) rfl)))) rfl
theorem uw_4_138 : ((Jvm.Cond.selects "CommitCouncilModel" ({ cls := "CommitCouncilModel", name := "outcome", desc := "(II)I" } : Jvm.MethodName) ({ cls := "CommitCouncilModel", name := "outcome", desc := "(II)I" } : Jvm.MethodName))) ∈ wsU := wsU_T (List.mem_append_right _ (List.mem_append_right _ (List.mem_append_right _ (List.mem_of_getElem? (i := 138) rfl)))) rfl
theorem uw_4_139 : ((Jvm.Cond.code ({ cls := "CommitCouncilModel", name := "outcome", desc := "(II)I" } : Jvm.MethodName) prog_9_method_46_code (3 : Nat) (Option.some Jvm.ClassFile.FieldType.int))) ∈ wsU := wsU_T (List.mem_append_right _ (List.mem_append_right _ (List.mem_append_right _ (List.mem_of_getElem? (i := 139) rfl)))) rfl
theorem uw_4_140 : ((Jvm.Cond.methodLink "CommitCouncilLaw" (151 : Nat) ({ cls := "CommitCouncilModel", name := "seen", desc := "(III)I" } : Jvm.MethodName))) ∈ wsU := wsU_T (List.mem_append_right _ (List.mem_append_right _ (List.mem_append_right _ (List.mem_of_getElem? (i := 140) rfl)))) rfl
theorem uw_4_141 : ((Jvm.Cond.instanceMethod ({ cls := "CommitCouncilModel", name := "seen", desc := "(III)I" } : Jvm.MethodName))) ∈ wsU := wsU_T (List.mem_append_right _ (List.mem_append_right _ (List.mem_append_right _ (List.mem_of_getElem? (i := 141) rfl)))) rfl
theorem uw_4_142 : ((Jvm.Cond.selects "CommitCouncilModel" ({ cls := "CommitCouncilModel", name := "seen", desc := "(III)I" } : Jvm.MethodName) ({ cls := "CommitCouncilModel", name := "seen", desc := "(III)I" } : Jvm.MethodName))) ∈ wsU := wsU_T (List.mem_append_right _ (List.mem_append_right _ (List.mem_append_right _ (List.mem_of_getElem? (i := 142) rfl)))) rfl
theorem uw_4_143 : ((Jvm.Cond.code ({ cls := "CommitCouncilModel", name := "seen", desc := "(III)I" } : Jvm.MethodName) prog_9_method_47_code (4 : Nat) (Option.some Jvm.ClassFile.FieldType.int))) ∈ wsU := wsU_T (List.mem_append_right _ (List.mem_append_right _ (List.mem_append_right _ (List.mem_of_getElem? (i := 143) rfl)))) rfl
theorem uw_4_144 : ((Jvm.Cond.methodLink "CommitCouncilLaw" (154 : Nat) ({ cls := "CommitCouncilModel", name := "chosen", desc := "(I)I" } : Jvm.MethodName))) ∈ wsU := wsU_T (List.mem_append_right _ (List.mem_append_right _ (List.mem_append_right _ (List.mem_of_getElem? (i := 144) rfl)))) rfl
theorem uw_4_145 : ((Jvm.Cond.instanceMethod ({ cls := "CommitCouncilModel", name := "chosen", desc := "(I)I" } : Jvm.MethodName))) ∈ wsU := wsU_T (List.mem_append_right _ (List.mem_append_right _ (List.mem_append_right _ (List.mem_of_getElem? (i := 145) rfl)))) rfl
theorem uw_4_146 : ((Jvm.Cond.selects "CommitCouncilModel" ({ cls := "CommitCouncilModel", name := "chosen", desc := "(I)I" } : Jvm.MethodName) ({ cls := "CommitCouncilModel", name := "chosen", desc := "(I)I" } : Jvm.MethodName))) ∈ wsU := wsU_T (List.mem_append_right _ (List.mem_append_right _ (List.mem_append_right _ (List.mem_of_getElem? (i := 146) rfl)))) rfl
theorem uw_4_147 : ((Jvm.Cond.code ({ cls := "CommitCouncilModel", name := "chosen", desc := "(I)I" } : Jvm.MethodName) prog_9_method_48_code (3 : Nat) (Option.some Jvm.ClassFile.FieldType.int))) ∈ wsU := wsU_T (List.mem_append_right _ (List.mem_append_right _ (List.mem_append_right _ (List.mem_of_getElem? (i := 147) rfl)))) rfl
theorem uw_4_148 : ((Jvm.Cond.methodLink "CommitCouncilLaw" (158 : Nat) ({ cls := "CommitCouncilModel", name := "count", desc := "(I)I" } : Jvm.MethodName))) ∈ wsU := wsU_T (List.mem_append_right _ (List.mem_append_right _ (List.mem_append_right _ (List.mem_of_getElem? (i := 148) rfl)))) rfl
theorem uw_4_149 : ((Jvm.Cond.instanceMethod ({ cls := "CommitCouncilModel", name := "count", desc := "(I)I" } : Jvm.MethodName))) ∈ wsU := wsU_T (List.mem_append_right _ (List.mem_append_right _ (List.mem_append_right _ (List.mem_of_getElem? (i := 149) rfl)))) rfl
theorem uw_4_150 : ((Jvm.Cond.selects "CommitCouncilModel" ({ cls := "CommitCouncilModel", name := "count", desc := "(I)I" } : Jvm.MethodName) ({ cls := "CommitCouncilModel", name := "count", desc := "(I)I" } : Jvm.MethodName))) ∈ wsU := wsU_T (List.mem_append_right _ (List.mem_append_right _ (List.mem_append_right _ (List.mem_of_getElem? (i := 150) rfl)))) rfl
theorem uw_4_151 : ((Jvm.Cond.code ({ cls := "CommitCouncilModel", name := "count", desc := "(I)I" } : Jvm.MethodName) prog_9_method_49_code (4 : Nat) (Option.some Jvm.ClassFile.FieldType.int))) ∈ wsU := wsU_T (List.mem_append_right _ (List.mem_append_right _ (List.mem_append_right _ (List.mem_of_getElem? (i := 151) rfl)))) rfl
theorem uw_4_152 : ((Jvm.Cond.methodLink "CommitCouncilLaw" (162 : Nat) ({ cls := "CommitCouncilModel", name := "astray", desc := "()I" } : Jvm.MethodName))) ∈ wsU := wsU_T (List.mem_append_right _ (List.mem_append_right _ (List.mem_append_right _ (List.mem_of_getElem? (i := 152) rfl)))) rfl
theorem uw_4_153 : ((Jvm.Cond.instanceMethod ({ cls := "CommitCouncilModel", name := "astray", desc := "()I" } : Jvm.MethodName))) ∈ wsU := wsU_T (List.mem_append_right _ (List.mem_append_right _ (List.mem_append_right _ (List.mem_of_getElem? (i := 153) rfl)))) rfl
theorem uw_4_154 : ((Jvm.Cond.selects "CommitCouncilModel" ({ cls := "CommitCouncilModel", name := "astray", desc := "()I" } : Jvm.MethodName) ({ cls := "CommitCouncilModel", name := "astray", desc := "()I" } : Jvm.MethodName))) ∈ wsU := wsU_T (List.mem_append_right _ (List.mem_append_right _ (List.mem_append_right _ (List.mem_of_getElem? (i := 154) rfl)))) rfl
theorem uw_4_155 : ((Jvm.Cond.code ({ cls := "CommitCouncilModel", name := "astray", desc := "()I" } : Jvm.MethodName) prog_9_method_50_code (1 : Nat) (Option.some Jvm.ClassFile.FieldType.int))) ∈ wsU := wsU_T (List.mem_append_right _ (List.mem_append_right _ (List.mem_append_right _ (List.mem_of_getElem? (i := 155) rfl)))) rfl
theorem uw_4_156 : ((Jvm.Cond.arrayClass Jvm.ClassFile.FieldType.long)) ∈ wsU := wsU_T (List.mem_append_right _ (List.mem_append_right _ (List.mem_append_right _ (List.mem_of_getElem? (i := 156) rfl)))) rfl
theorem uw_4_157 : ((Jvm.Cond.sameMethod "java/lang/Throwable" "java/lang/Throwable" "fillInStackTrace" "(I)Ljava/lang/Throwable;")) ∈ wsU := wsU_T (List.mem_append_right _ (List.mem_append_right _ (List.mem_append_right _ (List.mem_of_getElem? (i := 157) rfl)))) rfl
theorem us_0_0 : Cond.selects "CommitCouncil" (⟨"CommitCouncil", "howManyUp", "(II)I"⟩ : MethodName) (⟨"CommitCouncil", "howManyUp", "(II)I"⟩ : MethodName) ∈ wsU := wsU_S (q := (⟨"CommitCouncil", "howManyUp", "(II)I"⟩, 7)) (List.mem_append_left _ (List.mem_of_getElem? (i := 0) rfl))
theorem us_0_1 : Cond.selects "CommitCouncil" (⟨"CommitCouncil", "memberOf", "(II)LCommitCouncil$Member;"⟩ : MethodName) (⟨"CommitCouncil", "memberOf", "(II)LCommitCouncil$Member;"⟩ : MethodName) ∈ wsU := wsU_S (q := (⟨"CommitCouncil", "memberOf", "(II)LCommitCouncil$Member;"⟩, 7)) (List.mem_append_left _ (List.mem_of_getElem? (i := 1) rfl))
theorem us_0_2 : Cond.selects "java/lang/Throwable" (⟨"java/lang/Throwable", "fillInStackTrace", "(I)Ljava/lang/Throwable;"⟩ : MethodName) (⟨"java/lang/Throwable", "fillInStackTrace", "(I)Ljava/lang/Throwable;"⟩ : MethodName) ∈ wsU := wsU_S (q := (⟨"java/lang/Throwable", "fillInStackTrace", "(I)Ljava/lang/Throwable;"⟩, 6)) (List.mem_append_left _ (List.mem_of_getElem? (i := 2) rfl))
theorem us_0_3 : Cond.selects "CommitCouncil" (⟨"CommitCouncil", "howManyManagers", "(I)I"⟩ : MethodName) (⟨"CommitCouncil", "howManyManagers", "(I)I"⟩ : MethodName) ∈ wsU := wsU_S (q := (⟨"CommitCouncil", "howManyManagers", "(I)I"⟩, 7)) (List.mem_append_left _ (List.mem_of_getElem? (i := 3) rfl))
theorem us_0_4 : Cond.selects "CommitCouncil" (⟨"CommitCouncil", "isBackedByChosen", "(I)Z"⟩ : MethodName) (⟨"CommitCouncil", "isBackedByChosen", "(I)Z"⟩ : MethodName) ∈ wsU := wsU_S (q := (⟨"CommitCouncil", "isBackedByChosen", "(I)Z"⟩, 7)) (List.mem_append_left _ (List.mem_of_getElem? (i := 4) rfl))
theorem us_0_5 : Cond.selects "CommitCouncil" (⟨"CommitCouncil", "propose", "(III)Z"⟩ : MethodName) (⟨"CommitCouncil", "propose", "(III)Z"⟩ : MethodName) ∈ wsU := wsU_S (q := (⟨"CommitCouncil", "propose", "(III)Z"⟩, 7)) (List.mem_append_left _ (List.mem_of_getElem? (i := 5) rfl))
theorem us_0_6 : Cond.selects "CommitCouncil" (⟨"CommitCouncil", "sendVotes", "(III)V"⟩ : MethodName) (⟨"CommitCouncil", "sendVotes", "(III)V"⟩ : MethodName) ∈ wsU := wsU_S (q := (⟨"CommitCouncil", "sendVotes", "(III)V"⟩, 7)) (List.mem_append_left _ (List.mem_of_getElem? (i := 6) rfl))
theorem us_0_7 : Cond.selects "CommitCouncil" (⟨"CommitCouncil", "sendDecisions", "(I)V"⟩ : MethodName) (⟨"CommitCouncil", "sendDecisions", "(I)V"⟩ : MethodName) ∈ wsU := wsU_S (q := (⟨"CommitCouncil", "sendDecisions", "(I)V"⟩, 7)) (List.mem_append_left _ (List.mem_of_getElem? (i := 7) rfl))
theorem us_0_8 : Cond.selects "CommitCouncil" (⟨"CommitCouncil", "bring", "(I)I"⟩ : MethodName) (⟨"CommitCouncil", "bring", "(I)I"⟩ : MethodName) ∈ wsU := wsU_S (q := (⟨"CommitCouncil", "bring", "(I)I"⟩, 7)) (List.mem_append_left _ (List.mem_of_getElem? (i := 8) rfl))
theorem us_0_9 : Cond.selects "CommitCouncil" (⟨"CommitCouncil", "isUp", "(II)Z"⟩ : MethodName) (⟨"CommitCouncil", "isUp", "(II)Z"⟩ : MethodName) ∈ wsU := wsU_S (q := (⟨"CommitCouncil", "isUp", "(II)Z"⟩, 7)) (List.mem_append_left _ (List.mem_of_getElem? (i := 9) rfl))
theorem us_0_10 : Cond.selects "CommitCouncil" (⟨"CommitCouncil", "answersTo", "(III)I"⟩ : MethodName) (⟨"CommitCouncil", "answersTo", "(III)I"⟩ : MethodName) ∈ wsU := wsU_S (q := (⟨"CommitCouncil", "answersTo", "(III)I"⟩, 7)) (List.mem_append_left _ (List.mem_of_getElem? (i := 10) rfl))
theorem us_0_11 : Cond.selects "CommitCouncil$Leader" (⟨"CommitCouncil$Leader", "outcomeAfter", "(III)I"⟩ : MethodName) (⟨"CommitCouncil$Leader", "outcomeAfter", "(III)I"⟩ : MethodName) ∈ wsU := wsU_S (q := (⟨"CommitCouncil$Leader", "outcomeAfter", "(III)I"⟩, 10)) (List.mem_append_left _ (List.mem_of_getElem? (i := 11) rfl))
theorem us_0_12 : Cond.selects "CommitCouncil" (⟨"CommitCouncil", "take", "(III)V"⟩ : MethodName) (⟨"CommitCouncil", "take", "(III)V"⟩ : MethodName) ∈ wsU := wsU_S (q := (⟨"CommitCouncil", "take", "(III)V"⟩, 7)) (List.mem_append_left _ (List.mem_of_getElem? (i := 12) rfl))
theorem us_0_13 : Cond.selects "CommitCouncil" (⟨"CommitCouncil", "takeVote", "(II)V"⟩ : MethodName) (⟨"CommitCouncil", "takeVote", "(II)V"⟩ : MethodName) ∈ wsU := wsU_S (q := (⟨"CommitCouncil", "takeVote", "(II)V"⟩, 7)) (List.mem_append_left _ (List.mem_of_getElem? (i := 13) rfl))
theorem us_0_14 : Cond.selects "CommitCouncil" (⟨"CommitCouncil", "takeVoted", "(ILCommitCouncil$Leader;)V"⟩ : MethodName) (⟨"CommitCouncil", "takeVoted", "(ILCommitCouncil$Leader;)V"⟩ : MethodName) ∈ wsU := wsU_S (q := (⟨"CommitCouncil", "takeVoted", "(ILCommitCouncil$Leader;)V"⟩, 7)) (List.mem_append_left _ (List.mem_of_getElem? (i := 14) rfl))
theorem us_0_15 : Cond.selects "CommitCouncil" (⟨"CommitCouncil", "takeAsk", "(II)V"⟩ : MethodName) (⟨"CommitCouncil", "takeAsk", "(II)V"⟩ : MethodName) ∈ wsU := wsU_S (q := (⟨"CommitCouncil", "takeAsk", "(II)V"⟩, 7)) (List.mem_append_left _ (List.mem_of_getElem? (i := 15) rfl))
theorem us_1_0 : Cond.selects "CommitCouncil" (⟨"CommitCouncil", "takeTold", "(ILCommitCouncil$Leader;)V"⟩ : MethodName) (⟨"CommitCouncil", "takeTold", "(ILCommitCouncil$Leader;)V"⟩ : MethodName) ∈ wsU := wsU_S (q := (⟨"CommitCouncil", "takeTold", "(ILCommitCouncil$Leader;)V"⟩, 7)) (List.mem_append_right _ (List.mem_append_left _ (List.mem_of_getElem? (i := 0) rfl)))
theorem us_1_1 : Cond.selects "CommitCouncil" (⟨"CommitCouncil", "startVoting", "(LCommitCouncil$Leader;)V"⟩ : MethodName) (⟨"CommitCouncil", "startVoting", "(LCommitCouncil$Leader;)V"⟩ : MethodName) ∈ wsU := wsU_S (q := (⟨"CommitCouncil", "startVoting", "(LCommitCouncil$Leader;)V"⟩, 7)) (List.mem_append_right _ (List.mem_append_left _ (List.mem_of_getElem? (i := 1) rfl)))
theorem us_1_2 : Cond.selects "CommitCouncil" (⟨"CommitCouncil", "takeQuestion", "(II)V"⟩ : MethodName) (⟨"CommitCouncil", "takeQuestion", "(II)V"⟩ : MethodName) ∈ wsU := wsU_S (q := (⟨"CommitCouncil", "takeQuestion", "(II)V"⟩, 7)) (List.mem_append_right _ (List.mem_append_left _ (List.mem_of_getElem? (i := 2) rfl)))
theorem us_1_3 : Cond.selects "CommitCouncilModel" (⟨"CommitCouncilModel", "becomes", "(II)Z"⟩ : MethodName) (⟨"CommitCouncilModel", "becomes", "(II)Z"⟩ : MethodName) ∈ wsU := wsU_S (q := (⟨"CommitCouncilModel", "becomes", "(II)Z"⟩, 26)) (List.mem_append_right _ (List.mem_append_left _ (List.mem_of_getElem? (i := 3) rfl)))
theorem us_1_4 : Cond.selects "CommitCouncilModel" (⟨"CommitCouncilModel", "isManager", "(I)Z"⟩ : MethodName) (⟨"CommitCouncilModel", "isManager", "(I)Z"⟩ : MethodName) ∈ wsU := wsU_S (q := (⟨"CommitCouncilModel", "isManager", "(I)Z"⟩, 26)) (List.mem_append_right _ (List.mem_append_left _ (List.mem_of_getElem? (i := 4) rfl)))
theorem us_1_5 : Cond.selects "CommitCouncilModel" (⟨"CommitCouncilModel", "lacks", "(Z)Z"⟩ : MethodName) (⟨"CommitCouncilModel", "lacks", "(Z)Z"⟩ : MethodName) ∈ wsU := wsU_S (q := (⟨"CommitCouncilModel", "lacks", "(Z)Z"⟩, 26)) (List.mem_append_right _ (List.mem_append_left _ (List.mem_of_getElem? (i := 5) rfl)))
theorem us_1_6 : Cond.selects "CommitCouncilModel" (⟨"CommitCouncilModel", "hasRoom", "(I)Z"⟩ : MethodName) (⟨"CommitCouncilModel", "hasRoom", "(I)Z"⟩ : MethodName) ∈ wsU := wsU_S (q := (⟨"CommitCouncilModel", "hasRoom", "(I)Z"⟩, 26)) (List.mem_append_right _ (List.mem_append_left _ (List.mem_of_getElem? (i := 6) rfl)))
theorem us_1_7 : Cond.selects "CommitCouncilModel" (⟨"CommitCouncilModel", "votes", "(III)V"⟩ : MethodName) (⟨"CommitCouncilModel", "votes", "(III)V"⟩ : MethodName) ∈ wsU := wsU_S (q := (⟨"CommitCouncilModel", "votes", "(III)V"⟩, 26)) (List.mem_append_right _ (List.mem_append_left _ (List.mem_of_getElem? (i := 7) rfl)))
theorem us_1_8 : Cond.selects "CommitCouncilModel" (⟨"CommitCouncilModel", "sends", "(IIIIII)V"⟩ : MethodName) (⟨"CommitCouncilModel", "sends", "(IIIIII)V"⟩ : MethodName) ∈ wsU := wsU_S (q := (⟨"CommitCouncilModel", "sends", "(IIIIII)V"⟩, 26)) (List.mem_append_right _ (List.mem_append_left _ (List.mem_of_getElem? (i := 8) rfl)))
theorem us_1_9 : Cond.selects "CommitCouncilModel" (⟨"CommitCouncilModel", "isMessage", "(I)Z"⟩ : MethodName) (⟨"CommitCouncilModel", "isMessage", "(I)Z"⟩ : MethodName) ∈ wsU := wsU_S (q := (⟨"CommitCouncilModel", "isMessage", "(I)Z"⟩, 26)) (List.mem_append_right _ (List.mem_append_left _ (List.mem_of_getElem? (i := 9) rfl)))
theorem us_1_10 : Cond.selects "CommitCouncilModel" (⟨"CommitCouncilModel", "comes", "(I)I"⟩ : MethodName) (⟨"CommitCouncilModel", "comes", "(I)I"⟩ : MethodName) ∈ wsU := wsU_S (q := (⟨"CommitCouncilModel", "comes", "(I)I"⟩, 26)) (List.mem_append_right _ (List.mem_append_left _ (List.mem_of_getElem? (i := 10) rfl)))
theorem us_1_11 : Cond.selects "CommitCouncilModel" (⟨"CommitCouncilModel", "of", "(II)I"⟩ : MethodName) (⟨"CommitCouncilModel", "of", "(II)I"⟩ : MethodName) ∈ wsU := wsU_S (q := (⟨"CommitCouncilModel", "of", "(II)I"⟩, 26)) (List.mem_append_right _ (List.mem_append_left _ (List.mem_of_getElem? (i := 11) rfl)))
theorem us_1_12 : Cond.selects "CommitCouncilModel" (⟨"CommitCouncilModel", "leadsTo", "(I)I"⟩ : MethodName) (⟨"CommitCouncilModel", "leadsTo", "(I)I"⟩ : MethodName) ∈ wsU := wsU_S (q := (⟨"CommitCouncilModel", "leadsTo", "(I)I"⟩, 26)) (List.mem_append_right _ (List.mem_append_left _ (List.mem_of_getElem? (i := 12) rfl)))
theorem us_1_13 : Cond.selects "CommitCouncilModel" (⟨"CommitCouncilModel", "isMost", "(I)Z"⟩ : MethodName) (⟨"CommitCouncilModel", "isMost", "(I)Z"⟩ : MethodName) ∈ wsU := wsU_S (q := (⟨"CommitCouncilModel", "isMost", "(I)Z"⟩, 26)) (List.mem_append_right _ (List.mem_append_left _ (List.mem_of_getElem? (i := 13) rfl)))
theorem us_1_14 : Cond.selects "CommitCouncilModel" (⟨"CommitCouncilModel", "decides", "(I)Z"⟩ : MethodName) (⟨"CommitCouncilModel", "decides", "(I)Z"⟩ : MethodName) ∈ wsU := wsU_S (q := (⟨"CommitCouncilModel", "decides", "(I)Z"⟩, 26)) (List.mem_append_right _ (List.mem_append_left _ (List.mem_of_getElem? (i := 14) rfl)))
theorem us_1_15 : Cond.selects "CommitCouncilModel" (⟨"CommitCouncilModel", "decided", "(II)I"⟩ : MethodName) (⟨"CommitCouncilModel", "decided", "(II)I"⟩ : MethodName) ∈ wsU := wsU_S (q := (⟨"CommitCouncilModel", "decided", "(II)I"⟩, 26)) (List.mem_append_right _ (List.mem_append_left _ (List.mem_of_getElem? (i := 15) rfl)))
theorem us_2_0 : Cond.selects "CommitCouncilModel" (⟨"CommitCouncilModel", "settled", "(III)I"⟩ : MethodName) (⟨"CommitCouncilModel", "settled", "(III)I"⟩ : MethodName) ∈ wsU := wsU_S (q := (⟨"CommitCouncilModel", "settled", "(III)I"⟩, 26)) (List.mem_append_right _ (List.mem_append_right _ (List.mem_of_getElem? (i := 0) rfl)))
theorem us_2_1 : Cond.selects "CommitCouncilModel" (⟨"CommitCouncilModel", "ballotSeen", "(IIII)I"⟩ : MethodName) (⟨"CommitCouncilModel", "ballotSeen", "(IIII)I"⟩ : MethodName) ∈ wsU := wsU_S (q := (⟨"CommitCouncilModel", "ballotSeen", "(IIII)I"⟩, 26)) (List.mem_append_right _ (List.mem_append_right _ (List.mem_of_getElem? (i := 1) rfl)))
theorem us_2_2 : Cond.selects "CommitCouncilModel" (⟨"CommitCouncilModel", "isNew", "(IIII)Z"⟩ : MethodName) (⟨"CommitCouncilModel", "isNew", "(IIII)Z"⟩ : MethodName) ∈ wsU := wsU_S (q := (⟨"CommitCouncilModel", "isNew", "(IIII)Z"⟩, 26)) (List.mem_append_right _ (List.mem_append_right _ (List.mem_of_getElem? (i := 2) rfl)))
theorem us_2_3 : Cond.selects "CommitCouncilModel" (⟨"CommitCouncilModel", "seenAt", "(III)I"⟩ : MethodName) (⟨"CommitCouncilModel", "seenAt", "(III)I"⟩ : MethodName) ∈ wsU := wsU_S (q := (⟨"CommitCouncilModel", "seenAt", "(III)I"⟩, 26)) (List.mem_append_right _ (List.mem_append_right _ (List.mem_of_getElem? (i := 3) rfl)))
theorem us_2_4 : Cond.selects "CommitCouncilModel" (⟨"CommitCouncilModel", "remove", "(I)V"⟩ : MethodName) (⟨"CommitCouncilModel", "remove", "(I)V"⟩ : MethodName) ∈ wsU := wsU_S (q := (⟨"CommitCouncilModel", "remove", "(I)V"⟩, 26)) (List.mem_append_right _ (List.mem_append_right _ (List.mem_of_getElem? (i := 4) rfl)))
theorem us_2_5 : Cond.selects "CommitCouncilModel" (⟨"CommitCouncilModel", "voteComes", "(I)V"⟩ : MethodName) (⟨"CommitCouncilModel", "voteComes", "(I)V"⟩ : MethodName) ∈ wsU := wsU_S (q := (⟨"CommitCouncilModel", "voteComes", "(I)V"⟩, 26)) (List.mem_append_right _ (List.mem_append_right _ (List.mem_of_getElem? (i := 5) rfl)))
theorem us_2_6 : Cond.selects "CommitCouncilModel" (⟨"CommitCouncilModel", "askComes", "(I)V"⟩ : MethodName) (⟨"CommitCouncilModel", "askComes", "(I)V"⟩ : MethodName) ∈ wsU := wsU_S (q := (⟨"CommitCouncilModel", "askComes", "(I)V"⟩, 26)) (List.mem_append_right _ (List.mem_append_right _ (List.mem_of_getElem? (i := 6) rfl)))
theorem us_2_7 : Cond.selects "CommitCouncilModel" (⟨"CommitCouncilModel", "toldComes", "(I)V"⟩ : MethodName) (⟨"CommitCouncilModel", "toldComes", "(I)V"⟩ : MethodName) ∈ wsU := wsU_S (q := (⟨"CommitCouncilModel", "toldComes", "(I)V"⟩, 26)) (List.mem_append_right _ (List.mem_append_right _ (List.mem_of_getElem? (i := 7) rfl)))
theorem us_2_8 : Cond.selects "CommitCouncilModel" (⟨"CommitCouncilModel", "votedComes", "(IZ)V"⟩ : MethodName) (⟨"CommitCouncilModel", "votedComes", "(IZ)V"⟩ : MethodName) ∈ wsU := wsU_S (q := (⟨"CommitCouncilModel", "votedComes", "(IZ)V"⟩, 26)) (List.mem_append_right _ (List.mem_append_right _ (List.mem_of_getElem? (i := 8) rfl)))
theorem us_2_9 : Cond.selects "CommitCouncilModel" (⟨"CommitCouncilModel", "turns", "(IIZ)Z"⟩ : MethodName) (⟨"CommitCouncilModel", "turns", "(IIZ)Z"⟩ : MethodName) ∈ wsU := wsU_S (q := (⟨"CommitCouncilModel", "turns", "(IIZ)Z"⟩, 26)) (List.mem_append_right _ (List.mem_append_right _ (List.mem_of_getElem? (i := 9) rfl)))
theorem us_2_10 : Cond.selects "CommitCouncilModel" (⟨"CommitCouncilModel", "manyOf", "(I)I"⟩ : MethodName) (⟨"CommitCouncilModel", "manyOf", "(I)I"⟩ : MethodName) ∈ wsU := wsU_S (q := (⟨"CommitCouncilModel", "manyOf", "(I)I"⟩, 26)) (List.mem_append_right _ (List.mem_append_right _ (List.mem_of_getElem? (i := 10) rfl)))
theorem us_2_11 : Cond.selects "CommitCouncilModel" (⟨"CommitCouncilModel", "isAcceptor", "(I)Z"⟩ : MethodName) (⟨"CommitCouncilModel", "isAcceptor", "(I)Z"⟩ : MethodName) ∈ wsU := wsU_S (q := (⟨"CommitCouncilModel", "isAcceptor", "(I)Z"⟩, 26)) (List.mem_append_right _ (List.mem_append_right _ (List.mem_of_getElem? (i := 11) rfl)))
theorem wsU_g {w x : Cond} (h : w ∈ wsU) : w ∈ x :: wsU ∧ ((w.onTables && w.keeps) = true ∨ ∃ ty, w = .arrayClass ty) := ⟨List.mem_cons_of_mem _ h, good_of_word (List.mem_filter.mp h).2⟩
theorem gU_V {x : Cond} {own C : String} {idx nL : Nat} {y : MethodName} {cc : ByteArray} {ret : Option FieldType} (h1 : Cond.methodLink own idx y ∈ wsU) (h2 : Cond.instanceMethod y ∈ wsU) (h3 : Cond.selects C y y ∈ wsU) (h4 : Cond.initialized C ∈ wsU) (h5 : Cond.code y cc nL ret ∈ wsU) : GoodIn (x :: wsU) (wsV own idx C y (Cond.code y cc nL ret :: wsU)) := by
  intro w hw
  rcases List.mem_append.mp hw with h | h
  · simp only [List.mem_cons, List.not_mem_nil, or_false] at h
    rcases h with rfl | rfl | rfl | rfl
    · exact wsU_g h1
    · exact wsU_g h2
    · exact wsU_g h3
    · exact wsU_g h4
  · rcases List.mem_cons.mp h with rfl | h
    · exact wsU_g h5
    · exact wsU_g h
theorem gU_S {x : Cond} {own : String} {idx nL : Nat} {y : MethodName} {cc : ByteArray} {ret : Option FieldType} (h1 : Cond.methodLink own idx y ∈ wsU) (h2 : Cond.static y ∈ wsU) (h3 : Cond.initialized y.cls ∈ wsU) (h5 : Cond.code y cc nL ret ∈ wsU) : GoodIn (x :: wsU) (va_wsS own idx y (Cond.code y cc nL ret :: wsU)) := by
  intro w hw
  rcases List.mem_append.mp hw with h | h
  · simp only [List.mem_cons, List.not_mem_nil, or_false] at h
    rcases h with rfl | rfl | rfl
    · exact wsU_g h1
    · exact wsU_g h2
    · exact wsU_g h3
  · rcases List.mem_cons.mp h with rfl | h
    · exact wsU_g h5
    · exact wsU_g h
theorem gU_N {x : Cond} {nL : Nat} {y : MethodName} {cc : ByteArray} {ret : Option FieldType} (h5 : Cond.code y cc nL ret ∈ wsU) : GoodIn (x :: wsU) (Cond.code y cc nL ret :: wsU) := by
  intro w hw
  rcases List.mem_cons.mp hw with rfl | h
  · exact wsU_g h5
  · exact wsU_g h
theorem hU0 : ∀ w ∈ u_ws RX0 TX0 3, w ∈ wsU := List.forall_mem_cons.mpr ⟨uw_1_69, List.forall_mem_cons.mpr ⟨uw_1_65, List.forall_mem_cons.mpr ⟨uw_1_67, fun _ h => absurd h List.not_mem_nil⟩⟩⟩
theorem hU1 : ∀ w ∈ u_ws RX1 TX1 10, w ∈ wsU := List.forall_mem_cons.mpr ⟨uw_1_113, List.forall_mem_cons.mpr ⟨uw_1_95, List.forall_mem_cons.mpr ⟨uw_1_97, List.forall_mem_cons.mpr ⟨uw_1_99, List.forall_mem_cons.mpr ⟨uw_1_101, List.forall_mem_cons.mpr ⟨uw_1_103, List.forall_mem_cons.mpr ⟨uw_1_105, List.forall_mem_cons.mpr ⟨uw_1_107, List.forall_mem_cons.mpr ⟨uw_1_109, List.forall_mem_cons.mpr ⟨uw_1_111, fun _ h => absurd h List.not_mem_nil⟩⟩⟩⟩⟩⟩⟩⟩⟩⟩
theorem hU2 : ∀ w ∈ u_ws RX2 TX2 4, w ∈ wsU := List.forall_mem_cons.mpr ⟨uw_1_148, List.forall_mem_cons.mpr ⟨uw_1_150, List.forall_mem_cons.mpr ⟨uw_1_152, List.forall_mem_cons.mpr ⟨uw_1_154, fun _ h => absurd h List.not_mem_nil⟩⟩⟩⟩
theorem hU3 : ∀ w ∈ u_ws RX3 TX3 4, w ∈ wsU := List.forall_mem_cons.mpr ⟨uw_1_127, List.forall_mem_cons.mpr ⟨uw_1_129, List.forall_mem_cons.mpr ⟨uw_1_131, List.forall_mem_cons.mpr ⟨uw_1_133, fun _ h => absurd h List.not_mem_nil⟩⟩⟩⟩
theorem hU4 : ∀ w ∈ u_ws RX4 TX4 3, w ∈ wsU := List.forall_mem_cons.mpr ⟨uw_1_51, List.forall_mem_cons.mpr ⟨uw_1_47, List.forall_mem_cons.mpr ⟨uw_1_49, fun _ h => absurd h List.not_mem_nil⟩⟩⟩
theorem hU6 : ∀ w ∈ u_ws RX6 TX6 7, w ∈ wsU := List.forall_mem_cons.mpr ⟨uw_1_165, List.forall_mem_cons.mpr ⟨uw_1_167, List.forall_mem_cons.mpr ⟨uw_1_169, List.forall_mem_cons.mpr ⟨uw_1_171, List.forall_mem_cons.mpr ⟨uw_1_173, List.forall_mem_cons.mpr ⟨uw_1_175, List.forall_mem_cons.mpr ⟨uw_1_177, fun _ h => absurd h List.not_mem_nil⟩⟩⟩⟩⟩⟩⟩
theorem hU7 : ∀ w ∈ u_ws RX7 TX7 26, w ∈ wsU := List.forall_mem_cons.mpr ⟨uw_3_148, List.forall_mem_cons.mpr ⟨uw_3_150, List.forall_mem_cons.mpr ⟨uw_3_152, List.forall_mem_cons.mpr ⟨uw_3_154, List.forall_mem_cons.mpr ⟨uw_3_156, List.forall_mem_cons.mpr ⟨uw_3_158, List.forall_mem_cons.mpr ⟨uw_3_160, List.forall_mem_cons.mpr ⟨uw_3_162, List.forall_mem_cons.mpr ⟨uw_3_164, List.forall_mem_cons.mpr ⟨uw_3_166, List.forall_mem_cons.mpr ⟨uw_3_168, List.forall_mem_cons.mpr ⟨uw_3_170, List.forall_mem_cons.mpr ⟨uw_3_172, List.forall_mem_cons.mpr ⟨uw_3_174, List.forall_mem_cons.mpr ⟨uw_3_176, List.forall_mem_cons.mpr ⟨uw_3_178, List.forall_mem_cons.mpr ⟨uw_3_180, List.forall_mem_cons.mpr ⟨uw_3_182, List.forall_mem_cons.mpr ⟨uw_3_184, List.forall_mem_cons.mpr ⟨uw_3_186, List.forall_mem_cons.mpr ⟨uw_3_188, List.forall_mem_cons.mpr ⟨uw_3_190, List.forall_mem_cons.mpr ⟨uw_3_192, List.forall_mem_cons.mpr ⟨uw_3_194, List.forall_mem_cons.mpr ⟨uw_3_196, List.forall_mem_cons.mpr ⟨uw_3_198, fun _ h => absurd h List.not_mem_nil⟩⟩⟩⟩⟩⟩⟩⟩⟩⟩⟩⟩⟩⟩⟩⟩⟩⟩⟩⟩⟩⟩⟩⟩⟩⟩
end
section
abbrev mX5_init : gM := (yX5_init, cX5_init, 1, Cond.code yX5_init cX5_init 1 none :: wsU, 1, 20, none)
abbrev mX0_init : gM := (yX0_init, cX0_init, 2, Cond.code yX0_init cX0_init 2 none :: wsU, 2, 40, none)
abbrev mX6_voteOf : gM := (yX6_voteOf, cX6_voteOf, 2, Cond.code yX6_voteOf cX6_voteOf 2 (some .int) :: wsU, 0, 0, (some .int))
abbrev mX0_accept : gM := (yX0_accept, cX0_accept, 4, Cond.code yX0_accept cX0_accept 4 none :: wsU, 1, 21, none)
abbrev mX1_init : gM := (yX1_init, cX1_init, 3, Cond.code yX1_init cX1_init 3 none :: wsU, 2, 40, none)
abbrev mJ7_fill_53178 : gM := (yJ7_fill_53178, cJ7_fill_53178, 4, Cond.code yJ7_fill_53178 cJ7_fill_53178 4 none :: wsU, 0, 0, none)
abbrev mX1_startAsking : gM := (yX1_startAsking, cX1_startAsking, 2, Cond.code yX1_startAsking cX1_startAsking 2 none :: wsU, 1, 23, none)
abbrev mX1_keeps : gM := (yX1_keeps, cX1_keeps, 3, Cond.code yX1_keeps cX1_keeps 3 (some .boolean) :: wsU, 0, 0, (some .boolean))
abbrev mJ6_bitCount_0f7a4 : gM := (yJ6_bitCount_0f7a4, cJ6_bitCount_0f7a4, 1, Cond.code yJ6_bitCount_0f7a4 cJ6_bitCount_0f7a4 1 (some .int) :: wsU, 0, 0, (some .int))
abbrev mX1_oneMoreIsEnough : gM := (yX1_oneMoreIsEnough, cX1_oneMoreIsEnough, 1, Cond.code yX1_oneMoreIsEnough cX1_oneMoreIsEnough 1 (some .boolean) :: wsU, 1, 20, (some .boolean))
abbrev mX1_sightOf : gM := (yX1_sightOf, cX1_sightOf, 4, Cond.code yX1_sightOf cX1_sightOf 4 (some .int) :: wsU, 0, 0, (some .int))
abbrev mX6_ballotOf : gM := (yX6_ballotOf, cX6_ballotOf, 1, Cond.code yX6_ballotOf cX6_ballotOf 1 (some .int) :: wsU, 0, 0, (some .int))
abbrev mX6_wordOf : gM := (yX6_wordOf, cX6_wordOf, 1, Cond.code yX6_wordOf cX6_wordOf 1 (some .int) :: wsU, 0, 0, (some .int))
abbrev mX1_outcomeAfter : gM := (yX1_outcomeAfter, cX1_outcomeAfter, 6, Cond.code yX1_outcomeAfter cX1_outcomeAfter 6 (some .int) :: wsU, 1, 23, (some .int))
abbrev mX1_decisionAfter : gM := (yX1_decisionAfter, cX1_decisionAfter, 6, Cond.code yX1_decisionAfter cX1_decisionAfter 6 (some .int) :: wsU, 2, 48, (some .int))
abbrev mX1_see : gM := (yX1_see, cX1_see, 7, Cond.code yX1_see cX1_see 7 none :: wsU, 3, 73, none)
abbrev mX1_forget : gM := (yX1_forget, cX1_forget, 1, Cond.code yX1_forget cX1_forget 1 none :: wsU, 1, 23, none)
abbrev mX2_init : gM := (yX2_init, cX2_init, 3, Cond.code yX2_init cX2_init 3 none :: wsU, 1, 20, none)
abbrev mX2_enter : gM := (yX2_enter, cX2_enter, 7, Cond.code yX2_enter cX2_enter 7 none :: wsU, 1, 20, none)
abbrev mX3_init : gM := (yX3_init, cX3_init, 2, Cond.code yX3_init cX3_init 2 none :: wsU, 1, 20, none)
abbrev mX3_hasRoomFor : gM := (yX3_hasRoomFor, cX3_hasRoomFor, 2, Cond.code yX3_hasRoomFor cX3_hasRoomFor 2 (some .boolean) :: wsU, 0, 0, (some .boolean))
abbrev mX3_send : gM := (yX3_send, cX3_send, 8, Cond.code yX3_send cX3_send 8 none :: wsU, 0, 0, none)
abbrev mX3_attach : gM := (yX3_attach, cX3_attach, 2, Cond.code yX3_attach cX3_attach 2 none :: wsU, 1, 60, none)
abbrev mX3_sendLike : gM := (yX3_sendLike, cX3_sendLike, 2, Cond.code yX3_sendLike cX3_sendLike 2 none :: wsU, 1, 60, none)
abbrev mX3_remove : gM := (yX3_remove, cX3_remove, 2, Cond.code yX3_remove cX3_remove 2 none :: wsU, 1, 60, none)
abbrev mX3_part : gM := (yX3_part, cX3_part, 3, Cond.code yX3_part cX3_part 3 (some .int) :: wsU, 0, 0, (some .int))
abbrev mX3_tidings : gM := (yX3_tidings, cX3_tidings, 3, Cond.code yX3_tidings cX3_tidings 3 (some .int) :: wsU, 0, 0, (some .int))
abbrev mX4_init : gM := (yX4_init, cX4_init, 1, Cond.code yX4_init cX4_init 1 none :: wsU, 2, 40, none)
abbrev mX5_forget : gM := (yX5_forget, cX5_forget, 1, Cond.code yX5_forget cX5_forget 1 none :: wsU, 0, 0, none)
abbrev mX6_init : gM := (yX6_init, cX6_init, 6, Cond.code yX6_init cX6_init 6 none :: wsU, 3, 62, none)
abbrev mX6_checkOne : gM := (yX6_checkOne, cX6_checkOne, 2, Cond.code yX6_checkOne cX6_checkOne 2 none :: wsU, 6, 90, none)
abbrev mX6_sendVotes : gM := (yX6_sendVotes, cX6_sendVotes, 5, Cond.code yX6_sendVotes cX6_sendVotes 5 none :: wsU, 1, 27, none)
abbrev mX6_propose : gM := (yX6_propose, cX6_propose, 5, Cond.code yX6_propose cX6_propose 5 (some .boolean) :: wsU, 2, 51, (some .boolean))
abbrev mX6_prepare : gM := (yX6_prepare, cX6_prepare, 2, Cond.code yX6_prepare cX6_prepare 2 (some .boolean) :: wsU, 7, 111, (some .boolean))
abbrev mX6_refuse : gM := (yX6_refuse, cX6_refuse, 2, Cond.code yX6_refuse cX6_refuse 2 (some .boolean) :: wsU, 7, 111, (some .boolean))
abbrev mX6_resend : gM := (yX6_resend, cX6_resend, 4, Cond.code yX6_resend cX6_resend 4 (some .boolean) :: wsU, 7, 111, (some .boolean))
abbrev mX6_question : gM := (yX6_question, cX6_question, 3, Cond.code yX6_question cX6_question 3 (some .boolean) :: wsU, 7, 111, (some .boolean))
abbrev mX6_leastOwnAbove : gM := (yX6_leastOwnAbove, cX6_leastOwnAbove, 3, Cond.code yX6_leastOwnAbove cX6_leastOwnAbove 3 (some .int) :: wsU, 0, 0, (some .int))
abbrev mX6_sendDecisions : gM := (yX6_sendDecisions, cX6_sendDecisions, 3, Cond.code yX6_sendDecisions cX6_sendDecisions 3 none :: wsU, 1, 27, none)
abbrev mX6_begin : gM := (yX6_begin, cX6_begin, 6, Cond.code yX6_begin cX6_begin 6 (some .int) :: wsU, 7, 111, (some .int))
abbrev mX6_isUp : gM := (yX6_isUp, cX6_isUp, 3, Cond.code yX6_isUp cX6_isUp 3 (some .boolean) :: wsU, 0, 0, (some .boolean))
abbrev mX6_answersTo : gM := (yX6_answersTo, cX6_answersTo, 9, Cond.code yX6_answersTo cX6_answersTo 9 (some .int) :: wsU, 3, 73, (some .int))
abbrev mX6_takeVote : gM := (yX6_takeVote, cX6_takeVote, 7, Cond.code yX6_takeVote cX6_takeVote 7 none :: wsU, 2, 46, none)
abbrev mX6_takeVoted : gM := (yX6_takeVoted, cX6_takeVoted, 6, Cond.code yX6_takeVoted cX6_takeVoted 6 none :: wsU, 4, 99, none)
abbrev mJ9_floorMod_7cf53 : gM := (yJ9_floorMod_7cf53, cJ9_floorMod_7cf53, 3, Cond.code yJ9_floorMod_7cf53 cJ9_floorMod_7cf53 3 (some .int) :: wsU, 0, 0, (some .int))
abbrev mX6_leaderOf : gM := (yX6_leaderOf, cX6_leaderOf, 1, Cond.code yX6_leaderOf cX6_leaderOf 1 (some .int) :: wsU, 1, 22, (some .int))
abbrev mX6_takeAsk : gM := (yX6_takeAsk, cX6_takeAsk, 4, Cond.code yX6_takeAsk cX6_takeAsk 4 none :: wsU, 2, 81, none)
abbrev mX6_startVoting : gM := (yX6_startVoting, cX6_startVoting, 4, Cond.code yX6_startVoting cX6_startVoting 4 none :: wsU, 2, 51, none)
abbrev mX6_takeTold : gM := (yX6_takeTold, cX6_takeTold, 7, Cond.code yX6_takeTold cX6_takeTold 7 none :: wsU, 3, 74, none)
abbrev mX6_takeQuestion : gM := (yX6_takeQuestion, cX6_takeQuestion, 3, Cond.code yX6_takeQuestion cX6_takeQuestion 3 none :: wsU, 1, 27, none)
abbrev mX6_take : gM := (yX6_take, cX6_take, 5, Cond.code yX6_take cX6_take 5 none :: wsU, 5, 124, none)
abbrev mX6_bring : gM := (yX6_bring, cX6_bring, 6, Cond.code yX6_bring cX6_bring 6 (some .int) :: wsU, 6, 148, (some .int))
abbrev mX6_deliver : gM := (yX6_deliver, cX6_deliver, 2, Cond.code yX6_deliver cX6_deliver 2 (some .int) :: wsU, 7, 173, (some .int))
abbrev mX6_drop : gM := (yX6_drop, cX6_drop, 2, Cond.code yX6_drop cX6_drop 2 none :: wsU, 7, 111, none)
abbrev mX6_copy : gM := (yX6_copy, cX6_copy, 2, Cond.code yX6_copy cX6_copy 2 (some .int) :: wsU, 7, 111, (some .int))
abbrev mX6_calm : gM := (yX6_calm, cX6_calm, 3, Cond.code yX6_calm cX6_calm 3 (some .int) :: wsU, 7, 173, (some .int))
abbrev mX6_memberOf : gM := (yX6_memberOf, cX6_memberOf, 3, Cond.code yX6_memberOf cX6_memberOf 3 (some (.object "CommitCouncil$Member")) :: wsU, 7, 111, (some (.object "CommitCouncil$Member")))
abbrev mX6_crash : gM := (yX6_crash, cX6_crash, 4, Cond.code yX6_crash cX6_crash 4 (some .boolean) :: wsU, 8, 133, (some .boolean))
abbrev mX6_recover : gM := (yX6_recover, cX6_recover, 5, Cond.code yX6_recover cX6_recover 5 (some .boolean) :: wsU, 8, 133, (some .boolean))
abbrev mX6_message : gM := (yX6_message, cX6_message, 3, Cond.code yX6_message cX6_message 3 (some .int) :: wsU, 7, 111, (some .int))
abbrev mX6_told : gM := (yX6_told, cX6_told, 5, Cond.code yX6_told cX6_told 5 (some .int) :: wsU, 7, 111, (some .int))
abbrev mX6_manager : gM := (yX6_manager, cX6_manager, 4, Cond.code yX6_manager cX6_manager 4 (some .int) :: wsU, 7, 111, (some .int))
abbrev mX6_acceptor : gM := (yX6_acceptor, cX6_acceptor, 5, Cond.code yX6_acceptor cX6_acceptor 5 (some .int) :: wsU, 7, 111, (some .int))
abbrev mX6_leader : gM := (yX6_leader, cX6_leader, 4, Cond.code yX6_leader cX6_leader 4 (some .int) :: wsU, 7, 111, (some .int))
abbrev mX6_outcome : gM := (yX6_outcome, cX6_outcome, 3, Cond.code yX6_outcome cX6_outcome 3 (some .int) :: wsU, 7, 111, (some .int))
abbrev mX6_seen : gM := (yX6_seen, cX6_seen, 4, Cond.code yX6_seen cX6_seen 4 (some .int) :: wsU, 7, 111, (some .int))
abbrev mX6_chosen : gM := (yX6_chosen, cX6_chosen, 2, Cond.code yX6_chosen cX6_chosen 2 (some .int) :: wsU, 7, 111, (some .int))
abbrev mX6_howManyUp : gM := (yX6_howManyUp, cX6_howManyUp, 5, Cond.code yX6_howManyUp cX6_howManyUp 5 (some .int) :: wsU, 8, 133, (some .int))
abbrev mX6_howManyManagers : gM := (yX6_howManyManagers, cX6_howManyManagers, 4, Cond.code yX6_howManyManagers cX6_howManyManagers 4 (some .int) :: wsU, 0, 0, (some .int))
abbrev mX6_count : gM := (yX6_count, cX6_count, 2, Cond.code yX6_count cX6_count 2 (some .int) :: wsU, 9, 157, (some .int))
abbrev mX6_isBackedByChosen : gM := (yX6_isBackedByChosen, cX6_isBackedByChosen, 5, Cond.code yX6_isBackedByChosen cX6_isBackedByChosen 5 (some .boolean) :: wsU, 0, 0, (some .boolean))
abbrev mX6_astray : gM := (yX6_astray, cX6_astray, 4, Cond.code yX6_astray cX6_astray 4 (some .int) :: wsU, 1, 24, (some .int))
abbrev mX7_init : gM := (yX7_init, cX7_init, 5, Cond.code yX7_init cX7_init 5 none :: wsU, 1, 20, none)
abbrev mX7_thrown : gM := (yX7_thrown, cX7_thrown, 1, Cond.code yX7_thrown cX7_thrown 1 (some .int) :: wsU, 0, 0, (some .int))
abbrev mX7_lacks : gM := (yX7_lacks, cX7_lacks, 2, Cond.code yX7_lacks cX7_lacks 2 (some .boolean) :: wsU, 0, 0, (some .boolean))
abbrev mX7_isManager : gM := (yX7_isManager, cX7_isManager, 2, Cond.code yX7_isManager cX7_isManager 2 (some .boolean) :: wsU, 0, 0, (some .boolean))
abbrev mX7_isAcceptor : gM := (yX7_isAcceptor, cX7_isAcceptor, 2, Cond.code yX7_isAcceptor cX7_isAcceptor 2 (some .boolean) :: wsU, 0, 0, (some .boolean))
abbrev mX7_isLeader : gM := (yX7_isLeader, cX7_isLeader, 1, Cond.code yX7_isLeader cX7_isLeader 1 (some .boolean) :: wsU, 0, 0, (some .boolean))
abbrev mX7_isMessage : gM := (yX7_isMessage, cX7_isMessage, 2, Cond.code yX7_isMessage cX7_isMessage 2 (some .boolean) :: wsU, 0, 0, (some .boolean))
abbrev mX7_of : gM := (yX7_of, cX7_of, 3, Cond.code yX7_of cX7_of 3 (some .int) :: wsU, 0, 0, (some .int))
abbrev mX7_sends : gM := (yX7_sends, cX7_sends, 9, Cond.code yX7_sends cX7_sends 9 none :: wsU, 0, 0, none)
abbrev mX7_votes : gM := (yX7_votes, cX7_votes, 5, Cond.code yX7_votes cX7_votes 5 none :: wsU, 1, 28, none)
abbrev mX7_hasRoom : gM := (yX7_hasRoom, cX7_hasRoom, 2, Cond.code yX7_hasRoom cX7_hasRoom 2 (some .boolean) :: wsU, 0, 0, (some .boolean))
abbrev mX7_becomes : gM := (yX7_becomes, cX7_becomes, 3, Cond.code yX7_becomes cX7_becomes 3 (some .boolean) :: wsU, 2, 52, (some .boolean))
abbrev mX7_prepare : gM := (yX7_prepare, cX7_prepare, 2, Cond.code yX7_prepare cX7_prepare 2 (some .boolean) :: wsU, 3, 74, (some .boolean))
abbrev mX7_refuse : gM := (yX7_refuse, cX7_refuse, 2, Cond.code yX7_refuse cX7_refuse 2 (some .boolean) :: wsU, 3, 74, (some .boolean))
abbrev mX7_resend : gM := (yX7_resend, cX7_resend, 2, Cond.code yX7_resend cX7_resend 2 (some .boolean) :: wsU, 2, 52, (some .boolean))
abbrev mX7_question : gM := (yX7_question, cX7_question, 3, Cond.code yX7_question cX7_question 3 (some .boolean) :: wsU, 1, 28, (some .boolean))
abbrev mX7_begin : gM := (yX7_begin, cX7_begin, 4, Cond.code yX7_begin cX7_begin 4 (some .int) :: wsU, 1, 28, (some .int))
abbrev mX7_remove : gM := (yX7_remove, cX7_remove, 3, Cond.code yX7_remove cX7_remove 3 none :: wsU, 0, 0, none)
abbrev mX7_bits : gM := (yX7_bits, cX7_bits, 3, Cond.code yX7_bits cX7_bits 3 (some .int) :: wsU, 0, 0, (some .int))
abbrev mX7_isMost : gM := (yX7_isMost, cX7_isMost, 2, Cond.code yX7_isMost cX7_isMost 2 (some .boolean) :: wsU, 0, 0, (some .boolean))
abbrev mX7_seenAt : gM := (yX7_seenAt, cX7_seenAt, 4, Cond.code yX7_seenAt cX7_seenAt 4 (some .int) :: wsU, 0, 0, (some .int))
abbrev mX7_isNew : gM := (yX7_isNew, cX7_isNew, 5, Cond.code yX7_isNew cX7_isNew 5 (some .boolean) :: wsU, 1, 23, (some .boolean))
abbrev mX7_ballotSeen : gM := (yX7_ballotSeen, cX7_ballotSeen, 5, Cond.code yX7_ballotSeen cX7_ballotSeen 5 (some .int) :: wsU, 2, 47, (some .int))
abbrev mX7_settled : gM := (yX7_settled, cX7_settled, 8, Cond.code yX7_settled cX7_settled 8 (some .int) :: wsU, 3, 71, (some .int))
abbrev mX7_decided : gM := (yX7_decided, cX7_decided, 6, Cond.code yX7_decided cX7_decided 6 (some .int) :: wsU, 4, 98, (some .int))
abbrev mX7_decides : gM := (yX7_decides, cX7_decides, 3, Cond.code yX7_decides cX7_decides 3 (some .boolean) :: wsU, 5, 123, (some .boolean))
abbrev mX7_leadsTo : gM := (yX7_leadsTo, cX7_leadsTo, 4, Cond.code yX7_leadsTo cX7_leadsTo 4 (some .int) :: wsU, 6, 145, (some .int))
abbrev mX7_voteComes : gM := (yX7_voteComes, cX7_voteComes, 6, Cond.code yX7_voteComes cX7_voteComes 6 none :: wsU, 1, 28, none)
abbrev mX7_askComes : gM := (yX7_askComes, cX7_askComes, 5, Cond.code yX7_askComes cX7_askComes 5 none :: wsU, 1, 28, none)
abbrev mX7_toldComes : gM := (yX7_toldComes, cX7_toldComes, 8, Cond.code yX7_toldComes cX7_toldComes 8 none :: wsU, 2, 52, none)
abbrev mX7_votedComes : gM := (yX7_votedComes, cX7_votedComes, 6, Cond.code yX7_votedComes cX7_votedComes 6 none :: wsU, 5, 123, none)
abbrev mX7_comes : gM := (yX7_comes, cX7_comes, 6, Cond.code yX7_comes cX7_comes 6 (some .int) :: wsU, 7, 168, (some .int))
abbrev mX7_deliver : gM := (yX7_deliver, cX7_deliver, 2, Cond.code yX7_deliver cX7_deliver 2 (some .int) :: wsU, 8, 193, (some .int))
abbrev mX7_drop : gM := (yX7_drop, cX7_drop, 2, Cond.code yX7_drop cX7_drop 2 none :: wsU, 1, 22, none)
abbrev mX7_copy : gM := (yX7_copy, cX7_copy, 3, Cond.code yX7_copy cX7_copy 3 (some .int) :: wsU, 1, 22, (some .int))
abbrev mX7_calm : gM := (yX7_calm, cX7_calm, 3, Cond.code yX7_calm cX7_calm 3 (some .int) :: wsU, 8, 193, (some .int))
abbrev mX7_manyOf : gM := (yX7_manyOf, cX7_manyOf, 2, Cond.code yX7_manyOf cX7_manyOf 2 (some .int) :: wsU, 0, 0, (some .int))
abbrev mX7_turns : gM := (yX7_turns, cX7_turns, 6, Cond.code yX7_turns cX7_turns 6 (some .boolean) :: wsU, 1, 23, (some .boolean))
abbrev mX7_crash : gM := (yX7_crash, cX7_crash, 3, Cond.code yX7_crash cX7_crash 3 (some .boolean) :: wsU, 2, 48, (some .boolean))
abbrev mX7_recover : gM := (yX7_recover, cX7_recover, 3, Cond.code yX7_recover cX7_recover 3 (some .boolean) :: wsU, 2, 48, (some .boolean))
abbrev mX7_message : gM := (yX7_message, cX7_message, 3, Cond.code yX7_message cX7_message 3 (some .int) :: wsU, 1, 22, (some .int))
abbrev mX7_told : gM := (yX7_told, cX7_told, 4, Cond.code yX7_told cX7_told 4 (some .int) :: wsU, 1, 22, (some .int))
abbrev mX7_manager : gM := (yX7_manager, cX7_manager, 3, Cond.code yX7_manager cX7_manager 3 (some .int) :: wsU, 1, 21, (some .int))
abbrev mX7_acceptor : gM := (yX7_acceptor, cX7_acceptor, 4, Cond.code yX7_acceptor cX7_acceptor 4 (some .int) :: wsU, 1, 21, (some .int))
abbrev mX7_leader : gM := (yX7_leader, cX7_leader, 3, Cond.code yX7_leader cX7_leader 3 (some .int) :: wsU, 1, 22, (some .int))
abbrev mX7_outcome : gM := (yX7_outcome, cX7_outcome, 3, Cond.code yX7_outcome cX7_outcome 3 (some .int) :: wsU, 1, 21, (some .int))
abbrev mX7_seen : gM := (yX7_seen, cX7_seen, 4, Cond.code yX7_seen cX7_seen 4 (some .int) :: wsU, 1, 23, (some .int))
abbrev mX7_chosen : gM := (yX7_chosen, cX7_chosen, 3, Cond.code yX7_chosen cX7_chosen 3 (some .int) :: wsU, 1, 22, (some .int))
abbrev mX7_count : gM := (yX7_count, cX7_count, 4, Cond.code yX7_count cX7_count 4 (some .int) :: wsU, 1, 21, (some .int))
abbrev mX7_astray : gM := (yX7_astray, cX7_astray, 1, Cond.code yX7_astray cX7_astray 1 (some .int) :: wsU, 0, 0, (some .int))
abbrev mJ9_max_7cf53 : gM := (yJ9_max_7cf53, cJ9_max_7cf53, 2, Cond.code yJ9_max_7cf53 cJ9_max_7cf53 2 (some .int) :: wsU, 0, 0, (some .int))
end
section
/-! A THROW in the logic: throw new E("text") -/
section GT
variable {G : gG} {M : gM} {b pc : Nat} {lv : List (Option gAV)} {st : List gAV} {σ : gSt} {Q : gOut → gSt → Prop}
theorem gEx.top {x v : gAV} (h : x = v) (k : gEx G M b pc lv (v :: st) σ Q) : gEx G M b pc lv (x :: st) σ Q := by subst h; exact k
theorem gEx.sto {σ' : gSt} (h : σ = σ') (k : gEx G M b pc lv st σ' Q) : gEx G M b pc lv st σ Q := by subst h; exact k
theorem g_throw {ik is ic : Nat} {text : String} (k : Nat)
    (hstr : ∀ (A : Nat → Prop) (U : State) (H : Heap), gEnv A U H → ∃ a, vk_R M.y.cls is text a U)
    (hfit : Bundle.fit (gE k) = true) (hnames : ∀ n ∈ ["java/lang/RuntimeException", "java/lang/Exception"], Bundle.fit n = true)
    (hk : Cond.classLink M.y.cls ik (gE k) ∈ M.ws) (hini : Cond.initialized (gE k) ∈ M.ws)
    (hat1 : ∀ w ∈ (vx_atS M.y.cls ic (gE k) ["java/lang/RuntimeException", "java/lang/Exception"]).filter goodWord, w ∈ M.ws)
    (hat2 : ∀ w ∈ (vx_atS M.y.cls ic (gE k) ["java/lang/RuntimeException", "java/lang/Exception"]).filter (fun w => !goodWord w), w ∈ gCast)
    (hgood : ∀ w ∈ Cond.classLink M.y.cls ik (gE k) :: Cond.initialized (gE k) :: vx_atS M.y.cls ic (gE k) ["java/lang/RuntimeException", "java/lang/Exception"], vx_ot w = true)
    (d0 : decode M.cc pc = .ok (.new ik, 3)) (d3 : decode M.cc (pc + 3) = .ok (.dup, 1)) (d4 : decode M.cc (pc + 4) = .ok (.ldc is, 2)) (d6 : decode M.cc (pc + 6) = .ok (.invokespecial ic, 3)) (d9 : decode M.cc (pc + 9) = .ok (.athrow, 1))
    (hR : 6 ≤ M.fr ∧ st.length + 82 ≤ M.lo) (hb : 1 ≤ b) (hq : Q (.inr k) σ) : gEx G M b pc lv st σ Q := by
  intro p l e R s m args below meth c D cy ad H locs cells slots mc ms ls C X L
  have hc9 := C.2.2.2.2.2.2.2.1
  have hr9 := C.2.2.2.1
  have hE0 : gEnv (gA G ad s.heap.size) s s.heap := X.2.2.kept (fun a _ hn => by
    have hlt : a < s.heap.size := Nat.lt_of_not_le (fun z => hn (gA_new z))
    rw [X.2.1.2.1 a hlt hn])
  obtain ⟨sa, hsa⟩ := hstr _ _ _ hE0
  obtain ⟨-, hcast, -, -, -, hU, hN⟩ := hE0
  refine vx_throwS (A := gA G ad s.heap.size) (sa := sa) (text := text) (cls := gE k) (names := ["java/lang/RuntimeException", "java/lang/Exception"]) (ik := ik) (is := is) (ic := ic) C.1.1 C.1.2.1 C.2.1 C.1.2.2.2.1 hfit hnames (C.1.2.2.2.2 _ hk) (C.1.2.2.2.2 _ hini) hsa
    (vx_hat (fun w hw => C.1.2.2.2.2 _ (hat1 w hw)) hat2 (fun w hw => ?_)) hgood hU hN X.2.1 (L.1.trans C.1.2.2.1.symm) d0 d3 d4 d6 d9 (fun x hx => (C.2.2.2.2.1 x hx).elim) (by show 2 + 3 < R.frames; omega) (by rw [gv_sum]; show st.length + (13 * (2 + 1) + 43) ≤ R.locals; omega) (by omega) (by omega) C.2.2.2.2.2.1
    (fun t _ hz hk9 => ⟨⟨k, σ, rfl, hq, gP_kept X.1 (fun a ha => hk9 _ (X.1 a ha).lt)⟩, ⟨Nat.le_trans X.2.1.1 hz, fun q h1 h2 => by rw [hk9 q (Nat.lt_of_lt_of_le h1 X.2.1.1)]; exact X.2.1.2.1 q h1 h2⟩⟩) X.2.1.2.2 (by omega) (by omega)
  have h0 := hcast w hw
  unfold gCast at hw
  simp only [List.mem_cons, List.not_mem_nil, or_false] at hw
  rcases hw with rfl | rfl | rfl | rfl | rfl <;> exact va_Nw.use rfl h0
/-- CommitCouncil.checkOne -/
theorem wsU_x0 : ∀ w ∈ (vx_atS RX6 194 "java/lang/IndexOutOfBoundsException" ["java/lang/RuntimeException", "java/lang/Exception"]).filter goodWord, w ∈ lw_tbl := by decide +kernel
theorem wsU_x1 : ∀ w ∈ (vx_atS RX6 115 "java/lang/IllegalArgumentException" ["java/lang/RuntimeException", "java/lang/Exception"]).filter goodWord, w ∈ lw_tbl := by decide +kernel
theorem g_throw_one (hq : Q (.inr 0) σ) (hb : 1 ≤ b) : gEx G mX6_checkOne b 9 lv [] σ Q :=
  g_throw (ik := 190) (is := 192) (ic := 194) 0 (fun A U H h => h.2.2.2.1) (by decide +kernel) (by decide +kernel) (List.mem_cons_of_mem _ uw_1_195) (List.mem_cons_of_mem _ uw_1_12) (fun w hw => List.mem_cons_of_mem _ (List.mem_filter.mpr ⟨wsU_x0 w hw, (List.mem_filter.mp hw).2⟩)) (by decide +kernel) (by decide +kernel)
    (by decide +kernel) (by decide +kernel) (by decide +kernel) (by decide +kernel) (by decide +kernel) ⟨by decide, by decide⟩ hb hq
theorem g_ldcw {i : Nat} (v : Int32) (d : decode M.cc pc = .ok (.ldc_w i, 3)) (hw : Cond.constant M.y.cls i v ∈ M.ws) (k : gEx G M b (pc + 3) lv (.inl v :: st) σ Q) : gEx G M b pc lv st σ Q := by
  intro p l e R s m args below meth c D cy ad H locs cells slots mc ms ls C X L
  exact lv_ldcw C.1.1 C.1.2.1 C.1.2.2.2.1 (C.1.2.2.2.2 _ hw) d (k p l e R s m args below meth c D cy ad H locs cells slots mc ms ls C X L)
theorem g_max {i : Nat} {x y : Int32} (d : decode M.cc pc = .ok (.invokestatic i, 3)) (hl : Cond.methodLink M.y.cls i Lib.Math.max.name ∈ M.ws) (hs : Cond.static Lib.Math.max.name ∈ M.ws) (hi : Cond.initialized "java/lang/Math" ∈ M.ws) (hc : Cond.code Lib.Math.max.name Lib.Math.max.code 2 (some .int) ∈ M.ws) (hR : 1 ≤ M.fr ∧ st.length + 13 ≤ M.lo)
    (k : gEx G M b (pc + 3) lv (.inl (if x < y then y else x) :: st) σ Q) : gEx G M b pc lv (.inl y :: .inl x :: st) σ Q := by
  intro p l e R s m args below meth c D cy ad H locs cells slots mc ms ls C X L
  have hc9 := C.2.2.2.2.2.2.2.1
  have hr9 := C.2.2.2.1
  exact va_mmax C.1.1 C.1.2.1 (C.1.2.2.1.trans L.1.symm) C.1.2.2.2.1 (C.1.2.2.2.2 _ hl) (C.1.2.2.2.2 _ hs) (C.1.2.2.2.2 _ hi) (C.1.2.2.2.2 _ hc) (by omega) (by rw [gv_sum]; omega) (by omega) (by omega) d (k p l e R s m args below meth c D cy ad H locs cells slots mc ms ls C X L)
/-- System.arraycopy of ints -/
theorem g_copy {i a0 a1 n0 n1 : Nat} {sp dp n : Int32} (d : decode M.cc pc = .ok (.invokestatic i, 3)) (hl : Cond.methodLink M.y.cls i arraycopyName ∈ M.ws) (hna : Cond.native arraycopyName ∈ M.ws) (hst : Cond.static arraycopyName ∈ M.ws) (hi : Cond.initialized "java/lang/System" ∈ M.ws)
    (ha0 : a0 ∈ G.1) (hs0 : G.2 a0 = .inl (0, n0, none)) (ha1 : a1 ∈ G.1) (hs1 : G.2 a1 = .inl (0, n1, none)) (h1 : ¬ sp < 0) (h2 : ¬ dp < 0) (h3 : ¬ n < 0) (h4 : sp.toNatClampNeg + n.toNatClampNeg ≤ n0) (h5 : dp.toNatClampNeg + n.toNatClampNeg ≤ n1)
    (hR : 1 ≤ M.fr ∧ st.length + (nativeFrameWords "java/lang/System" "arraycopy" 5 + 11) ≤ M.lo)
    (k : gEx G M b (pc + 3) lv st (gur σ a1 (va_cpy (σ a0) (σ a1) sp.toNatClampNeg dp.toNatClampNeg n.toNatClampNeg)) Q) : gEx G M b pc lv (.inl n :: .inl dp :: .inr a1 :: .inl sp :: .inr a0 :: st) σ Q := by
  intro p l e R s m args below meth c D cy ad H locs cells slots mc ms ls C X L
  have hr9 := C.2.2.2.1
  obtain ⟨i0, -, hw0⟩ := gws_at (cy := cy) (ad := ad) (σ := σ) ha0 hs0
  obtain ⟨i1, hi1, hw1⟩ := gws_at (cy := cy) (ad := ad) (σ := σ) ha1 hs1
  refine va_copyi (D := D) (ws := gws G cy ad σ) (tys := gtys cy) (ty := .int) C.1.1 C.1.2.1 (C.1.2.2.1.trans L.1.symm) C.1.2.2.2.1 (C.1.2.2.2.2 _ hl) (C.1.2.2.2.2 _ hna) (C.1.2.2.2.2 _ hst) (C.1.2.2.2.2 _ hi) C.2.2.2.2.2.2.1 (gws_P X.1) (gws_D C.2.2.1) X.2.1 i0 i1 0 0 hw0 hw1 rfl rfl rfl h1 h2 h3 h4 h5 (fun _ _ => rfl) (by omega) (by rw [gv_sum]; omega) d (fun H1 locs1 hP1 hD1 hS1 => ?_)
  rw [gws_set (σ' := gur σ a1 (va_cpy (σ a0) (σ a1) sp.toNatClampNeg dp.toNatClampNeg n.toNatClampNeg)) C.2.2.1.1 hi1 (by rw [hs1, gur_self]; rfl) (fun a ha => gur_ne σ _ ha)] at hP1
  exact k p l e R s m args below meth c D cy ad H1 locs1 cells slots mc ms ls C ⟨gP_ws hP1, hS1, X.2.2.step (fun q h => gA_new h) X.2.1 hS1⟩ L
end GT
end
section
/-! contracts by their kind of end -/
def gR (r : Int32) (P : gSt → Prop) : gOut → gSt → Prop := fun o σ => o = .inl (some (.inl r)) ∧ P σ
def gRr (r : Nat) (P : gSt → Prop) : gOut → gSt → Prop := fun o σ => o = .inl (some (.inr r)) ∧ P σ
def gV (P : gSt → Prop) : gOut → gSt → Prop := fun o σ => o = .inl none ∧ P σ
def gX (k : Nat) (P : gSt → Prop) : gOut → gSt → Prop := fun o σ => o = .inr k ∧ P σ
section GC2
variable {G : gG} {M M' : gM} {b pc : Nat} {lv : List (Option gAV)} {σ : gSt} {Q : gOut → gSt → Prop} {P : gSt → Prop}
variable {n9 o ci index : Nat} {fs : List (Option Nat)} {Cn : String} {T : u_T} {N : Nat} {ws' : List Cond} {host : String}
theorem g_callVi (r : Int32) (as st : List gAV) {stk : List gAV} (h : gEM G M' 0 (.inr o :: as) σ (gR r P)) (d : decode M.cc pc = .ok (.invokevirtual index, 3)) (hg : GoodIn M.ws (wsV M.y.cls index Cn M'.y M'.ws)) (hw : M'.ws = Cond.code M'.y M'.cc M'.nL M'.ret :: ws')
    (hd : M'.y.cls = Cn ∧ M'.y.cls ≠ "java/lang/invoke/MethodHandle" ∧ M'.y.cls ≠ "java/lang/invoke/VarHandle" ∧ (parseMethodDescriptor M'.y.desc).map (fun d => d.parameters.length) = some n9) (hn9 : as.length = n9) (hR : M'.fr + 1 ≤ M.fr ∧ 8 + (M'.nL + 11) + M'.lo ≤ M.lo)
    (ho : o ∈ G.1) (hs : G.2 o = .inr (ci, fs)) (hc : vwCl[ci]? = some (Cn, T, N)) (hst : stk = as.reverse ++ .inr o :: st) (hl : st.length ≤ 8) (kr : ∀ σ' : gSt, P σ' → gEx G M b (pc + 3) lv (.inl r :: st) σ' Q) : gEx G M b pc lv stk σ Q :=
  g_callV (b' := 0) as st h d hg hw hd hn9 hR ho hs hc hst hl (Nat.zero_le _) (fun v σ' hq => by obtain ⟨e, hP⟩ := hq; cases e; exact kr σ' hP) (fun k σ' hq => by cases hq.1)
theorem g_callVr (r : Nat) (as st : List gAV) {stk : List gAV} (h : gEM G M' 0 (.inr o :: as) σ (gRr r P)) (d : decode M.cc pc = .ok (.invokevirtual index, 3)) (hg : GoodIn M.ws (wsV M.y.cls index Cn M'.y M'.ws)) (hw : M'.ws = Cond.code M'.y M'.cc M'.nL M'.ret :: ws')
    (hd : M'.y.cls = Cn ∧ M'.y.cls ≠ "java/lang/invoke/MethodHandle" ∧ M'.y.cls ≠ "java/lang/invoke/VarHandle" ∧ (parseMethodDescriptor M'.y.desc).map (fun d => d.parameters.length) = some n9) (hn9 : as.length = n9) (hR : M'.fr + 1 ≤ M.fr ∧ 8 + (M'.nL + 11) + M'.lo ≤ M.lo)
    (ho : o ∈ G.1) (hs : G.2 o = .inr (ci, fs)) (hc : vwCl[ci]? = some (Cn, T, N)) (hst : stk = as.reverse ++ .inr o :: st) (hl : st.length ≤ 8) (kr : ∀ σ' : gSt, P σ' → gEx G M b (pc + 3) lv (.inr r :: st) σ' Q) : gEx G M b pc lv stk σ Q :=
  g_callV (b' := 0) as st h d hg hw hd hn9 hR ho hs hc hst hl (Nat.zero_le _) (fun v σ' hq => by obtain ⟨e, hP⟩ := hq; cases e; exact kr σ' hP) (fun k σ' hq => by cases hq.1)
theorem g_callVv (as st : List gAV) {stk : List gAV} (h : gEM G M' 0 (.inr o :: as) σ (gV P)) (d : decode M.cc pc = .ok (.invokevirtual index, 3)) (hg : GoodIn M.ws (wsV M.y.cls index Cn M'.y M'.ws)) (hw : M'.ws = Cond.code M'.y M'.cc M'.nL M'.ret :: ws')
    (hd : M'.y.cls = Cn ∧ M'.y.cls ≠ "java/lang/invoke/MethodHandle" ∧ M'.y.cls ≠ "java/lang/invoke/VarHandle" ∧ (parseMethodDescriptor M'.y.desc).map (fun d => d.parameters.length) = some n9) (hn9 : as.length = n9) (hR : M'.fr + 1 ≤ M.fr ∧ 8 + (M'.nL + 11) + M'.lo ≤ M.lo)
    (ho : o ∈ G.1) (hs : G.2 o = .inr (ci, fs)) (hc : vwCl[ci]? = some (Cn, T, N)) (hst : stk = as.reverse ++ .inr o :: st) (hl : st.length ≤ 8) (kr : ∀ σ' : gSt, P σ' → gEx G M b (pc + 3) lv st σ' Q) : gEx G M b pc lv stk σ Q :=
  g_callV (b' := 0) as st h d hg hw hd hn9 hR ho hs hc hst hl (Nat.zero_le _) (fun v σ' hq => by obtain ⟨e, hP⟩ := hq; cases e; exact kr σ' hP) (fun k σ' hq => by cases hq.1)
theorem g_callVx (k : Nat) (as st : List gAV) {stk : List gAV} (h : gEM G M' 1 (.inr o :: as) σ (gX k P)) (d : decode M.cc pc = .ok (.invokevirtual index, 3)) (hg : GoodIn M.ws (wsV M.y.cls index Cn M'.y M'.ws)) (hw : M'.ws = Cond.code M'.y M'.cc M'.nL M'.ret :: ws')
    (hd : M'.y.cls = Cn ∧ M'.y.cls ≠ "java/lang/invoke/MethodHandle" ∧ M'.y.cls ≠ "java/lang/invoke/VarHandle" ∧ (parseMethodDescriptor M'.y.desc).map (fun d => d.parameters.length) = some n9) (hn9 : as.length = n9) (hR : M'.fr + 1 ≤ M.fr ∧ 8 + (M'.nL + 11) + M'.lo ≤ M.lo)
    (ho : o ∈ G.1) (hs : G.2 o = .inr (ci, fs)) (hc : vwCl[ci]? = some (Cn, T, N)) (hst : stk = as.reverse ++ .inr o :: st) (hl : st.length ≤ 8) (hb : 1 ≤ b) (kr : ∀ σ' : gSt, P σ' → Q (.inr k) σ') : gEx G M b pc lv stk σ Q :=
  g_callV (b' := 1) as st h d hg hw hd hn9 hR ho hs hc hst hl hb (fun v σ' hq => by cases hq.1) (fun k σ' hq => by obtain ⟨e, hP⟩ := hq; cases e; exact kr σ' hP)
theorem g_callSi (r : Int32) (as st : List gAV) {stk : List gAV} (h : gEM G M' 0 as σ (gR r P)) (d : decode M.cc pc = .ok (.invokestatic index, 3)) (hg : GoodIn M.ws (va_wsS M.y.cls index M'.y M'.ws)) (hw : M'.ws = Cond.code M'.y M'.cc M'.nL M'.ret :: ws')
    (hd : M'.y.cls ≠ "java/lang/invoke/MethodHandle" ∧ M'.y.cls ≠ "java/lang/invoke/VarHandle" ∧ (parseMethodDescriptor M'.y.desc).map (fun d => d.parameters.length) = some n9) (hn9 : as.length = n9) (hR : M'.fr + 1 ≤ M.fr ∧ 8 + (M'.nL + 11) + M'.lo ≤ M.lo)
    (hst : stk = as.reverse ++ st) (hl : st.length ≤ 8) (kr : ∀ σ' : gSt, P σ' → gEx G M b (pc + 3) lv (.inl r :: st) σ' Q) : gEx G M b pc lv stk σ Q :=
  g_callS (b' := 0) as st h d hg hw hd hn9 hR hst hl (Nat.zero_le _) (fun v σ' hq => by obtain ⟨e, hP⟩ := hq; cases e; exact kr σ' hP) (fun k σ' hq => by cases hq.1)
theorem g_callSv (as st : List gAV) {stk : List gAV} (h : gEM G M' 0 as σ (gV P)) (d : decode M.cc pc = .ok (.invokestatic index, 3)) (hg : GoodIn M.ws (va_wsS M.y.cls index M'.y M'.ws)) (hw : M'.ws = Cond.code M'.y M'.cc M'.nL M'.ret :: ws')
    (hd : M'.y.cls ≠ "java/lang/invoke/MethodHandle" ∧ M'.y.cls ≠ "java/lang/invoke/VarHandle" ∧ (parseMethodDescriptor M'.y.desc).map (fun d => d.parameters.length) = some n9) (hn9 : as.length = n9) (hR : M'.fr + 1 ≤ M.fr ∧ 8 + (M'.nL + 11) + M'.lo ≤ M.lo)
    (hst : stk = as.reverse ++ st) (hl : st.length ≤ 8) (kr : ∀ σ' : gSt, P σ' → gEx G M b (pc + 3) lv st σ' Q) : gEx G M b pc lv stk σ Q :=
  g_callS (b' := 0) as st h d hg hw hd hn9 hR hst hl (Nat.zero_le _) (fun v σ' hq => by obtain ⟨e, hP⟩ := hq; cases e; exact kr σ' hP) (fun k σ' hq => by cases hq.1)
theorem g_callSx (k : Nat) (as st : List gAV) {stk : List gAV} (h : gEM G M' 1 as σ (gX k P)) (d : decode M.cc pc = .ok (.invokestatic index, 3)) (hg : GoodIn M.ws (va_wsS M.y.cls index M'.y M'.ws)) (hw : M'.ws = Cond.code M'.y M'.cc M'.nL M'.ret :: ws')
    (hd : M'.y.cls ≠ "java/lang/invoke/MethodHandle" ∧ M'.y.cls ≠ "java/lang/invoke/VarHandle" ∧ (parseMethodDescriptor M'.y.desc).map (fun d => d.parameters.length) = some n9) (hn9 : as.length = n9) (hR : M'.fr + 1 ≤ M.fr ∧ 8 + (M'.nL + 11) + M'.lo ≤ M.lo)
    (hst : stk = as.reverse ++ st) (hl : st.length ≤ 8) (hb : 1 ≤ b) (kr : ∀ σ' : gSt, P σ' → Q (.inr k) σ') : gEx G M b pc lv stk σ Q :=
  g_callS (b' := 1) as st h d hg hw hd hn9 hR hst hl hb (fun v σ' hq => by cases hq.1) (fun k σ' hq => by obtain ⟨e, hP⟩ := hq; cases e; exact kr σ' hP)
theorem g_callNi (r : Int32) (as st : List gAV) {stk : List gAV} (h : gEM G M' 0 as σ (gR r P)) (d : decode M.cc pc = .ok (.invokestatic index, 3)) (hg : GoodIn M.ws M'.ws) (hw : M'.ws = Cond.code M'.y M'.cc M'.nL M'.ret :: ws') (hn : Cond.methodLinkNest M.y.cls index M'.y host ∈ gNest) (hini : Cond.initialized M'.y.cls ∈ M.ws) (hsta : Cond.static M'.y ∈ M.ws)
    (hd : M'.y.cls ≠ "java/lang/invoke/MethodHandle" ∧ M'.y.cls ≠ "java/lang/invoke/VarHandle" ∧ (parseMethodDescriptor M'.y.desc).map (fun d => d.parameters.length) = some n9) (hn9 : as.length = n9) (hR : M'.fr + 1 ≤ M.fr ∧ 8 + (M'.nL + 11) + M'.lo ≤ M.lo)
    (hst : stk = as.reverse ++ st) (hl : st.length ≤ 8) (kr : ∀ σ' : gSt, P σ' → gEx G M b (pc + 3) lv (.inl r :: st) σ' Q) : gEx G M b pc lv stk σ Q :=
  g_callSN (b' := 0) as st h d hg hw hn hini hsta hd hn9 hR hst hl (Nat.zero_le _) (fun v σ' hq => by obtain ⟨e, hP⟩ := hq; cases e; exact kr σ' hP) (fun k σ' hq => by cases hq.1)
-- places by natural numbers
variable {st : List gAV}
theorem g_ialdN {a n j : Nat} (d : decode M.cc pc = .ok (.iaload, 1)) (ha : a ∈ G.1) (hs : G.2 a = .inl (0, n, none)) (hj : j < n) (hn : n < 2 ^ 31) (k : gEx G M b (pc + 1) lv (.inl (σ a j) :: st) σ Q) : gEx G M b pc lv (.inl (nI j) :: .inr a :: st) σ Q :=
  g_iald d ha hs (vp_in_nI hj hn) (by rw [nI_clamp (Nat.lt_trans hj hn)]; exact k)
theorem g_zaldN {a n j : Nat} (d : decode M.cc pc = .ok (.baload, 1)) (ha : a ∈ G.1) (hs : G.2 a = .inl (1, n, none)) (hj : j < n) (hn : n < 2 ^ 31) (k : gEx G M b (pc + 1) lv (.inl (σ a j) :: st) σ Q) : gEx G M b pc lv (.inl (nI j) :: .inr a :: st) σ Q :=
  g_zald d ha hs (vp_in_nI hj hn) (by rw [nI_clamp (Nat.lt_trans hj hn)]; exact k)
theorem g_iastN {a n j : Nat} {x : Int32} (d : decode M.cc pc = .ok (.iastore, 1)) (ha : a ∈ G.1) (hs : G.2 a = .inl (0, n, none)) (hj : j < n) (hn : n < 2 ^ 31) (k : gEx G M b (pc + 1) lv st (gup σ a j x) Q) : gEx G M b pc lv (.inl x :: .inl (nI j) :: .inr a :: st) σ Q :=
  g_iast d ha hs (vp_in_nI hj hn) (by rw [nI_clamp (Nat.lt_trans hj hn)]; exact k)
theorem g_zastN {a n j : Nat} {x : Int32} (d : decode M.cc pc = .ok (.bastore, 1)) (ha : a ∈ G.1) (hs : G.2 a = .inl (1, n, none)) (hj : j < n) (hn : n < 2 ^ 31) (hx : vp_nar .boolean x = x) (k : gEx G M b (pc + 1) lv st (gup σ a j x) Q) : gEx G M b pc lv (.inl x :: .inl (nI j) :: .inr a :: st) σ Q :=
  g_zast d ha hs (vp_in_nI hj hn) (by rw [nI_clamp (Nat.lt_trans hj hn), hx]; exact k)
theorem g_aald2N {a n j : Nat} {g : Nat → Nat} (d : decode M.cc pc = .ok (.aaload, 1)) (ha : a ∈ G.1) (hs : G.2 a = .inl (2, n, some g)) (hj : j < n) (hn : n < 2 ^ 31) (k : gEx G M b (pc + 1) lv (.inr (g j) :: st) σ Q) : gEx G M b pc lv (.inl (nI j) :: .inr a :: st) σ Q :=
  g_aald2 d ha hs (vp_in_nI hj hn) (by rw [nI_clamp (Nat.lt_trans hj hn)]; exact k)
theorem g_aald3N {a n j : Nat} {g : Nat → Nat} (d : decode M.cc pc = .ok (.aaload, 1)) (ha : a ∈ G.1) (hs : G.2 a = .inl (3, n, some g)) (hj : j < n) (hn : n < 2 ^ 31) (k : gEx G M b (pc + 1) lv (.inr (g j) :: st) σ Q) : gEx G M b pc lv (.inl (nI j) :: .inr a :: st) σ Q :=
  g_aald3 d ha hs (vp_in_nI hj hn) (by rw [nI_clamp (Nat.lt_trans hj hn)]; exact k)
theorem g_aald4N {a n j : Nat} {g : Nat → Nat} (d : decode M.cc pc = .ok (.aaload, 1)) (ha : a ∈ G.1) (hs : G.2 a = .inl (4, n, some g)) (hj : j < n) (hn : n < 2 ^ 31) (k : gEx G M b (pc + 1) lv (.inr (g j) :: st) σ Q) : gEx G M b pc lv (.inl (nI j) :: .inr a :: st) σ Q :=
  g_aald4 d ha hs (vp_in_nI hj hn) (by rw [nI_clamp (Nat.lt_trans hj hn)]; exact k)
theorem g_aald5N {a n j : Nat} {g : Nat → Nat} (d : decode M.cc pc = .ok (.aaload, 1)) (ha : a ∈ G.1) (hs : G.2 a = .inl (5, n, some g)) (hj : j < n) (hn : n < 2 ^ 31) (k : gEx G M b (pc + 1) lv (.inr (g j) :: st) σ Q) : gEx G M b pc lv (.inl (nI j) :: .inr a :: st) σ Q :=
  g_aald5 d ha hs (vp_in_nI hj hn) (by rw [nI_clamp (Nat.lt_trans hj hn)]; exact k)
end GC2
theorem vx_ofWF {l : Launch} {y : MethodName} {ws ws' : List Cond} {rm : Room} {Pc : Array Value → State → Prop} {Qc : Array Value → State → Outcome → State → Prop} {XC : String → State → State → Prop} {mc ms : Nat} {free : Addr → Prop} {cc : ByteArray} {maxL : Nat} {ret : Option FieldType}
    (hy : plainFor y = true) (hw : ws = Cond.code y cc maxL ret :: ws')
    (body : ∀ p e s m args below meth c s₁, BodyLoose p l y (headSpec ws rm) cc maxL ret e s m args below meth c s₁ → c.maxLocals = maxL → (∀ x ∈ c.exceptionTable.toList, False) → Pc args s →
      W p l e (headSpec ws rm).room s m args below meth c s.heap [] 0 0 (vx_MQ below Qc XC args s mc ms free) (entryFrame m args maxL)) : vx_Met l y ws rm Pc Qc XC mc ms free := by
  refine MetFree.of_bodySF (code := cc) (maxLocals := maxL) (ret := ret) hy ?_ ?_
  · intro args s m h hn
    obtain ⟨meth, c, h1, h2, h3, h4, h5, h6, -, -⟩ := Cond.code_spec hn (atoms_spec (ws := ws) h _ (by rw [hw]; exact List.mem_cons_self))
    exact ⟨meth, c, h1, h2, h3, h4, h5, h6⟩
  · intro p e s m args below meth c s₁ B hml hP _
    have hh0 : s₁.heap = s.heap := by rw [B.state]; rfl
    have ht : ∀ x ∈ c.exceptionTable.toList, False := by
      obtain ⟨meth9, c9, h1, h2, -, -, -, -, h7, -⟩ := Cond.code_spec B.named (atoms_spec (ws := ws) B.pre _ (by rw [hw]; exact List.mem_cons_self))
      cases Option.some.inj (h1.symm.trans B.method)
      cases Option.some.inj (h2.symm.trans (Stand.of_body B).code)
      intro x hx
      rw [Array.isEmpty_iff.mp h7] at hx
      cases hx
    obtain ⟨t, a1, o, b1, b2, b3⟩ := body p e s m args below meth c s₁ B hml ht hP s₁ hh0 (Stand.of_body B)
    exact ⟨t, o, a1, b1, b2, b3⟩
theorem gEM_ofF {G : gG} {M : gM} {b : Nat} {as : List gAV} {σ : gSt} {Q : gOut → gSt → Prop} {ws' : List Cond} (hy : plainFor M.y = true) (hw : M.ws = Cond.code M.y M.cc M.nL M.ret :: ws') (hn : as.length ≤ M.nL)
    (k : gEx G M b 0 (gL0 as M.nL) [] σ Q) : gEM G M b as σ Q := by
  intro l D cy ad sz hl hi
  refine vx_ofWF (cc := M.cc) (maxL := M.nL) (ret := M.ret) hy hw ?_
  intro p e s m args below meth c s₁ B hml ht hv
  obtain ⟨hargs, hsz, hP, hK, hE⟩ := hv
  subst hsz
  subst hargs
  rw [lg_entry_eq]
  exact k p l e _ s m _ below meth c D cy ad s.heap [] 0 0 b (6 * b) _ ⟨⟨B.exec, B.bytes, hml, findClass_of_methodNamed B.named, atoms_spec (ws := M.ws) B.pre⟩, hl, hi, ⟨Nat.le_refl _, Nat.le_refl _, Nat.le_refl _, Nat.le_refl _⟩, ht, B.notSynchronized, hK, by omega, B.returns⟩ ⟨hP, va_S.rf, hE⟩ (gLs_0 hn)
end
section
/-! the class's cells: R managers, A acceptors -/
def cSh (R A k : Nat) : gSh :=
  if k < 10 then (match k with
    | 0 => .inr (5, [some 1, some 2, some 3, some 4, some 6, none, none])
    | 1 => .inl (4, R, some (fun m => 10 + m))
    | 2 => .inl (2, A, some (fun a => 20 + a))
    | 3 => .inl (3, 3, some (fun l => 40 + l))
    | 4 => .inr (3, [none, none, none, some 5])
    | 5 => .inl (0, 401 * (6 + R), none)
    | 6 => .inr (2, [some 7, some 8, none, some 9])
    | 7 => .inl (0, R, none)
    | 8 => .inl (1, R, none)
    | _ => .inl (0, 1537, none))
  else if k < 20 then .inr (4, [none, none, none])
  else if k < 30 then .inr (0, [none, none, some (k + 10)])
  else if k < 40 then .inl (0, R, none)
  else if k < 50 then .inr (1, [none, none, none, none, none, none, some (k + 10), some (k + 20), none, some (k + 30)])
  else if k < 70 then .inl (0, R, none)
  else .inl (0, R * A, none)
def cIds (R A : Nat) : List Nat := [0, 1, 2, 3, 4, 5, 6, 7, 8, 9] ++ ((List.range R).map (fun m => 10 + m) ++ ((List.range A).map (fun a => 20 + a) ++ ((List.range A).map (fun a => 30 + a) ++ [40, 41, 42, 50, 51, 52, 60, 61, 62, 70, 71, 72])))
def cG (R A : Nat) : gG := (cIds R A, cSh R A)
section CS
variable {R A : Nat}
theorem cIn_lo {k : Nat} (h : k < 10) : k ∈ (cG R A).1 := by
  refine List.mem_append_left _ ?_
  rcases (show k = 0 ∨ k = 1 ∨ k = 2 ∨ k = 3 ∨ k = 4 ∨ k = 5 ∨ k = 6 ∨ k = 7 ∨ k = 8 ∨ k = 9 by omega) with h | h | h | h | h | h | h | h | h | h <;> subst h <;> decide
theorem cIn_m {m : Nat} (h : m < R) : 10 + m ∈ (cG R A).1 := List.mem_append_right _ (List.mem_append_left _ (List.mem_map.mpr ⟨m, List.mem_range.mpr h, rfl⟩))
theorem cIn_a {a : Nat} (h : a < A) : 20 + a ∈ (cG R A).1 := List.mem_append_right _ (List.mem_append_right _ (List.mem_append_left _ (List.mem_map.mpr ⟨a, List.mem_range.mpr h, rfl⟩)))
theorem cIn_b {a : Nat} (h : a < A) : 30 + a ∈ (cG R A).1 := List.mem_append_right _ (List.mem_append_right _ (List.mem_append_right _ (List.mem_append_left _ (List.mem_map.mpr ⟨a, List.mem_range.mpr h, rfl⟩))))
theorem cIn_hi {k : Nat} (h : k ∈ [40, 41, 42, 50, 51, 52, 60, 61, 62, 70, 71, 72]) : k ∈ (cG R A).1 := List.mem_append_right _ (List.mem_append_right _ (List.mem_append_right _ (List.mem_append_right _ h)))
theorem cIn_l {l : Nat} (h : l < 3) : 40 + l ∈ (cG R A).1 := cIn_hi (by rcases (show l = 0 ∨ l = 1 ∨ l = 2 by omega) with h | h | h <;> subst h <;> decide)
theorem cIn_t {l : Nat} (h : l < 3) : 50 + l ∈ (cG R A).1 := cIn_hi (by rcases (show l = 0 ∨ l = 1 ∨ l = 2 by omega) with h | h | h <;> subst h <;> decide)
theorem cIn_o {l : Nat} (h : l < 3) : 60 + l ∈ (cG R A).1 := cIn_hi (by rcases (show l = 0 ∨ l = 1 ∨ l = 2 by omega) with h | h | h <;> subst h <;> decide)
theorem cIn_s {l : Nat} (h : l < 3) : 70 + l ∈ (cG R A).1 := cIn_hi (by rcases (show l = 0 ∨ l = 1 ∨ l = 2 by omega) with h | h | h <;> subst h <;> decide)
theorem cSh_m {m : Nat} (h : m < 10) : (cG R A).2 (10 + m) = .inr (4, [none, none, none]) := by
  show cSh R A (10 + m) = _
  unfold cSh
  rw [if_neg (by omega), if_pos (by omega)]
theorem cSh_a {a : Nat} (h : a < 10) : (cG R A).2 (20 + a) = .inr (0, [none, none, some (30 + a)]) := by
  show cSh R A (20 + a) = _
  unfold cSh
  rw [if_neg (by omega), if_neg (by omega), if_pos (by omega), show 20 + a + 10 = 30 + a by omega]
theorem cSh_b {a : Nat} (h : a < 10) : (cG R A).2 (30 + a) = .inl (0, R, none) := by
  show cSh R A (30 + a) = _
  unfold cSh
  rw [if_neg (by omega), if_neg (by omega), if_neg (by omega), if_pos (by omega)]
theorem cSh_l {l : Nat} (h : l < 3) : (cG R A).2 (40 + l) = .inr (1, [none, none, none, none, none, none, some (50 + l), some (60 + l), none, some (70 + l)]) := by
  rcases (show l = 0 ∨ l = 1 ∨ l = 2 by omega) with h | h | h <;> subst h <;> rfl
theorem cSh_t {l : Nat} (h : l < 3) : (cG R A).2 (50 + l) = .inl (0, R, none) := by
  rcases (show l = 0 ∨ l = 1 ∨ l = 2 by omega) with h | h | h <;> subst h <;> rfl
theorem cSh_o {l : Nat} (h : l < 3) : (cG R A).2 (60 + l) = .inl (0, R, none) := by
  rcases (show l = 0 ∨ l = 1 ∨ l = 2 by omega) with h | h | h <;> subst h <;> rfl
theorem cSh_s {l : Nat} (h : l < 3) : (cG R A).2 (70 + l) = .inl (0, R * A, none) := by
  rcases (show l = 0 ∨ l = 1 ∨ l = 2 by omega) with h | h | h <;> subst h <;> rfl
theorem cSh_0 : (cG R A).2 0 = .inr (5, [some 1, some 2, some 3, some 4, some 6, none, none]) := rfl
theorem cSh_1 : (cG R A).2 1 = .inl (4, R, some (fun m => 10 + m)) := rfl
theorem cSh_2 : (cG R A).2 2 = .inl (2, A, some (fun a => 20 + a)) := rfl
theorem cSh_3 : (cG R A).2 3 = .inl (3, 3, some (fun l => 40 + l)) := rfl
theorem cSh_4 : (cG R A).2 4 = .inr (3, [none, none, none, some 5]) := rfl
theorem cSh_5 : (cG R A).2 5 = .inl (0, 401 * (6 + R), none) := rfl
theorem cSh_6 : (cG R A).2 6 = .inr (2, [some 7, some 8, none, some 9]) := rfl
theorem cSh_7 : (cG R A).2 7 = .inl (0, R, none) := rfl
theorem cSh_8 : (cG R A).2 8 = .inl (1, R, none) := rfl
theorem cSh_9 : (cG R A).2 9 = .inl (0, 1537, none) := rfl
end CS
/-! the reference's cells -/
def mSh (k : Nat) : gSh := match k with
    | 0 => .inr (6, [none, none, none, some 1, some 2, none, none, none, none, some 3, some 4, some 5, some 6, some 7, some 8, some 9, some 10, some 11, some 12, some 13, some 14, some 15, some 16, some 17, some 18, some 19])
    | 1 => .inl (0, 7200, none)
    | 2 => .inl (0, 18, none)
    | 3 => .inl (0, 6, none)
    | 4 => .inl (5, 3, some (fun s => 20 + s))
    | 5 => .inl (0, 5, none)
    | 6 => .inl (0, 30, none)
    | 7 => .inl (0, 30, none)
    | 8 => .inl (0, 9600, none)
    | 9 => .inl (0, 9600, none)
    | 10 => .inl (0, 3, none)
    | 11 => .inl (0, 3, none)
    | 12 => .inl (0, 3, none)
    | 13 => .inl (0, 3, none)
    | 14 => .inl (0, 3, none)
    | 15 => .inl (0, 90, none)
    | 16 => .inl (0, 90, none)
    | 17 => .inl (0, 90, none)
    | 18 => .inl (0, 90, none)
    | 19 => .inl (0, 18, none)
    | _ => .inl (1, 6, none)
def mIds : List Nat := [0, 1, 2, 3, 4, 5, 6, 7, 8, 9, 10, 11, 12, 13, 14, 15, 16, 17, 18, 19, 20, 21, 22]
def mG : gG := (mIds, mSh)
theorem mIn {k : Nat} (h : k < 23) : k ∈ mG.1 := by
  show k ∈ mIds
  have e : mIds = List.range 23 := by decide
  rw [e]
  exact List.mem_range.mpr h
theorem mNd : gNd mG := by
  intro i j a hi hj
  exact va_nd_inj mIds (by decide) i j a hi hj
theorem mSh_u {s : Nat} (h : s < 3) : mG.2 (20 + s) = .inl (1, 6, none) := by
  rcases (show s = 0 ∨ s = 1 ∨ s = 2 by omega) with h | h | h <;> subst h <;> rfl
theorem cNd {R A : Nat} (hR : R ≤ 6) (hA : A ≤ 5) : gNd (cG R A) := by
  intro i j a hi hj
  refine va_nd_inj (cIds R A) ?_ i j a hi hj
  rcases (show R = 0 ∨ R = 1 ∨ R = 2 ∨ R = 3 ∨ R = 4 ∨ R = 5 ∨ R = 6 by omega) with h | h | h | h | h | h | h <;> subst h <;>
    (rcases (show A = 0 ∨ A = 1 ∨ A = 2 ∨ A = 3 ∨ A = 4 ∨ A = 5 by omega) with h | h | h | h | h | h <;> subst h <;> decide)
/-- true and false as ints -/
def bI (p : Prop) [Decidable p] : Int32 := if p then 1 else 0
theorem bI_nar (p : Prop) [Decidable p] : narrow .boolean (.int (bI p)) = .int (bI p) := by
  unfold bI
  split <;> rfl
theorem nI_z {a : Nat} (h : a < 2 ^ 31) : nI a = 0 ↔ a = 0 := ⟨fun e => (nI_eq h (by decide)).mp (e.trans nI_0.symm), fun e => by subst e; exact nI_0⟩
theorem nI_n {a : Nat} (h : a < 2 ^ 31) : nI a < 0 ↔ False := ⟨fun q => nI_pos h q, False.elim⟩
theorem nI_p {a : Nat} (h : a < 2 ^ 31) : 0 ≤ nI a ↔ True := ⟨fun _ => trivial, fun _ => nI_pos' h⟩
theorem nI_pp {a : Nat} (h : a < 2 ^ 31) : 0 < nI a ↔ 0 < a := by
  have := nI_ltI (a := 0) (b := a) (by decide) h
  rwa [nI_0] at this
theorem nI_np {a : Nat} (h : a < 2 ^ 31) : nI a ≤ 0 ↔ a = 0 := by
  have := nI_leI (a := a) (b := 0) h (by decide)
  rw [nI_0] at this
  rw [this]
  omega
theorem mlt {n R j N : Nat} (h : n < N) (hj : j < 6 + R) : n * (6 + R) + j < N * (6 + R) := by
  have h1 : (n + 1) * (6 + R) ≤ N * (6 + R) := Nat.mul_le_mul_right _ h
  rw [Nat.add_mul, Nat.one_mul] at h1
  omega
theorem mle {n R N : Nat} (h : n ≤ N) : n * (6 + R) ≤ N * (6 + R) := Nat.mul_le_mul_right _ h
section GCN
variable {G : gG} {M : gM} {b pc : Nat} {lv : List (Option gAV)} {st : List gAV} {σ : gSt} {Q : gOut → gSt → Prop}
theorem g_copyN {i a0 a1 n0 n1 p q c : Nat} (d : decode M.cc pc = .ok (.invokestatic i, 3)) (hl : Cond.methodLink M.y.cls i arraycopyName ∈ M.ws) (hna : Cond.native arraycopyName ∈ M.ws) (hst : Cond.static arraycopyName ∈ M.ws) (hi : Cond.initialized "java/lang/System" ∈ M.ws)
    (ha0 : a0 ∈ G.1) (hs0 : G.2 a0 = .inl (0, n0, none)) (ha1 : a1 ∈ G.1) (hs1 : G.2 a1 = .inl (0, n1, none)) (h4 : p + c ≤ n0) (h5 : q + c ≤ n1) (hn0 : n0 < 2 ^ 31) (hn1 : n1 < 2 ^ 31)
    (hR : 1 ≤ M.fr ∧ st.length + (nativeFrameWords "java/lang/System" "arraycopy" 5 + 11) ≤ M.lo)
    (k : gEx G M b (pc + 3) lv st (gur σ a1 (va_cpy (σ a0) (σ a1) p q c)) Q) : gEx G M b pc lv (.inl (nI c) :: .inl (nI q) :: .inr a1 :: .inl (nI p) :: .inr a0 :: st) σ Q := by
  have e1 : (nI p).toNatClampNeg = p := nI_clamp (by omega)
  have e2 : (nI q).toNatClampNeg = q := nI_clamp (by omega)
  have e3 : (nI c).toNatClampNeg = c := nI_clamp (by omega)
  exact g_copy d hl hna hst hi ha0 hs0 ha1 hs1 (nI_pos (by omega)) (nI_pos (by omega)) (nI_pos (by omega)) (by rw [e1, e3]; exact h4) (by rw [e2, e3]; exact h5) hR (by rw [e1, e2, e3]; exact k)
end GCN
theorem bI_z (p : Prop) [Decidable p] : bI p = 0 ↔ ¬ p := by
  unfold bI
  by_cases h : p
  · simp [h]
  · simp [h]
end
section
/-! THE SPECIFICATION in numbers: α component i j; messages as functions
 1: 0 sent, 1 came, 2 begun; 2 sort one: up; 3 m: how; 4 m: proposed; 5 a: promised; 6 a m: the vote accepted (4 * ballot + word, 0 none); 7 l ballot; 8 l phase; 9 l highest; 10 l decision; 11 l a: told; 12 l (a * 6 + m): what a told; 13 l m outcome; 14 l (m * 5 + a): the vote seen;
 15 b (m * 5 + a): ever accepted; 16 b m: THE word of ballot b (ghost); 17 (b * 5 + a) m: what a told for ballot b (ghost); 18 m: the word chosen first; 19 m: unlike words chosen; 20 l m: the greatest vote told -/
abbrev pS : Type := Nat → Nat → Nat → Nat
abbrev pMsg : Type := Nat → Nat
def pu (α : pS) (c i j v : Nat) : pS := fun x y z => if x = c ∧ y = i ∧ z = j then v else α x y z
theorem pu_at (α : pS) (c i j v : Nat) : pu α c i j v c i j = v := if_pos ⟨rfl, rfl, rfl⟩
theorem pu_c (α : pS) {c i j v x : Nat} (h : x ≠ c) : pu α c i j v x = α x := by
  funext y z
  unfold pu
  rw [if_neg (fun q => h q.1)]
theorem pu_i (α : pS) {c i j v x y : Nat} (h : y ≠ i) : pu α c i j v x y = α x y := by
  funext z
  unfold pu
  rw [if_neg (fun q => h q.2.1)]
theorem pu_j (α : pS) {c i j v x y z : Nat} (h : z ≠ j) : pu α c i j v x y z = α x y z := if_neg (fun q => h q.2.2)
def psum (f : Nat → Nat) : Nat → Nat
  | 0 => 0
  | n + 1 => psum f n + f n
def msk (f : Nat → Nat) : Nat := f 0 + 2 * f 1 + 4 * f 2 + 8 * f 3 + 16 * f 4
/-- which parts a kind of message has -/
def pPres (k j : Nat) : Bool := match k with
  | 0 => j != 2
  | 1 => true
  | 2 => j == 0 || j == 1 || j == 4
  | 3 => j != 3 && j != 5
  | 4 => j == 0 || j == 1 || j == 5
  | _ => decide (j < 3)
def pt (x : pMsg) (j : Nat) : Int32 := if pPres (x 0) j = true then nI (x j) else -1
def mVote (a m b w : Nat) : pMsg := fun j => match j with | 0 => 0 | 1 => a | 3 => m | 4 => b | 5 => w | _ => 0
def mVoted (l a m b w : Nat) : pMsg := fun j => match j with | 0 => 1 | 1 => l | 2 => a | 3 => m | 4 => b | 5 => w | _ => 0
def mAsk (a b : Nat) : pMsg := fun j => match j with | 0 => 2 | 1 => a | 4 => b | _ => 0
def mTold (l a b : Nat) (t : Nat → Nat) : pMsg := fun j => match j with | 0 => 3 | 1 => l | 2 => a | 3 => 0 | 4 => b | 5 => 0 | n + 6 => t n
def mDec (m d : Nat) : pMsg := fun j => match j with | 0 => 4 | 1 => m | 5 => d | _ => 0
def mQue (l m : Nat) : pMsg := fun j => match j with | 0 => 5 | 1 => l | 2 => m | _ => 0
def lVotes (A m b w : Nat) : List pMsg := (List.range A).map (fun a => mVote a m b w)
def lAsks (A b : Nat) : List pMsg := (List.range A).map (fun a => mAsk a b)
def lDecs (R d : Nat) : List pMsg := (List.range R).map (fun m => mDec m d)
def lVoted (a m b w : Nat) : List pMsg := (List.range 3).map (fun l => mVoted l a m b w)
def lQues (m : Nat) : List pMsg := (List.range 3).map (fun l => mQue l m)
def pSnd (α : pS) (k : Nat) : pS := pu α 1 0 0 (α 1 0 0 + k)
/-- the least own ballot of leader l above h -/
def lob (l h : Nat) : Nat := if h < l + 1 then l + 1 else l + 1 + 3 * ((h - (l + 1)) / 3 + 1)
/-- the state and its messages -/
abbrev pT : Type := pS × List pMsg
/-- prepare, refuse: the manager m says w -/
abbrev sSay (A m w : Nat) (s : pT) : Prop := s.1 2 0 m = 1 ∧ s.1 3 m 0 = 0 ∧ s.2.length + A ≤ 400
def tSay (A m w : Nat) (s : pT) : pT := (pSnd (pu (pu (pu s.1 3 m 0 w) 4 m 0 w) 16 0 m w) A, s.2 ++ lVotes A m 0 w)
abbrev sRes (A m : Nat) (s : pT) : Prop := s.1 2 0 m = 1 ∧ (s.1 3 m 0 = 1 ∨ s.1 3 m 0 = 2) ∧ s.2.length + A ≤ 400
def tRes (A m : Nat) (s : pT) : pT := (pSnd s.1 A, s.2 ++ lVotes A m 0 (s.1 4 m 0))
abbrev sQue (m : Nat) (s : pT) : Prop := s.1 2 0 m = 1 ∧ s.2.length + 3 ≤ 400
def tQue (m : Nat) (s : pT) : pT := (pSnd s.1 3, s.2 ++ lQues m)
def nBeg (R A l : Nat) (s : pT) : Nat := A + if s.1 10 l 0 = 0 then 0 else R
abbrev sBeg (R A l : Nat) (s : pT) : Prop := s.1 2 2 l = 1 ∧ s.2.length + nBeg R A l s ≤ 400
/-- a leader's asking is forgotten -/
def pClr (α : pS) (c l : Nat) : pS := fun x y z => if x = c ∧ y = l then 0 else α x y z
def tBeg (R A l : Nat) (s : pT) : pT :=
  let b := lob l (s.1 9 l 0)
  (pSnd (pu (pClr (pClr (pu (pu (pu s.1 7 l 0 b) 9 l 0 b) 8 l 0 1) 11 l) 20 l) 1 2 0 (s.1 1 2 0 + 1)) (nBeg R A l s), s.2 ++ (lAsks A b ++ if s.1 10 l 0 = 0 then [] else lDecs R (s.1 10 l 0)))
/-- what a message leads to -/
def pUpOf (α : pS) (x : pMsg) : Nat := if x 0 = 0 ∨ x 0 = 2 then α 2 1 (x 1) else if x 0 = 4 then α 2 0 (x 1) else α 2 2 (x 1)
abbrev pNew (α : pS) (l m a b : Nat) : Prop := α 14 l (m * 5 + a) = 0 ∨ α 14 l (m * 5 + a) / 4 < b
/-- of the other acceptors, those seen with ballot b -/
def pAlk (α : pS) (l m a b n : Nat) : Nat := psum (fun c => if c ≠ a ∧ α 14 l (m * 5 + c) ≠ 0 ∧ α 14 l (m * 5 + c) / 4 = b then 1 else 0) n
/-- the outcome of m as it is once a VOTED (a, m, b, w) has come to l -/
def pOut (A : Nat) (α : pS) (l m a b w : Nat) : Nat := if α 13 l m ≠ 0 ∨ ¬ pNew α l m a b then α 13 l m else if A < (1 + pAlk α l m a b A) * 2 then w else 0
/-- the decision then -/
def pDec (R A : Nat) (α : pS) (l m a b w : Nat) : Nat := if α 10 l 0 ≠ 0 then α 10 l 0 else if pOut A α l m a b w = 1 then (if ∀ c, c < R → c ≠ m → α 13 l c = 1 then 1 else 0) else if pOut A α l m a b w = 2 then 2 else 0
abbrev pKeep (α : pS) (l b a : Nat) : Prop := α 8 l 0 = 1 ∧ b = α 7 l 0 ∧ α 11 l a = 0
abbrev pEnough (A : Nat) (α : pS) (l : Nat) : Prop := A < (psum (α 11 l) 5 + 1) * 2
def pAns (R A : Nat) (α : pS) (x : pMsg) : Nat := match x 0 with
  | 0 => if α 5 (x 1) 0 ≤ x 4 then 3 else 0
  | 1 => if pDec R A α (x 1) (x 3) (x 2) (x 4) (x 5) = α 10 (x 1) 0 then 0 else R
  | 2 => if α 5 (x 1) 0 < x 4 then 1 else 0
  | 3 => if pKeep α (x 1) (x 4) (x 2) ∧ pEnough A α (x 1) then R * A else 0
  | 5 => if α 10 (x 1) 0 = 0 then 0 else 1
  | _ => 0
/-- an acceptor's vote is entered -/
def pEnter (A : Nat) (α : pS) (m b w a : Nat) : pS :=
  let β := pu α 15 b (m * 5 + a) 1
  if psum (fun c => β 15 b (m * 5 + c)) 5 * 2 ≤ A then β else if β 18 m 0 = 0 then pu β 18 m 0 w else if β 18 m 0 = w then β else pu β 19 m 0 1
def pMax (a b : Nat) : Nat := if a < b then b else a
/-- the greatest votes told grow -/
def pLat (α : pS) (l R : Nat) (t : Nat → Nat) : pS := fun x y z => if x = 20 ∧ y = l ∧ z < R then pMax (α 20 l z) (t z) else α x y z
/-- what a told is kept -/
def pTel (α : pS) (l a R : Nat) (t : Nat → Nat) : pS := fun x y z => if x = 12 ∧ y = l ∧ a * 6 ≤ z ∧ z < a * 6 + R then t (z - a * 6) else α x y z
/-- the word that a leader votes for -/
def pWrd (v : Nat) : Nat := if v = 0 then 2 else v % 4
/-- the words of a ballot are laid down -/
def pLay (α : pS) (b R : Nat) (f : Nat → Nat) : pS := fun x y z => if x = 16 ∧ y = b ∧ z < R then f z else α x y z
/-- what was told for a ballot is laid down -/
def pTol (α : pS) (b a R : Nat) (t : Nat → Nat) : pS := fun x y z => if x = 17 ∧ y = b * 5 + a ∧ z < R then t z else α x y z
/-- the votes of all managers -/
def lAll (R A b : Nat) (f : Nat → Nat) : List pMsg := (List.range R).flatMap (fun m => lVotes A m b (pWrd (f m)))
/-- a message comes to one who is up: the state then, and what is sent -/
def pTake (R A : Nat) (α : pS) (x : pMsg) : pT := match x 0 with
  | 0 => if α 5 (x 1) 0 ≤ x 4 then (pEnter A (pu (pu α 5 (x 1) 0 (x 4)) 6 (x 1) (x 3) (4 * x 4 + x 5)) (x 3) (x 4) (x 5) (x 1), lVoted (x 1) (x 3) (x 4) (x 5)) else (α, [])
  | 1 =>
    let d := pDec R A α (x 1) (x 3) (x 2) (x 4) (x 5)
    let o := pOut A α (x 1) (x 3) (x 2) (x 4) (x 5)
    let β := pu α 9 (x 1) 0 (pMax (α 9 (x 1) 0) (x 4))
    let γ := if pNew α (x 1) (x 3) (x 2) (x 4) then pu β 14 (x 1) (x 3 * 5 + x 2) (4 * x 4 + x 5) else β
    (pu (pu γ 13 (x 1) (x 3) o) 10 (x 1) 0 d, if d = α 10 (x 1) 0 then [] else lDecs R d)
  | 2 => if α 5 (x 1) 0 < x 4 then (pTol (pu α 5 (x 1) 0 (x 4)) (x 4) (x 1) R (α 6 (x 1)), [mTold ((x 4 - 1) % 3) (x 1) (x 4) (α 6 (x 1))]) else (α, [])
  | 3 =>
    let β := pu α 9 (x 1) 0 (pMax (α 9 (x 1) 0) (x 4))
    if pKeep α (x 1) (x 4) (x 2) then
      let γ := pLat (pTel (pu β 11 (x 1) (x 2) 1) (x 1) (x 2) R (fun m => x (6 + m))) (x 1) R (fun m => x (6 + m))
      if pEnough A α (x 1) then (pLay (pu γ 8 (x 1) 0 2) (x 4) R (fun m => pWrd (γ 20 (x 1) m)), lAll R A (x 4) (γ 20 (x 1))) else (γ, [])
    else (β, [])
  | 4 => (pu α 3 (x 1) 0 (x 5 + 2), [])
  | _ => (α, if α 10 (x 1) 0 = 0 then [] else [mDec (x 2) (α 10 (x 1) 0)])
/-- a message comes -/
def pAnsH (R A : Nat) (α : pS) (x : pMsg) : Nat := if pUpOf α x = 0 then 0 else pAns R A α x
abbrev sBrg (R A : Nat) (x : pMsg) (s : pT) : Prop := s.2.length + pAnsH R A s.1 x ≤ 401
def tBrg (R A i : Nat) (x : pMsg) (s : pT) : pT :=
  let t := if pUpOf s.1 x = 0 then (s.1, []) else pTake R A s.1 x
  (pu (pSnd t.1 t.2.length) 1 1 0 (t.1 1 1 0 + 1), s.2.eraseIdx i ++ t.2)
def tDrop (i : Nat) (s : pT) : pT := (s.1, s.2.eraseIdx i)
def tCopy (x : pMsg) (s : pT) : pT := (pSnd s.1 1, s.2 ++ [x])
/-- a leader goes down -/
def tFor (α : pS) (l : Nat) : pS := pClr (pClr (pClr (pClr (pu (pu α 8 l 0 0) 10 l 0 0) 11 l) 20 l) 13 l) 14 l
def tCrash (k i : Nat) (s : pT) : pT := ((if k = 2 then tFor (pu s.1 2 k i 0) i else pu s.1 2 k i 0), s.2)
def tRec (k i : Nat) (s : pT) : pT := (pu s.1 2 k i 1, s.2)
/-- the calm: at most n messages, the first one each time -/
def tCalm (R A : Nat) : Nat → pT → Nat × pT
  | 0, s => (0, s)
  | n + 1, s => match s.2 with
    | [] => (0, s)
    | x :: _ => if sBrg R A x s then ((tCalm R A n (tBrg R A 0 x s)).1 + 1, (tCalm R A n (tBrg R A 0 x s)).2) else (0, s)
/-- n messages more -/
def pAdd (s : pT) (n : Nat) (f : Nat → pMsg) : pT := (pSnd s.1 n, s.2 ++ (List.range n).map f)
theorem pSnd_0 (α : pS) : pSnd α 0 = α := by
  funext x y z
  unfold pSnd pu
  split
  · rename_i h
    rw [h.1, h.2.1, h.2.2]
    rfl
  · rfl
theorem pSnd_pSnd (α : pS) (i j : Nat) : pSnd (pSnd α i) j = pSnd α (i + j) := by
  funext x y z
  unfold pSnd pu
  split
  · simp; omega
  · rfl
theorem pAdd_0 (s : pT) (f : Nat → pMsg) : pAdd s 0 f = s := by
  unfold pAdd
  rw [pSnd_0]
  simp
theorem pAdd_s (s : pT) (n : Nat) (f : Nat → pMsg) : (pSnd (pAdd s n f).1 1, (pAdd s n f).2 ++ [f n]) = pAdd s (n + 1) f := by
  unfold pAdd
  simp only [pSnd_pSnd, List.range_succ, List.map_append, List.map_cons, List.map_nil, List.append_assoc]
theorem pAdd_len (s : pT) (n : Nat) (f : Nat → pMsg) : (pAdd s n f).2.length = s.2.length + n := by
  unfold pAdd
  simp
end
section
set_option maxRecDepth 100000 in
/-- checkOne: there is such a one -/
theorem c_checkOk {R A : Nat} {σ : gSt} {i n : Nat} (hi : i < n) (hn : n < 2 ^ 31) : gEM (cG R A) mX6_checkOne 0 [.inl (nI (i)), .inl (nI (n))] σ (gV (fun s => s = σ)) := by
  refine gEM_of (by decide +kernel) rfl (Nat.le_of_ble_eq_true rfl) ?_
  refine g_iload_n dX6_checkOne_0 rfl ?_
  refine g_if_lt 9 dX6_checkOne_1 (by decide) (fun h1 => ?_) (fun h1 => ?_)
  · skip
    rw [nI_n (by omega)] at h1
    exact h1.elim
  · skip
    rw [nI_n (by omega)] at h1
    refine g_iload_n dX6_checkOne_4 rfl ?_
    refine g_iload_n dX6_checkOne_5 rfl ?_
    refine g_icmp_lt 19 dX6_checkOne_6 (by decide) (fun h6 => ?_) (fun h6 => ?_)
    · skip
      rw [nI_ltI (by omega) (by omega)] at h6
      exact g_vret dX6_checkOne_19 rfl (⟨rfl, rfl⟩)
    · skip
      rw [nI_ltI (by omega) (by omega)] at h6
      exact absurd hi h6

set_option maxRecDepth 100000 in
/-- checkOne: there is no such one -/
theorem c_checkNo {R A : Nat} {σ : gSt} {x : Int32} {n : Nat} (hx : x < 0 ∨ nI n ≤ x) : gEM (cG R A) mX6_checkOne 1 [.inl (x), .inl (nI (n))] σ (gX 0 (fun s => s = σ)) := by
  refine gEM_of (by decide +kernel) rfl (Nat.le_of_ble_eq_true rfl) ?_
  refine g_iload_n dX6_checkOne_0 rfl ?_
  refine g_if_lt 9 dX6_checkOne_1 (by decide) (fun h1 => ?_) (fun h1 => ?_)
  · skip
    exact g_throw_one ⟨rfl, rfl⟩ (by decide)
  · skip
    refine g_iload_n dX6_checkOne_4 rfl ?_
    refine g_iload_n dX6_checkOne_5 rfl ?_
    refine g_icmp_lt 19 dX6_checkOne_6 (by decide) (fun h6 => ?_) (fun h6 => ?_)
    · skip
      rcases hx with q | q
      · exact absurd q h1
      · exact absurd h6 (Int32.not_lt.mpr q)
    · skip
      exact g_throw_one ⟨rfl, rfl⟩ (by decide)

set_option maxRecDepth 100000 in
/-- hasRoomFor -/
theorem c_room {R A : Nat} {σ : gSt} {n k : Nat} (hn : σ 4 0 = nI n) (hn4 : n ≤ 401) (hk : k ≤ 1000) : gEM (cG R A) mX3_hasRoomFor 0 [.inr (4), .inl (nI (k))] σ (gR (bI (n + k ≤ 400)) (fun s => s = σ)) := by
  refine gEM_of (by decide +kernel) rfl (Nat.le_of_ble_eq_true rfl) ?_
  refine g_aload_n dX3_hasRoomFor_0 rfl ?_
  refine g_get (T := TX3) (N := 4) (Cn := RX3) (ref := "CommitCouncil$Mail") 0 dX3_hasRoomFor_1 (cIn_lo (by decide)) cSh_4 rfl (fun w h => List.mem_cons_of_mem _ (hU3 w h)) (by decide) (List.mem_cons_of_mem _ uw_1_121) (Or.inl rfl) rfl ?_
  refine gEx.top (v := .inl (nI (n))) (congrArg Sum.inl (hn)) ?_
  refine g_iload_n dX3_hasRoomFor_4 rfl ?_
  refine g_iadd dX3_hasRoomFor_5 ?_
  refine gEx.top (v := .inl (nI (n + k))) (congrArg Sum.inl (nI_add _ _)) ?_
  refine g_sipush (nI (400)) dX3_hasRoomFor_6 (by decide) ?_
  refine g_icmp_gt 16 dX3_hasRoomFor_9 (by decide) (fun h9 => ?_) (fun h9 => ?_)
  · skip
    rw [nI_ltI (by omega) (by omega)] at h9
    refine g_iconst (nI (0)) dX3_hasRoomFor_16 (by decide) ?_
    exact g_zret dX3_hasRoomFor_17 rfl (rfl) (⟨by unfold bI; rw [if_neg (by omega)]; rfl, rfl⟩)
  · skip
    rw [nI_ltI (by omega) (by omega)] at h9
    refine g_iconst (nI (1)) dX3_hasRoomFor_12 (by decide) ?_
    refine g_goto 17 dX3_hasRoomFor_13 (by decide) ?_
    exact g_zret dX3_hasRoomFor_17 rfl (rfl) (⟨by unfold bI; rw [if_pos (by omega)]; rfl, rfl⟩)

set_option maxRecDepth 100000 in
/-- hasRoomFor(-1) -/
theorem c_roomM {R A : Nat} {σ : gSt} {n : Nat} (hn : σ 4 0 = nI n) (hn4 : n ≤ 400) (hn1 : 1 ≤ n) : gEM (cG R A) mX3_hasRoomFor 0 [.inr (4), .inl (-1)] σ (gR 1 (fun s => s = σ)) := by
  refine gEM_of (by decide +kernel) rfl (Nat.le_of_ble_eq_true rfl) ?_
  refine g_aload_n dX3_hasRoomFor_0 rfl ?_
  refine g_get (T := TX3) (N := 4) (Cn := RX3) (ref := "CommitCouncil$Mail") 0 dX3_hasRoomFor_1 (cIn_lo (by decide)) cSh_4 rfl (fun w h => List.mem_cons_of_mem _ (hU3 w h)) (by decide) (List.mem_cons_of_mem _ uw_1_121) (Or.inl rfl) rfl ?_
  refine gEx.top (v := .inl (nI (n))) (congrArg Sum.inl (hn)) ?_
  refine g_iload_n dX3_hasRoomFor_4 rfl ?_
  refine g_iadd dX3_hasRoomFor_5 ?_
  refine gEx.top (v := .inl (nI (n - 1))) (congrArg Sum.inl (sb_m1 hn1)) ?_
  refine g_sipush (nI (400)) dX3_hasRoomFor_6 (by decide) ?_
  refine g_icmp_gt 16 dX3_hasRoomFor_9 (by decide) (fun h9 => ?_) (fun h9 => ?_)
  · skip
    rw [nI_ltI (by omega) (by omega)] at h9
    exact absurd h9 (by omega)
  · skip
    rw [nI_ltI (by omega) (by omega)] at h9
    refine g_iconst (nI (1)) dX3_hasRoomFor_12 (by decide) ?_
    refine g_goto 17 dX3_hasRoomFor_13 (by decide) ?_
    exact g_zret dX3_hasRoomFor_17 rfl (rfl) (⟨rfl, rfl⟩)

set_option maxRecDepth 100000 in
/-- part: a part of a message -/
theorem c_part {R A : Nat} {σ : gSt} {n : Nat} (hn : σ 4 0 = nI n) (hw : σ 4 2 = nI (6 + R)) (hR : R ≤ 6) {k j : Nat} (hk : k < n) (hn4 : n ≤ 401) (hj : j < 6) : gEM (cG R A) mX3_part 0 [.inr (4), .inl (nI (k)), .inl (nI (j))] σ (gR (σ 5 (k * (6 + R) + j)) (fun s => s = σ)) := by
  refine gEM_of (by decide +kernel) rfl (Nat.le_of_ble_eq_true rfl) ?_
  refine g_iload_n dX3_part_0 rfl ?_
  refine g_if_lt 22 dX3_part_1 (by decide) (fun h1 => ?_) (fun h1 => ?_)
  · skip
    rw [nI_n (by omega)] at h1
    exact h1.elim
  · skip
    rw [nI_n (by omega)] at h1
    refine g_iload_n dX3_part_4 rfl ?_
    refine g_aload_n dX3_part_5 rfl ?_
    refine g_get (T := TX3) (N := 4) (Cn := RX3) (ref := "CommitCouncil$Mail") 0 dX3_part_6 (cIn_lo (by decide)) cSh_4 rfl (fun w h => List.mem_cons_of_mem _ (hU3 w h)) (by decide) (List.mem_cons_of_mem _ uw_1_121) (Or.inl rfl) rfl ?_
    refine gEx.top (v := .inl (nI (n))) (congrArg Sum.inl (hn)) ?_
    refine g_icmp_ge 22 dX3_part_9 (by decide) (fun h9 => ?_) (fun h9 => ?_)
    · skip
      rw [nI_leI (by omega) (by omega)] at h9
      exact absurd h9 (by omega)
    · skip
      rw [nI_leI (by omega) (by omega)] at h9
      refine g_iload_n dX3_part_12 rfl ?_
      refine g_if_lt 22 dX3_part_13 (by decide) (fun h13 => ?_) (fun h13 => ?_)
      · skip
        rw [nI_n (by omega)] at h13
        exact h13.elim
      · skip
        rw [nI_n (by omega)] at h13
        refine g_iload_n dX3_part_16 rfl ?_
        refine g_bipush (nI (6)) dX3_part_17 (by decide) ?_
        refine g_icmp_lt 24 dX3_part_19 (by decide) (fun h19 => ?_) (fun h19 => ?_)
        · skip
          rw [nI_ltI (by omega) (by omega)] at h19
          refine g_aload_n dX3_part_24 rfl ?_
          refine g_getr (T := TX3) (N := 4) (Cn := RX3) (ref := "CommitCouncil$Mail") 3 dX3_part_25 (cIn_lo (by decide)) cSh_4 rfl (fun w h => List.mem_cons_of_mem _ (hU3 w h)) (by decide) (List.mem_cons_of_mem _ uw_1_126) (Or.inl rfl) rfl ?_
          refine g_iload_n dX3_part_28 rfl ?_
          refine g_aload_n dX3_part_29 rfl ?_
          refine g_get (T := TX3) (N := 4) (Cn := RX3) (ref := "CommitCouncil$Mail") 2 dX3_part_30 (cIn_lo (by decide)) cSh_4 rfl (fun w h => List.mem_cons_of_mem _ (hU3 w h)) (by decide) (List.mem_cons_of_mem _ uw_1_125) (Or.inl rfl) rfl ?_
          refine gEx.top (v := .inl (nI (6 + R))) (congrArg Sum.inl (hw)) ?_
          refine g_imul dX3_part_33 ?_
          refine gEx.top (v := .inl (nI ((k) * (6 + R)))) (congrArg Sum.inl (pk_mul _ _)) ?_
          refine g_iload_n dX3_part_34 rfl ?_
          refine g_iadd dX3_part_35 ?_
          refine gEx.top (v := .inl (nI ((k) * (6 + R) + j))) (congrArg Sum.inl (nI_add _ _)) ?_
          refine g_ialdN (n := 401 * (6 + R)) (j := (k) * (6 + R) + j) dX3_part_36 (cIn_lo (by decide)) cSh_5 (mlt (by omega) (by omega)) (by omega) ?_
          exact g_iret dX3_part_37 rfl (⟨rfl, rfl⟩)
        · skip
          rw [nI_ltI (by omega) (by omega)] at h19
          exact absurd h19 (by omega)

set_option maxRecDepth 100000 in
/-- part: another what -/
theorem c_partNo {R A : Nat} {σ : gSt} {n : Nat} (hn : σ 4 0 = nI n) (hw : σ 4 2 = nI (6 + R)) (hR : R ≤ 6) {k : Nat} {x : Int32} (hk : k < n) (hn4 : n ≤ 401) (hx : x < 0 ∨ nI 6 ≤ x) : gEM (cG R A) mX3_part 0 [.inr (4), .inl (nI (k)), .inl (x)] σ (gR (-1) (fun s => s = σ)) := by
  refine gEM_of (by decide +kernel) rfl (Nat.le_of_ble_eq_true rfl) ?_
  refine g_iload_n dX3_part_0 rfl ?_
  refine g_if_lt 22 dX3_part_1 (by decide) (fun h1 => ?_) (fun h1 => ?_)
  · skip
    rw [nI_n (by omega)] at h1
    exact h1.elim
  · skip
    rw [nI_n (by omega)] at h1
    refine g_iload_n dX3_part_4 rfl ?_
    refine g_aload_n dX3_part_5 rfl ?_
    refine g_get (T := TX3) (N := 4) (Cn := RX3) (ref := "CommitCouncil$Mail") 0 dX3_part_6 (cIn_lo (by decide)) cSh_4 rfl (fun w h => List.mem_cons_of_mem _ (hU3 w h)) (by decide) (List.mem_cons_of_mem _ uw_1_121) (Or.inl rfl) rfl ?_
    refine gEx.top (v := .inl (nI (n))) (congrArg Sum.inl (hn)) ?_
    refine g_icmp_ge 22 dX3_part_9 (by decide) (fun h9 => ?_) (fun h9 => ?_)
    · skip
      rw [nI_leI (by omega) (by omega)] at h9
      exact absurd h9 (by omega)
    · skip
      rw [nI_leI (by omega) (by omega)] at h9
      refine g_iload_n dX3_part_12 rfl ?_
      refine g_if_lt 22 dX3_part_13 (by decide) (fun h13 => ?_) (fun h13 => ?_)
      · skip
        refine g_iconst ((-1)) dX3_part_22 (by decide) ?_
        exact g_iret dX3_part_23 rfl (⟨rfl, rfl⟩)
      · skip
        refine g_iload_n dX3_part_16 rfl ?_
        refine g_bipush (nI (6)) dX3_part_17 (by decide) ?_
        refine g_icmp_lt 24 dX3_part_19 (by decide) (fun h19 => ?_) (fun h19 => ?_)
        · skip
          rcases hx with q | q
          · exact absurd q h13
          · exact absurd h19 (Int32.not_lt.mpr q)
        · skip
          refine g_iconst ((-1)) dX3_part_22 (by decide) ?_
          exact g_iret dX3_part_23 rfl (⟨rfl, rfl⟩)

set_option maxRecDepth 100000 in
/-- tidings -/
theorem c_tidings {R A : Nat} {σ : gSt} {n : Nat} (hn : σ 4 0 = nI n) (hw : σ 4 2 = nI (6 + R)) (hR : R ≤ 6) {k j : Nat} (hk : k < n) (hn4 : n ≤ 401) (hj : j < R) : gEM (cG R A) mX3_tidings 0 [.inr (4), .inl (nI (k)), .inl (nI (j))] σ (gR (σ 5 (k * (6 + R) + 6 + j)) (fun s => s = σ)) := by
  refine gEM_of (by decide +kernel) rfl (Nat.le_of_ble_eq_true rfl) ?_
  refine g_iload_n dX3_tidings_0 rfl ?_
  refine g_if_lt 27 dX3_tidings_1 (by decide) (fun h1 => ?_) (fun h1 => ?_)
  · skip
    rw [nI_n (by omega)] at h1
    exact h1.elim
  · skip
    rw [nI_n (by omega)] at h1
    refine g_iload_n dX3_tidings_4 rfl ?_
    refine g_aload_n dX3_tidings_5 rfl ?_
    refine g_get (T := TX3) (N := 4) (Cn := RX3) (ref := "CommitCouncil$Mail") 0 dX3_tidings_6 (cIn_lo (by decide)) cSh_4 rfl (fun w h => List.mem_cons_of_mem _ (hU3 w h)) (by decide) (List.mem_cons_of_mem _ uw_1_121) (Or.inl rfl) rfl ?_
    refine gEx.top (v := .inl (nI (n))) (congrArg Sum.inl (hn)) ?_
    refine g_icmp_ge 27 dX3_tidings_9 (by decide) (fun h9 => ?_) (fun h9 => ?_)
    · skip
      rw [nI_leI (by omega) (by omega)] at h9
      exact absurd h9 (by omega)
    · skip
      rw [nI_leI (by omega) (by omega)] at h9
      refine g_iload_n dX3_tidings_12 rfl ?_
      refine g_if_lt 27 dX3_tidings_13 (by decide) (fun h13 => ?_) (fun h13 => ?_)
      · skip
        rw [nI_n (by omega)] at h13
        exact h13.elim
      · skip
        rw [nI_n (by omega)] at h13
        refine g_iload_n dX3_tidings_16 rfl ?_
        refine g_aload_n dX3_tidings_17 rfl ?_
        refine g_get (T := TX3) (N := 4) (Cn := RX3) (ref := "CommitCouncil$Mail") 2 dX3_tidings_18 (cIn_lo (by decide)) cSh_4 rfl (fun w h => List.mem_cons_of_mem _ (hU3 w h)) (by decide) (List.mem_cons_of_mem _ uw_1_125) (Or.inl rfl) rfl ?_
        refine gEx.top (v := .inl (nI (6 + R))) (congrArg Sum.inl (hw)) ?_
        refine g_bipush (nI (6)) dX3_tidings_21 (by decide) ?_
        refine g_isub dX3_tidings_23 ?_
        refine gEx.top (v := .inl (nI (6 + R - (6)))) (congrArg Sum.inl (pk_sub (by omega))) ?_
        refine g_icmp_lt 29 dX3_tidings_24 (by decide) (fun h24 => ?_) (fun h24 => ?_)
        · skip
          rw [nI_ltI (by omega) (by omega)] at h24
          refine g_aload_n dX3_tidings_29 rfl ?_
          refine g_getr (T := TX3) (N := 4) (Cn := RX3) (ref := "CommitCouncil$Mail") 3 dX3_tidings_30 (cIn_lo (by decide)) cSh_4 rfl (fun w h => List.mem_cons_of_mem _ (hU3 w h)) (by decide) (List.mem_cons_of_mem _ uw_1_126) (Or.inl rfl) rfl ?_
          refine g_iload_n dX3_tidings_33 rfl ?_
          refine g_aload_n dX3_tidings_34 rfl ?_
          refine g_get (T := TX3) (N := 4) (Cn := RX3) (ref := "CommitCouncil$Mail") 2 dX3_tidings_35 (cIn_lo (by decide)) cSh_4 rfl (fun w h => List.mem_cons_of_mem _ (hU3 w h)) (by decide) (List.mem_cons_of_mem _ uw_1_125) (Or.inl rfl) rfl ?_
          refine gEx.top (v := .inl (nI (6 + R))) (congrArg Sum.inl (hw)) ?_
          refine g_imul dX3_tidings_38 ?_
          refine gEx.top (v := .inl (nI ((k) * (6 + R)))) (congrArg Sum.inl (pk_mul _ _)) ?_
          refine g_bipush (nI (6)) dX3_tidings_39 (by decide) ?_
          refine g_iadd dX3_tidings_41 ?_
          refine gEx.top (v := .inl (nI ((k) * (6 + R) + 6))) (congrArg Sum.inl (nI_add _ _)) ?_
          refine g_iload_n dX3_tidings_42 rfl ?_
          refine g_iadd dX3_tidings_43 ?_
          refine gEx.top (v := .inl (nI ((k) * (6 + R) + 6 + j))) (congrArg Sum.inl (nI_add _ _)) ?_
          refine g_ialdN (n := 401 * (6 + R)) (j := (k) * (6 + R) + 6 + j) dX3_tidings_44 (cIn_lo (by decide)) cSh_5 (by have := mlt (R := R) (j := 6 + j) (show k < 401 by omega) (by omega); omega) (by omega) ?_
          exact g_iret dX3_tidings_45 rfl (⟨rfl, rfl⟩)
        · skip
          rw [nI_ltI (by omega) (by omega)] at h24
          exact absurd h24 (by omega)

/-- the store behind a send -/
def sndσ (σ : gSt) (n w : Nat) (x0 x1 x2 x3 x4 x5 : Int32) : gSt := gup (gup (gup (gup (gup (gup (gup (gup σ 5 (n * w + 0) x0) 5 (n * w + 1) x1) 5 (n * w + 2) x2) 5 (n * w + 3) x3) 5 (n * w + 4) x4) 5 (n * w + 5) x5) 4 0 (nI (n + 1))) 4 1 (σ 4 1 + nI 1)

set_option maxRecDepth 100000 in
/-- send -/
theorem c_send {R A : Nat} {σ : gSt} {n : Nat} (hn : σ 4 0 = nI n) (hw : σ 4 2 = nI (6 + R)) (hR : R ≤ 6) (hn4 : n ≤ 400) {x0 x1 x2 x3 x4 x5 : Int32} : gEM (cG R A) mX3_send 0 [.inr (4), .inl (x0), .inl (x1), .inl (x2), .inl (x3), .inl (x4), .inl (x5)] σ (gV (fun s => s = sndσ σ n (6 + R) x0 x1 x2 x3 x4 x5)) := by
  refine gEM_of (by decide +kernel) rfl (Nat.le_of_ble_eq_true rfl) ?_
  refine g_aload_n dX3_send_0 rfl ?_
  refine g_get (T := TX3) (N := 4) (Cn := RX3) (ref := "CommitCouncil$Mail") 0 dX3_send_1 (cIn_lo (by decide)) cSh_4 rfl (fun w h => List.mem_cons_of_mem _ (hU3 w h)) (by decide) (List.mem_cons_of_mem _ uw_1_121) (Or.inl rfl) rfl ?_
  refine gEx.top (v := .inl (nI (n))) (congrArg Sum.inl (hn)) ?_
  refine g_sipush (nI (401)) dX3_send_4 (by decide) ?_
  refine g_icmp_lt 11 dX3_send_7 (by decide) (fun h7 => ?_) (fun h7 => ?_)
  · skip
    rw [nI_ltI (by omega) (by omega)] at h7
    refine g_aload_n dX3_send_11 rfl ?_
    refine g_get (T := TX3) (N := 4) (Cn := RX3) (ref := "CommitCouncil$Mail") 0 dX3_send_12 (cIn_lo (by decide)) cSh_4 rfl (fun w h => List.mem_cons_of_mem _ (hU3 w h)) (by decide) (List.mem_cons_of_mem _ uw_1_121) (Or.inl rfl) rfl ?_
    refine gEx.top (v := .inl (nI (n))) (congrArg Sum.inl (hn)) ?_
    refine g_aload_n dX3_send_15 rfl ?_
    refine g_get (T := TX3) (N := 4) (Cn := RX3) (ref := "CommitCouncil$Mail") 2 dX3_send_16 (cIn_lo (by decide)) cSh_4 rfl (fun w h => List.mem_cons_of_mem _ (hU3 w h)) (by decide) (List.mem_cons_of_mem _ uw_1_125) (Or.inl rfl) rfl ?_
    refine gEx.top (v := .inl (nI (6 + R))) (congrArg Sum.inl (hw)) ?_
    refine g_imul dX3_send_19 ?_
    refine gEx.top (v := .inl (nI ((n) * (6 + R)))) (congrArg Sum.inl (pk_mul _ _)) ?_
    refine g_istore dX3_send_20 (by decide) ?_
    refine g_aload_n dX3_send_22 rfl ?_
    refine g_getr (T := TX3) (N := 4) (Cn := RX3) (ref := "CommitCouncil$Mail") 3 dX3_send_23 (cIn_lo (by decide)) cSh_4 rfl (fun w h => List.mem_cons_of_mem _ (hU3 w h)) (by decide) (List.mem_cons_of_mem _ uw_1_126) (Or.inl rfl) rfl ?_
    refine g_iload dX3_send_26 rfl ?_
    refine g_iconst (nI (0)) dX3_send_28 (by decide) ?_
    refine g_iadd dX3_send_29 ?_
    refine gEx.top (v := .inl (nI ((n) * (6 + R) + 0))) (congrArg Sum.inl (nI_add _ _)) ?_
    refine g_iload_n dX3_send_30 rfl ?_
    refine g_iastN (n := 401 * (6 + R)) (j := (n) * (6 + R) + 0) dX3_send_31 (cIn_lo (by decide)) cSh_5 (mlt (by omega) (by omega)) (by omega) ?_
    refine g_aload_n dX3_send_32 rfl ?_
    refine g_getr (T := TX3) (N := 4) (Cn := RX3) (ref := "CommitCouncil$Mail") 3 dX3_send_33 (cIn_lo (by decide)) cSh_4 rfl (fun w h => List.mem_cons_of_mem _ (hU3 w h)) (by decide) (List.mem_cons_of_mem _ uw_1_126) (Or.inl rfl) rfl ?_
    refine g_iload dX3_send_36 rfl ?_
    refine g_iconst (nI (1)) dX3_send_38 (by decide) ?_
    refine g_iadd dX3_send_39 ?_
    refine gEx.top (v := .inl (nI ((n) * (6 + R) + 1))) (congrArg Sum.inl (nI_add _ _)) ?_
    refine g_iload_n dX3_send_40 rfl ?_
    refine g_iastN (n := 401 * (6 + R)) (j := (n) * (6 + R) + 1) dX3_send_41 (cIn_lo (by decide)) cSh_5 (mlt (by omega) (by omega)) (by omega) ?_
    refine g_aload_n dX3_send_42 rfl ?_
    refine g_getr (T := TX3) (N := 4) (Cn := RX3) (ref := "CommitCouncil$Mail") 3 dX3_send_43 (cIn_lo (by decide)) cSh_4 rfl (fun w h => List.mem_cons_of_mem _ (hU3 w h)) (by decide) (List.mem_cons_of_mem _ uw_1_126) (Or.inl rfl) rfl ?_
    refine g_iload dX3_send_46 rfl ?_
    refine g_iconst (nI (2)) dX3_send_48 (by decide) ?_
    refine g_iadd dX3_send_49 ?_
    refine gEx.top (v := .inl (nI ((n) * (6 + R) + 2))) (congrArg Sum.inl (nI_add _ _)) ?_
    refine g_iload_n dX3_send_50 rfl ?_
    refine g_iastN (n := 401 * (6 + R)) (j := (n) * (6 + R) + 2) dX3_send_51 (cIn_lo (by decide)) cSh_5 (mlt (by omega) (by omega)) (by omega) ?_
    refine g_aload_n dX3_send_52 rfl ?_
    refine g_getr (T := TX3) (N := 4) (Cn := RX3) (ref := "CommitCouncil$Mail") 3 dX3_send_53 (cIn_lo (by decide)) cSh_4 rfl (fun w h => List.mem_cons_of_mem _ (hU3 w h)) (by decide) (List.mem_cons_of_mem _ uw_1_126) (Or.inl rfl) rfl ?_
    refine g_iload dX3_send_56 rfl ?_
    refine g_iconst (nI (3)) dX3_send_58 (by decide) ?_
    refine g_iadd dX3_send_59 ?_
    refine gEx.top (v := .inl (nI ((n) * (6 + R) + 3))) (congrArg Sum.inl (nI_add _ _)) ?_
    refine g_iload dX3_send_60 rfl ?_
    refine g_iastN (n := 401 * (6 + R)) (j := (n) * (6 + R) + 3) dX3_send_62 (cIn_lo (by decide)) cSh_5 (mlt (by omega) (by omega)) (by omega) ?_
    refine g_aload_n dX3_send_63 rfl ?_
    refine g_getr (T := TX3) (N := 4) (Cn := RX3) (ref := "CommitCouncil$Mail") 3 dX3_send_64 (cIn_lo (by decide)) cSh_4 rfl (fun w h => List.mem_cons_of_mem _ (hU3 w h)) (by decide) (List.mem_cons_of_mem _ uw_1_126) (Or.inl rfl) rfl ?_
    refine g_iload dX3_send_67 rfl ?_
    refine g_iconst (nI (4)) dX3_send_69 (by decide) ?_
    refine g_iadd dX3_send_70 ?_
    refine gEx.top (v := .inl (nI ((n) * (6 + R) + 4))) (congrArg Sum.inl (nI_add _ _)) ?_
    refine g_iload dX3_send_71 rfl ?_
    refine g_iastN (n := 401 * (6 + R)) (j := (n) * (6 + R) + 4) dX3_send_73 (cIn_lo (by decide)) cSh_5 (mlt (by omega) (by omega)) (by omega) ?_
    refine g_aload_n dX3_send_74 rfl ?_
    refine g_getr (T := TX3) (N := 4) (Cn := RX3) (ref := "CommitCouncil$Mail") 3 dX3_send_75 (cIn_lo (by decide)) cSh_4 rfl (fun w h => List.mem_cons_of_mem _ (hU3 w h)) (by decide) (List.mem_cons_of_mem _ uw_1_126) (Or.inl rfl) rfl ?_
    refine g_iload dX3_send_78 rfl ?_
    refine g_iconst (nI (5)) dX3_send_80 (by decide) ?_
    refine g_iadd dX3_send_81 ?_
    refine gEx.top (v := .inl (nI ((n) * (6 + R) + 5))) (congrArg Sum.inl (nI_add _ _)) ?_
    refine g_iload dX3_send_82 rfl ?_
    refine g_iastN (n := 401 * (6 + R)) (j := (n) * (6 + R) + 5) dX3_send_84 (cIn_lo (by decide)) cSh_5 (mlt (by omega) (by omega)) (by omega) ?_
    refine g_aload_n dX3_send_85 rfl ?_
    refine g_dup dX3_send_86 ?_
    refine g_get (T := TX3) (N := 4) (Cn := RX3) (ref := "CommitCouncil$Mail") 0 dX3_send_87 (cIn_lo (by decide)) cSh_4 rfl (fun w h => List.mem_cons_of_mem _ (hU3 w h)) (by decide) (List.mem_cons_of_mem _ uw_1_121) (Or.inl rfl) rfl ?_
    refine gEx.top (v := .inl (nI (n))) (congrArg Sum.inl (hn)) ?_
    refine g_iconst (nI (1)) dX3_send_90 (by decide) ?_
    refine g_iadd dX3_send_91 ?_
    refine gEx.top (v := .inl (nI (n + 1))) (congrArg Sum.inl (nI_add _ _)) ?_
    refine g_put (T := TX3) (N := 4) (Cn := RX3) (ref := "CommitCouncil$Mail") (ty0 := tyX3) 0 dX3_send_92 (cIn_lo (by decide)) cSh_4 rfl (fun w h => List.mem_cons_of_mem _ (hU3 w h)) tyX3_ok nmX3 (by decide) (List.mem_cons_of_mem _ uw_1_121) (Or.inl rfl) rfl rfl rfl rfl ?_
    refine g_aload_n dX3_send_95 rfl ?_
    refine g_dup dX3_send_96 ?_
    refine g_get (T := TX3) (N := 4) (Cn := RX3) (ref := "CommitCouncil$Mail") 1 dX3_send_97 (cIn_lo (by decide)) cSh_4 rfl (fun w h => List.mem_cons_of_mem _ (hU3 w h)) (by decide) (List.mem_cons_of_mem _ uw_1_123) (Or.inl rfl) rfl ?_
    refine gEx.top (v := .inl (σ 4 1)) (congrArg Sum.inl (rfl)) ?_
    refine g_iconst (nI (1)) dX3_send_100 (by decide) ?_
    refine g_iadd dX3_send_101 ?_
    refine g_put (T := TX3) (N := 4) (Cn := RX3) (ref := "CommitCouncil$Mail") (ty0 := tyX3) 1 dX3_send_102 (cIn_lo (by decide)) cSh_4 rfl (fun w h => List.mem_cons_of_mem _ (hU3 w h)) tyX3_ok nmX3 (by decide) (List.mem_cons_of_mem _ uw_1_123) (Or.inl rfl) rfl rfl rfl rfl ?_
    exact g_vret dX3_send_105 rfl (⟨rfl, rfl⟩)
  · skip
    rw [nI_ltI (by omega) (by omega)] at h7
    exact absurd (show n < 401 by omega) h7

set_option maxRecDepth 100000 in
/-- remove -/
theorem c_remove {R A : Nat} {σ : gSt} {n : Nat} (hn : σ 4 0 = nI n) (hw : σ 4 2 = nI (6 + R)) (hR : R ≤ 6) {k : Nat} (hk : k < n) (hn4 : n ≤ 401) : gEM (cG R A) mX3_remove 0 [.inr (4), .inl (nI (k))] σ (gV (fun s => s = gup (gur σ 5 (va_cpy (σ 5) (σ 5) ((k + 1) * (6 + R)) (k * (6 + R)) ((n - 1 - k) * (6 + R)))) 4 0 (nI (n - 1)))) := by
  refine gEM_of (by decide +kernel) rfl (Nat.le_of_ble_eq_true rfl) ?_
  refine g_iload_n dX3_remove_0 rfl ?_
  refine g_if_lt 12 dX3_remove_1 (by decide) (fun h1 => ?_) (fun h1 => ?_)
  · skip
    rw [nI_n (by omega)] at h1
    exact h1.elim
  · skip
    rw [nI_n (by omega)] at h1
    refine g_iload_n dX3_remove_4 rfl ?_
    refine g_aload_n dX3_remove_5 rfl ?_
    refine g_get (T := TX3) (N := 4) (Cn := RX3) (ref := "CommitCouncil$Mail") 0 dX3_remove_6 (cIn_lo (by decide)) cSh_4 rfl (fun w h => List.mem_cons_of_mem _ (hU3 w h)) (by decide) (List.mem_cons_of_mem _ uw_1_121) (Or.inl rfl) rfl ?_
    refine gEx.top (v := .inl (nI (n))) (congrArg Sum.inl (hn)) ?_
    refine g_icmp_lt 13 dX3_remove_9 (by decide) (fun h9 => ?_) (fun h9 => ?_)
    · skip
      rw [nI_ltI (by omega) (by omega)] at h9
      refine g_aload_n dX3_remove_13 rfl ?_
      refine g_getr (T := TX3) (N := 4) (Cn := RX3) (ref := "CommitCouncil$Mail") 3 dX3_remove_14 (cIn_lo (by decide)) cSh_4 rfl (fun w h => List.mem_cons_of_mem _ (hU3 w h)) (by decide) (List.mem_cons_of_mem _ uw_1_126) (Or.inl rfl) rfl ?_
      refine g_iload_n dX3_remove_17 rfl ?_
      refine g_iconst (nI (1)) dX3_remove_18 (by decide) ?_
      refine g_iadd dX3_remove_19 ?_
      refine gEx.top (v := .inl (nI (k + 1))) (congrArg Sum.inl (nI_add _ _)) ?_
      refine g_aload_n dX3_remove_20 rfl ?_
      refine g_get (T := TX3) (N := 4) (Cn := RX3) (ref := "CommitCouncil$Mail") 2 dX3_remove_21 (cIn_lo (by decide)) cSh_4 rfl (fun w h => List.mem_cons_of_mem _ (hU3 w h)) (by decide) (List.mem_cons_of_mem _ uw_1_125) (Or.inl rfl) rfl ?_
      refine gEx.top (v := .inl (nI (6 + R))) (congrArg Sum.inl (hw)) ?_
      refine g_imul dX3_remove_24 ?_
      refine gEx.top (v := .inl (nI ((k + 1) * (6 + R)))) (congrArg Sum.inl (pk_mul _ _)) ?_
      refine g_aload_n dX3_remove_25 rfl ?_
      refine g_getr (T := TX3) (N := 4) (Cn := RX3) (ref := "CommitCouncil$Mail") 3 dX3_remove_26 (cIn_lo (by decide)) cSh_4 rfl (fun w h => List.mem_cons_of_mem _ (hU3 w h)) (by decide) (List.mem_cons_of_mem _ uw_1_126) (Or.inl rfl) rfl ?_
      refine g_iload_n dX3_remove_29 rfl ?_
      refine g_aload_n dX3_remove_30 rfl ?_
      refine g_get (T := TX3) (N := 4) (Cn := RX3) (ref := "CommitCouncil$Mail") 2 dX3_remove_31 (cIn_lo (by decide)) cSh_4 rfl (fun w h => List.mem_cons_of_mem _ (hU3 w h)) (by decide) (List.mem_cons_of_mem _ uw_1_125) (Or.inl rfl) rfl ?_
      refine gEx.top (v := .inl (nI (6 + R))) (congrArg Sum.inl (hw)) ?_
      refine g_imul dX3_remove_34 ?_
      refine gEx.top (v := .inl (nI ((k) * (6 + R)))) (congrArg Sum.inl (pk_mul _ _)) ?_
      refine g_aload_n dX3_remove_35 rfl ?_
      refine g_get (T := TX3) (N := 4) (Cn := RX3) (ref := "CommitCouncil$Mail") 0 dX3_remove_36 (cIn_lo (by decide)) cSh_4 rfl (fun w h => List.mem_cons_of_mem _ (hU3 w h)) (by decide) (List.mem_cons_of_mem _ uw_1_121) (Or.inl rfl) rfl ?_
      refine gEx.top (v := .inl (nI (n))) (congrArg Sum.inl (hn)) ?_
      refine g_iconst (nI (1)) dX3_remove_39 (by decide) ?_
      refine g_isub dX3_remove_40 ?_
      refine gEx.top (v := .inl (nI (n - (1)))) (congrArg Sum.inl (pk_sub (by omega))) ?_
      refine g_iload_n dX3_remove_41 rfl ?_
      refine g_isub dX3_remove_42 ?_
      refine gEx.top (v := .inl (nI (n - (1) - (k)))) (congrArg Sum.inl (pk_sub (by omega))) ?_
      refine g_aload_n dX3_remove_43 rfl ?_
      refine g_get (T := TX3) (N := 4) (Cn := RX3) (ref := "CommitCouncil$Mail") 2 dX3_remove_44 (cIn_lo (by decide)) cSh_4 rfl (fun w h => List.mem_cons_of_mem _ (hU3 w h)) (by decide) (List.mem_cons_of_mem _ uw_1_125) (Or.inl rfl) rfl ?_
      refine gEx.top (v := .inl (nI (6 + R))) (congrArg Sum.inl (hw)) ?_
      refine g_imul dX3_remove_47 ?_
      refine gEx.top (v := .inl (nI ((n - (1) - (k)) * (6 + R)))) (congrArg Sum.inl (pk_mul _ _)) ?_
      refine g_copyN (p := (k + 1) * (6 + R)) (q := (k) * (6 + R)) (c := (n - (1) - (k)) * (6 + R)) dX3_remove_48 (List.mem_cons_of_mem _ uw_2_221) (List.mem_cons_of_mem _ uw_2_223) (List.mem_cons_of_mem _ uw_2_222) (List.mem_cons_of_mem _ uw_1_16) (cIn_lo (by decide)) cSh_5 (cIn_lo (by decide)) cSh_5 (by rw [← Nat.add_mul]; exact mle (by omega)) (by rw [← Nat.add_mul]; exact mle (by omega)) (by omega) (by omega) ⟨by decide, by decide⟩ ?_
      refine g_aload_n dX3_remove_51 rfl ?_
      refine g_dup dX3_remove_52 ?_
      refine g_get (T := TX3) (N := 4) (Cn := RX3) (ref := "CommitCouncil$Mail") 0 dX3_remove_53 (cIn_lo (by decide)) cSh_4 rfl (fun w h => List.mem_cons_of_mem _ (hU3 w h)) (by decide) (List.mem_cons_of_mem _ uw_1_121) (Or.inl rfl) rfl ?_
      refine gEx.top (v := .inl (nI (n))) (congrArg Sum.inl (hn)) ?_
      refine g_iconst (nI (1)) dX3_remove_56 (by decide) ?_
      refine g_isub dX3_remove_57 ?_
      refine gEx.top (v := .inl (nI (n - (1)))) (congrArg Sum.inl (pk_sub (by omega))) ?_
      refine g_put (T := TX3) (N := 4) (Cn := RX3) (ref := "CommitCouncil$Mail") (ty0 := tyX3) 0 dX3_remove_58 (cIn_lo (by decide)) cSh_4 rfl (fun w h => List.mem_cons_of_mem _ (hU3 w h)) tyX3_ok nmX3 (by decide) (List.mem_cons_of_mem _ uw_1_121) (Or.inl rfl) rfl rfl rfl rfl ?_
      exact g_vret dX3_remove_61 rfl (⟨rfl, rfl⟩)
    · skip
      rw [nI_ltI (by omega) (by omega)] at h9
      exact absurd hk h9

set_option maxRecDepth 100000 in
/-- sendLike -/
theorem c_sendLike {R A : Nat} {σ : gSt} {n : Nat} (hn : σ 4 0 = nI n) (hw : σ 4 2 = nI (6 + R)) (hR : R ≤ 6) {k : Nat} (hk : k < n) (hn4 : n ≤ 400) : gEM (cG R A) mX3_sendLike 0 [.inr (4), .inl (nI (k))] σ (gV (fun s => s = gup (gup (gur σ 5 (va_cpy (σ 5) (σ 5) (k * (6 + R)) (n * (6 + R)) (6 + R))) 4 0 (nI (n + 1))) 4 1 (σ 4 1 + nI 1))) := by
  refine gEM_of (by decide +kernel) rfl (Nat.le_of_ble_eq_true rfl) ?_
  refine g_iload_n dX3_sendLike_0 rfl ?_
  refine g_if_lt 22 dX3_sendLike_1 (by decide) (fun h1 => ?_) (fun h1 => ?_)
  · skip
    rw [nI_n (by omega)] at h1
    exact h1.elim
  · skip
    rw [nI_n (by omega)] at h1
    refine g_iload_n dX3_sendLike_4 rfl ?_
    refine g_aload_n dX3_sendLike_5 rfl ?_
    refine g_get (T := TX3) (N := 4) (Cn := RX3) (ref := "CommitCouncil$Mail") 0 dX3_sendLike_6 (cIn_lo (by decide)) cSh_4 rfl (fun w h => List.mem_cons_of_mem _ (hU3 w h)) (by decide) (List.mem_cons_of_mem _ uw_1_121) (Or.inl rfl) rfl ?_
    refine gEx.top (v := .inl (nI (n))) (congrArg Sum.inl (hn)) ?_
    refine g_icmp_ge 22 dX3_sendLike_9 (by decide) (fun h9 => ?_) (fun h9 => ?_)
    · skip
      rw [nI_leI (by omega) (by omega)] at h9
      exact absurd h9 (by omega)
    · skip
      rw [nI_leI (by omega) (by omega)] at h9
      refine g_aload_n dX3_sendLike_12 rfl ?_
      refine g_get (T := TX3) (N := 4) (Cn := RX3) (ref := "CommitCouncil$Mail") 0 dX3_sendLike_13 (cIn_lo (by decide)) cSh_4 rfl (fun w h => List.mem_cons_of_mem _ (hU3 w h)) (by decide) (List.mem_cons_of_mem _ uw_1_121) (Or.inl rfl) rfl ?_
      refine gEx.top (v := .inl (nI (n))) (congrArg Sum.inl (hn)) ?_
      refine g_sipush (nI (401)) dX3_sendLike_16 (by decide) ?_
      refine g_icmp_lt 23 dX3_sendLike_19 (by decide) (fun h19 => ?_) (fun h19 => ?_)
      · skip
        rw [nI_ltI (by omega) (by omega)] at h19
        refine g_aload_n dX3_sendLike_23 rfl ?_
        refine g_getr (T := TX3) (N := 4) (Cn := RX3) (ref := "CommitCouncil$Mail") 3 dX3_sendLike_24 (cIn_lo (by decide)) cSh_4 rfl (fun w h => List.mem_cons_of_mem _ (hU3 w h)) (by decide) (List.mem_cons_of_mem _ uw_1_126) (Or.inl rfl) rfl ?_
        refine g_iload_n dX3_sendLike_27 rfl ?_
        refine g_aload_n dX3_sendLike_28 rfl ?_
        refine g_get (T := TX3) (N := 4) (Cn := RX3) (ref := "CommitCouncil$Mail") 2 dX3_sendLike_29 (cIn_lo (by decide)) cSh_4 rfl (fun w h => List.mem_cons_of_mem _ (hU3 w h)) (by decide) (List.mem_cons_of_mem _ uw_1_125) (Or.inl rfl) rfl ?_
        refine gEx.top (v := .inl (nI (6 + R))) (congrArg Sum.inl (hw)) ?_
        refine g_imul dX3_sendLike_32 ?_
        refine gEx.top (v := .inl (nI ((k) * (6 + R)))) (congrArg Sum.inl (pk_mul _ _)) ?_
        refine g_aload_n dX3_sendLike_33 rfl ?_
        refine g_getr (T := TX3) (N := 4) (Cn := RX3) (ref := "CommitCouncil$Mail") 3 dX3_sendLike_34 (cIn_lo (by decide)) cSh_4 rfl (fun w h => List.mem_cons_of_mem _ (hU3 w h)) (by decide) (List.mem_cons_of_mem _ uw_1_126) (Or.inl rfl) rfl ?_
        refine g_aload_n dX3_sendLike_37 rfl ?_
        refine g_get (T := TX3) (N := 4) (Cn := RX3) (ref := "CommitCouncil$Mail") 0 dX3_sendLike_38 (cIn_lo (by decide)) cSh_4 rfl (fun w h => List.mem_cons_of_mem _ (hU3 w h)) (by decide) (List.mem_cons_of_mem _ uw_1_121) (Or.inl rfl) rfl ?_
        refine gEx.top (v := .inl (nI (n))) (congrArg Sum.inl (hn)) ?_
        refine g_aload_n dX3_sendLike_41 rfl ?_
        refine g_get (T := TX3) (N := 4) (Cn := RX3) (ref := "CommitCouncil$Mail") 2 dX3_sendLike_42 (cIn_lo (by decide)) cSh_4 rfl (fun w h => List.mem_cons_of_mem _ (hU3 w h)) (by decide) (List.mem_cons_of_mem _ uw_1_125) (Or.inl rfl) rfl ?_
        refine gEx.top (v := .inl (nI (6 + R))) (congrArg Sum.inl (hw)) ?_
        refine g_imul dX3_sendLike_45 ?_
        refine gEx.top (v := .inl (nI ((n) * (6 + R)))) (congrArg Sum.inl (pk_mul _ _)) ?_
        refine g_aload_n dX3_sendLike_46 rfl ?_
        refine g_get (T := TX3) (N := 4) (Cn := RX3) (ref := "CommitCouncil$Mail") 2 dX3_sendLike_47 (cIn_lo (by decide)) cSh_4 rfl (fun w h => List.mem_cons_of_mem _ (hU3 w h)) (by decide) (List.mem_cons_of_mem _ uw_1_125) (Or.inl rfl) rfl ?_
        refine gEx.top (v := .inl (nI (6 + R))) (congrArg Sum.inl (hw)) ?_
        refine g_copyN (p := (k) * (6 + R)) (q := (n) * (6 + R)) (c := 6 + R) dX3_sendLike_50 (List.mem_cons_of_mem _ uw_2_221) (List.mem_cons_of_mem _ uw_2_223) (List.mem_cons_of_mem _ uw_2_222) (List.mem_cons_of_mem _ uw_1_16) (cIn_lo (by decide)) cSh_5 (cIn_lo (by decide)) cSh_5 (by have := mle (R := R) (show k + 1 ≤ 401 by omega); rw [Nat.add_mul, Nat.one_mul] at this; exact this) (by have := mle (R := R) (show n + 1 ≤ 401 by omega); rw [Nat.add_mul, Nat.one_mul] at this; exact this) (by omega) (by omega) ⟨by decide, by decide⟩ ?_
        refine g_aload_n dX3_sendLike_53 rfl ?_
        refine g_dup dX3_sendLike_54 ?_
        refine g_get (T := TX3) (N := 4) (Cn := RX3) (ref := "CommitCouncil$Mail") 0 dX3_sendLike_55 (cIn_lo (by decide)) cSh_4 rfl (fun w h => List.mem_cons_of_mem _ (hU3 w h)) (by decide) (List.mem_cons_of_mem _ uw_1_121) (Or.inl rfl) rfl ?_
        refine gEx.top (v := .inl (nI (n))) (congrArg Sum.inl (hn)) ?_
        refine g_iconst (nI (1)) dX3_sendLike_58 (by decide) ?_
        refine g_iadd dX3_sendLike_59 ?_
        refine gEx.top (v := .inl (nI (n + 1))) (congrArg Sum.inl (nI_add _ _)) ?_
        refine g_put (T := TX3) (N := 4) (Cn := RX3) (ref := "CommitCouncil$Mail") (ty0 := tyX3) 0 dX3_sendLike_60 (cIn_lo (by decide)) cSh_4 rfl (fun w h => List.mem_cons_of_mem _ (hU3 w h)) tyX3_ok nmX3 (by decide) (List.mem_cons_of_mem _ uw_1_121) (Or.inl rfl) rfl rfl rfl rfl ?_
        refine g_aload_n dX3_sendLike_63 rfl ?_
        refine g_dup dX3_sendLike_64 ?_
        refine g_get (T := TX3) (N := 4) (Cn := RX3) (ref := "CommitCouncil$Mail") 1 dX3_sendLike_65 (cIn_lo (by decide)) cSh_4 rfl (fun w h => List.mem_cons_of_mem _ (hU3 w h)) (by decide) (List.mem_cons_of_mem _ uw_1_123) (Or.inl rfl) rfl ?_
        refine gEx.top (v := .inl (σ 4 1)) (congrArg Sum.inl (rfl)) ?_
        refine g_iconst (nI (1)) dX3_sendLike_68 (by decide) ?_
        refine g_iadd dX3_sendLike_69 ?_
        refine g_put (T := TX3) (N := 4) (Cn := RX3) (ref := "CommitCouncil$Mail") (ty0 := tyX3) 1 dX3_sendLike_70 (cIn_lo (by decide)) cSh_4 rfl (fun w h => List.mem_cons_of_mem _ (hU3 w h)) tyX3_ok nmX3 (by decide) (List.mem_cons_of_mem _ uw_1_123) (Or.inl rfl) rfl rfl rfl rfl ?_
        exact g_vret dX3_sendLike_73 rfl (⟨rfl, rfl⟩)
      · skip
        rw [nI_ltI (by omega) (by omega)] at h19
        exact absurd (show n < 401 by omega) h19

set_option maxRecDepth 100000 in
/-- attach -/
theorem c_attach {R A : Nat} {σ : gSt} {n : Nat} (hn : σ 4 0 = nI n) (hw : σ 4 2 = nI (6 + R)) (hR : R ≤ 6) {a : Nat} (ha : a < A) (hA : A ≤ 5) (hn1 : 1 ≤ n) (hn4 : n ≤ 401) : gEM (cG R A) mX3_attach 0 [.inr (4), .inr (30 + a)] σ (gV (fun s => s = gur σ 5 (va_cpy (σ (30 + a)) (σ 5) 0 ((n - 1) * (6 + R) + 6) R))) := by
  refine gEM_of (by decide +kernel) rfl (Nat.le_of_ble_eq_true rfl) ?_
  refine g_aload_n dX3_attach_0 rfl ?_
  refine g_get (T := TX3) (N := 4) (Cn := RX3) (ref := "CommitCouncil$Mail") 0 dX3_attach_1 (cIn_lo (by decide)) cSh_4 rfl (fun w h => List.mem_cons_of_mem _ (hU3 w h)) (by decide) (List.mem_cons_of_mem _ uw_1_121) (Or.inl rfl) rfl ?_
  refine gEx.top (v := .inl (nI (n))) (congrArg Sum.inl (hn)) ?_
  refine g_if_le 44 dX3_attach_4 (by decide) (fun h4 => ?_) (fun h4 => ?_)
  · skip
    rw [nI_np (by omega)] at h4
    exact absurd h4 (by omega)
  · skip
    rw [nI_np (by omega)] at h4
    refine g_aload_n dX3_attach_7 rfl ?_
    refine g_alen (nI (R)) dX3_attach_8 (cIn_b ha) (cSh_b (by omega)) (by decide) rfl ?_
    refine g_aload_n dX3_attach_9 rfl ?_
    refine g_get (T := TX3) (N := 4) (Cn := RX3) (ref := "CommitCouncil$Mail") 2 dX3_attach_10 (cIn_lo (by decide)) cSh_4 rfl (fun w h => List.mem_cons_of_mem _ (hU3 w h)) (by decide) (List.mem_cons_of_mem _ uw_1_125) (Or.inl rfl) rfl ?_
    refine gEx.top (v := .inl (nI (6 + R))) (congrArg Sum.inl (hw)) ?_
    refine g_bipush (nI (6)) dX3_attach_13 (by decide) ?_
    refine g_isub dX3_attach_15 ?_
    refine gEx.top (v := .inl (nI (6 + R - (6)))) (congrArg Sum.inl (pk_sub (by omega))) ?_
    refine g_icmp_gt 44 dX3_attach_16 (by decide) (fun h16 => ?_) (fun h16 => ?_)
    · skip
      rw [nI_ltI (by omega) (by omega)] at h16
      exact absurd h16 (by omega)
    · skip
      rw [nI_ltI (by omega) (by omega)] at h16
      refine g_aload_n dX3_attach_19 rfl ?_
      refine g_iconst (nI (0)) dX3_attach_20 (by decide) ?_
      refine g_aload_n dX3_attach_21 rfl ?_
      refine g_getr (T := TX3) (N := 4) (Cn := RX3) (ref := "CommitCouncil$Mail") 3 dX3_attach_22 (cIn_lo (by decide)) cSh_4 rfl (fun w h => List.mem_cons_of_mem _ (hU3 w h)) (by decide) (List.mem_cons_of_mem _ uw_1_126) (Or.inl rfl) rfl ?_
      refine g_aload_n dX3_attach_25 rfl ?_
      refine g_get (T := TX3) (N := 4) (Cn := RX3) (ref := "CommitCouncil$Mail") 0 dX3_attach_26 (cIn_lo (by decide)) cSh_4 rfl (fun w h => List.mem_cons_of_mem _ (hU3 w h)) (by decide) (List.mem_cons_of_mem _ uw_1_121) (Or.inl rfl) rfl ?_
      refine gEx.top (v := .inl (nI (n))) (congrArg Sum.inl (hn)) ?_
      refine g_iconst (nI (1)) dX3_attach_29 (by decide) ?_
      refine g_isub dX3_attach_30 ?_
      refine gEx.top (v := .inl (nI (n - (1)))) (congrArg Sum.inl (pk_sub (by omega))) ?_
      refine g_aload_n dX3_attach_31 rfl ?_
      refine g_get (T := TX3) (N := 4) (Cn := RX3) (ref := "CommitCouncil$Mail") 2 dX3_attach_32 (cIn_lo (by decide)) cSh_4 rfl (fun w h => List.mem_cons_of_mem _ (hU3 w h)) (by decide) (List.mem_cons_of_mem _ uw_1_125) (Or.inl rfl) rfl ?_
      refine gEx.top (v := .inl (nI (6 + R))) (congrArg Sum.inl (hw)) ?_
      refine g_imul dX3_attach_35 ?_
      refine gEx.top (v := .inl (nI ((n - (1)) * (6 + R)))) (congrArg Sum.inl (pk_mul _ _)) ?_
      refine g_bipush (nI (6)) dX3_attach_36 (by decide) ?_
      refine g_iadd dX3_attach_38 ?_
      refine gEx.top (v := .inl (nI ((n - (1)) * (6 + R) + 6))) (congrArg Sum.inl (nI_add _ _)) ?_
      refine g_aload_n dX3_attach_39 rfl ?_
      refine g_alen (nI (R)) dX3_attach_40 (cIn_b ha) (cSh_b (by omega)) (by decide) rfl ?_
      refine g_copyN (p := 0) (q := (n - (1)) * (6 + R) + 6) (c := R) dX3_attach_41 (List.mem_cons_of_mem _ uw_2_221) (List.mem_cons_of_mem _ uw_2_223) (List.mem_cons_of_mem _ uw_2_222) (List.mem_cons_of_mem _ uw_1_16) (cIn_b ha) (cSh_b (by omega)) (cIn_lo (by decide)) cSh_5 (by omega) (by have := mle (R := R) (show (n - 1) + 1 ≤ 401 by omega); rw [Nat.add_mul, Nat.one_mul] at this; omega) (by omega) (by omega) ⟨by decide, by decide⟩ ?_
      exact g_vret dX3_attach_44 rfl (⟨rfl, rfl⟩)
end
section
def pc5 (n : Nat) : Nat := n % 2 + n / 2 % 2 + n / 4 % 2 + n / 8 % 2 + n / 16 % 2

theorem bc_eq (n : Nat) (hn : n < 32) : ((((((((nI (n)) - ((((nI (n)).toUInt32 >>> ((nI (1)).toUInt32 &&& Int32.toUInt32 31)).toInt32) &&& (1431655765))) &&& (858993459)) + (((((nI (n)) - ((((nI (n)).toUInt32 >>> ((nI (1)).toUInt32 &&& Int32.toUInt32 31)).toInt32) &&& (1431655765))).toUInt32 >>> ((nI (2)).toUInt32 &&& Int32.toUInt32 31)).toInt32) &&& (858993459))) + ((((((nI (n)) - ((((nI (n)).toUInt32 >>> ((nI (1)).toUInt32 &&& Int32.toUInt32 31)).toInt32) &&& (1431655765))) &&& (858993459)) + (((((nI (n)) - ((((nI (n)).toUInt32 >>> ((nI (1)).toUInt32 &&& Int32.toUInt32 31)).toInt32) &&& (1431655765))).toUInt32 >>> ((nI (2)).toUInt32 &&& Int32.toUInt32 31)).toInt32) &&& (858993459))).toUInt32 >>> ((nI (4)).toUInt32 &&& Int32.toUInt32 31)).toInt32)) &&& (252645135)) + ((((((((nI (n)) - ((((nI (n)).toUInt32 >>> ((nI (1)).toUInt32 &&& Int32.toUInt32 31)).toInt32) &&& (1431655765))) &&& (858993459)) + (((((nI (n)) - ((((nI (n)).toUInt32 >>> ((nI (1)).toUInt32 &&& Int32.toUInt32 31)).toInt32) &&& (1431655765))).toUInt32 >>> ((nI (2)).toUInt32 &&& Int32.toUInt32 31)).toInt32) &&& (858993459))) + ((((((nI (n)) - ((((nI (n)).toUInt32 >>> ((nI (1)).toUInt32 &&& Int32.toUInt32 31)).toInt32) &&& (1431655765))) &&& (858993459)) + (((((nI (n)) - ((((nI (n)).toUInt32 >>> ((nI (1)).toUInt32 &&& Int32.toUInt32 31)).toInt32) &&& (1431655765))).toUInt32 >>> ((nI (2)).toUInt32 &&& Int32.toUInt32 31)).toInt32) &&& (858993459))).toUInt32 >>> ((nI (4)).toUInt32 &&& Int32.toUInt32 31)).toInt32)) &&& (252645135)).toUInt32 >>> ((nI (8)).toUInt32 &&& Int32.toUInt32 31)).toInt32)) + (((((((((nI (n)) - ((((nI (n)).toUInt32 >>> ((nI (1)).toUInt32 &&& Int32.toUInt32 31)).toInt32) &&& (1431655765))) &&& (858993459)) + (((((nI (n)) - ((((nI (n)).toUInt32 >>> ((nI (1)).toUInt32 &&& Int32.toUInt32 31)).toInt32) &&& (1431655765))).toUInt32 >>> ((nI (2)).toUInt32 &&& Int32.toUInt32 31)).toInt32) &&& (858993459))) + ((((((nI (n)) - ((((nI (n)).toUInt32 >>> ((nI (1)).toUInt32 &&& Int32.toUInt32 31)).toInt32) &&& (1431655765))) &&& (858993459)) + (((((nI (n)) - ((((nI (n)).toUInt32 >>> ((nI (1)).toUInt32 &&& Int32.toUInt32 31)).toInt32) &&& (1431655765))).toUInt32 >>> ((nI (2)).toUInt32 &&& Int32.toUInt32 31)).toInt32) &&& (858993459))).toUInt32 >>> ((nI (4)).toUInt32 &&& Int32.toUInt32 31)).toInt32)) &&& (252645135)) + ((((((((nI (n)) - ((((nI (n)).toUInt32 >>> ((nI (1)).toUInt32 &&& Int32.toUInt32 31)).toInt32) &&& (1431655765))) &&& (858993459)) + (((((nI (n)) - ((((nI (n)).toUInt32 >>> ((nI (1)).toUInt32 &&& Int32.toUInt32 31)).toInt32) &&& (1431655765))).toUInt32 >>> ((nI (2)).toUInt32 &&& Int32.toUInt32 31)).toInt32) &&& (858993459))) + ((((((nI (n)) - ((((nI (n)).toUInt32 >>> ((nI (1)).toUInt32 &&& Int32.toUInt32 31)).toInt32) &&& (1431655765))) &&& (858993459)) + (((((nI (n)) - ((((nI (n)).toUInt32 >>> ((nI (1)).toUInt32 &&& Int32.toUInt32 31)).toInt32) &&& (1431655765))).toUInt32 >>> ((nI (2)).toUInt32 &&& Int32.toUInt32 31)).toInt32) &&& (858993459))).toUInt32 >>> ((nI (4)).toUInt32 &&& Int32.toUInt32 31)).toInt32)) &&& (252645135)).toUInt32 >>> ((nI (8)).toUInt32 &&& Int32.toUInt32 31)).toInt32)).toUInt32 >>> ((nI (16)).toUInt32 &&& Int32.toUInt32 31)).toInt32)) &&& (nI (63)) = nI (pc5 n) := by
  have h : ∀ n : Fin 32, ((((((((nI (n.val)) - ((((nI (n.val)).toUInt32 >>> ((nI (1)).toUInt32 &&& Int32.toUInt32 31)).toInt32) &&& (1431655765))) &&& (858993459)) + (((((nI (n.val)) - ((((nI (n.val)).toUInt32 >>> ((nI (1)).toUInt32 &&& Int32.toUInt32 31)).toInt32) &&& (1431655765))).toUInt32 >>> ((nI (2)).toUInt32 &&& Int32.toUInt32 31)).toInt32) &&& (858993459))) + ((((((nI (n.val)) - ((((nI (n.val)).toUInt32 >>> ((nI (1)).toUInt32 &&& Int32.toUInt32 31)).toInt32) &&& (1431655765))) &&& (858993459)) + (((((nI (n.val)) - ((((nI (n.val)).toUInt32 >>> ((nI (1)).toUInt32 &&& Int32.toUInt32 31)).toInt32) &&& (1431655765))).toUInt32 >>> ((nI (2)).toUInt32 &&& Int32.toUInt32 31)).toInt32) &&& (858993459))).toUInt32 >>> ((nI (4)).toUInt32 &&& Int32.toUInt32 31)).toInt32)) &&& (252645135)) + ((((((((nI (n.val)) - ((((nI (n.val)).toUInt32 >>> ((nI (1)).toUInt32 &&& Int32.toUInt32 31)).toInt32) &&& (1431655765))) &&& (858993459)) + (((((nI (n.val)) - ((((nI (n.val)).toUInt32 >>> ((nI (1)).toUInt32 &&& Int32.toUInt32 31)).toInt32) &&& (1431655765))).toUInt32 >>> ((nI (2)).toUInt32 &&& Int32.toUInt32 31)).toInt32) &&& (858993459))) + ((((((nI (n.val)) - ((((nI (n.val)).toUInt32 >>> ((nI (1)).toUInt32 &&& Int32.toUInt32 31)).toInt32) &&& (1431655765))) &&& (858993459)) + (((((nI (n.val)) - ((((nI (n.val)).toUInt32 >>> ((nI (1)).toUInt32 &&& Int32.toUInt32 31)).toInt32) &&& (1431655765))).toUInt32 >>> ((nI (2)).toUInt32 &&& Int32.toUInt32 31)).toInt32) &&& (858993459))).toUInt32 >>> ((nI (4)).toUInt32 &&& Int32.toUInt32 31)).toInt32)) &&& (252645135)).toUInt32 >>> ((nI (8)).toUInt32 &&& Int32.toUInt32 31)).toInt32)) + (((((((((nI (n.val)) - ((((nI (n.val)).toUInt32 >>> ((nI (1)).toUInt32 &&& Int32.toUInt32 31)).toInt32) &&& (1431655765))) &&& (858993459)) + (((((nI (n.val)) - ((((nI (n.val)).toUInt32 >>> ((nI (1)).toUInt32 &&& Int32.toUInt32 31)).toInt32) &&& (1431655765))).toUInt32 >>> ((nI (2)).toUInt32 &&& Int32.toUInt32 31)).toInt32) &&& (858993459))) + ((((((nI (n.val)) - ((((nI (n.val)).toUInt32 >>> ((nI (1)).toUInt32 &&& Int32.toUInt32 31)).toInt32) &&& (1431655765))) &&& (858993459)) + (((((nI (n.val)) - ((((nI (n.val)).toUInt32 >>> ((nI (1)).toUInt32 &&& Int32.toUInt32 31)).toInt32) &&& (1431655765))).toUInt32 >>> ((nI (2)).toUInt32 &&& Int32.toUInt32 31)).toInt32) &&& (858993459))).toUInt32 >>> ((nI (4)).toUInt32 &&& Int32.toUInt32 31)).toInt32)) &&& (252645135)) + ((((((((nI (n.val)) - ((((nI (n.val)).toUInt32 >>> ((nI (1)).toUInt32 &&& Int32.toUInt32 31)).toInt32) &&& (1431655765))) &&& (858993459)) + (((((nI (n.val)) - ((((nI (n.val)).toUInt32 >>> ((nI (1)).toUInt32 &&& Int32.toUInt32 31)).toInt32) &&& (1431655765))).toUInt32 >>> ((nI (2)).toUInt32 &&& Int32.toUInt32 31)).toInt32) &&& (858993459))) + ((((((nI (n.val)) - ((((nI (n.val)).toUInt32 >>> ((nI (1)).toUInt32 &&& Int32.toUInt32 31)).toInt32) &&& (1431655765))) &&& (858993459)) + (((((nI (n.val)) - ((((nI (n.val)).toUInt32 >>> ((nI (1)).toUInt32 &&& Int32.toUInt32 31)).toInt32) &&& (1431655765))).toUInt32 >>> ((nI (2)).toUInt32 &&& Int32.toUInt32 31)).toInt32) &&& (858993459))).toUInt32 >>> ((nI (4)).toUInt32 &&& Int32.toUInt32 31)).toInt32)) &&& (252645135)).toUInt32 >>> ((nI (8)).toUInt32 &&& Int32.toUInt32 31)).toInt32)).toUInt32 >>> ((nI (16)).toUInt32 &&& Int32.toUInt32 31)).toInt32)) &&& (nI (63)) = nI (pc5 n.val) := by decide +kernel
  exact h ⟨n, hn⟩

set_option maxRecDepth 100000 in
/-- Integer.bitCount of five bits -/
theorem c_bits {G : gG} {σ : gSt} {n : Nat} (hn : n < 32) : gEM G mJ6_bitCount_0f7a4 0 [.inl (nI (n))] σ (gR (nI (pc5 n)) (fun s => s = σ)) := by
  refine gEM_of (by decide +kernel) rfl (Nat.le_of_ble_eq_true rfl) ?_
  refine g_iload_n dJ6_bitCount_0f7a4_0 rfl ?_
  refine g_iload_n dJ6_bitCount_0f7a4_1 rfl ?_
  refine g_iconst (nI (1)) dJ6_bitCount_0f7a4_2 (by decide) ?_
  refine g_iushr dJ6_bitCount_0f7a4_3 ?_
  refine g_ldcw (1431655765) dJ6_bitCount_0f7a4_4 (List.mem_cons_of_mem _ uw_2_174) ?_
  refine g_iand dJ6_bitCount_0f7a4_7 ?_
  refine g_isub dJ6_bitCount_0f7a4_8 ?_
  refine g_istore_n dJ6_bitCount_0f7a4_9 (by decide) ?_
  refine g_iload_n dJ6_bitCount_0f7a4_10 rfl ?_
  refine g_ldcw (858993459) dJ6_bitCount_0f7a4_11 (List.mem_cons_of_mem _ uw_2_175) ?_
  refine g_iand dJ6_bitCount_0f7a4_14 ?_
  refine g_iload_n dJ6_bitCount_0f7a4_15 rfl ?_
  refine g_iconst (nI (2)) dJ6_bitCount_0f7a4_16 (by decide) ?_
  refine g_iushr dJ6_bitCount_0f7a4_17 ?_
  refine g_ldcw (858993459) dJ6_bitCount_0f7a4_18 (List.mem_cons_of_mem _ uw_2_175) ?_
  refine g_iand dJ6_bitCount_0f7a4_21 ?_
  refine g_iadd dJ6_bitCount_0f7a4_22 ?_
  refine g_istore_n dJ6_bitCount_0f7a4_23 (by decide) ?_
  refine g_iload_n dJ6_bitCount_0f7a4_24 rfl ?_
  refine g_iload_n dJ6_bitCount_0f7a4_25 rfl ?_
  refine g_iconst (nI (4)) dJ6_bitCount_0f7a4_26 (by decide) ?_
  refine g_iushr dJ6_bitCount_0f7a4_27 ?_
  refine g_iadd dJ6_bitCount_0f7a4_28 ?_
  refine g_ldcw (252645135) dJ6_bitCount_0f7a4_29 (List.mem_cons_of_mem _ uw_2_176) ?_
  refine g_iand dJ6_bitCount_0f7a4_32 ?_
  refine g_istore_n dJ6_bitCount_0f7a4_33 (by decide) ?_
  refine g_iload_n dJ6_bitCount_0f7a4_34 rfl ?_
  refine g_iload_n dJ6_bitCount_0f7a4_35 rfl ?_
  refine g_bipush (nI (8)) dJ6_bitCount_0f7a4_36 (by decide) ?_
  refine g_iushr dJ6_bitCount_0f7a4_38 ?_
  refine g_iadd dJ6_bitCount_0f7a4_39 ?_
  refine g_istore_n dJ6_bitCount_0f7a4_40 (by decide) ?_
  refine g_iload_n dJ6_bitCount_0f7a4_41 rfl ?_
  refine g_iload_n dJ6_bitCount_0f7a4_42 rfl ?_
  refine g_bipush (nI (16)) dJ6_bitCount_0f7a4_43 (by decide) ?_
  refine g_iushr dJ6_bitCount_0f7a4_45 ?_
  refine g_iadd dJ6_bitCount_0f7a4_46 ?_
  refine g_istore_n dJ6_bitCount_0f7a4_47 (by decide) ?_
  refine g_iload_n dJ6_bitCount_0f7a4_48 rfl ?_
  refine g_bipush (nI (63)) dJ6_bitCount_0f7a4_49 (by decide) ?_
  refine g_iand dJ6_bitCount_0f7a4_51 ?_
  exact g_iret dJ6_bitCount_0f7a4_52 rfl (⟨congrArg (fun z : Int32 => (Sum.inl (some (Sum.inl z)) : gOut)) (bc_eq n hn), rfl⟩)

def filσ (σ : gSt) (a i : Nat) (x : Int32) : gSt := gur σ a (fun j => if j < i then x else σ a j)
theorem fil_0 (σ : gSt) (a : Nat) (x : Int32) : filσ σ a 0 x = σ := by
  funext p q
  unfold filσ gur
  by_cases h : p = a
  · subst h
    simp
  · rw [if_neg h]
theorem fil_s (σ : gSt) (a i : Nat) (x : Int32) : gup (filσ σ a i x) a i x = filσ σ a (i + 1) x := by
  funext p q
  unfold gup filσ gur
  by_cases h : p = a
  · subst h
    by_cases h2 : q = i
    · subst h2
      simp
    · have h3 : (q < i + 1) = (q < i) := propext (by omega)
      simp [h2, h3]
  · simp [h]
theorem fil_at (σ : gSt) (a i j : Nat) (x : Int32) : filσ σ a i x a j = if j < i then x else σ a j := by
  unfold filσ gur
  rw [if_pos rfl]
theorem fil_ne (σ : gSt) {a p : Nat} (i : Nat) (x : Int32) (h : p ≠ a) : filσ σ a i x p = σ p := gur_ne σ _ h

set_option maxRecDepth 100000 in
theorem c_fill_loop {G : gG} {σ : gSt} {a n : Nat} {x : Int32} (ha : a ∈ G.1) (hs : G.2 a = .inl (0, n, none)) (hn : n < 2 ^ 31) : ∀ (k i : Nat), i ≤ n → n - i < k → gEx G mJ7_fill_53178 0 5 [some (.inr a), some (.inl x), some (.inl (nI i)), some (.inl (nI n))] [] (filσ σ a i x) (gV (fun s => s = filσ σ a n x)) := by
  intro k
  induction k with
  | zero => intro i hi1 hi2; exact absurd hi2 (by omega)
  | succ k ih =>
    intro i hi1 hi2
    refine g_iload_n dJ7_fill_53178_5 rfl ?_
    refine g_iload_n dJ7_fill_53178_6 rfl ?_
    refine g_icmp_ge 20 dJ7_fill_53178_7 (by decide) (fun h7 => ?_) (fun h7 => ?_)
    · skip
      rw [nI_leI (by omega) (by omega)] at h7
      refine g_vret dJ7_fill_53178_20 rfl ?_
      have e : i = n := by omega
      subst e
      exact ⟨rfl, rfl⟩
    · skip
      rw [nI_leI (by omega) (by omega)] at h7
      refine g_aload_n dJ7_fill_53178_10 rfl ?_
      refine g_iload_n dJ7_fill_53178_11 rfl ?_
      refine g_iload_n dJ7_fill_53178_12 rfl ?_
      refine g_iastN (n := n) (j := i) dJ7_fill_53178_13 ha hs (by omega) (by omega) ?_
      refine g_iinc (nI (i + 1)) dJ7_fill_53178_14 rfl (show nI (i) + nI 1 = _ from nI_add _ _) (by decide) ?_
      refine g_goto 5 dJ7_fill_53178_17 (by decide) ?_
      exact gEx.eq rfl rfl (fil_s σ a i x) (ih (i + 1) (by omega) (by omega))

set_option maxRecDepth 100000 in
/-- Arrays.fill -/
theorem c_fill {G : gG} {σ : gSt} {a n : Nat} {x : Int32} (ha : a ∈ G.1) (hs : G.2 a = .inl (0, n, none)) (hn : n < 2 ^ 31) : gEM G mJ7_fill_53178 0 [.inr a, .inl (x)] σ (gV (fun s => s = filσ σ a n x)) := by
  refine gEM_of (by decide +kernel) rfl (Nat.le_of_ble_eq_true rfl) ?_
  refine g_iconst (nI (0)) dJ7_fill_53178_0 (by decide) ?_
  refine g_istore_n dJ7_fill_53178_1 (by decide) ?_
  refine g_aload_n dJ7_fill_53178_2 rfl ?_
  refine g_alen (nI (n)) dJ7_fill_53178_3 ha hs (by decide) rfl ?_
  refine g_istore_n dJ7_fill_53178_4 (by decide) ?_
  exact gEx.eq rfl rfl (fil_0 σ a x).symm (c_fill_loop ha hs hn (n + 1) 0 (by omega) (by omega))

theorem fm_x {n : Nat} (hn : n < 2 ^ 30) : 0 ≤ nI n ^^^ nI 3 := by
  have e : nI n ^^^ nI 3 = nI (n ^^^ 3) := by
    apply Int32.toBitVec_inj.mp
    show (nI n).toBitVec ^^^ (nI 3).toBitVec = (nI (n ^^^ 3)).toBitVec
    show BitVec.ofNat 32 n ^^^ BitVec.ofNat 32 3 = BitVec.ofNat 32 (n ^^^ 3)
    rw [BitVec.ofNat_xor]
  rw [e]
  exact nI_pos' (Nat.lt_trans (Nat.xor_lt_two_pow (n := 30) hn (by decide)) (by decide))

set_option maxRecDepth 100000 in
/-- Math.floorMod(n, 3) -/
theorem c_fmod {G : gG} {σ : gSt} {n : Nat} (hn : n < 2 ^ 30) : gEM G mJ9_floorMod_7cf53 0 [.inl (nI (n)), .inl (nI (3))] σ (gR (nI (n % 3)) (fun s => s = σ)) := by
  refine gEM_ofF (by decide +kernel) rfl (Nat.le_of_ble_eq_true rfl) ?_
  refine g_iload_n dJ9_floorMod_7cf53_0 rfl ?_
  refine g_iload_n dJ9_floorMod_7cf53_1 rfl ?_
  refine g_irem dJ9_floorMod_7cf53_2 (by decide) ?_
  refine gEx.top (v := .inl (nI (n % 3))) (congrArg Sum.inl (pk_rem (by omega) (by decide) (by decide))) ?_
  refine g_istore_n dJ9_floorMod_7cf53_3 (by decide) ?_
  refine g_iload_n dJ9_floorMod_7cf53_4 rfl ?_
  refine g_iload_n dJ9_floorMod_7cf53_5 rfl ?_
  refine g_ixor dJ9_floorMod_7cf53_6 ?_
  refine g_if_ge 18 dJ9_floorMod_7cf53_7 (by decide) (fun h7 => ?_) (fun h7 => ?_)
  · skip
    refine g_iload_n dJ9_floorMod_7cf53_18 rfl ?_
    exact g_iret dJ9_floorMod_7cf53_19 rfl (⟨rfl, rfl⟩)
  · skip
    exact absurd (show 0 ≤ nI n ^^^ nI 3 from fm_x hn) h7

/-- a vote's ballot as the class tells it -/
def pB (v : Nat) : Int32 := if v = 0 then -1 else nI (v / 4)
theorem or2 {b w : Nat} (hw : w < 4) (hb : b < 2 ^ 28) : nI b <<< (nI 2 &&& 31) ||| nI w = nI (4 * b + w) := by
  rw [pk_shlN (n := b) (nI 2 &&& 31) 2 (by decide) (by omega)]
  apply Int32.toBitVec_inj.mp
  show BitVec.ofNat 32 (b * 2 ^ 2) ||| BitVec.ofNat 32 w = BitVec.ofNat 32 (4 * b + w)
  have e : 4 * b + w = (b * 2 ^ 2) ||| w := by
    rw [Nat.mul_comm b, show (2 ^ 2 * b) ||| w = 2 ^ 2 * b + w from (Nat.two_pow_add_eq_or_of_lt (by omega) b).symm]
  rw [e, BitVec.ofNat_or]
theorem and3 (v : Nat) (hv : v < 2 ^ 31) : nI v &&& nI 3 = nI (v % 4) := pk_andN (n := v) (by omega) 2 (by decide)
theorem shr2 (v : Nat) (hv : v < 2 ^ 31) : nI v >>> (nI 2 &&& 31) = nI (v / 4) := pk_shrN hv _ 2 (by decide)

set_option maxRecDepth 100000 in
/-- voteOf -/
theorem c_voteOf {R A : Nat} {σ : gSt} {b w : Nat} (hw : w < 4) (hb : b < 2 ^ 28) : gEM (cG R A) mX6_voteOf 0 [.inl (nI (b)), .inl (nI (w))] σ (gR (nI (4 * b + w)) (fun s => s = σ)) := by
  refine gEM_of (by decide +kernel) rfl (Nat.le_of_ble_eq_true rfl) ?_
  refine g_iload_n dX6_voteOf_0 rfl ?_
  refine g_iconst (nI (2)) dX6_voteOf_1 (by decide) ?_
  refine g_ishl dX6_voteOf_2 ?_
  refine g_iload_n dX6_voteOf_3 rfl ?_
  refine g_ior dX6_voteOf_4 ?_
  refine gEx.top (v := .inl (nI (4 * b + w))) (congrArg Sum.inl (or2 hw hb)) ?_
  exact g_iret dX6_voteOf_5 rfl (⟨rfl, rfl⟩)

set_option maxRecDepth 100000 in
/-- ballotOf -/
theorem c_ballotOf {R A : Nat} {σ : gSt} {v : Nat} (hv : v < 2 ^ 31) : gEM (cG R A) mX6_ballotOf 0 [.inl (nI (v))] σ (gR (pB v) (fun s => s = σ)) := by
  refine gEM_of (by decide +kernel) rfl (Nat.le_of_ble_eq_true rfl) ?_
  refine g_iload_n dX6_ballotOf_0 rfl ?_
  refine g_if_ne 8 dX6_ballotOf_1 (by decide) (fun h1 => ?_) (fun h1 => ?_)
  · skip
    rw [nI_z (by omega)] at h1
    refine g_iload_n dX6_ballotOf_8 rfl ?_
    refine g_iconst (nI (2)) dX6_ballotOf_9 (by decide) ?_
    refine g_ishr dX6_ballotOf_10 ?_
    refine gEx.top (v := .inl (nI (v / 4))) (congrArg Sum.inl (shr2 v hv)) ?_
    exact g_iret dX6_ballotOf_11 rfl (⟨by unfold pB; rw [if_neg (by omega)], rfl⟩)
  · skip
    rw [nI_z (by omega)] at h1
    refine g_iconst ((-1)) dX6_ballotOf_4 (by decide) ?_
    refine g_goto 11 dX6_ballotOf_5 (by decide) ?_
    exact g_iret dX6_ballotOf_11 rfl (⟨by unfold pB; rw [if_pos (by omega)], rfl⟩)

set_option maxRecDepth 100000 in
/-- wordOf -/
theorem c_wordOf {R A : Nat} {σ : gSt} {v : Nat} (hv : v < 2 ^ 31) : gEM (cG R A) mX6_wordOf 0 [.inl (nI (v))] σ (gR (nI (v % 4)) (fun s => s = σ)) := by
  refine gEM_of (by decide +kernel) rfl (Nat.le_of_ble_eq_true rfl) ?_
  refine g_iload_n dX6_wordOf_0 rfl ?_
  refine g_iconst (nI (3)) dX6_wordOf_1 (by decide) ?_
  refine g_iand dX6_wordOf_2 ?_
  refine gEx.top (v := .inl (nI (v % 4))) (congrArg Sum.inl (and3 v hv)) ?_
  exact g_iret dX6_wordOf_3 rfl (⟨rfl, rfl⟩)

set_option maxRecDepth 100000 in
/-- leaderOf -/
theorem c_leaderOf {R A : Nat} {σ : gSt} {b : Nat} (hb : 1 ≤ b) (hb2 : b < 2 ^ 30) : gEM (cG R A) mX6_leaderOf 0 [.inl (nI (b))] σ (gR (nI ((b - 1) % 3)) (fun s => s = σ)) := by
  refine gEM_of (by decide +kernel) rfl (Nat.le_of_ble_eq_true rfl) ?_
  refine g_iload_n dX6_leaderOf_0 rfl ?_
  refine g_iconst (nI (1)) dX6_leaderOf_1 (by decide) ?_
  refine g_isub dX6_leaderOf_2 ?_
  refine gEx.top (v := .inl (nI (b - (1)))) (congrArg Sum.inl (pk_sub (by omega))) ?_
  refine g_iconst (nI (3)) dX6_leaderOf_3 (by decide) ?_
  refine g_callSi (nI ((b - 1) % 3)) (n9 := 2) [.inl (nI (b - (1))), .inl (nI (3))] [] (c_fmod (by omega)) dX6_leaderOf_4 (gU_S uw_2_214 uw_2_215 uw_1_15 uw_2_216) rfl (by decide +kernel) rfl ⟨by decide, by decide⟩ rfl (Nat.le_of_ble_eq_true rfl) (fun σ1 hp => ?_)
  exact g_iret dX6_leaderOf_7 rfl (⟨rfl, hp⟩)

set_option maxRecDepth 100000 in
/-- leastOwnAbove -/
theorem c_lob {R A : Nat} {σ : gSt} {l h : Nat} (hl : l < 3) (hh : h < 2 ^ 20) : gEM (cG R A) mX6_leastOwnAbove 0 [.inl (nI (l)), .inl (nI (h))] σ (gR (nI (lob l h)) (fun s => s = σ)) := by
  refine gEM_of (by decide +kernel) rfl (Nat.le_of_ble_eq_true rfl) ?_
  refine g_iload_n dX6_leastOwnAbove_0 rfl ?_
  refine g_iconst (nI (1)) dX6_leastOwnAbove_1 (by decide) ?_
  refine g_iadd dX6_leastOwnAbove_2 ?_
  refine gEx.top (v := .inl (nI (l + 1))) (congrArg Sum.inl (nI_add _ _)) ?_
  refine g_istore_n dX6_leastOwnAbove_3 (by decide) ?_
  refine g_iload_n dX6_leastOwnAbove_4 rfl ?_
  refine g_iload_n dX6_leastOwnAbove_5 rfl ?_
  refine g_icmp_ge 13 dX6_leastOwnAbove_6 (by decide) (fun h6 => ?_) (fun h6 => ?_)
  · skip
    rw [nI_leI (by omega) (by omega)] at h6
    refine g_iload_n dX6_leastOwnAbove_13 rfl ?_
    refine g_iconst (nI (3)) dX6_leastOwnAbove_14 (by decide) ?_
    refine g_iload_n dX6_leastOwnAbove_15 rfl ?_
    refine g_iload_n dX6_leastOwnAbove_16 rfl ?_
    refine g_isub dX6_leastOwnAbove_17 ?_
    refine gEx.top (v := .inl (nI (h - (l + 1)))) (congrArg Sum.inl (pk_sub (by omega))) ?_
    refine g_iconst (nI (3)) dX6_leastOwnAbove_18 (by decide) ?_
    refine g_idiv dX6_leastOwnAbove_19 (by decide) ?_
    refine gEx.top (v := .inl (nI ((h - (l + 1)) / 3))) (congrArg Sum.inl (pk_div (by omega) (by decide) (by decide))) ?_
    refine g_iconst (nI (1)) dX6_leastOwnAbove_20 (by decide) ?_
    refine g_iadd dX6_leastOwnAbove_21 ?_
    refine gEx.top (v := .inl (nI ((h - (l + 1)) / 3 + 1))) (congrArg Sum.inl (nI_add _ _)) ?_
    refine g_imul dX6_leastOwnAbove_22 ?_
    refine gEx.top (v := .inl (nI ((3) * ((h - (l + 1)) / 3 + 1)))) (congrArg Sum.inl (pk_mul _ _)) ?_
    refine g_iadd dX6_leastOwnAbove_23 ?_
    refine gEx.top (v := .inl (nI (l + 1 + (3) * ((h - (l + 1)) / 3 + 1)))) (congrArg Sum.inl (nI_add _ _)) ?_
    exact g_iret dX6_leastOwnAbove_24 rfl (⟨by unfold lob; rw [if_neg (by omega)], rfl⟩)
  · skip
    rw [nI_leI (by omega) (by omega)] at h6
    refine g_iload_n dX6_leastOwnAbove_9 rfl ?_
    refine g_goto 24 dX6_leastOwnAbove_10 (by decide) ?_
    exact g_iret dX6_leastOwnAbove_24 rfl (⟨by unfold lob; rw [if_pos (by omega)], rfl⟩)
end
section
/-! THE CLASS'S STORE holds the specification's state -/
def cO (α : pS) (σ : gSt) : Prop := σ 0 5 = nI (α 1 1 0) ∧ σ 0 6 = nI (α 1 2 0)
/-- a message in its stretch of cells -/
def cOne (R : Nat) (σ : gSt) (i : Nat) (x : pMsg) : Prop := (∀ j, j < 6 → σ 5 (i * (6 + R) + j) = pt x j) ∧ (x 0 = 3 → ∀ m, m < R → σ 5 (i * (6 + R) + 6 + m) = nI (x (6 + m)))
def cMs (R : Nat) (α : pS) (ms : List pMsg) (σ : gSt) : Prop := σ 4 0 = nI ms.length ∧ σ 4 1 = nI (α 1 0 0) ∧ σ 4 2 = nI (6 + R) ∧ ∀ i x, ms[i]? = some x → cOne R σ i x
def cTk (R : Nat) (α : pS) (b : Nat) (σ : gSt) : Prop := ∃ T, T < 2 ^ 30 ∧ σ 9 b = nI T ∧ ∀ m, m < R → T / 32 ^ m % 32 = msk (fun a => α 15 b (m * 5 + a))
def cLg (R A : Nat) (α : pS) (σ : gSt) : Prop := σ 6 2 = nI A ∧ (∀ m, m < R → σ 7 m = nI (α 18 m 0)) ∧ (∀ m, m < R → σ 8 m = nI (α 19 m 0)) ∧ ∀ b, b < 1537 → cTk R α b σ
def cMg (R : Nat) (α : pS) (σ : gSt) : Prop := ∀ m, m < R → σ (10 + m) 0 = nI (α 2 0 m) ∧ σ (10 + m) 1 = nI (α 3 m 0) ∧ σ (10 + m) 2 = nI (α 4 m 0)
def cAc (R A : Nat) (α : pS) (σ : gSt) : Prop := ∀ a, a < A → σ (20 + a) 0 = nI (α 2 1 a) ∧ σ (20 + a) 1 = nI (α 5 a 0) ∧ ∀ m, m < R → σ (30 + a) m = nI (α 6 a m)
def cLd1 (R A : Nat) (α : pS) (σ : gSt) (l : Nat) : Prop := σ (40 + l) 0 = nI (α 2 2 l) ∧ σ (40 + l) 1 = nI (α 7 l 0) ∧ σ (40 + l) 2 = nI (α 8 l 0) ∧ σ (40 + l) 3 = nI (α 9 l 0) ∧ σ (40 + l) 4 = nI (α 10 l 0) ∧ σ (40 + l) 5 = nI (msk (α 11 l)) ∧ σ (40 + l) 8 = nI A ∧
  (∀ m, m < R → σ (50 + l) m = nI (α 20 l m)) ∧ (∀ m, m < R → σ (60 + l) m = nI (α 13 l m)) ∧ ∀ m a, m < R → a < A → σ (70 + l) (m * A + a) = nI (α 14 l (m * 5 + a))
def cLd (R A : Nat) (α : pS) (σ : gSt) : Prop := ∀ l, l < 3 → cLd1 R A α σ l
def cRel (R A : Nat) (s : pT) (σ : gSt) : Prop := cO s.1 σ ∧ cMs R s.1 s.2 σ ∧ cLg R A s.1 σ ∧ cMg R s.1 σ ∧ cAc R A s.1 σ ∧ cLd R A s.1 σ
/-- the numbers' bounds -/
def pBd (R A : Nat) (α : pS) : Prop := (∀ i j, α 2 i j ≤ 1) ∧ (∀ m, α 3 m 0 ≤ 4) ∧ (∀ m, α 4 m 0 ≤ 2) ∧ (∀ a, α 5 a 0 ≤ 1536) ∧ (∀ a m, α 6 a m ≤ 6150) ∧ (∀ l, α 7 l 0 ≤ 1536) ∧ (∀ l, α 8 l 0 ≤ 2) ∧ (∀ l, α 9 l 0 ≤ 1536) ∧ (∀ l, α 10 l 0 ≤ 2) ∧
  (∀ l a, α 11 l a ≤ 1) ∧ (∀ l j, α 12 l j ≤ 6150) ∧ (∀ l m, α 13 l m ≤ 2) ∧ (∀ l j, α 14 l j ≤ 6150) ∧ (∀ b j, α 15 b j ≤ 1) ∧ (∀ b m, α 16 b m ≤ 2) ∧ (∀ b m, α 17 b m ≤ 6150) ∧ (∀ m, α 18 m 0 ≤ 2) ∧ (∀ m, α 19 m 0 ≤ 1) ∧ (∀ l m, α 20 l m ≤ 6150)
/-- a message is one that can be -/
def pMk (R A : Nat) (x : pMsg) : Prop := x 4 ≤ 1536 ∧ (x 0 = 0 → x 1 < A ∧ x 3 < R ∧ (x 5 = 1 ∨ x 5 = 2)) ∧ (x 0 = 1 → x 1 < 3 ∧ x 2 < A ∧ x 3 < R ∧ (x 5 = 1 ∨ x 5 = 2)) ∧ (x 0 = 2 → x 1 < A ∧ 1 ≤ x 4) ∧ (x 0 = 3 → x 1 < 3 ∧ x 2 < A ∧ 1 ≤ x 4 ∧ ∀ m, x (6 + m) ≤ 6150) ∧ (x 0 = 4 → x 1 < R ∧ (x 5 = 1 ∨ x 5 = 2)) ∧ (x 0 = 5 → x 1 < 3 ∧ x 2 < R) ∧ x 0 ≤ 5
/-- R managers, A acceptors -/
def pRA (R A : Nat) : Prop := 1 ≤ R ∧ R ≤ 6 ∧ (A = 3 ∨ A = 5)
-- the store behind a send
theorem gup_at (σ : gSt) (k j : Nat) (v : Int32) : gup σ k j v k j = v := if_pos ⟨rfl, rfl⟩
theorem gup_j (σ : gSt) {k j a b : Nat} (v : Int32) (h : b ≠ j) : gup σ k j v a b = σ a b := if_neg (fun q => h q.2)
theorem snd_o {σ : gSt} {n w : Nat} {x0 x1 x2 x3 x4 x5 : Int32} {a : Nat} (h4 : a ≠ 4) (h5 : a ≠ 5) : sndσ σ n w x0 x1 x2 x3 x4 x5 a = σ a := by
  unfold sndσ
  rw [gup_ne _ _ h4, gup_ne _ _ h4, gup_ne _ _ h5, gup_ne _ _ h5, gup_ne _ _ h5, gup_ne _ _ h5, gup_ne _ _ h5, gup_ne _ _ h5]
theorem snd_40 {σ : gSt} {n w : Nat} {x0 x1 x2 x3 x4 x5 : Int32} : sndσ σ n w x0 x1 x2 x3 x4 x5 4 0 = nI (n + 1) := rfl
theorem snd_41 {σ : gSt} {n w : Nat} {x0 x1 x2 x3 x4 x5 : Int32} : sndσ σ n w x0 x1 x2 x3 x4 x5 4 1 = σ 4 1 + nI 1 := rfl
theorem snd_42 {σ : gSt} {n w : Nat} {x0 x1 x2 x3 x4 x5 : Int32} : sndσ σ n w x0 x1 x2 x3 x4 x5 4 2 = σ 4 2 := rfl
def six (x0 x1 x2 x3 x4 x5 : Int32) (j : Nat) : Int32 := match j with | 0 => x0 | 1 => x1 | 2 => x2 | 3 => x3 | 4 => x4 | _ => x5
theorem snd_5 {σ : gSt} {n w : Nat} {x0 x1 x2 x3 x4 x5 : Int32} (p : Nat) : sndσ σ n w x0 x1 x2 x3 x4 x5 5 p = if n * w ≤ p ∧ p < n * w + 6 then six x0 x1 x2 x3 x4 x5 (p - n * w) else σ 5 p := by
  unfold sndσ
  rw [gup_ne _ _ (by decide), gup_ne _ _ (by decide)]
  by_cases h : n * w ≤ p ∧ p < n * w + 6
  · rw [if_pos h]
    obtain ⟨j, rfl⟩ : ∃ j, p = n * w + j := ⟨p - n * w, by omega⟩
    rw [Nat.add_sub_cancel_left]
    have hj : j < 6 := by omega
    rcases (show j = 0 ∨ j = 1 ∨ j = 2 ∨ j = 3 ∨ j = 4 ∨ j = 5 by omega) with h | h | h | h | h | h <;> subst h <;> simp [gup, six]
  · rw [if_neg h, gup_j _ _ (by omega), gup_j _ _ (by omega), gup_j _ _ (by omega), gup_j _ _ (by omega), gup_j _ _ (by omega), gup_j _ _ (by omega)]
theorem stretch {R i n j : Nat} (h : i < n) (hj : j < 6 + R) : i * (6 + R) + j < n * (6 + R) := mlt h hj
/-- messages on their way stay where they are -/
theorem cOne_kept {R : Nat} {σ σ' : gSt} {i n : Nat} {x : pMsg} (h : cOne R σ i x) (hi : i < n) (hs : ∀ p, p < n * (6 + R) → σ' 5 p = σ 5 p) : cOne R σ' i x := by
  refine ⟨fun j hj => ?_, fun h3 m hm => ?_⟩
  · rw [hs _ (stretch hi (by omega))]
    exact h.1 j hj
  · rw [hs _ (by have := stretch (R := R) (j := 6 + m) hi (by omega); omega)]
    exact h.2 h3 m hm
theorem cMs_len {R : Nat} {α : pS} {ms : List pMsg} {σ : gSt} (h : cMs R α ms σ) : σ 4 0 = nI ms.length := h.1
/-- a message more -/
theorem cMs_snd {R : Nat} {α : pS} {ms : List pMsg} {σ : gSt} (h : cMs R α ms σ) (x : pMsg) (h3 : x 0 ≠ 3) {x0 x1 x2 x3 x4 x5 : Int32} (e0 : x0 = pt x 0) (e1 : x1 = pt x 1) (e2 : x2 = pt x 2) (e3 : x3 = pt x 3) (e4 : x4 = pt x 4) (e5 : x5 = pt x 5) :
    cMs R (pSnd α 1) (ms ++ [x]) (sndσ σ ms.length (6 + R) x0 x1 x2 x3 x4 x5) := by
  obtain ⟨q1, q2, q3, q4⟩ := h
  refine ⟨?_, ?_, ?_, fun i y hy => ?_⟩
  · rw [snd_40, List.length_append]
    rfl
  · rw [snd_41, q2, nI_add]
    unfold pSnd
    rw [pu_at]
  · rw [snd_42, q3]
  · by_cases hi : i < ms.length
    · rw [List.getElem?_append_left hi] at hy
      exact cOne_kept (q4 i y hy) hi (fun p hp => by rw [snd_5, if_neg (by omega)])
    · rw [List.getElem?_append_right (by omega)] at hy
      have h0 : i - ms.length < 1 := (List.getElem?_eq_some_iff.mp hy).1
      have hi0 : i = ms.length := by omega
      subst hi0
      rw [Nat.sub_self] at hy
      cases hy
      refine ⟨fun j hj => ?_, fun h => absurd h h3⟩
      rw [snd_5, if_pos (by omega), Nat.add_sub_cancel_left]
      rcases (show j = 0 ∨ j = 1 ∨ j = 2 ∨ j = 3 ∨ j = 4 ∨ j = 5 by omega) with h | h | h | h | h | h <;> subst h <;> assumption
theorem cO_of {α β : pS} {σ τ : gSt} (h : cO α σ) (s0 : τ 0 = σ 0) (a1 : β 1 1 0 = α 1 1 0) (a2 : β 1 2 0 = α 1 2 0) : cO β τ := by
  unfold cO at h ⊢
  rw [s0, a1, a2]
  exact h
theorem cLg_of {R A : Nat} {α β : pS} {σ τ : gSt} (h : cLg R A α σ) (s6 : τ 6 = σ 6) (s7 : τ 7 = σ 7) (s8 : τ 8 = σ 8) (s9 : τ 9 = σ 9) (a15 : β 15 = α 15) (a18 : β 18 = α 18) (a19 : β 19 = α 19) : cLg R A β τ := by
  unfold cLg cTk at h ⊢
  rw [s6, s7, s8, s9, a15, a18, a19]
  exact h
theorem cMg_of {R : Nat} {α β : pS} {σ τ : gSt} (h : cMg R α σ) (s : ∀ m, m < R → τ (10 + m) = σ (10 + m)) (a2 : β 2 0 = α 2 0) (a3 : β 3 = α 3) (a4 : β 4 = α 4) : cMg R β τ := by
  intro m hm
  rw [s m hm, a2, a3, a4]
  exact h m hm
theorem cAc_of {R A : Nat} {α β : pS} {σ τ : gSt} (h : cAc R A α σ) (s : ∀ a, a < A → τ (20 + a) = σ (20 + a)) (s2 : ∀ a, a < A → τ (30 + a) = σ (30 + a)) (a2 : β 2 1 = α 2 1) (a5 : β 5 = α 5) (a6 : β 6 = α 6) : cAc R A β τ := by
  intro a ha
  rw [s a ha, s2 a ha, a2, a5, a6]
  exact h a ha
theorem cLd1_of {R A : Nat} {α β : pS} {σ τ : gSt} {l : Nat} (h : cLd1 R A α σ l) (s4 : τ (40 + l) = σ (40 + l)) (s5 : τ (50 + l) = σ (50 + l)) (s6 : τ (60 + l) = σ (60 + l)) (s7 : τ (70 + l) = σ (70 + l)) (a2 : β 2 2 l = α 2 2 l) (a7 : β 7 l = α 7 l) (a8 : β 8 l = α 8 l) (a9 : β 9 l = α 9 l) (a10 : β 10 l = α 10 l) (a11 : β 11 l = α 11 l) (a13 : β 13 l = α 13 l) (a14 : β 14 l = α 14 l) (a20 : β 20 l = α 20 l) : cLd1 R A β τ l := by
  unfold cLd1 at h ⊢
  rw [s4, s5, s6, s7, a2, a7, a8, a9, a10, a11, a13, a14, a20]
  exact h
/-- only the mail has changed -/
theorem cRel_mail {R A : Nat} {s : pT} {σ σ' : gSt} (h : cRel R A s σ) {α : pS} {ms : List pMsg} (hm : cMs R α ms σ') (hs : ∀ a, a ≠ 4 → a ≠ 5 → σ' a = σ a) (hα : ∀ c, c ≠ 1 → α c = s.1 c) (h1 : α 1 1 = s.1 1 1) (h2 : α 1 2 = s.1 1 2) : cRel R A (α, ms) σ' := by
  obtain ⟨qO, -, qL, qM, qA, qD⟩ := h
  refine ⟨cO_of qO (hs 0 (by decide) (by decide)) (by show α 1 1 0 = _; rw [h1]) (by show α 1 2 0 = _; rw [h2]), hm,
    cLg_of qL (hs 6 (by decide) (by decide)) (hs 7 (by decide) (by decide)) (hs 8 (by decide) (by decide)) (hs 9 (by decide) (by decide)) (hα 15 (by decide)) (hα 18 (by decide)) (hα 19 (by decide)),
    cMg_of qM (fun m _ => hs _ (by omega) (by omega)) (by show α 2 0 = _; rw [hα 2 (by decide)]) (hα 3 (by decide)) (hα 4 (by decide)),
    cAc_of qA (fun m _ => hs _ (by omega) (by omega)) (fun m _ => hs _ (by omega) (by omega)) (by show α 2 1 = _; rw [hα 2 (by decide)]) (hα 5 (by decide)) (hα 6 (by decide)), fun l hl => ?_⟩
  exact cLd1_of (qD l hl) (hs _ (by omega) (by omega)) (hs _ (by omega) (by omega)) (hs _ (by omega) (by omega)) (hs _ (by omega) (by omega)) (by show α 2 2 l = _; rw [hα 2 (by decide)]) (by show α 7 l = _; rw [hα 7 (by decide)]) (by show α 8 l = _; rw [hα 8 (by decide)]) (by show α 9 l = _; rw [hα 9 (by decide)]) (by show α 10 l = _; rw [hα 10 (by decide)]) (by show α 11 l = _; rw [hα 11 (by decide)]) (by show α 13 l = _; rw [hα 13 (by decide)]) (by show α 14 l = _; rw [hα 14 (by decide)]) (by show α 20 l = _; rw [hα 20 (by decide)])
theorem cRel_snd {R A : Nat} {s : pT} {σ : gSt} (h : cRel R A s σ) (x : pMsg) (h3 : x 0 ≠ 3) {x0 x1 x2 x3 x4 x5 : Int32} (e0 : x0 = pt x 0) (e1 : x1 = pt x 1) (e2 : x2 = pt x 2) (e3 : x3 = pt x 3) (e4 : x4 = pt x 4) (e5 : x5 = pt x 5) :
    cRel R A (pSnd s.1 1, s.2 ++ [x]) (sndσ σ s.2.length (6 + R) x0 x1 x2 x3 x4 x5) :=
  cRel_mail h (cMs_snd h.2.1 x h3 e0 e1 e2 e3 e4 e5) (fun a h4 h5 => snd_o h4 h5) (fun c hc => pu_c _ hc) (pu_i _ (by decide)) (pu_i _ (by decide))
end
section
theorem cMs_of {R : Nat} {α β : pS} {ms : List pMsg} {σ τ : gSt} (h : cMs R α ms σ) (s4 : τ 4 = σ 4) (s5 : τ 5 = σ 5) (a1 : β 1 0 0 = α 1 0 0) : cMs R β ms τ := by
  unfold cMs cOne at h ⊢
  rw [s4, s5, a1]
  exact h

theorem cRel_M {R A : Nat} {s : pT} {σ τ : gSt} {β : pS} (h : cRel R A s σ) (hR : R ≤ 6) (hA : A ≤ 5) (hσ : ∀ a, a < 10 ∨ 20 ≤ a → τ a = σ a) (qM' : cMg R β τ) (hα : ∀ c, c ≠ 2 → c ≠ 3 → c ≠ 4 → c ≠ 16 → β c = s.1 c) (h21 : β 2 1 = s.1 2 1) (h22 : β 2 2 = s.1 2 2) : cRel R A (β, s.2) τ := by
  obtain ⟨qO, qS, qL, qM, qA, qD⟩ := h
  have e : ∀ c, c ≠ 2 → c ≠ 3 → c ≠ 4 → c ≠ 16 → ∀ i, β c i = s.1 c i := fun c h0 h1 h2 h3 i => by rw [hα c h0 h1 h2 h3]
  exact ⟨cO_of qO (hσ 0 (by omega)) (congrFun (e 1 (by decide) (by decide) (by decide) (by decide) 1) 0) (congrFun (e 1 (by decide) (by decide) (by decide) (by decide) 2) 0), cMs_of qS (hσ 4 (by omega)) (hσ 5 (by omega)) (congrFun (e 1 (by decide) (by decide) (by decide) (by decide) 0) 0), cLg_of qL (hσ 6 (by omega)) (hσ 7 (by omega)) (hσ 8 (by omega)) (hσ 9 (by omega)) (hα 15 (by decide) (by decide) (by decide) (by decide)) (hα 18 (by decide) (by decide) (by decide) (by decide)) (hα 19 (by decide) (by decide) (by decide) (by decide)), qM', cAc_of qA (fun m _ => hσ _ (by omega)) (fun m _ => hσ _ (by omega)) h21 (hα 5 (by decide) (by decide) (by decide) (by decide)) (hα 6 (by decide) (by decide) (by decide) (by decide)), fun l hl => cLd1_of (qD l hl) (hσ _ (by omega)) (hσ _ (by omega)) (hσ _ (by omega)) (hσ _ (by omega)) (congrFun h22 l) (e 7 (by decide) (by decide) (by decide) (by decide) _) (e 8 (by decide) (by decide) (by decide) (by decide) _) (e 9 (by decide) (by decide) (by decide) (by decide) _) (e 10 (by decide) (by decide) (by decide) (by decide) _) (e 11 (by decide) (by decide) (by decide) (by decide) _) (e 13 (by decide) (by decide) (by decide) (by decide) _) (e 14 (by decide) (by decide) (by decide) (by decide) _) (e 20 (by decide) (by decide) (by decide) (by decide) _)⟩

theorem cRel_A {R A : Nat} {s : pT} {σ τ : gSt} {β : pS} (h : cRel R A s σ) (hR : R ≤ 6) (hA : A ≤ 5) (hσ : ∀ a, a < 20 ∨ 40 ≤ a → τ a = σ a) (qA' : cAc R A β τ) (hα : ∀ c, c ≠ 2 → c ≠ 5 → c ≠ 6 → c ≠ 17 → β c = s.1 c) (h20 : β 2 0 = s.1 2 0) (h22 : β 2 2 = s.1 2 2) : cRel R A (β, s.2) τ := by
  obtain ⟨qO, qS, qL, qM, qA, qD⟩ := h
  have e : ∀ c, c ≠ 2 → c ≠ 5 → c ≠ 6 → c ≠ 17 → ∀ i, β c i = s.1 c i := fun c h0 h1 h2 h3 i => by rw [hα c h0 h1 h2 h3]
  exact ⟨cO_of qO (hσ 0 (by omega)) (congrFun (e 1 (by decide) (by decide) (by decide) (by decide) 1) 0) (congrFun (e 1 (by decide) (by decide) (by decide) (by decide) 2) 0), cMs_of qS (hσ 4 (by omega)) (hσ 5 (by omega)) (congrFun (e 1 (by decide) (by decide) (by decide) (by decide) 0) 0), cLg_of qL (hσ 6 (by omega)) (hσ 7 (by omega)) (hσ 8 (by omega)) (hσ 9 (by omega)) (hα 15 (by decide) (by decide) (by decide) (by decide)) (hα 18 (by decide) (by decide) (by decide) (by decide)) (hα 19 (by decide) (by decide) (by decide) (by decide)), cMg_of qM (fun m _ => hσ _ (by omega)) h20 (hα 3 (by decide) (by decide) (by decide) (by decide)) (hα 4 (by decide) (by decide) (by decide) (by decide)), qA', fun l hl => cLd1_of (qD l hl) (hσ _ (by omega)) (hσ _ (by omega)) (hσ _ (by omega)) (hσ _ (by omega)) (congrFun h22 l) (e 7 (by decide) (by decide) (by decide) (by decide) _) (e 8 (by decide) (by decide) (by decide) (by decide) _) (e 9 (by decide) (by decide) (by decide) (by decide) _) (e 10 (by decide) (by decide) (by decide) (by decide) _) (e 11 (by decide) (by decide) (by decide) (by decide) _) (e 13 (by decide) (by decide) (by decide) (by decide) _) (e 14 (by decide) (by decide) (by decide) (by decide) _) (e 20 (by decide) (by decide) (by decide) (by decide) _)⟩

theorem cRel_D {R A : Nat} {s : pT} {σ τ : gSt} {β : pS} (h : cRel R A s σ) (hR : R ≤ 6) (hA : A ≤ 5) (hσ : ∀ a, a < 40 → τ a = σ a) (qD' : cLd R A β τ) (hα : ∀ c, c ≠ 2 → c ≠ 7 → c ≠ 8 → c ≠ 9 → c ≠ 10 → c ≠ 11 → c ≠ 12 → c ≠ 13 → c ≠ 14 → c ≠ 16 → c ≠ 20 → β c = s.1 c) (h20 : β 2 0 = s.1 2 0) (h21 : β 2 1 = s.1 2 1) : cRel R A (β, s.2) τ := by
  obtain ⟨qO, qS, qL, qM, qA, qD⟩ := h
  have e : ∀ c, c ≠ 2 → c ≠ 7 → c ≠ 8 → c ≠ 9 → c ≠ 10 → c ≠ 11 → c ≠ 12 → c ≠ 13 → c ≠ 14 → c ≠ 16 → c ≠ 20 → ∀ i, β c i = s.1 c i := fun c h0 h1 h2 h3 h4 h5 h6 h7 h8 h9 h10 i => by rw [hα c h0 h1 h2 h3 h4 h5 h6 h7 h8 h9 h10]
  exact ⟨cO_of qO (hσ 0 (by omega)) (congrFun (e 1 (by decide) (by decide) (by decide) (by decide) (by decide) (by decide) (by decide) (by decide) (by decide) (by decide) (by decide) 1) 0) (congrFun (e 1 (by decide) (by decide) (by decide) (by decide) (by decide) (by decide) (by decide) (by decide) (by decide) (by decide) (by decide) 2) 0), cMs_of qS (hσ 4 (by omega)) (hσ 5 (by omega)) (congrFun (e 1 (by decide) (by decide) (by decide) (by decide) (by decide) (by decide) (by decide) (by decide) (by decide) (by decide) (by decide) 0) 0), cLg_of qL (hσ 6 (by omega)) (hσ 7 (by omega)) (hσ 8 (by omega)) (hσ 9 (by omega)) (hα 15 (by decide) (by decide) (by decide) (by decide) (by decide) (by decide) (by decide) (by decide) (by decide) (by decide) (by decide)) (hα 18 (by decide) (by decide) (by decide) (by decide) (by decide) (by decide) (by decide) (by decide) (by decide) (by decide) (by decide)) (hα 19 (by decide) (by decide) (by decide) (by decide) (by decide) (by decide) (by decide) (by decide) (by decide) (by decide) (by decide)), cMg_of qM (fun m _ => hσ _ (by omega)) h20 (hα 3 (by decide) (by decide) (by decide) (by decide) (by decide) (by decide) (by decide) (by decide) (by decide) (by decide) (by decide)) (hα 4 (by decide) (by decide) (by decide) (by decide) (by decide) (by decide) (by decide) (by decide) (by decide) (by decide) (by decide)), cAc_of qA (fun m _ => hσ _ (by omega)) (fun m _ => hσ _ (by omega)) h21 (hα 5 (by decide) (by decide) (by decide) (by decide) (by decide) (by decide) (by decide) (by decide) (by decide) (by decide) (by decide)) (hα 6 (by decide) (by decide) (by decide) (by decide) (by decide) (by decide) (by decide) (by decide) (by decide) (by decide) (by decide)), qD'⟩

theorem cRel_L {R A : Nat} {s : pT} {σ τ : gSt} {β : pS} (h : cRel R A s σ) (hR : R ≤ 6) (hA : A ≤ 5) (hσ : ∀ a, a < 6 ∨ 10 ≤ a → τ a = σ a) (qL' : cLg R A β τ) (hα : ∀ c, c ≠ 15 → c ≠ 18 → c ≠ 19 → β c = s.1 c)  : cRel R A (β, s.2) τ := by
  obtain ⟨qO, qS, qL, qM, qA, qD⟩ := h
  have e : ∀ c, c ≠ 15 → c ≠ 18 → c ≠ 19 → ∀ i, β c i = s.1 c i := fun c h0 h1 h2 i => by rw [hα c h0 h1 h2]
  exact ⟨cO_of qO (hσ 0 (by omega)) (congrFun (e 1 (by decide) (by decide) (by decide) 1) 0) (congrFun (e 1 (by decide) (by decide) (by decide) 2) 0), cMs_of qS (hσ 4 (by omega)) (hσ 5 (by omega)) (congrFun (e 1 (by decide) (by decide) (by decide) 0) 0), qL', cMg_of qM (fun m _ => hσ _ (by omega)) (e 2 (by decide) (by decide) (by decide) _) (hα 3 (by decide) (by decide) (by decide)) (hα 4 (by decide) (by decide) (by decide)), cAc_of qA (fun m _ => hσ _ (by omega)) (fun m _ => hσ _ (by omega)) (e 2 (by decide) (by decide) (by decide) _) (hα 5 (by decide) (by decide) (by decide)) (hα 6 (by decide) (by decide) (by decide)), fun l hl => cLd1_of (qD l hl) (hσ _ (by omega)) (hσ _ (by omega)) (hσ _ (by omega)) (hσ _ (by omega)) (congrFun (e 2 (by decide) (by decide) (by decide) 2) l) (e 7 (by decide) (by decide) (by decide) _) (e 8 (by decide) (by decide) (by decide) _) (e 9 (by decide) (by decide) (by decide) _) (e 10 (by decide) (by decide) (by decide) _) (e 11 (by decide) (by decide) (by decide) _) (e 13 (by decide) (by decide) (by decide) _) (e 14 (by decide) (by decide) (by decide) _) (e 20 (by decide) (by decide) (by decide) _)⟩

theorem cRel_O {R A : Nat} {s : pT} {σ τ : gSt} {β : pS} (h : cRel R A s σ) (hσ : ∀ a, a ≠ 0 → τ a = σ a) (qO' : cO β τ) (hα : ∀ c, c ≠ 1 → β c = s.1 c) (h1 : β 1 0 0 = s.1 1 0 0) : cRel R A (β, s.2) τ := by
  obtain ⟨qO, qS, qL, qM, qA, qD⟩ := h
  have e : ∀ c, c ≠ 1 → ∀ i, β c i = s.1 c i := fun c h i => by rw [hα c h]
  exact ⟨qO', cMs_of qS (hσ 4 (by omega)) (hσ 5 (by omega)) h1, cLg_of qL (hσ 6 (by omega)) (hσ 7 (by omega)) (hσ 8 (by omega)) (hσ 9 (by omega)) (hα 15 (by decide)) (hα 18 (by decide)) (hα 19 (by decide)), cMg_of qM (fun m _ => hσ _ (by omega)) (e 2 (by decide) _) (hα 3 (by decide)) (hα 4 (by decide)),
    cAc_of qA (fun m _ => hσ _ (by omega)) (fun m _ => hσ _ (by omega)) (e 2 (by decide) _) (hα 5 (by decide)) (hα 6 (by decide)), fun l hl => cLd1_of (qD l hl) (hσ _ (by omega)) (hσ _ (by omega)) (hσ _ (by omega)) (hσ _ (by omega)) (congrFun (e 2 (by decide) 2) l) (e 7 (by decide) _) (e 8 (by decide) _) (e 9 (by decide) _) (e 10 (by decide) _) (e 11 (by decide) _) (e 13 (by decide) _) (e 14 (by decide) _) (e 20 (by decide) _)⟩

theorem cRel_wst {R A : Nat} {s : pT} {σ : gSt} (h : cRel R A s σ) (hR : R ≤ 6) (hA : A ≤ 5) {m : Nat} (hm : m < R) (v : Nat) : cRel R A (pu s.1 3 m 0 v, s.2) (gup σ (10 + m) 1 (nI v)) := by
  refine cRel_M h hR hA (fun a ha => gup_ne _ _ (by omega)) (fun k hk => ?_) (fun c h2 h3 h4 _ => pu_c _ (by assumption)) (by rw [pu_c _ (by decide)]) (by rw [pu_c _ (by decide)])
  obtain ⟨q0, q1, q2⟩ := h.2.2.2.1 k hk
  by_cases e : k = m
  · subst e
    simp [gup, pu, q0, q1, q2]
  · simp [gup, pu, e, q0, q1, q2]

theorem cRel_wpr {R A : Nat} {s : pT} {σ : gSt} (h : cRel R A s σ) (hR : R ≤ 6) (hA : A ≤ 5) {m : Nat} (hm : m < R) (v : Nat) : cRel R A (pu s.1 4 m 0 v, s.2) (gup σ (10 + m) 2 (nI v)) := by
  refine cRel_M h hR hA (fun a ha => gup_ne _ _ (by omega)) (fun k hk => ?_) (fun c h2 h3 h4 _ => pu_c _ (by assumption)) (by rw [pu_c _ (by decide)]) (by rw [pu_c _ (by decide)])
  obtain ⟨q0, q1, q2⟩ := h.2.2.2.1 k hk
  by_cases e : k = m
  · subst e
    simp [gup, pu, q0, q1, q2]
  · simp [gup, pu, e, q0, q1, q2]

theorem cRel_gho {R A : Nat} {s : pT} {σ : gSt} (h : cRel R A s σ) {β : pS} (hβ : ∀ c, c ≠ 16 → c ≠ 17 → c ≠ 12 → β c = s.1 c) : cRel R A (β, s.2) σ := by
  obtain ⟨qO, qS, qL, qM, qA, qD⟩ := h
  have f : ∀ c, c ≠ 16 → c ≠ 17 → c ≠ 12 → ∀ i, β c i = s.1 c i := fun c h1 h2 h3 i => by rw [hβ c h1 h2 h3]
  exact ⟨cO_of qO rfl (congrFun (f 1 (by decide) (by decide) (by decide) 1) 0) (congrFun (f 1 (by decide) (by decide) (by decide) 2) 0), cMs_of qS rfl rfl (congrFun (f 1 (by decide) (by decide) (by decide) 0) 0), cLg_of qL rfl rfl rfl rfl (hβ 15 (by decide) (by decide) (by decide)) (hβ 18 (by decide) (by decide) (by decide)) (hβ 19 (by decide) (by decide) (by decide)), cMg_of qM (fun _ _ => rfl) (f 2 (by decide) (by decide) (by decide) _) (hβ 3 (by decide) (by decide) (by decide)) (hβ 4 (by decide) (by decide) (by decide)),
    cAc_of qA (fun _ _ => rfl) (fun _ _ => rfl) (f 2 (by decide) (by decide) (by decide) _) (hβ 5 (by decide) (by decide) (by decide)) (hβ 6 (by decide) (by decide) (by decide)), fun l hl => cLd1_of (qD l hl) rfl rfl rfl rfl (congrFun (f 2 (by decide) (by decide) (by decide) 2) l) (f 7 (by decide) (by decide) (by decide) _) (f 8 (by decide) (by decide) (by decide) _) (f 9 (by decide) (by decide) (by decide) _) (f 10 (by decide) (by decide) (by decide) _) (f 11 (by decide) (by decide) (by decide) _) (f 13 (by decide) (by decide) (by decide) _) (f 14 (by decide) (by decide) (by decide) _) (f 20 (by decide) (by decide) (by decide) _)⟩
end
section
set_option maxRecDepth 100000 in
theorem c_sendVotes_l {R A : Nat} (hRA : pRA R A) {s : pT} {m b w : Nat} (hn : s.2.length + A ≤ 401) : ∀ (k i : Nat), i ≤ A → A - i < k → ∀ σ, cRel R A (pAdd s i (fun a => mVote a m b w)) σ → gEx (cG R A) mX6_sendVotes 0 3 [some (.inr (0)), some (.inl (nI (m))), some (.inl (nI (b))), some (.inl (nI (w))), some (.inl (nI (i)))] [] σ (gV (fun τ => cRel R A (pAdd s A (fun a => mVote a m b w)) τ)) := by
  intro k
  induction k with
  | zero => intro i hi1 hi2; exact absurd hi2 (by omega)
  | succ k ih =>
    intro i hi1 hi2 σ hc
    obtain ⟨hR1, hR6, hA35⟩ := hRA
    refine g_iload dX6_sendVotes_3 rfl ?_
    refine g_aload_n dX6_sendVotes_5 rfl ?_
    refine g_getr (T := TX6) (N := 7) (Cn := RX6) (ref := "CommitCouncil") 1 dX6_sendVotes_6 (cIn_lo (by decide)) cSh_0 rfl (fun w h => List.mem_cons_of_mem _ (hU6 w h)) (by decide) (List.mem_cons_of_mem _ uw_1_159) (Or.inl rfl) rfl ?_
    refine g_alen (nI (A)) dX6_sendVotes_9 (cIn_lo (by decide)) cSh_2 (by decide) rfl ?_
    refine g_icmp_ge 33 dX6_sendVotes_10 (by decide) (fun h10 => ?_) (fun h10 => ?_)
    · skip
      rw [nI_leI (by omega) (by omega)] at h10
      refine g_vret dX6_sendVotes_33 rfl ?_
      have e : i = A := by omega
      subst e
      exact ⟨rfl, hc⟩
    · skip
      rw [nI_leI (by omega) (by omega)] at h10
      refine g_aload_n dX6_sendVotes_13 rfl ?_
      refine g_getr (T := TX6) (N := 7) (Cn := RX6) (ref := "CommitCouncil") 3 dX6_sendVotes_14 (cIn_lo (by decide)) cSh_0 rfl (fun w h => List.mem_cons_of_mem _ (hU6 w h)) (by decide) (List.mem_cons_of_mem _ uw_1_161) (Or.inl rfl) rfl ?_
      refine g_iconst (nI (0)) dX6_sendVotes_17 (by decide) ?_
      refine g_iload dX6_sendVotes_18 rfl ?_
      refine g_iconst ((-1)) dX6_sendVotes_20 (by decide) ?_
      refine g_iload_n dX6_sendVotes_21 rfl ?_
      refine g_iload_n dX6_sendVotes_22 rfl ?_
      refine g_iload_n dX6_sendVotes_23 rfl ?_
      refine g_callVv (n9 := 6) [.inl (nI (0)), .inl (nI (i)), .inl ((-1)), .inl (nI (m)), .inl (nI (b)), .inl (nI (w))] [] (c_send hc.2.1.1 hc.2.1.2.2.1 hR6 (by rw [pAdd_len]; omega)) dX6_sendVotes_24 (gU_V uw_2_73 uw_2_74 uw_2_75 uw_1_6 uw_2_76) rfl (by decide +kernel) rfl ⟨by decide, by decide⟩ (cIn_lo (by decide)) cSh_4 rfl rfl (Nat.le_of_ble_eq_true rfl) (fun σ1 hp1 => ?_)
      refine g_iinc (nI (i + 1)) dX6_sendVotes_27 rfl (show nI (i) + nI 1 = _ from nI_add _ _) (by decide) ?_
      refine g_goto 3 dX6_sendVotes_30 (by decide) ?_
      subst hp1
      exact ih (i + 1) (by omega) (by omega) _ (by rw [← pAdd_s]; exact cRel_snd hc ((fun a => mVote a m b w) i) (by simp [mVote, mDec, mQue, mAsk, mVoted]) rfl rfl rfl rfl rfl rfl)

set_option maxRecDepth 100000 in
/-- sendVotes -/
theorem c_sendVotes {R A : Nat} (hRA : pRA R A) {s : pT} {σ : gSt} (hc : cRel R A s σ) {m b w : Nat} (hn : s.2.length + A ≤ 401) : gEM (cG R A) mX6_sendVotes 0 [.inr (0), .inl (nI (m)), .inl (nI (b)), .inl (nI (w))] σ (gV (fun τ => cRel R A (pAdd s A (fun a => mVote a m b w)) τ)) := by
  refine gEM_of (by decide +kernel) rfl (Nat.le_of_ble_eq_true rfl) ?_
  refine g_iconst (nI (0)) dX6_sendVotes_0 (by decide) ?_
  refine g_istore dX6_sendVotes_1 (by decide) ?_
  exact c_sendVotes_l hRA hn (A + 1) 0 (by omega) (by omega) σ (by rw [pAdd_0]; exact hc)

set_option maxRecDepth 100000 in
theorem c_sendDecs_l {R A : Nat} (hRA : pRA R A) {s : pT} {d : Nat} (hn : s.2.length + R ≤ 401) : ∀ (k i : Nat), i ≤ R → R - i < k → ∀ σ, cRel R A (pAdd s i (fun m => mDec m d)) σ → gEx (cG R A) mX6_sendDecisions 0 2 [some (.inr (0)), some (.inl (nI (d))), some (.inl (nI (i)))] [] σ (gV (fun τ => cRel R A (pAdd s R (fun m => mDec m d)) τ)) := by
  intro k
  induction k with
  | zero => intro i hi1 hi2; exact absurd hi2 (by omega)
  | succ k ih =>
    intro i hi1 hi2 σ hc
    obtain ⟨hR1, hR6, hA35⟩ := hRA
    refine g_iload_n dX6_sendDecisions_2 rfl ?_
    refine g_aload_n dX6_sendDecisions_3 rfl ?_
    refine g_getr (T := TX6) (N := 7) (Cn := RX6) (ref := "CommitCouncil") 0 dX6_sendDecisions_4 (cIn_lo (by decide)) cSh_0 rfl (fun w h => List.mem_cons_of_mem _ (hU6 w h)) (by decide) (List.mem_cons_of_mem _ uw_1_158) (Or.inl rfl) rfl ?_
    refine g_alen (nI (R)) dX6_sendDecisions_7 (cIn_lo (by decide)) cSh_1 (by decide) rfl ?_
    refine g_icmp_ge 30 dX6_sendDecisions_8 (by decide) (fun h8 => ?_) (fun h8 => ?_)
    · skip
      rw [nI_leI (by omega) (by omega)] at h8
      refine g_vret dX6_sendDecisions_30 rfl ?_
      have e : i = R := by omega
      subst e
      exact ⟨rfl, hc⟩
    · skip
      rw [nI_leI (by omega) (by omega)] at h8
      refine g_aload_n dX6_sendDecisions_11 rfl ?_
      refine g_getr (T := TX6) (N := 7) (Cn := RX6) (ref := "CommitCouncil") 3 dX6_sendDecisions_12 (cIn_lo (by decide)) cSh_0 rfl (fun w h => List.mem_cons_of_mem _ (hU6 w h)) (by decide) (List.mem_cons_of_mem _ uw_1_161) (Or.inl rfl) rfl ?_
      refine g_iconst (nI (4)) dX6_sendDecisions_15 (by decide) ?_
      refine g_iload_n dX6_sendDecisions_16 rfl ?_
      refine g_iconst ((-1)) dX6_sendDecisions_17 (by decide) ?_
      refine g_iconst ((-1)) dX6_sendDecisions_18 (by decide) ?_
      refine g_iconst ((-1)) dX6_sendDecisions_19 (by decide) ?_
      refine g_iload_n dX6_sendDecisions_20 rfl ?_
      refine g_callVv (n9 := 6) [.inl (nI (4)), .inl (nI (i)), .inl ((-1)), .inl ((-1)), .inl ((-1)), .inl (nI (d))] [] (c_send hc.2.1.1 hc.2.1.2.2.1 hR6 (by rw [pAdd_len]; omega)) dX6_sendDecisions_21 (gU_V uw_2_73 uw_2_74 uw_2_75 uw_1_6 uw_2_76) rfl (by decide +kernel) rfl ⟨by decide, by decide⟩ (cIn_lo (by decide)) cSh_4 rfl rfl (Nat.le_of_ble_eq_true rfl) (fun σ1 hp1 => ?_)
      refine g_iinc (nI (i + 1)) dX6_sendDecisions_24 rfl (show nI (i) + nI 1 = _ from nI_add _ _) (by decide) ?_
      refine g_goto 2 dX6_sendDecisions_27 (by decide) ?_
      subst hp1
      exact ih (i + 1) (by omega) (by omega) _ (by rw [← pAdd_s]; exact cRel_snd hc ((fun m => mDec m d) i) (by simp [mVote, mDec, mQue, mAsk, mVoted]) rfl rfl rfl rfl rfl rfl)

set_option maxRecDepth 100000 in
/-- sendDecisions -/
theorem c_sendDecs {R A : Nat} (hRA : pRA R A) {s : pT} {σ : gSt} (hc : cRel R A s σ) {d : Nat} (hn : s.2.length + R ≤ 401) : gEM (cG R A) mX6_sendDecisions 0 [.inr (0), .inl (nI (d))] σ (gV (fun τ => cRel R A (pAdd s R (fun m => mDec m d)) τ)) := by
  refine gEM_of (by decide +kernel) rfl (Nat.le_of_ble_eq_true rfl) ?_
  refine g_iconst (nI (0)) dX6_sendDecisions_0 (by decide) ?_
  refine g_istore_n dX6_sendDecisions_1 (by decide) ?_
  exact c_sendDecs_l hRA hn (R + 1) 0 (by omega) (by omega) σ (by rw [pAdd_0]; exact hc)

theorem tSay_eq (A m w : Nat) (s : pT) : pAdd (pu (pu (pu s.1 3 m 0 w) 4 m 0 w) 16 0 m w, s.2) A (fun a => mVote a m 0 w) = tSay A m w s := rfl

set_option maxRecDepth 100000 in
/-- propose: it does -/
theorem c_proposeT {R A : Nat} (hRA : pRA R A) {s : pT} {σ : gSt} (hc : cRel R A s σ) {m w : Nat} (hm : m < R) (hw : w ≤ 2) (hs : sSay A m w s) (hlen : s.2.length ≤ 400) : gEM (cG R A) mX6_propose 0 [.inr (0), .inl (nI (m)), .inl (nI (w)), .inl (nI (w))] σ (gR 1 (fun τ => cRel R A (tSay A m w s) τ)) := by
  obtain ⟨hR1, hR6, hA35⟩ := hRA
  have hA5 : A ≤ 5 := by omega
  obtain ⟨hu, hst, hroom⟩ := hs
  refine gEM_of (by decide +kernel) rfl (Nat.le_of_ble_eq_true rfl) ?_
  refine g_aload_n dX6_propose_0 rfl ?_
  refine g_getr (T := TX6) (N := 7) (Cn := RX6) (ref := "CommitCouncil") 0 dX6_propose_1 (cIn_lo (by decide)) cSh_0 rfl (fun w h => List.mem_cons_of_mem _ (hU6 w h)) (by decide) (List.mem_cons_of_mem _ uw_1_158) (Or.inl rfl) rfl ?_
  refine g_iload_n dX6_propose_4 rfl ?_
  refine g_aald4N (n := R) (j := m) dX6_propose_5 (cIn_lo (by decide)) cSh_1 hm (by omega) ?_
  refine g_astore dX6_propose_6 (by decide) ?_
  refine g_aload dX6_propose_8 rfl ?_
  refine g_get (T := TX4) (N := 3) (Cn := RX4) (ref := "CommitCouncil$Manager") 0 dX6_propose_10 (cIn_m hm) (cSh_m (by omega)) rfl (fun w h => List.mem_cons_of_mem _ (hU4 w h)) (by decide) (List.mem_cons_of_mem _ uw_1_40) (Or.inr (List.mem_cons_of_mem _ uw_1_41)) rfl ?_
  refine gEx.top (v := .inl (nI (s.1 2 0 m))) (congrArg Sum.inl ((hc.2.2.2.1 m hm).1)) ?_
  refine g_if_eq 39 dX6_propose_13 (by decide) (fun h13 => ?_) (fun h13 => ?_)
  · skip
    rw [nI_z (by omega)] at h13
    exfalso; omega
  · skip
    rw [nI_z (by omega)] at h13
    refine g_aload dX6_propose_16 rfl ?_
    refine g_get (T := TX4) (N := 3) (Cn := RX4) (ref := "CommitCouncil$Manager") 1 dX6_propose_18 (cIn_m hm) (cSh_m (by omega)) rfl (fun w h => List.mem_cons_of_mem _ (hU4 w h)) (by decide) (List.mem_cons_of_mem _ uw_1_37) (Or.inl rfl) rfl ?_
    refine gEx.top (v := .inl (nI (s.1 3 m 0))) (congrArg Sum.inl ((hc.2.2.2.1 m hm).2.1)) ?_
    refine g_if_ne 39 dX6_propose_21 (by decide) (fun h21 => ?_) (fun h21 => ?_)
    · skip
      rw [nI_z (by omega)] at h21
      exfalso; omega
    · skip
      rw [nI_z (by omega)] at h21
      refine g_aload_n dX6_propose_24 rfl ?_
      refine g_getr (T := TX6) (N := 7) (Cn := RX6) (ref := "CommitCouncil") 3 dX6_propose_25 (cIn_lo (by decide)) cSh_0 rfl (fun w h => List.mem_cons_of_mem _ (hU6 w h)) (by decide) (List.mem_cons_of_mem _ uw_1_161) (Or.inl rfl) rfl ?_
      refine g_aload_n dX6_propose_28 rfl ?_
      refine g_getr (T := TX6) (N := 7) (Cn := RX6) (ref := "CommitCouncil") 1 dX6_propose_29 (cIn_lo (by decide)) cSh_0 rfl (fun w h => List.mem_cons_of_mem _ (hU6 w h)) (by decide) (List.mem_cons_of_mem _ uw_1_159) (Or.inl rfl) rfl ?_
      refine g_alen (nI (A)) dX6_propose_32 (cIn_lo (by decide)) cSh_2 (by decide) rfl ?_
      refine g_callVi (bI (s.2.length + A ≤ 400)) (n9 := 1) [.inl (nI (A))] [] (c_room hc.2.1.1 (by omega) (by omega)) dX6_propose_33 (gU_V uw_2_65 uw_2_66 uw_2_67 uw_1_6 uw_2_68) rfl (by decide +kernel) rfl ⟨by decide, by decide⟩ (cIn_lo (by decide)) cSh_4 rfl rfl (Nat.le_of_ble_eq_true rfl) (fun σ1 hp1 => ?_)
      subst hp1
      refine g_if_ne 41 dX6_propose_36 (by decide) (fun h36 => ?_) (fun h36 => ?_)
      · skip
        rw [bI_z] at h36
        refine g_aload dX6_propose_41 rfl ?_
        refine g_iload_n dX6_propose_43 rfl ?_
        refine g_put (T := TX4) (N := 3) (Cn := RX4) (ref := "CommitCouncil$Manager") (ty0 := tyX4) 1 dX6_propose_44 (cIn_m hm) (cSh_m (by omega)) rfl (fun w h => List.mem_cons_of_mem _ (hU4 w h)) tyX4_ok nmX4 (by decide) (List.mem_cons_of_mem _ uw_1_37) (Or.inl rfl) rfl rfl rfl rfl ?_
        refine g_aload dX6_propose_47 rfl ?_
        refine g_iload_n dX6_propose_49 rfl ?_
        refine g_put (T := TX4) (N := 3) (Cn := RX4) (ref := "CommitCouncil$Manager") (ty0 := tyX4) 2 dX6_propose_50 (cIn_m hm) (cSh_m (by omega)) rfl (fun w h => List.mem_cons_of_mem _ (hU4 w h)) tyX4_ok nmX4 (by decide) (List.mem_cons_of_mem _ uw_1_38) (Or.inl rfl) rfl rfl rfl rfl ?_
        refine g_aload_n dX6_propose_53 rfl ?_
        refine g_iload_n dX6_propose_54 rfl ?_
        refine g_iconst (nI (0)) dX6_propose_55 (by decide) ?_
        refine g_iload_n dX6_propose_56 rfl ?_
        refine g_callVv (n9 := 3) [.inl (nI (m)), .inl (nI (0)), .inl (nI (w))] [] (c_sendVotes (s := (pu (pu (pu s.1 3 m 0 w) 4 m 0 w) 16 0 m w, s.2)) ⟨hR1, hR6, hA35⟩ (cRel_gho (s := (pu (pu s.1 3 m 0 w) 4 m 0 w, s.2)) (cRel_wpr (s := (pu s.1 3 m 0 w, s.2)) (cRel_wst hc hR6 hA5 hm w) hR6 hA5 hm w) (fun c h _ _ => pu_c _ h)) (m := m) (b := 0) (w := w) (by show s.2.length + A ≤ 401; omega)) dX6_propose_57 (gU_V uw_2_69 uw_2_71 us_0_6 uw_1_1 uw_2_72) rfl (by decide +kernel) rfl ⟨by decide, by decide⟩ (cIn_lo (by decide)) cSh_0 rfl rfl (Nat.le_of_ble_eq_true rfl) (fun σ2 hp2 => ?_)
        refine g_iconst (nI (1)) dX6_propose_60 (by decide) ?_
        exact g_zret dX6_propose_61 rfl (rfl) (⟨rfl, hp2⟩)
      · skip
        rw [bI_z] at h36
        exfalso; omega

set_option maxRecDepth 100000 in
/-- propose: nothing happens -/
theorem c_proposeF {R A : Nat} (hRA : pRA R A) {s : pT} {σ : gSt} (hc : cRel R A s σ) (hb : pBd R A s.1) {m w : Nat} (hm : m < R) (hs : ¬ sSay A m w s) (hlen : s.2.length ≤ 400) : gEM (cG R A) mX6_propose 0 [.inr (0), .inl (nI (m)), .inl (nI (w)), .inl (nI (w))] σ (gR 0 (fun τ => τ = σ)) := by
  obtain ⟨hR1, hR6, hA35⟩ := hRA
  have hA5 : A ≤ 5 := by omega
  have hu1 := hb.1 0 m
  have hs1 := hb.2.1 m
  refine gEM_of (by decide +kernel) rfl (Nat.le_of_ble_eq_true rfl) ?_
  refine g_aload_n dX6_propose_0 rfl ?_
  refine g_getr (T := TX6) (N := 7) (Cn := RX6) (ref := "CommitCouncil") 0 dX6_propose_1 (cIn_lo (by decide)) cSh_0 rfl (fun w h => List.mem_cons_of_mem _ (hU6 w h)) (by decide) (List.mem_cons_of_mem _ uw_1_158) (Or.inl rfl) rfl ?_
  refine g_iload_n dX6_propose_4 rfl ?_
  refine g_aald4N (n := R) (j := m) dX6_propose_5 (cIn_lo (by decide)) cSh_1 hm (by omega) ?_
  refine g_astore dX6_propose_6 (by decide) ?_
  refine g_aload dX6_propose_8 rfl ?_
  refine g_get (T := TX4) (N := 3) (Cn := RX4) (ref := "CommitCouncil$Manager") 0 dX6_propose_10 (cIn_m hm) (cSh_m (by omega)) rfl (fun w h => List.mem_cons_of_mem _ (hU4 w h)) (by decide) (List.mem_cons_of_mem _ uw_1_40) (Or.inr (List.mem_cons_of_mem _ uw_1_41)) rfl ?_
  refine gEx.top (v := .inl (nI (s.1 2 0 m))) (congrArg Sum.inl ((hc.2.2.2.1 m hm).1)) ?_
  refine g_if_eq 39 dX6_propose_13 (by decide) (fun h13 => ?_) (fun h13 => ?_)
  · skip
    rw [nI_z (by omega)] at h13
    refine g_iconst (nI (0)) dX6_propose_39 (by decide) ?_
    exact g_zret dX6_propose_40 rfl (rfl) (⟨rfl, rfl⟩)
  · skip
    rw [nI_z (by omega)] at h13
    refine g_aload dX6_propose_16 rfl ?_
    refine g_get (T := TX4) (N := 3) (Cn := RX4) (ref := "CommitCouncil$Manager") 1 dX6_propose_18 (cIn_m hm) (cSh_m (by omega)) rfl (fun w h => List.mem_cons_of_mem _ (hU4 w h)) (by decide) (List.mem_cons_of_mem _ uw_1_37) (Or.inl rfl) rfl ?_
    refine gEx.top (v := .inl (nI (s.1 3 m 0))) (congrArg Sum.inl ((hc.2.2.2.1 m hm).2.1)) ?_
    refine g_if_ne 39 dX6_propose_21 (by decide) (fun h21 => ?_) (fun h21 => ?_)
    · skip
      rw [nI_z (by omega)] at h21
      refine g_iconst (nI (0)) dX6_propose_39 (by decide) ?_
      exact g_zret dX6_propose_40 rfl (rfl) (⟨rfl, rfl⟩)
    · skip
      rw [nI_z (by omega)] at h21
      refine g_aload_n dX6_propose_24 rfl ?_
      refine g_getr (T := TX6) (N := 7) (Cn := RX6) (ref := "CommitCouncil") 3 dX6_propose_25 (cIn_lo (by decide)) cSh_0 rfl (fun w h => List.mem_cons_of_mem _ (hU6 w h)) (by decide) (List.mem_cons_of_mem _ uw_1_161) (Or.inl rfl) rfl ?_
      refine g_aload_n dX6_propose_28 rfl ?_
      refine g_getr (T := TX6) (N := 7) (Cn := RX6) (ref := "CommitCouncil") 1 dX6_propose_29 (cIn_lo (by decide)) cSh_0 rfl (fun w h => List.mem_cons_of_mem _ (hU6 w h)) (by decide) (List.mem_cons_of_mem _ uw_1_159) (Or.inl rfl) rfl ?_
      refine g_alen (nI (A)) dX6_propose_32 (cIn_lo (by decide)) cSh_2 (by decide) rfl ?_
      refine g_callVi (bI (s.2.length + A ≤ 400)) (n9 := 1) [.inl (nI (A))] [] (c_room hc.2.1.1 (by omega) (by omega)) dX6_propose_33 (gU_V uw_2_65 uw_2_66 uw_2_67 uw_1_6 uw_2_68) rfl (by decide +kernel) rfl ⟨by decide, by decide⟩ (cIn_lo (by decide)) cSh_4 rfl rfl (Nat.le_of_ble_eq_true rfl) (fun σ1 hp1 => ?_)
      subst hp1
      refine g_if_ne 41 dX6_propose_36 (by decide) (fun h36 => ?_) (fun h36 => ?_)
      · skip
        rw [bI_z] at h36
        exact absurd ⟨by omega, by omega, by omega⟩ hs
      · skip
        rw [bI_z] at h36
        refine g_iconst (nI (0)) dX6_propose_39 (by decide) ?_
        exact g_zret dX6_propose_40 rfl (rfl) (⟨rfl, rfl⟩)

set_option maxRecDepth 100000 in
/-- prepare -/
theorem c_prepareT {R A : Nat} (hRA : pRA R A) {s : pT} {σ : gSt} (hc : cRel R A s σ) {m : Nat} (hm : m < R) (hs : sSay A m 1 s) (hlen : s.2.length ≤ 400) : gEM (cG R A) mX6_prepare 1 [.inr (0), .inl (nI (m))] σ (gR 1 (fun τ => cRel R A (tSay A m 1 s) τ)) := by
  obtain ⟨hR1, hR6, hA35⟩ := hRA
  have hA5 : A ≤ 5 := by omega
  refine gEM_of (by decide +kernel) rfl (Nat.le_of_ble_eq_true rfl) ?_
  refine g_iload_n dX6_prepare_0 rfl ?_
  refine g_aload_n dX6_prepare_1 rfl ?_
  refine g_getr (T := TX6) (N := 7) (Cn := RX6) (ref := "CommitCouncil") 0 dX6_prepare_2 (cIn_lo (by decide)) cSh_0 rfl (fun w h => List.mem_cons_of_mem _ (hU6 w h)) (by decide) (List.mem_cons_of_mem _ uw_1_158) (Or.inl rfl) rfl ?_
  refine g_alen (nI (R)) dX6_prepare_5 (cIn_lo (by decide)) cSh_1 (by decide) rfl ?_
  refine g_callSv (n9 := 2) [.inl (nI (m)), .inl (nI (R))] [] (c_checkOk hm (by omega)) dX6_prepare_6 (gU_S uw_1_192 uw_1_193 uw_1_1 uw_1_194) rfl (by decide +kernel) rfl ⟨by decide, by decide⟩ rfl (Nat.le_of_ble_eq_true rfl) (fun σ1 hp1 => ?_)
  subst hp1
  refine g_aload_n dX6_prepare_9 rfl ?_
  refine g_iload_n dX6_prepare_10 rfl ?_
  refine g_iconst (nI (1)) dX6_prepare_11 (by decide) ?_
  refine g_iconst (nI (1)) dX6_prepare_12 (by decide) ?_
  refine g_callVi (1) (n9 := 3) [.inl (nI (m)), .inl (nI (1)), .inl (nI (1))] [] (c_proposeT ⟨hR1, hR6, hA35⟩ hc hm (by decide) hs hlen) dX6_prepare_13 (gU_V uw_2_61 uw_2_63 us_0_5 uw_1_1 uw_2_64) rfl (by decide +kernel) rfl ⟨by decide, by decide⟩ (cIn_lo (by decide)) cSh_0 rfl rfl (Nat.le_of_ble_eq_true rfl) (fun σ2 hp2 => ?_)
  exact g_zret dX6_prepare_16 rfl (rfl) (⟨rfl, hp2⟩)

set_option maxRecDepth 100000 in
/-- prepare -/
theorem c_prepareF {R A : Nat} (hRA : pRA R A) {s : pT} {σ : gSt} (hc : cRel R A s σ) (hb : pBd R A s.1) {m : Nat} (hm : m < R) (hs : ¬ sSay A m 1 s) (hlen : s.2.length ≤ 400) : gEM (cG R A) mX6_prepare 1 [.inr (0), .inl (nI (m))] σ (gR 0 (fun τ => τ = σ)) := by
  obtain ⟨hR1, hR6, hA35⟩ := hRA
  have hA5 : A ≤ 5 := by omega
  refine gEM_of (by decide +kernel) rfl (Nat.le_of_ble_eq_true rfl) ?_
  refine g_iload_n dX6_prepare_0 rfl ?_
  refine g_aload_n dX6_prepare_1 rfl ?_
  refine g_getr (T := TX6) (N := 7) (Cn := RX6) (ref := "CommitCouncil") 0 dX6_prepare_2 (cIn_lo (by decide)) cSh_0 rfl (fun w h => List.mem_cons_of_mem _ (hU6 w h)) (by decide) (List.mem_cons_of_mem _ uw_1_158) (Or.inl rfl) rfl ?_
  refine g_alen (nI (R)) dX6_prepare_5 (cIn_lo (by decide)) cSh_1 (by decide) rfl ?_
  refine g_callSv (n9 := 2) [.inl (nI (m)), .inl (nI (R))] [] (c_checkOk hm (by omega)) dX6_prepare_6 (gU_S uw_1_192 uw_1_193 uw_1_1 uw_1_194) rfl (by decide +kernel) rfl ⟨by decide, by decide⟩ rfl (Nat.le_of_ble_eq_true rfl) (fun σ1 hp1 => ?_)
  subst hp1
  refine g_aload_n dX6_prepare_9 rfl ?_
  refine g_iload_n dX6_prepare_10 rfl ?_
  refine g_iconst (nI (1)) dX6_prepare_11 (by decide) ?_
  refine g_iconst (nI (1)) dX6_prepare_12 (by decide) ?_
  refine g_callVi (0) (n9 := 3) [.inl (nI (m)), .inl (nI (1)), .inl (nI (1))] [] (c_proposeF ⟨hR1, hR6, hA35⟩ hc hb hm hs hlen) dX6_prepare_13 (gU_V uw_2_61 uw_2_63 us_0_5 uw_1_1 uw_2_64) rfl (by decide +kernel) rfl ⟨by decide, by decide⟩ (cIn_lo (by decide)) cSh_0 rfl rfl (Nat.le_of_ble_eq_true rfl) (fun σ2 hp2 => ?_)
  exact g_zret dX6_prepare_16 rfl (rfl) (⟨rfl, hp2⟩)

set_option maxRecDepth 100000 in
/-- prepare -/
theorem c_prepareX {R A : Nat} (hRA : pRA R A) {σ : gSt} {x : Int32} (hx : x < 0 ∨ nI R ≤ x) : gEM (cG R A) mX6_prepare 1 [.inr (0), .inl (x)] σ (gX 0 (fun τ => τ = σ)) := by
  refine gEM_of (by decide +kernel) rfl (Nat.le_of_ble_eq_true rfl) ?_
  refine g_iload_n dX6_prepare_0 rfl ?_
  refine g_aload_n dX6_prepare_1 rfl ?_
  refine g_getr (T := TX6) (N := 7) (Cn := RX6) (ref := "CommitCouncil") 0 dX6_prepare_2 (cIn_lo (by decide)) cSh_0 rfl (fun w h => List.mem_cons_of_mem _ (hU6 w h)) (by decide) (List.mem_cons_of_mem _ uw_1_158) (Or.inl rfl) rfl ?_
  refine g_alen (nI (R)) dX6_prepare_5 (cIn_lo (by decide)) cSh_1 (by decide) rfl ?_
  exact g_callSx 0 (n9 := 2) [.inl (x), .inl (nI (R))] [] (c_checkNo hx) dX6_prepare_6 (gU_S uw_1_192 uw_1_193 uw_1_1 uw_1_194) rfl (by decide +kernel) rfl ⟨by decide, by decide⟩ rfl (Nat.le_of_ble_eq_true rfl) (by decide) (fun σ9 hp9 => ⟨rfl, hp9⟩)

set_option maxRecDepth 100000 in
/-- refuse -/
theorem c_refuseT {R A : Nat} (hRA : pRA R A) {s : pT} {σ : gSt} (hc : cRel R A s σ) {m : Nat} (hm : m < R) (hs : sSay A m 2 s) (hlen : s.2.length ≤ 400) : gEM (cG R A) mX6_refuse 1 [.inr (0), .inl (nI (m))] σ (gR 1 (fun τ => cRel R A (tSay A m 2 s) τ)) := by
  obtain ⟨hR1, hR6, hA35⟩ := hRA
  have hA5 : A ≤ 5 := by omega
  refine gEM_of (by decide +kernel) rfl (Nat.le_of_ble_eq_true rfl) ?_
  refine g_iload_n dX6_refuse_0 rfl ?_
  refine g_aload_n dX6_refuse_1 rfl ?_
  refine g_getr (T := TX6) (N := 7) (Cn := RX6) (ref := "CommitCouncil") 0 dX6_refuse_2 (cIn_lo (by decide)) cSh_0 rfl (fun w h => List.mem_cons_of_mem _ (hU6 w h)) (by decide) (List.mem_cons_of_mem _ uw_1_158) (Or.inl rfl) rfl ?_
  refine g_alen (nI (R)) dX6_refuse_5 (cIn_lo (by decide)) cSh_1 (by decide) rfl ?_
  refine g_callSv (n9 := 2) [.inl (nI (m)), .inl (nI (R))] [] (c_checkOk hm (by omega)) dX6_refuse_6 (gU_S uw_1_192 uw_1_193 uw_1_1 uw_1_194) rfl (by decide +kernel) rfl ⟨by decide, by decide⟩ rfl (Nat.le_of_ble_eq_true rfl) (fun σ1 hp1 => ?_)
  subst hp1
  refine g_aload_n dX6_refuse_9 rfl ?_
  refine g_iload_n dX6_refuse_10 rfl ?_
  refine g_iconst (nI (2)) dX6_refuse_11 (by decide) ?_
  refine g_iconst (nI (2)) dX6_refuse_12 (by decide) ?_
  refine g_callVi (1) (n9 := 3) [.inl (nI (m)), .inl (nI (2)), .inl (nI (2))] [] (c_proposeT ⟨hR1, hR6, hA35⟩ hc hm (by decide) hs hlen) dX6_refuse_13 (gU_V uw_2_61 uw_2_63 us_0_5 uw_1_1 uw_2_64) rfl (by decide +kernel) rfl ⟨by decide, by decide⟩ (cIn_lo (by decide)) cSh_0 rfl rfl (Nat.le_of_ble_eq_true rfl) (fun σ2 hp2 => ?_)
  exact g_zret dX6_refuse_16 rfl (rfl) (⟨rfl, hp2⟩)

set_option maxRecDepth 100000 in
/-- refuse -/
theorem c_refuseF {R A : Nat} (hRA : pRA R A) {s : pT} {σ : gSt} (hc : cRel R A s σ) (hb : pBd R A s.1) {m : Nat} (hm : m < R) (hs : ¬ sSay A m 2 s) (hlen : s.2.length ≤ 400) : gEM (cG R A) mX6_refuse 1 [.inr (0), .inl (nI (m))] σ (gR 0 (fun τ => τ = σ)) := by
  obtain ⟨hR1, hR6, hA35⟩ := hRA
  have hA5 : A ≤ 5 := by omega
  refine gEM_of (by decide +kernel) rfl (Nat.le_of_ble_eq_true rfl) ?_
  refine g_iload_n dX6_refuse_0 rfl ?_
  refine g_aload_n dX6_refuse_1 rfl ?_
  refine g_getr (T := TX6) (N := 7) (Cn := RX6) (ref := "CommitCouncil") 0 dX6_refuse_2 (cIn_lo (by decide)) cSh_0 rfl (fun w h => List.mem_cons_of_mem _ (hU6 w h)) (by decide) (List.mem_cons_of_mem _ uw_1_158) (Or.inl rfl) rfl ?_
  refine g_alen (nI (R)) dX6_refuse_5 (cIn_lo (by decide)) cSh_1 (by decide) rfl ?_
  refine g_callSv (n9 := 2) [.inl (nI (m)), .inl (nI (R))] [] (c_checkOk hm (by omega)) dX6_refuse_6 (gU_S uw_1_192 uw_1_193 uw_1_1 uw_1_194) rfl (by decide +kernel) rfl ⟨by decide, by decide⟩ rfl (Nat.le_of_ble_eq_true rfl) (fun σ1 hp1 => ?_)
  subst hp1
  refine g_aload_n dX6_refuse_9 rfl ?_
  refine g_iload_n dX6_refuse_10 rfl ?_
  refine g_iconst (nI (2)) dX6_refuse_11 (by decide) ?_
  refine g_iconst (nI (2)) dX6_refuse_12 (by decide) ?_
  refine g_callVi (0) (n9 := 3) [.inl (nI (m)), .inl (nI (2)), .inl (nI (2))] [] (c_proposeF ⟨hR1, hR6, hA35⟩ hc hb hm hs hlen) dX6_refuse_13 (gU_V uw_2_61 uw_2_63 us_0_5 uw_1_1 uw_2_64) rfl (by decide +kernel) rfl ⟨by decide, by decide⟩ (cIn_lo (by decide)) cSh_0 rfl rfl (Nat.le_of_ble_eq_true rfl) (fun σ2 hp2 => ?_)
  exact g_zret dX6_refuse_16 rfl (rfl) (⟨rfl, hp2⟩)

set_option maxRecDepth 100000 in
/-- refuse -/
theorem c_refuseX {R A : Nat} (hRA : pRA R A) {σ : gSt} {x : Int32} (hx : x < 0 ∨ nI R ≤ x) : gEM (cG R A) mX6_refuse 1 [.inr (0), .inl (x)] σ (gX 0 (fun τ => τ = σ)) := by
  refine gEM_of (by decide +kernel) rfl (Nat.le_of_ble_eq_true rfl) ?_
  refine g_iload_n dX6_refuse_0 rfl ?_
  refine g_aload_n dX6_refuse_1 rfl ?_
  refine g_getr (T := TX6) (N := 7) (Cn := RX6) (ref := "CommitCouncil") 0 dX6_refuse_2 (cIn_lo (by decide)) cSh_0 rfl (fun w h => List.mem_cons_of_mem _ (hU6 w h)) (by decide) (List.mem_cons_of_mem _ uw_1_158) (Or.inl rfl) rfl ?_
  refine g_alen (nI (R)) dX6_refuse_5 (cIn_lo (by decide)) cSh_1 (by decide) rfl ?_
  exact g_callSx 0 (n9 := 2) [.inl (x), .inl (nI (R))] [] (c_checkNo hx) dX6_refuse_6 (gU_S uw_1_192 uw_1_193 uw_1_1 uw_1_194) rfl (by decide +kernel) rfl ⟨by decide, by decide⟩ rfl (Nat.le_of_ble_eq_true rfl) (by decide) (fun σ9 hp9 => ⟨rfl, hp9⟩)
end
