section
-- ===== PART A: goes FIRST, ahead of the names: the tables' words, and 'selects' of the private methods out of them =====
/-- a private method of a class that the tables say can be made, by its rows of tables_1 -/
def lw_okq (q : MethodName × Nat) : Prop := (q.1.cls ≠ "java/lang/invoke/MethodHandle" ∧ q.1.cls ≠ "java/lang/invoke/VarHandle") ∧ Cond.instantiable q.1.cls q.2 ∈ tables_1 ∧ Cond.privateMethod q.1 ∈ tables_1 ∧ Cond.instanceMethod q.1 ∈ tables_1
theorem lw_p0 : lw_okq (⟨"HiringHall", "matchOpenPlaces", "()V"⟩, 13) := ⟨⟨by decide +kernel, by decide +kernel⟩, List.mem_of_getElem? (i := 21) (by decide +kernel), List.mem_of_getElem? (i := 118) (by decide +kernel), List.mem_of_getElem? (i := 119) (by decide +kernel)⟩
theorem lw_p1 : lw_okq (⟨"HiringHall", "isOpen", "(I)Z"⟩, 13) := ⟨⟨by decide +kernel, by decide +kernel⟩, List.mem_of_getElem? (i := 21) (by decide +kernel), List.mem_of_getElem? (i := 122) (by decide +kernel), List.mem_of_getElem? (i := 123) (by decide +kernel)⟩
theorem lw_p2 : lw_okq (⟨"HiringHall", "holderOf", "(I)I"⟩, 13) := ⟨⟨by decide +kernel, by decide +kernel⟩, List.mem_of_getElem? (i := 21) (by decide +kernel), List.mem_of_getElem? (i := 126) (by decide +kernel), List.mem_of_getElem? (i := 127) (by decide +kernel)⟩
theorem lw_p3 : lw_okq (⟨"HiringHall", "takeInTurn", "()V"⟩, 13) := ⟨⟨by decide +kernel, by decide +kernel⟩, List.mem_of_getElem? (i := 21) (by decide +kernel), List.mem_of_getElem? (i := 156) (by decide +kernel), List.mem_of_getElem? (i := 157) (by decide +kernel)⟩
theorem lw_p4 : lw_okq (⟨"HiringHall", "rememberTurn", "()V"⟩, 13) := ⟨⟨by decide +kernel, by decide +kernel⟩, List.mem_of_getElem? (i := 21) (by decide +kernel), List.mem_of_getElem? (i := 164) (by decide +kernel), List.mem_of_getElem? (i := 165) (by decide +kernel)⟩
theorem lw_p5 : lw_okq (⟨"java/util/ArrayList", "add", "(Ljava/lang/Object;[Ljava/lang/Object;I)V"⟩, 3) := ⟨⟨by decide +kernel, by decide +kernel⟩, List.mem_of_getElem? (i := 29) (by decide +kernel), List.mem_of_getElem? (i := 172) (by decide +kernel), List.mem_of_getElem? (i := 173) (by decide +kernel)⟩
theorem lw_p6 : lw_okq (⟨"java/util/ArrayList", "grow", "()[Ljava/lang/Object;"⟩, 3) := ⟨⟨by decide +kernel, by decide +kernel⟩, List.mem_of_getElem? (i := 29) (by decide +kernel), List.mem_of_getElem? (i := 176) (by decide +kernel), List.mem_of_getElem? (i := 177) (by decide +kernel)⟩
theorem lw_p7 : lw_okq (⟨"java/util/ArrayList", "grow", "(I)[Ljava/lang/Object;"⟩, 3) := ⟨⟨by decide +kernel, by decide +kernel⟩, List.mem_of_getElem? (i := 29) (by decide +kernel), List.mem_of_getElem? (i := 180) (by decide +kernel), List.mem_of_getElem? (i := 181) (by decide +kernel)⟩
theorem lw_p8 : lw_okq (⟨"HiringHall", "countRefusal", "(LHiringHall$Worker;)V"⟩, 13) := ⟨⟨by decide +kernel, by decide +kernel⟩, List.mem_of_getElem? (i := 21) (by decide +kernel), List.mem_of_getElem? (i := 231) (by decide +kernel), List.mem_of_getElem? (i := 232) (by decide +kernel)⟩
theorem lw_p9 : lw_okq (⟨"HiringHall", "sendToBottom", "(LHiringHall$Worker;)V"⟩, 13) := ⟨⟨by decide +kernel, by decide +kernel⟩, List.mem_of_getElem? (i := 21) (by decide +kernel), List.mem_of_getElem? (i := 235) (by decide +kernel), List.mem_of_getElem? (i := 236) (by decide +kernel)⟩
theorem lw_p10 : lw_okq (⟨"HiringHall", "takeOffBoard", "(LHiringHall$Worker;)V"⟩, 13) := ⟨⟨by decide +kernel, by decide +kernel⟩, List.mem_of_getElem? (i := 21) (by decide +kernel), List.mem_of_getElem? (i := 239) (by decide +kernel), List.mem_of_getElem? (i := 240) (by decide +kernel)⟩
theorem lw_p11 : lw_okq (⟨"java/util/ArrayList", "fastRemove", "([Ljava/lang/Object;I)V"⟩, 3) := ⟨⟨by decide +kernel, by decide +kernel⟩, List.mem_of_getElem? (i := 29) (by decide +kernel), List.mem_of_getElem? (i := 247) (by decide +kernel), List.mem_of_getElem? (i := 248) (by decide +kernel)⟩
theorem lw_p12 : lw_okq (⟨"HiringHall", "putAtBottom", "(LHiringHall$Worker;)V"⟩, 13) := ⟨⟨by decide +kernel, by decide +kernel⟩, List.mem_of_getElem? (i := 21) (by decide +kernel), List.mem_of_getElem? (i := 252) (by decide +kernel), List.mem_of_getElem? (i := 253) (by decide +kernel)⟩
theorem lw_p13 : lw_okq (⟨"java/util/ArrayList", "rangeCheckForAdd", "(I)V"⟩, 3) := ⟨⟨by decide +kernel, by decide +kernel⟩, List.mem_of_getElem? (i := 29) (by decide +kernel), List.mem_of_getElem? (i := 260) (by decide +kernel), List.mem_of_getElem? (i := 261) (by decide +kernel)⟩
theorem lw_p14 : lw_okq (⟨"HiringHall", "placeTaken", "()V"⟩, 13) := ⟨⟨by decide +kernel, by decide +kernel⟩, List.mem_of_getElem? (i := 21) (by decide +kernel), List.mem_of_getElem? (i := 268) (by decide +kernel), List.mem_of_getElem? (i := 269) (by decide +kernel)⟩
theorem lw_p15 : lw_okq (⟨"HiringHall", "lowestPlaceFor", "(LHiringHall$Worker;)I"⟩, 13) := ⟨⟨by decide +kernel, by decide +kernel⟩, List.mem_of_getElem? (i := 21) (by decide +kernel), List.mem_of_getElem? (i := 276) (by decide +kernel), List.mem_of_getElem? (i := 277) (by decide +kernel)⟩
def lw_privs_1 : List (MethodName × Nat) := [(⟨"HiringHall", "matchOpenPlaces", "()V"⟩, 13), (⟨"HiringHall", "isOpen", "(I)Z"⟩, 13), (⟨"HiringHall", "holderOf", "(I)I"⟩, 13), (⟨"HiringHall", "takeInTurn", "()V"⟩, 13), (⟨"HiringHall", "rememberTurn", "()V"⟩, 13), (⟨"java/util/ArrayList", "add", "(Ljava/lang/Object;[Ljava/lang/Object;I)V"⟩, 3), (⟨"java/util/ArrayList", "grow", "()[Ljava/lang/Object;"⟩, 3), (⟨"java/util/ArrayList", "grow", "(I)[Ljava/lang/Object;"⟩, 3), (⟨"HiringHall", "countRefusal", "(LHiringHall$Worker;)V"⟩, 13), (⟨"HiringHall", "sendToBottom", "(LHiringHall$Worker;)V"⟩, 13), (⟨"HiringHall", "takeOffBoard", "(LHiringHall$Worker;)V"⟩, 13), (⟨"java/util/ArrayList", "fastRemove", "([Ljava/lang/Object;I)V"⟩, 3), (⟨"HiringHall", "putAtBottom", "(LHiringHall$Worker;)V"⟩, 13), (⟨"java/util/ArrayList", "rangeCheckForAdd", "(I)V"⟩, 3), (⟨"HiringHall", "placeTaken", "()V"⟩, 13), (⟨"HiringHall", "lowestPlaceFor", "(LHiringHall$Worker;)I"⟩, 13)]
theorem lw_r1 : ∀ q ∈ lw_privs_1, lw_okq q := List.forall_mem_cons.mpr ⟨lw_p0, List.forall_mem_cons.mpr ⟨lw_p1, List.forall_mem_cons.mpr ⟨lw_p2, List.forall_mem_cons.mpr ⟨lw_p3, List.forall_mem_cons.mpr ⟨lw_p4, List.forall_mem_cons.mpr ⟨lw_p5, List.forall_mem_cons.mpr ⟨lw_p6, List.forall_mem_cons.mpr ⟨lw_p7, List.forall_mem_cons.mpr ⟨lw_p8, List.forall_mem_cons.mpr ⟨lw_p9, List.forall_mem_cons.mpr ⟨lw_p10, List.forall_mem_cons.mpr ⟨lw_p11, List.forall_mem_cons.mpr ⟨lw_p12, List.forall_mem_cons.mpr ⟨lw_p13, List.forall_mem_cons.mpr ⟨lw_p14, List.forall_mem_cons.mpr ⟨lw_p15, fun _ h => absurd h List.not_mem_nil⟩⟩⟩⟩⟩⟩⟩⟩⟩⟩⟩⟩⟩⟩⟩⟩
theorem lw_p16 : lw_okq (⟨"HiringHall", "startWork", "(LHiringHall$Worker;I)V"⟩, 13) := ⟨⟨by decide +kernel, by decide +kernel⟩, List.mem_of_getElem? (i := 21) (by decide +kernel), List.mem_of_getElem? (i := 292) (by decide +kernel), List.mem_of_getElem? (i := 293) (by decide +kernel)⟩
theorem lw_p17 : lw_okq (⟨"java/lang/Throwable", "fillInStackTrace", "(I)Ljava/lang/Throwable;"⟩, 6) := ⟨⟨by decide +kernel, by decide +kernel⟩, List.mem_of_getElem? (i := 375) (by decide +kernel), List.mem_of_getElem? (i := 373) (by decide +kernel), List.mem_of_getElem? (i := 374) (by decide +kernel)⟩
theorem lw_p18 : lw_okq (⟨"HiringHall", "find", "(I)LHiringHall$Worker;"⟩, 13) := ⟨⟨by decide +kernel, by decide +kernel⟩, List.mem_of_getElem? (i := 21) (by decide +kernel), List.mem_of_getElem? (i := 479) (by decide +kernel), List.mem_of_getElem? (i := 480) (by decide +kernel)⟩
theorem lw_p19 : lw_okq (⟨"HiringHall", "riseByHours", "(I)V"⟩, 13) := ⟨⟨by decide +kernel, by decide +kernel⟩, List.mem_of_getElem? (i := 21) (by decide +kernel), List.mem_of_getElem? (i := 546) (by decide +kernel), List.mem_of_getElem? (i := 547) (by decide +kernel)⟩
theorem lw_p20 : lw_okq (⟨"HiringHall", "countDisplaced", "()I"⟩, 13) := ⟨⟨by decide +kernel, by decide +kernel⟩, List.mem_of_getElem? (i := 21) (by decide +kernel), List.mem_of_getElem? (i := 554) (by decide +kernel), List.mem_of_getElem? (i := 555) (by decide +kernel)⟩
theorem lw_p21 : lw_okq (⟨"HiringHall", "checkWorkHasNotBegun", "()V"⟩, 13) := ⟨⟨by decide +kernel, by decide +kernel⟩, List.mem_of_getElem? (i := 21) (by decide +kernel), List.mem_of_getElem? (i := 575) (by decide +kernel), List.mem_of_getElem? (i := 576) (by decide +kernel)⟩
theorem lw_p22 : lw_okq (⟨"HiringHall", "checkPlace", "(I)V"⟩, 13) := ⟨⟨by decide +kernel, by decide +kernel⟩, List.mem_of_getElem? (i := 21) (by decide +kernel), List.mem_of_getElem? (i := 596) (by decide +kernel), List.mem_of_getElem? (i := 597) (by decide +kernel)⟩
theorem lw_p23 : lw_okq (⟨"HiringHall", "hoursOwed", "(LHiringHall$Worker;)I"⟩, 13) := ⟨⟨by decide +kernel, by decide +kernel⟩, List.mem_of_getElem? (i := 21) (by decide +kernel), List.mem_of_getElem? (i := 609) (by decide +kernel), List.mem_of_getElem? (i := 610) (by decide +kernel)⟩
theorem lw_p24 : lw_okq (⟨"HiringHallModel", "count", "()I"⟩, 26) := ⟨⟨by decide +kernel, by decide +kernel⟩, List.mem_of_getElem? (i := 669) (by decide +kernel), List.mem_of_getElem? (i := 768) (by decide +kernel), List.mem_of_getElem? (i := 769) (by decide +kernel)⟩
theorem lw_p25 : lw_okq (⟨"HiringHallModel", "goes", "(ZZZ)Z"⟩, 26) := ⟨⟨by decide +kernel, by decide +kernel⟩, List.mem_of_getElem? (i := 669) (by decide +kernel), List.mem_of_getElem? (i := 772) (by decide +kernel), List.mem_of_getElem? (i := 773) (by decide +kernel)⟩
theorem lw_p26 : lw_okq (⟨"HiringHallModel", "lowers", "(I)V"⟩, 26) := ⟨⟨by decide +kernel, by decide +kernel⟩, List.mem_of_getElem? (i := 669) (by decide +kernel), List.mem_of_getElem? (i := 776) (by decide +kernel), List.mem_of_getElem? (i := 777) (by decide +kernel)⟩
theorem lw_p27 : lw_okq (⟨"HiringHallModel", "kept", "(I)I"⟩, 26) := ⟨⟨by decide +kernel, by decide +kernel⟩, List.mem_of_getElem? (i := 669) (by decide +kernel), List.mem_of_getElem? (i := 784) (by decide +kernel), List.mem_of_getElem? (i := 785) (by decide +kernel)⟩
theorem lw_p28 : lw_okq (⟨"HiringHallModel", "lineUp", "()I"⟩, 26) := ⟨⟨by decide +kernel, by decide +kernel⟩, List.mem_of_getElem? (i := 669) (by decide +kernel), List.mem_of_getElem? (i := 812) (by decide +kernel), List.mem_of_getElem? (i := 813) (by decide +kernel)⟩
theorem lw_p29 : lw_okq (⟨"HiringHallModel", "isBefore", "(II)Z"⟩, 26) := ⟨⟨by decide +kernel, by decide +kernel⟩, List.mem_of_getElem? (i := 669) (by decide +kernel), List.mem_of_getElem? (i := 816) (by decide +kernel), List.mem_of_getElem? (i := 817) (by decide +kernel)⟩
theorem lw_p30 : lw_okq (⟨"HiringHallModel", "rank", "(I)I"⟩, 26) := ⟨⟨by decide +kernel, by decide +kernel⟩, List.mem_of_getElem? (i := 669) (by decide +kernel), List.mem_of_getElem? (i := 820) (by decide +kernel), List.mem_of_getElem? (i := 821) (by decide +kernel)⟩
theorem lw_p31 : lw_okq (⟨"HiringHallModel", "countOpen", "()V"⟩, 26) := ⟨⟨by decide +kernel, by decide +kernel⟩, List.mem_of_getElem? (i := 669) (by decide +kernel), List.mem_of_getElem? (i := 832) (by decide +kernel), List.mem_of_getElem? (i := 833) (by decide +kernel)⟩
def lw_privs_2 : List (MethodName × Nat) := [(⟨"HiringHall", "startWork", "(LHiringHall$Worker;I)V"⟩, 13), (⟨"java/lang/Throwable", "fillInStackTrace", "(I)Ljava/lang/Throwable;"⟩, 6), (⟨"HiringHall", "find", "(I)LHiringHall$Worker;"⟩, 13), (⟨"HiringHall", "riseByHours", "(I)V"⟩, 13), (⟨"HiringHall", "countDisplaced", "()I"⟩, 13), (⟨"HiringHall", "checkWorkHasNotBegun", "()V"⟩, 13), (⟨"HiringHall", "checkPlace", "(I)V"⟩, 13), (⟨"HiringHall", "hoursOwed", "(LHiringHall$Worker;)I"⟩, 13), (⟨"HiringHallModel", "count", "()I"⟩, 26), (⟨"HiringHallModel", "goes", "(ZZZ)Z"⟩, 26), (⟨"HiringHallModel", "lowers", "(I)V"⟩, 26), (⟨"HiringHallModel", "kept", "(I)I"⟩, 26), (⟨"HiringHallModel", "lineUp", "()I"⟩, 26), (⟨"HiringHallModel", "isBefore", "(II)Z"⟩, 26), (⟨"HiringHallModel", "rank", "(I)I"⟩, 26), (⟨"HiringHallModel", "countOpen", "()V"⟩, 26)]
theorem lw_r2 : ∀ q ∈ lw_privs_2, lw_okq q := List.forall_mem_cons.mpr ⟨lw_p16, List.forall_mem_cons.mpr ⟨lw_p17, List.forall_mem_cons.mpr ⟨lw_p18, List.forall_mem_cons.mpr ⟨lw_p19, List.forall_mem_cons.mpr ⟨lw_p20, List.forall_mem_cons.mpr ⟨lw_p21, List.forall_mem_cons.mpr ⟨lw_p22, List.forall_mem_cons.mpr ⟨lw_p23, List.forall_mem_cons.mpr ⟨lw_p24, List.forall_mem_cons.mpr ⟨lw_p25, List.forall_mem_cons.mpr ⟨lw_p26, List.forall_mem_cons.mpr ⟨lw_p27, List.forall_mem_cons.mpr ⟨lw_p28, List.forall_mem_cons.mpr ⟨lw_p29, List.forall_mem_cons.mpr ⟨lw_p30, List.forall_mem_cons.mpr ⟨lw_p31, fun _ h => absurd h List.not_mem_nil⟩⟩⟩⟩⟩⟩⟩⟩⟩⟩⟩⟩⟩⟩⟩⟩
theorem lw_p32 : lw_okq (⟨"HiringHallModel", "isReady", "(I)Z"⟩, 26) := ⟨⟨by decide +kernel, by decide +kernel⟩, List.mem_of_getElem? (i := 669) (by decide +kernel), List.mem_of_getElem? (i := 836) (by decide +kernel), List.mem_of_getElem? (i := 837) (by decide +kernel)⟩
theorem lw_p33 : lw_okq (⟨"HiringHallModel", "canAll", "(II)Z"⟩, 26) := ⟨⟨by decide +kernel, by decide +kernel⟩, List.mem_of_getElem? (i := 669) (by decide +kernel), List.mem_of_getElem? (i := 840) (by decide +kernel), List.mem_of_getElem? (i := 841) (by decide +kernel)⟩
theorem lw_p34 : lw_okq (⟨"HiringHallModel", "refuses", "(I)V"⟩, 26) := ⟨⟨by decide +kernel, by decide +kernel⟩, List.mem_of_getElem? (i := 669) (by decide +kernel), List.mem_of_getElem? (i := 844) (by decide +kernel), List.mem_of_getElem? (i := 845) (by decide +kernel)⟩
theorem lw_p35 : lw_okq (⟨"HiringHallModel", "gives", "(I)V"⟩, 26) := ⟨⟨by decide +kernel, by decide +kernel⟩, List.mem_of_getElem? (i := 669) (by decide +kernel), List.mem_of_getElem? (i := 848) (by decide +kernel), List.mem_of_getElem? (i := 849) (by decide +kernel)⟩
theorem lw_p36 : lw_okq (⟨"HiringHallModel", "fills", "(II)V"⟩, 26) := ⟨⟨by decide +kernel, by decide +kernel⟩, List.mem_of_getElem? (i := 669) (by decide +kernel), List.mem_of_getElem? (i := 852) (by decide +kernel), List.mem_of_getElem? (i := 853) (by decide +kernel)⟩
theorem lw_p37 : lw_okq (⟨"HiringHallModel", "works", "(II)V"⟩, 26) := ⟨⟨by decide +kernel, by decide +kernel⟩, List.mem_of_getElem? (i := 669) (by decide +kernel), List.mem_of_getElem? (i := 864) (by decide +kernel), List.mem_of_getElem? (i := 865) (by decide +kernel)⟩
theorem lw_p38 : lw_okq (⟨"HiringHallModel", "isPlace", "(I)Z"⟩, 26) := ⟨⟨by decide +kernel, by decide +kernel⟩, List.mem_of_getElem? (i := 669) (by decide +kernel), List.mem_of_getElem? (i := 872) (by decide +kernel), List.mem_of_getElem? (i := 873) (by decide +kernel)⟩
theorem lw_p39 : lw_okq (⟨"HiringHallModel", "owes", "(I)I"⟩, 26) := ⟨⟨by decide +kernel, by decide +kernel⟩, List.mem_of_getElem? (i := 669) (by decide +kernel), List.mem_of_getElem? (i := 884) (by decide +kernel), List.mem_of_getElem? (i := 885) (by decide +kernel)⟩
def lw_privs_3 : List (MethodName × Nat) := [(⟨"HiringHallModel", "isReady", "(I)Z"⟩, 26), (⟨"HiringHallModel", "canAll", "(II)Z"⟩, 26), (⟨"HiringHallModel", "refuses", "(I)V"⟩, 26), (⟨"HiringHallModel", "gives", "(I)V"⟩, 26), (⟨"HiringHallModel", "fills", "(II)V"⟩, 26), (⟨"HiringHallModel", "works", "(II)V"⟩, 26), (⟨"HiringHallModel", "isPlace", "(I)Z"⟩, 26), (⟨"HiringHallModel", "owes", "(I)I"⟩, 26)]
theorem lw_r3 : ∀ q ∈ lw_privs_3, lw_okq q := List.forall_mem_cons.mpr ⟨lw_p32, List.forall_mem_cons.mpr ⟨lw_p33, List.forall_mem_cons.mpr ⟨lw_p34, List.forall_mem_cons.mpr ⟨lw_p35, List.forall_mem_cons.mpr ⟨lw_p36, List.forall_mem_cons.mpr ⟨lw_p37, List.forall_mem_cons.mpr ⟨lw_p38, List.forall_mem_cons.mpr ⟨lw_p39, fun _ h => absurd h List.not_mem_nil⟩⟩⟩⟩⟩⟩⟩⟩
def lw_privs : List (MethodName × Nat) := lw_privs_1 ++ (lw_privs_2 ++ (lw_privs_3))
def lw_tbl : List Cond := k2_sels lw_privs ++ tables_1
theorem lw_privs_ok : ∀ q ∈ lw_privs, lw_okq q := by
  show ∀ q ∈ lw_privs_1 ++ (lw_privs_2 ++ (lw_privs_3)), lw_okq q
  exact List.forall_mem_append.mpr ⟨lw_r1, List.forall_mem_append.mpr ⟨lw_r2, lw_r3⟩⟩
-- ===== end of PART A; then your names; then what follows =====
end
section
/-! ===== BEGIN words of one list among another's, by their places ===== -/
theorem goodIn_r {big : List Cond} (ws : List Cond) (ps : List Nat) (hp : ws = ps.filterMap (fun i => big[i]?)) (h : ws.all goodWord = true) : GoodIn big ws := by
  intro w hw
  have h1 := List.all_eq_true.mp h w hw
  rw [hp] at hw
  obtain ⟨i, -, hi⟩ := List.mem_filterMap.mp hw
  have hm : w ∈ big := by first | exact List.mem_of_getElem? hi | exact List.getElem?_mem hi
  exact ⟨hm, good_of_word h1⟩
theorem goodIn_app {big a b : List Cond} (ha : GoodIn big a) (hb : GoodIn big b) : GoodIn big (a ++ b) := fun w h => (List.mem_append.mp h).elim (ha w) (hb w)
theorem goodIn_ca {big a b : List Cond} {c : Cond} (ha : GoodIn big (c :: a)) (hb : GoodIn big b) : GoodIn big (c :: (a ++ b)) := fun w h => (List.mem_cons.mp h).elim (fun e => ha w (List.mem_cons.mpr (Or.inl e))) (fun h => (List.mem_append.mp h).elim (fun h => ha w (List.mem_cons.mpr (Or.inr h))) (hb w))
theorem goodIn_sub {big ws : List Cond} (hm : ∀ w ∈ ws, w ∈ big) (h : ws.all goodWord = true) : GoodIn big ws := fun w hw => ⟨hm w hw, good_of_word (List.all_eq_true.mp h w hw)⟩
/-! ===== END ===== -/
/-! ===== BEGIN exceptions that leave a method, and their catching by the caller (launches without stack traces) ===== -/
section VXA
/-! The laws vx_back, vx_callV, vx_callS, vx_callSW, vx_throw0, vx_throwS follow proofs of the library, with one case more: JvmDerived/Free/Laws.lean (Back.of_free), Shelf42/LK1.lean (callV, callS), Shelf/KitTraced.lean (throwNew0V, throwNewS). -/
/-- where a method has thrown q: the class by its name, the cell, what was written, the world -/
def vx_T (XC : String → State → State → Prop) (st : State) (q : Addr) (t : State) (mc ms : Nat) (free : Addr → Prop) : Prop :=
  ∃ (E : String) (ce : Cell) (L : List Loc), XC E st t ∧ t.heap[q]? = some ce ∧ ce.vm = .none ∧ st.vm.findClass E = some ce.cls ∧ st.WarmedH t.vm ∧ st.sameButNew ({ t with vm := st.vm } : State) L mc ms ∧ ∀ z ∈ L, free z.base
def vx_Q (Qc : Array Value → State → Outcome → State → Prop) (XC : String → State → State → Prop) (mc ms : Nat) (free : Addr → Prop) : Array Value → State → Outcome → State → Prop := fun a st o t =>
  (Qc a st o t ∧ ∃ L, FrameEnd st o t L mc ms ∧ ∀ q ∈ L, free q.base) ∨ ∃ q, o = .threw q ∧ vx_T XC st q t mc ms free
/-- a callee that returns or throws -/
def vx_Met (l : Launch) (y : MethodName) (ws : List Cond) (rm : Room) (Pc : Array Value → State → Prop) (Qc : Array Value → State → Outcome → State → Prop) (XC : String → State → State → Prop) (mc ms : Nat) (free : Addr → Prop) : Prop :=
  MetFree l y (headSpec ws rm) Pc (fun _ _ _ _ _ => True) (vx_Q Qc XC mc ms free)
def vx_Post (XC : String → State → State → Prop) (mc ms : Nat) (free : Addr → Prop) : Pt → Array Value → Addr → Pt → Prop := fun A a q B =>
  ∃ (g : JFrame) (mk : MethodId) (t : State) (L : List Loc) (E : String) (ce : Cell), B.U.heap = t.heap ∧ B.U.vm = t.vm ∧ XC E (A.U.calling g mk a) t ∧ t.heap[q]? = some ce ∧ ce.vm = .none ∧ A.U.vm.findClass E = some ce.cls ∧ B.locs = A.locs ++ L ∧ (∀ z ∈ L, free z.base) ∧ B.cells = A.cells + mc ∧ B.slots = A.slots + ms
def vx_Back (l : Launch) (R : Room) (p : Program) (e : Env) (below : List Frame) (s : State) (sargs : Array Value) (y : MethodName) (len W9 : Nat)
    (Pre : Pt → Array Value → Prop) (Post : Pt → Array Value → Option Value → Pt → Prop) (PostX : Pt → Array Value → Addr → Pt → Prop) : Prop :=
  ∀ (m : MethodId) (meth : Method) (c : Code) (A : Pt) (g : JFrame) (ig : Instr) (mk : MethodId) (a : Array Value),
    Stand p l e R s m sargs below meth c A.U A.locs A.cells A.slots → g.method = m → g.locals.size = c.maxLocals → decode c.code g.pc = .ok (ig, len) →
    2 * g.monitorRoom + (g.stack.map fun v => v.category).sum ≤ W9 → A.U.methodNamed? y = some mk → Pre A a →
    (∃ (v : Option Value) (B : Pt), Stand p l e R s m sargs below meth c B.U B.locs B.cells B.slots ∧ Post A a v B ∧
      Steps p.tables e below (doInvoke e (A.U.setTop g) [] mk a).1 (B.U.setTop { g with pc := g.pc + len, stack := v.toList ++ g.stack })) ∨
    (∃ (q : Addr) (B : Pt), Stand p l e R s m sargs below meth c B.U B.locs B.cells B.slots ∧ PostX A a q B ∧
      Steps p.tables e below (doInvoke e (A.U.setTop g) [] mk a).1 ((B.U.setTop g).pushFrame (.throwing q)))
section Payer
variable {l : Launch} {R : Room} {p : Program} {e : Env} {below : List Frame} {s : State} {sargs : Array Value} {y : MethodName} {len W9 : Nat}
theorem vx_back {ws : List Cond} {rm : Room} {Pc : Array Value → State → Prop} {Qc : Array Value → State → Outcome → State → Prop} {XC : String → State → State → Prop} {mc ms : Nat} {free : Addr → Prop} {bytes : ByteArray} {maxL : Nat} {ret : Option FieldType}
    (hM : vx_Met l y ws rm Pc Qc XC mc ms free) (hblind : FrameBlind Pc) (hrc : rm.cells = mc) (hrs : rm.slots = ms)
    (hframes : rm.frames + 1 ≤ R.frames) (hlocals : W9 + (maxL + 11) + rm.locals ≤ R.locals)
    (hws : ∀ w ∈ ws, ∀ a' U, s.WarmedH U.vm → w.before a' U = true) (hcode : Cond.code y bytes maxL ret ∈ ws) (hinit : ∀ a' U, s.WarmedH U.vm → (Cond.initialized y.cls).before a' U = true) :
    vx_Back l R p e below s sargs y len W9 (PreOf R mc ms Pc) (PostOf Qc mc ms free) (vx_Post XC mc ms free) := by
  intro m meth c A g ig mk a X hg hsize hdg hW hn hp
  have h1 : (headSpec ws rm).pre.before a A.U = true := atoms_intro fun w hw => hws w hw _ _ X.warmed
  have h2 : (Cond.code y bytes maxL ret).before a A.U = true := hws _ hcode _ _ X.warmed
  have h3 : (Cond.initialized y.cls).before a A.U = true := hinit _ _ X.warmed
  have h4 : A.cells + (headSpec ws rm).room.cells ≤ R.cells := by rw [show (headSpec ws rm).room.cells = mc from hrc]; exact hp.1
  have h5 : A.slots + (headSpec ws rm).room.slots ≤ R.slots := by rw [show (headSpec ws rm).room.slots = ms from hrs]; exact hp.2.1
  have hPc : Pc a (A.U.calling g mk a) := hblind _ _ _ _ hp.2.2
  obtain ⟨U, Ls, c0, s0⟩ := A
  dsimp only [Pt.U, Pt.locs, Pt.cells, Pt.slots] at h1 h2 h3 h4 h5 X hn hPc ⊢
  obtain ⟨methY, cY, hmY, hcY, -, hlY, -, -, -, -⟩ := Cond.code_spec hn h2
  obtain ⟨kY, hkY, -⟩ := className_of_methodNamed hn
  have hinitY : kY.init = .initialized := Cond.initialized_spec (findClass_of_methodNamed hn) hkY h3
  have h : At U g.method c below := by rw [hg]; exact X.here
  have hlocals9 : W9 + (maxL + 11) + (headSpec ws rm).room.locals ≤ R.locals := hlocals
  have happ : (headSpec ws rm).appliesLoose y e.platform (U.calling g mk a) = true :=
    Spec.appliesLoose_calling (g := g) h hdg hn hkY hinitY
      (X.room_calling (g := g) (R' := (headSpec ws rm).room) hsize hmY hcY hframes (by rw [hlY]; omega) h4 h5) h1
  obtain ⟨mid, hmid⟩ := h.above
  have hfr : (U.setTop g).frames = (.java g :: mid) ++ below := by rw [State.frames_setTop' g h.top, hmid]; rfl
  obtain ⟨o, s₂, hsteps, -, hend, hq⟩ := Steps.callFree hM p X.admits X.cas X.clock (acts := []) hfr happ hPc trivial
  have hq' : vx_Q Qc XC mc ms free a (U.calling g mk a) o s₂ := hq
  rw [State.frames_setTop' g h.top] at hend
  obtain ⟨g₀, hg0⟩ := Option.isSome_iff_exists.mp h.top
  obtain ⟨r, hr⟩ := State.topJava?_eq_some.mp hg0
  have hr' : (({ U with heap := s₂.heap, slotsUsed := s₂.slotsUsed } : State).setVm s₂.vm).frames = .java g₀ :: r := hr
  rcases hq' with ⟨hqc, L, hfe, hL⟩ | ⟨q, rfl, E, ce, L, hx, hce, hcv, hcl, hW₂, hsm, hL⟩
  · obtain ⟨⟨v, rfl⟩, hW₂, e2, q2, q3, q4, q5, q6⟩ := id hfe
    have e3 : s₂ = ({ (U.calling g mk a).setFrames s₂.frames with heap := s₂.heap, slotsUsed := s₂.slotsUsed } : State).setVm s₂.vm := by
      have : s₂ = ({ s₂ with vm := (U.calling g mk a).vm } : State).setVm s₂.vm := rfl
      rw [e2] at this
      exact this
    obtain ⟨c₂, i₂, len₂, hc₂, hd₂, hf₂⟩ := hend
    have hW' : U.WarmedH s₂.vm := hW₂
    have hcc : c₂ = c := by
      have h1 : s₂.code? g.method = U.code? g.method := by
        rw [State.code?_eq, State.code?_eq, hW'.alike.method?]
      exact Option.some.inj (hc₂.symm.trans (h1.trans h.code))
    subst hcc
    have hlen : len₂ = len := by rw [hdg] at hd₂; cases hd₂; rfl
    subst hlen
    have hs₂ : s₂ = (({ U with heap := s₂.heap, slotsUsed := s₂.slotsUsed } : State).setVm s₂.vm).setTop { g with pc := g.pc + len₂, stack := v.toList ++ g.stack } := by
      refine e3.trans ?_
      rw [hf₂, State.calling_eq h.top, State.setFrames_setFrames, State.setTop_of_frames _ hr', hr]
      rfl
    have hsame : U.sameButNew ({ U with heap := s₂.heap, slotsUsed := s₂.slotsUsed } : State) L mc ms := by
      refine ⟨?_, q2, q3, q4, q5, q6⟩
      obtain ⟨t, ht, -⟩ := State.frames_cons hr
      show ({ U with heap := s₂.heap, slotsUsed := s₂.slotsUsed } : State) = { U.setFrames U.frames with heap := s₂.heap, slotsUsed := s₂.slotsUsed }
      rw [State.setFrames_self ht]
    subst hg
    refine Or.inl ⟨v, ⟨(({ U with heap := s₂.heap, slotsUsed := s₂.slotsUsed } : State).setVm s₂.vm), Ls ++ L, c0 + mc, s0 + ms⟩,
      ⟨X.admits, X.cas, X.clock, X.frames, X.room, X.hears, X.method, X.code, (X.here.setHeapUsed s₂.heap s₂.slotsUsed).setVm hW'.alike, X.tail, State.WarmedH.trans X.warmed hW', X.limits, X.bytes, X.same.trans (hsame.setVm s.vm)⟩,
      ⟨g, mk, s₂, L, rfl, rfl, hqc, rfl, hL, rfl, rfl⟩, ?_⟩
    show Steps p.tables e below _ ((({ U with heap := s₂.heap, slotsUsed := s₂.slotsUsed } : State).setVm s₂.vm).setTop { g with pc := g.pc + len₂, stack := v.toList ++ g.stack })
    rw [← hs₂]
    exact hsteps
  · obtain ⟨e2, q2, q3, q4, q5, q6⟩ := id hsm
    have e3 : s₂ = ({ (U.calling g mk a).setFrames s₂.frames with heap := s₂.heap, slotsUsed := s₂.slotsUsed } : State).setVm s₂.vm := by
      have : s₂ = ({ s₂ with vm := (U.calling g mk a).vm } : State).setVm s₂.vm := rfl
      rw [e2] at this
      exact this
    have hf₂ : s₂.frames = .throwing q :: .java g :: U.frames.tail := hend
    have hW' : U.WarmedH s₂.vm := hW₂
    have hs₂ : s₂ = ((({ U with heap := s₂.heap, slotsUsed := s₂.slotsUsed } : State).setVm s₂.vm).setTop g).pushFrame (.throwing q) := by
      refine e3.trans ?_
      rw [hf₂, State.calling_eq h.top, State.setFrames_setFrames, State.pushFrame, State.frames_setTop _ hr', State.setTop_of_frames _ hr', State.setFrames_setFrames, hr]
      rfl
    have hsame : U.sameButNew ({ U with heap := s₂.heap, slotsUsed := s₂.slotsUsed } : State) L mc ms := by
      refine ⟨?_, q2, q3, q4, q5, q6⟩
      obtain ⟨t, ht, -⟩ := State.frames_cons hr
      show ({ U with heap := s₂.heap, slotsUsed := s₂.slotsUsed } : State) = { U.setFrames U.frames with heap := s₂.heap, slotsUsed := s₂.slotsUsed }
      rw [State.setFrames_self ht]
    subst hg
    refine Or.inr ⟨q, ⟨(({ U with heap := s₂.heap, slotsUsed := s₂.slotsUsed } : State).setVm s₂.vm), Ls ++ L, c0 + mc, s0 + ms⟩,
      ⟨X.admits, X.cas, X.clock, X.frames, X.room, X.hears, X.method, X.code, (X.here.setHeapUsed s₂.heap s₂.slotsUsed).setVm hW'.alike, X.tail, State.WarmedH.trans X.warmed hW', X.limits, X.bytes, X.same.trans (hsame.setVm s.vm)⟩,
      ⟨g, mk, s₂, L, E, ce, rfl, rfl, hx, hce, hcv, hcl, rfl, hL, rfl, rfl⟩, ?_⟩
    show Steps p.tables e below _ (((({ U with heap := s₂.heap, slotsUsed := s₂.slotsUsed } : State).setVm s₂.vm).setTop g).pushFrame (.throwing q))
    rw [← hs₂]
    exact hsteps
end Payer
section Calls
variable {p : Program} {l : Launch} {e : Env} {R : Room} {s : State} {m : MethodId} {args : Array Value} {below : List Frame} {meth : Method} {c : Code} {T : State} {locs : List Loc} {cells slots : Nat}
theorem vx_callV (X : Stand p l e R s m args below meth c T locs cells slots) (hexec : p.tables.exec = Jvm.exec) {own C : String} {index : Nat} {y : MethodName} {bytes : ByteArray} {maxL : Nat} {ret : Option FieldType}
    (hown : s.vm.findClass own = some m.cls) (hlink : (Cond.methodLink own index y).before args s = true) (hinst : (Cond.instanceMethod y).before args s = true) (hsel : (Cond.selects C y y).before args s = true)
    (hcode : (Cond.code y bytes maxL ret).before args s = true) (hy : y.cls ≠ "java/lang/invoke/MethodHandle" ∧ y.cls ≠ "java/lang/invoke/VarHandle")
    {W9 : Nat} {Pre : Pt → Array Value → Prop} {Post : Pt → Array Value → Option Value → Pt → Prop} {PostX : Pt → Array Value → Addr → Pt → Prop} (hK : vx_Back l R p e below s args y 3 W9 Pre Post PostX)
    {b : Addr} {cellB : Cell} (hcell : T.heap[b]? = some cellB) (hobj : cellB.vm.isStatics = false) (hcls : s.vm.findClass C = some cellB.cls)
    {g : JFrame} (hg : g.method = m) (hsize : g.locals.size = c.maxLocals) {argsL rest : List Value} (hlen : ∀ sig, parseMethodDescriptor y.desc = some sig → argsL.length = sig.parameters.length)
    (hstack : g.stack = argsL.reverse ++ .ref b :: rest) (hW : 2 * g.monitorRoom + (rest.map fun v => v.category).sum ≤ W9) (hdg : decode c.code g.pc = .ok (.invokevirtual index, 3))
    (hpre : ∀ vm₁, s.WarmedH vm₁ → Pre ⟨T.setVm vm₁, locs, cells, slots⟩ (Value.ref b :: argsL).toArray) :
    (∃ (v : Option Value) (vm₁ : Vm) (B : Pt), s.WarmedH vm₁ ∧ Stand p l e R s m args below meth c B.U B.locs B.cells B.slots ∧ Post ⟨T.setVm vm₁, locs, cells, slots⟩ (Value.ref b :: argsL).toArray v B ∧
      ∀ target, Steps p.tables e below (B.U.setTop { g with pc := g.pc + 3, stack := v.toList ++ rest }) target → Steps p.tables e below (T.setTop g) target) ∨
    (∃ (q : Addr) (vm₁ : Vm) (B : Pt), s.WarmedH vm₁ ∧ Stand p l e R s m args below meth c B.U B.locs B.cells B.slots ∧ PostX ⟨T.setVm vm₁, locs, cells, slots⟩ (Value.ref b :: argsL).toArray q B ∧
      Steps p.tables e below (T.setTop g) ((B.U.setTop { g with stack := rest }).pushFrame (.throwing q))) := by
  obtain ⟨mk, methM, hnamed, hmethM, hstM, habM⟩ := Cond.instanceMethod_spec hinst
  obtain ⟨methM', cM, hmethM', -, -, -, -, -, -, hsigM⟩ := Cond.code_spec hnamed hcode
  cases hmethM.symm.trans hmethM'
  obtain ⟨c2, r2, m2, q1, q2, q3, q4, kP, hkP, hkPi⟩ := Cond.selects_spec hsel
  cases hcls.symm.trans q1
  cases (State.methodFound?_of_named hnamed hy).symm.trans q2
  cases hnamed.symm.trans q3
  have hselP : selectMethod e.platform s.vm cellB.cls mk = .method mk := by rw [Launch.admits_selectMethod X.admits]; exact q4
  obtain ⟨vm₁, X₁, hstep₁⟩ := X.invokevirtual hexec hown hlink hnamed hmethM hstM hkP hkPi hy (a := b) (cell := cellB) hcell
    (fun z h => by rw [h] at hobj; cases hobj) hselP hmethM habM hkP hkPi (g := g) hg (argsL := argsL) (rest := rest) (hlen _ hsigM) hstack hdg
  rcases hK m meth c ⟨T.setVm vm₁, locs, cells, slots⟩ { g with stack := rest } (.invokevirtual index) mk (Value.ref b :: argsL).toArray X₁ hg hsize hdg hW (X₁.named hnamed) (hpre vm₁ X₁.warmed) with ⟨v, B, X', hpost, hsteps⟩ | ⟨q, B, X', hpost, hsteps⟩
  · exact Or.inl ⟨v, vm₁, B, X₁.warmed, X', hpost, fun target h => hstep₁ _ fun acts => by rw [doInvoke_state]; exact hsteps.trans h⟩
  · exact Or.inr ⟨q, vm₁, B, X₁.warmed, X', hpost, hstep₁ _ fun acts => by rw [doInvoke_state]; exact hsteps⟩
theorem vx_callS (X : Stand p l e R s m args below meth c T locs cells slots) (hexec : p.tables.exec = Jvm.exec) {own : String} {index : Nat} {y : MethodName} {bytes : ByteArray} {maxL : Nat} {ret : Option FieldType}
    (hown : s.vm.findClass own = some m.cls) (hlink : (Cond.methodLink own index y).before args s = true) (hstat : (Cond.static y).before args s = true) (hinit : (Cond.initialized y.cls).before args s = true)
    (hcode : (Cond.code y bytes maxL ret).before args s = true) (hy : y.cls ≠ "java/lang/invoke/MethodHandle" ∧ y.cls ≠ "java/lang/invoke/VarHandle")
    {W9 : Nat} {Pre : Pt → Array Value → Prop} {Post : Pt → Array Value → Option Value → Pt → Prop} {PostX : Pt → Array Value → Addr → Pt → Prop} (hK : vx_Back l R p e below s args y 3 W9 Pre Post PostX)
    {g : JFrame} (hg : g.method = m) (hsize : g.locals.size = c.maxLocals) {argsL rest : List Value} (hlen : ∀ sig, parseMethodDescriptor y.desc = some sig → argsL.length = sig.parameters.length)
    (hstack : g.stack = argsL.reverse ++ rest) (hW : 2 * g.monitorRoom + (rest.map fun v => v.category).sum ≤ W9) (hdg : decode c.code g.pc = .ok (.invokestatic index, 3))
    (hpre : ∀ vm₁, s.WarmedH vm₁ → Pre ⟨T.setVm vm₁, locs, cells, slots⟩ argsL.toArray) :
    (∃ (v : Option Value) (vm₁ : Vm) (B : Pt), s.WarmedH vm₁ ∧ Stand p l e R s m args below meth c B.U B.locs B.cells B.slots ∧ Post ⟨T.setVm vm₁, locs, cells, slots⟩ argsL.toArray v B ∧
      ∀ target, Steps p.tables e below (B.U.setTop { g with pc := g.pc + 3, stack := v.toList ++ rest }) target → Steps p.tables e below (T.setTop g) target) ∨
    (∃ (q : Addr) (vm₁ : Vm) (B : Pt), s.WarmedH vm₁ ∧ Stand p l e R s m args below meth c B.U B.locs B.cells B.slots ∧ PostX ⟨T.setVm vm₁, locs, cells, slots⟩ argsL.toArray q B ∧
      Steps p.tables e below (T.setTop g) ((B.U.setTop { g with stack := rest }).pushFrame (.throwing q))) := by
  obtain ⟨mk, hnamed⟩ := Cond.code_named hcode
  obtain ⟨methM, cM, hmethM, -, -, -, -, -, -, hsigM⟩ := Cond.code_spec hnamed hcode
  have hstatic : methM.isStatic = true := Cond.static_spec hnamed hmethM hstat
  obtain ⟨kP, hkP, -⟩ := className_of_methodNamed hnamed
  have hinitP : kP.init = .initialized := Cond.initialized_spec (findClass_of_methodNamed hnamed) hkP hinit
  obtain ⟨vm₁, X₁, hstep₁⟩ := X.invokestatic hexec hown hlink hnamed hmethM hstatic hkP hinitP hy (g := g) hg (argsL := argsL) (rest := rest) (hlen _ hsigM) hstack hdg
  rcases hK m meth c ⟨T.setVm vm₁, locs, cells, slots⟩ { g with stack := rest } (.invokestatic index) mk argsL.toArray X₁ hg hsize hdg hW (X₁.named hnamed) (hpre vm₁ X₁.warmed) with ⟨v, B, X', hpost, hsteps⟩ | ⟨q, B, X', hpost, hsteps⟩
  · exact Or.inl ⟨v, vm₁, B, X₁.warmed, X', hpost, fun target h => hstep₁ _ fun acts => by rw [doInvoke_state]; exact hsteps.trans h⟩
  · exact Or.inr ⟨q, vm₁, B, X₁.warmed, X', hpost, hstep₁ _ fun acts => by rw [doInvoke_state]; exact hsteps⟩
end Calls
theorem vx_cls {s : State} {T : State} {vm₁ : Vm} {E : String} {k : ClassId} (hW : s.WarmedH vm₁) (h : (T.setVm vm₁).vm.findClass E = some k) : s.vm.findClass E = some k := by
  have h1 : vm₁.findClass E = some k := h
  rw [hW.alike.findClass] at h1
  exact h1
/-- the method's frame g, with q thrown over it -/
def vx_W (p : Program) (l : Launch) (e : Env) (R : Room) (s : State) (m : MethodId) (args : Array Value) (below : List Frame) (meth : Method) (c : Code) (H : Heap) (locs : List Loc) (cells slots : Nat) (Q : State → Prop) (g : JFrame) (q : Addr) : Prop :=
  ∀ T : State, T.heap = H → Stand p l e R s m args below meth c T locs cells slots → ∃ t, Steps p.tables e below ((T.setTop g).pushFrame (.throwing q)) t ∧ Q t
def vx_Run (p : Program) (l : Launch) (e : Env) (R : Room) (s : State) (m : MethodId) (args : Array Value) (below : List Frame) (meth : Method) (c : Code) (H : Heap) (locs : List Loc) (cells slots mc ms : Nat) (g : JFrame) (rest : List Value) (Qa : State → Outcome → State → Prop) (XC : String → State → State → Prop) (free : Addr → Prop) : Prop :=
  ∀ T : State, T.heap = H → Stand p l e R s m args below meth c T locs cells slots →
    (∃ (v : Option Value) (st₀ t T' : State) (L : List Loc), st₀.heap = H ∧ Stand p l e R s m args below meth c T' (locs ++ L) (cells + mc) (slots + ms) ∧ (∀ q ∈ L, free q.base) ∧ T'.heap = t.heap ∧ T'.vm = t.vm ∧ Qa st₀ (.returned v) t ∧
      Goes p e below T g T' { g with pc := g.pc + 3, stack := v.toList ++ rest }) ∨
    (∃ (q : Addr) (st₀ t T' : State) (L : List Loc) (E : String) (ce : Cell), st₀.heap = H ∧ Stand p l e R s m args below meth c T' (locs ++ L) (cells + mc) (slots + ms) ∧ (∀ z ∈ L, free z.base) ∧ T'.heap = t.heap ∧ T'.vm = t.vm ∧ XC E st₀ t ∧ t.heap[q]? = some ce ∧ ce.vm = .none ∧ s.vm.findClass E = some ce.cls ∧
      Steps p.tables e below (T.setTop g) ((T'.setTop { g with stack := rest }).pushFrame (.throwing q)))
def vx_X {S : Type} (px : S → Prop) (B : String → S → State → Prop) (A : Nat → Prop) : String → State → State → Prop := fun E st t => ∃ u : S, px u ∧ B E u t ∧ va_F A st t
section Runs
variable {p : Program} {l : Launch} {e : Env} {R : Room} {s : State} {m : MethodId} {args : Array Value} {below : List Frame} {meth : Method} {c : Code} {H : Heap} {locs : List Loc} {cells slots : Nat}
variable {y : MethodName} {bytes cc : ByteArray} {maxL nL mc ms n index : Nat} {ret : Option FieldType} {ws : List Cond} {rm : Room} {Pc : Array Value → State → Prop} {Qc : Array Value → State → Outcome → State → Prop} {XC : String → State → State → Prop} {free : Addr → Prop} {Ts : List Cond} {own C : String} {b : Addr} {As rest : List Value} {g : JFrame}
theorem vx_callBack (cb : CallB R s args own index y bytes maxL ret ws rm mc ms n) (hM : vx_Met l y ws rm Pc Qc XC mc ms free) (hbl : FrameBlind Pc) : vx_Back l R p e below s args y 3 8 (PreOf R mc ms Pc) (PostOf Qc mc ms free) (vx_Post XC mc ms free) := by
  obtain ⟨hrc, hrs, hfr, hlo, hws, hcw, -, hini, -⟩ := cb
  exact vx_back (bytes := bytes) (maxL := maxL) (ret := ret) hM hbl hrc hrs hfr hlo hws hcw (fun a' U hW => word_at hW (Or.inl (by first | rfl | simp [Cond.onTables, Cond.keeps, Cond.steady])) hini)
theorem vx_runV (S : CallFix p m c cc nL s args Ts own) (hM : vx_Met l y ws rm Pc Qc XC mc ms free) (cw : CallW R s args own C index y bytes maxL ret ws rm mc ms n) (hp : PreV s H C b Pc As)
    (hg : g.method = m) (hn : As.length = n) (hsize : g.locals.size = nL) (hstack : g.stack = As.reverse ++ .ref b :: rest) (hW : 2 * g.monitorRoom + (rest.map fun v => v.category).sum ≤ 8) (hdg : decode cc g.pc = .ok (.invokevirtual index, 3)) (hf : cells + mc ≤ R.cells ∧ slots + ms ≤ R.slots) :
    vx_Run p l e R s m args below meth c H locs cells slots mc ms g rest (Qc (Value.ref b :: As).toArray) XC free := by
  have hK : vx_Back l R p e below s args y 3 8 (PreOf R mc ms Pc) (PostOf Qc mc ms free) (vx_Post XC mc ms free) := vx_callBack cw.1 hM hp.1
  obtain ⟨⟨-, -, -, -, -, -, hcode, -, hy, hlen, hl⟩, hin, hse⟩ := cw
  obtain ⟨hx, hb, hml, ho, -⟩ := S
  obtain ⟨-, ⟨cellB, hcB, hoB, hclB⟩, hPc⟩ := hp
  intro T hT X
  rcases vx_callV X hx (C := C) (bytes := bytes) (maxL := maxL) (ret := ret) ho hl hin hse hcode hy hK (by rw [hT]; exact hcB) hoB hclB hg (hsize.trans hml.symm) (argsL := As) (rest := rest) (fun sig h => hn.trans (hlen sig h)) hstack hW (by rw [hb]; exact hdg)
    (fun vm₁ hW₁ => ⟨hf.1, hf.2, hPc (T.setVm vm₁) hT hW₁⟩) with ⟨v, vm₁, ⟨U', l2, c2, s2⟩, hW₁, X', ⟨g', mk, t, L, e1, e2, hq, h1, hL, h2, h3⟩, st⟩ | ⟨q, vm₁, ⟨U', l2, c2, s2⟩, hW₁, X', ⟨g', mk, t, L, E, ce, e1, e2, hq, hce, hcv, hcl, h1, hL, h2, h3⟩, st⟩
  · dsimp only [Pt.U, Pt.locs, Pt.cells, Pt.slots] at X' e1 e2 h1 h2 h3 st
    subst h1; subst h2; subst h3
    exact Or.inl ⟨v, (T.setVm vm₁).calling g' mk (Value.ref b :: As).toArray, t, U', L, hT, X', hL, e1, e2, hq, st⟩
  · dsimp only [Pt.U, Pt.locs, Pt.cells, Pt.slots] at X' e1 e2 h1 h2 h3 st hcl
    subst h1; subst h2; subst h3
    exact Or.inr ⟨q, (T.setVm vm₁).calling g' mk (Value.ref b :: As).toArray, t, U', L, E, ce, hT, X', hL, e1, e2, hq, hce, hcv, vx_cls hW₁ hcl, st⟩
theorem vx_runS (S : CallFix p m c cc nL s args Ts own) (hM : vx_Met l y ws rm Pc Qc XC mc ms free) (cw : CallB R s args own index y bytes maxL ret ws rm mc ms n ∧ (Cond.static y).before args s = true) (hp : PreS s H Pc As)
    (hg : g.method = m) (hn : As.length = n) (hsize : g.locals.size = nL) (hstack : g.stack = As.reverse ++ rest) (hW : 2 * g.monitorRoom + (rest.map fun v => v.category).sum ≤ 8) (hdg : decode cc g.pc = .ok (.invokestatic index, 3)) (hf : cells + mc ≤ R.cells ∧ slots + ms ≤ R.slots) :
    vx_Run p l e R s m args below meth c H locs cells slots mc ms g rest (Qc As.toArray) XC free := by
  have hK : vx_Back l R p e below s args y 3 8 (PreOf R mc ms Pc) (PostOf Qc mc ms free) (vx_Post XC mc ms free) := vx_callBack cw.1 hM hp.1
  obtain ⟨⟨-, -, -, -, -, -, hcode, hini, hy, hlen, hl⟩, hstt⟩ := cw
  obtain ⟨hx, hb, hml, ho, -⟩ := S
  intro T hT X
  rcases vx_callS X hx (bytes := bytes) (maxL := maxL) (ret := ret) ho hl hstt hini hcode hy hK hg (hsize.trans hml.symm) (argsL := As) (rest := rest) (fun sig h => hn.trans (hlen sig h)) hstack hW (by rw [hb]; exact hdg)
    (fun vm₁ hW₁ => ⟨hf.1, hf.2, hp.2 (T.setVm vm₁) hT hW₁⟩) with ⟨v, vm₁, ⟨U', l2, c2, s2⟩, hW₁, X', ⟨g', mk, t, L, e1, e2, hq, h1, hL, h2, h3⟩, st⟩ | ⟨q, vm₁, ⟨U', l2, c2, s2⟩, hW₁, X', ⟨g', mk, t, L, E, ce, e1, e2, hq, hce, hcv, hcl, h1, hL, h2, h3⟩, st⟩
  · dsimp only [Pt.U, Pt.locs, Pt.cells, Pt.slots] at X' e1 e2 h1 h2 h3 st
    subst h1; subst h2; subst h3
    exact Or.inl ⟨v, (T.setVm vm₁).calling g' mk As.toArray, t, U', L, hT, X', hL, e1, e2, hq, st⟩
  · dsimp only [Pt.U, Pt.locs, Pt.cells, Pt.slots] at X' e1 e2 h1 h2 h3 st hcl
    subst h1; subst h2; subst h3
    exact Or.inr ⟨q, (T.setVm vm₁).calling g' mk As.toArray, t, U', L, E, ce, hT, X', hL, e1, e2, hq, hce, hcv, vx_cls hW₁ hcl, st⟩
end Runs
section Rows
variable {p : Program} {l : Launch} {e : Env} {R : Room} {s : State} {m : MethodId} {args : Array Value} {below : List Frame} {meth : Method} {c : Code} {H : Heap} {locs : List Loc} {cells slots : Nat} {Q : State → Prop}
variable {mc ms : Nat} {free : Addr → Prop} {A0 A1 : Nat → Prop} {H0 : Heap} {a : Array Value} {pc : Nat} {ls : Array Slot} {st0 rest : List Value}
theorem vx_keep {st₀ t T' : State} {L : List Loc} (h0 : st₀.heap = H) (e1 : T'.heap = t.heap) (hS : va_S A0 H0 H locs) (hA : ∀ q, q < H.size → A1 q → A0 q) (hf : ∀ q, free q → A0 q) (hL : ∀ q ∈ L, free q.base) (hF : va_F A1 st₀ t) :
    H.size ≤ T'.heap.size ∧ (∀ q : Nat, q < H.size → ¬ A1 q → T'.heap[q]? = H[q]?) ∧ va_S A0 H0 T'.heap (locs ++ L) := by
  obtain ⟨hz, hk⟩ := hF
  rw [h0] at hz hk
  exact ⟨by rw [e1]; exact hz, fun q h1 h2 => by rw [e1]; exact hk q h1 h2,
    ⟨Nat.le_trans hS.1 (by rw [e1]; exact hz), fun q h1 h2 => by rw [e1, hk q (Nat.lt_of_lt_of_le h1 hS.1) (fun z => h2 (hA q (Nat.lt_of_lt_of_le h1 hS.1) z))]; exact hS.2.1 q h1 h2, fun q hq => by
      rcases List.mem_append.mp hq with h | h
      · exact hS.2.2 q h
      · exact hf _ (hL q h)⟩⟩
theorem vx_calli {S SX : Type} {post : Int32 → S → Prop} {px : SX → Prop} {B : S → State → Prop} {BX : String → SX → State → Prop} {AX : Nat → Prop} (hr : vx_Run p l e R s m args below meth c H locs cells slots mc ms (F0 m pc ls st0) rest (va_Qi post B A1 a) (vx_X px BX AX) free) (hS : va_S A0 H0 H locs) (hA : ∀ q, q < H.size → A1 q → A0 q) (hf : ∀ q, free q → A0 q) (hAX : ∀ q, q < H.size → AX q → A0 q)
    (kx : ∀ (E : String) (ce : Cell) (q9 : Addr) (u : SX) (t : State) (H1 : Heap) (locs1 : List Loc), t.heap = H1 → s.vm.Alike t.vm → px u → BX E u t → H.size ≤ H1.size → (∀ q : Nat, q < H.size → ¬ AX q → H1[q]? = H[q]?) → va_S A0 H0 H1 locs1 → H1[q9]? = some ce → ce.vm = .none → s.vm.findClass E = some ce.cls → vx_W p l e R s m args below meth c H1 locs1 (cells + mc) (slots + ms) Q (F0 m pc ls rest) q9)
    (kk : ∀ (r : Int32) (u : S) (t : State) (H1 : Heap) (locs1 : List Loc), t.heap = H1 → s.vm.Alike t.vm → post r u → B u t → H.size ≤ H1.size → (∀ q : Nat, q < H.size → ¬ A1 q → H1[q]? = H[q]?) → va_S A0 H0 H1 locs1 → W p l e R s m args below meth c H1 locs1 (cells + mc) (slots + ms) Q (F0 m (pc + 3) ls (.int r :: rest))) : W p l e R s m args below meth c H locs cells slots Q (F0 m pc ls st0) := by
  intro T hT X
  rcases hr T hT X with ⟨v, st₀, t, T', L, h0, X', hL, e1, e2, ⟨⟨r, u, hv, hp, hb⟩, hF⟩, st⟩ | ⟨q, st₀, t, T', L, E, ce, h0, X', hL, e1, e2, ⟨u, hp, hb, hF⟩, hce, hcv, hcl, st⟩
  · cases hv
    obtain ⟨k1, k2, k3⟩ := vx_keep h0 e1 hS hA hf hL hF
    obtain ⟨t2, a1, b1⟩ := kk r u t T'.heap (locs ++ L) e1.symm (by rw [← e2]; exact X'.warmed.alike) hp hb k1 k2 k3 T' rfl X'
    exact ⟨t2, st t2 a1, b1⟩
  · obtain ⟨k1, k2, k3⟩ := vx_keep h0 e1 hS hAX hf hL hF
    obtain ⟨t2, a1, b1⟩ := kx E ce q u t T'.heap (locs ++ L) e1.symm (by rw [← e2]; exact X'.warmed.alike) hp hb k1 k2 k3 (by rw [e1]; exact hce) hcv hcl T' rfl X'
    exact ⟨t2, st.trans a1, b1⟩
theorem vx_calll {S SX : Type} {post : Int64 → S → Prop} {px : SX → Prop} {B : S → State → Prop} {BX : String → SX → State → Prop} {AX : Nat → Prop} (hr : vx_Run p l e R s m args below meth c H locs cells slots mc ms (F0 m pc ls st0) rest (va_Ql post B A1 a) (vx_X px BX AX) free) (hS : va_S A0 H0 H locs) (hA : ∀ q, q < H.size → A1 q → A0 q) (hf : ∀ q, free q → A0 q) (hAX : ∀ q, q < H.size → AX q → A0 q)
    (kx : ∀ (E : String) (ce : Cell) (q9 : Addr) (u : SX) (t : State) (H1 : Heap) (locs1 : List Loc), t.heap = H1 → s.vm.Alike t.vm → px u → BX E u t → H.size ≤ H1.size → (∀ q : Nat, q < H.size → ¬ AX q → H1[q]? = H[q]?) → va_S A0 H0 H1 locs1 → H1[q9]? = some ce → ce.vm = .none → s.vm.findClass E = some ce.cls → vx_W p l e R s m args below meth c H1 locs1 (cells + mc) (slots + ms) Q (F0 m pc ls rest) q9)
    (kk : ∀ (r : Int64) (u : S) (t : State) (H1 : Heap) (locs1 : List Loc), t.heap = H1 → s.vm.Alike t.vm → post r u → B u t → H.size ≤ H1.size → (∀ q : Nat, q < H.size → ¬ A1 q → H1[q]? = H[q]?) → va_S A0 H0 H1 locs1 → W p l e R s m args below meth c H1 locs1 (cells + mc) (slots + ms) Q (F0 m (pc + 3) ls (.long r :: rest))) : W p l e R s m args below meth c H locs cells slots Q (F0 m pc ls st0) := by
  intro T hT X
  rcases hr T hT X with ⟨v, st₀, t, T', L, h0, X', hL, e1, e2, ⟨⟨r, u, hv, hp, hb⟩, hF⟩, st⟩ | ⟨q, st₀, t, T', L, E, ce, h0, X', hL, e1, e2, ⟨u, hp, hb, hF⟩, hce, hcv, hcl, st⟩
  · cases hv
    obtain ⟨k1, k2, k3⟩ := vx_keep h0 e1 hS hA hf hL hF
    obtain ⟨t2, a1, b1⟩ := kk r u t T'.heap (locs ++ L) e1.symm (by rw [← e2]; exact X'.warmed.alike) hp hb k1 k2 k3 T' rfl X'
    exact ⟨t2, st t2 a1, b1⟩
  · obtain ⟨k1, k2, k3⟩ := vx_keep h0 e1 hS hAX hf hL hF
    obtain ⟨t2, a1, b1⟩ := kx E ce q u t T'.heap (locs ++ L) e1.symm (by rw [← e2]; exact X'.warmed.alike) hp hb k1 k2 k3 (by rw [e1]; exact hce) hcv hcl T' rfl X'
    exact ⟨t2, st.trans a1, b1⟩
theorem vx_callf {S SX : Type} {post : UInt32 → S → Prop} {px : SX → Prop} {B : S → State → Prop} {BX : String → SX → State → Prop} {AX : Nat → Prop} (hr : vx_Run p l e R s m args below meth c H locs cells slots mc ms (F0 m pc ls st0) rest (va_Qf post B A1 a) (vx_X px BX AX) free) (hS : va_S A0 H0 H locs) (hA : ∀ q, q < H.size → A1 q → A0 q) (hf : ∀ q, free q → A0 q) (hAX : ∀ q, q < H.size → AX q → A0 q)
    (kx : ∀ (E : String) (ce : Cell) (q9 : Addr) (u : SX) (t : State) (H1 : Heap) (locs1 : List Loc), t.heap = H1 → s.vm.Alike t.vm → px u → BX E u t → H.size ≤ H1.size → (∀ q : Nat, q < H.size → ¬ AX q → H1[q]? = H[q]?) → va_S A0 H0 H1 locs1 → H1[q9]? = some ce → ce.vm = .none → s.vm.findClass E = some ce.cls → vx_W p l e R s m args below meth c H1 locs1 (cells + mc) (slots + ms) Q (F0 m pc ls rest) q9)
    (kk : ∀ (r : UInt32) (u : S) (t : State) (H1 : Heap) (locs1 : List Loc), t.heap = H1 → s.vm.Alike t.vm → post r u → B u t → H.size ≤ H1.size → (∀ q : Nat, q < H.size → ¬ A1 q → H1[q]? = H[q]?) → va_S A0 H0 H1 locs1 → W p l e R s m args below meth c H1 locs1 (cells + mc) (slots + ms) Q (F0 m (pc + 3) ls (.float r :: rest))) : W p l e R s m args below meth c H locs cells slots Q (F0 m pc ls st0) := by
  intro T hT X
  rcases hr T hT X with ⟨v, st₀, t, T', L, h0, X', hL, e1, e2, ⟨⟨r, u, hv, hp, hb⟩, hF⟩, st⟩ | ⟨q, st₀, t, T', L, E, ce, h0, X', hL, e1, e2, ⟨u, hp, hb, hF⟩, hce, hcv, hcl, st⟩
  · cases hv
    obtain ⟨k1, k2, k3⟩ := vx_keep h0 e1 hS hA hf hL hF
    obtain ⟨t2, a1, b1⟩ := kk r u t T'.heap (locs ++ L) e1.symm (by rw [← e2]; exact X'.warmed.alike) hp hb k1 k2 k3 T' rfl X'
    exact ⟨t2, st t2 a1, b1⟩
  · obtain ⟨k1, k2, k3⟩ := vx_keep h0 e1 hS hAX hf hL hF
    obtain ⟨t2, a1, b1⟩ := kx E ce q u t T'.heap (locs ++ L) e1.symm (by rw [← e2]; exact X'.warmed.alike) hp hb k1 k2 k3 (by rw [e1]; exact hce) hcv hcl T' rfl X'
    exact ⟨t2, st.trans a1, b1⟩
theorem vx_calld {S SX : Type} {post : UInt64 → S → Prop} {px : SX → Prop} {B : S → State → Prop} {BX : String → SX → State → Prop} {AX : Nat → Prop} (hr : vx_Run p l e R s m args below meth c H locs cells slots mc ms (F0 m pc ls st0) rest (va_Qd post B A1 a) (vx_X px BX AX) free) (hS : va_S A0 H0 H locs) (hA : ∀ q, q < H.size → A1 q → A0 q) (hf : ∀ q, free q → A0 q) (hAX : ∀ q, q < H.size → AX q → A0 q)
    (kx : ∀ (E : String) (ce : Cell) (q9 : Addr) (u : SX) (t : State) (H1 : Heap) (locs1 : List Loc), t.heap = H1 → s.vm.Alike t.vm → px u → BX E u t → H.size ≤ H1.size → (∀ q : Nat, q < H.size → ¬ AX q → H1[q]? = H[q]?) → va_S A0 H0 H1 locs1 → H1[q9]? = some ce → ce.vm = .none → s.vm.findClass E = some ce.cls → vx_W p l e R s m args below meth c H1 locs1 (cells + mc) (slots + ms) Q (F0 m pc ls rest) q9)
    (kk : ∀ (r : UInt64) (u : S) (t : State) (H1 : Heap) (locs1 : List Loc), t.heap = H1 → s.vm.Alike t.vm → post r u → B u t → H.size ≤ H1.size → (∀ q : Nat, q < H.size → ¬ A1 q → H1[q]? = H[q]?) → va_S A0 H0 H1 locs1 → W p l e R s m args below meth c H1 locs1 (cells + mc) (slots + ms) Q (F0 m (pc + 3) ls (.double r :: rest))) : W p l e R s m args below meth c H locs cells slots Q (F0 m pc ls st0) := by
  intro T hT X
  rcases hr T hT X with ⟨v, st₀, t, T', L, h0, X', hL, e1, e2, ⟨⟨r, u, hv, hp, hb⟩, hF⟩, st⟩ | ⟨q, st₀, t, T', L, E, ce, h0, X', hL, e1, e2, ⟨u, hp, hb, hF⟩, hce, hcv, hcl, st⟩
  · cases hv
    obtain ⟨k1, k2, k3⟩ := vx_keep h0 e1 hS hA hf hL hF
    obtain ⟨t2, a1, b1⟩ := kk r u t T'.heap (locs ++ L) e1.symm (by rw [← e2]; exact X'.warmed.alike) hp hb k1 k2 k3 T' rfl X'
    exact ⟨t2, st t2 a1, b1⟩
  · obtain ⟨k1, k2, k3⟩ := vx_keep h0 e1 hS hAX hf hL hF
    obtain ⟨t2, a1, b1⟩ := kx E ce q u t T'.heap (locs ++ L) e1.symm (by rw [← e2]; exact X'.warmed.alike) hp hb k1 k2 k3 (by rw [e1]; exact hce) hcv hcl T' rfl X'
    exact ⟨t2, st.trans a1, b1⟩
theorem vx_callv {S SX : Type} {post : S → Prop} {px : SX → Prop} {B : S → State → Prop} {BX : String → SX → State → Prop} {AX : Nat → Prop} (hr : vx_Run p l e R s m args below meth c H locs cells slots mc ms (F0 m pc ls st0) rest (va_Qv post B A1 a) (vx_X px BX AX) free) (hS : va_S A0 H0 H locs) (hA : ∀ q, q < H.size → A1 q → A0 q) (hf : ∀ q, free q → A0 q) (hAX : ∀ q, q < H.size → AX q → A0 q)
    (kx : ∀ (E : String) (ce : Cell) (q9 : Addr) (u : SX) (t : State) (H1 : Heap) (locs1 : List Loc), t.heap = H1 → s.vm.Alike t.vm → px u → BX E u t → H.size ≤ H1.size → (∀ q : Nat, q < H.size → ¬ AX q → H1[q]? = H[q]?) → va_S A0 H0 H1 locs1 → H1[q9]? = some ce → ce.vm = .none → s.vm.findClass E = some ce.cls → vx_W p l e R s m args below meth c H1 locs1 (cells + mc) (slots + ms) Q (F0 m pc ls rest) q9)
    (kk : ∀ (u : S) (t : State) (H1 : Heap) (locs1 : List Loc), t.heap = H1 → s.vm.Alike t.vm → post u → B u t → H.size ≤ H1.size → (∀ q : Nat, q < H.size → ¬ A1 q → H1[q]? = H[q]?) → va_S A0 H0 H1 locs1 → W p l e R s m args below meth c H1 locs1 (cells + mc) (slots + ms) Q (F0 m (pc + 3) ls (rest))) : W p l e R s m args below meth c H locs cells slots Q (F0 m pc ls st0) := by
  intro T hT X
  rcases hr T hT X with ⟨v, st₀, t, T', L, h0, X', hL, e1, e2, ⟨⟨u, hv, hp, hb⟩, hF⟩, st⟩ | ⟨q, st₀, t, T', L, E, ce, h0, X', hL, e1, e2, ⟨u, hp, hb, hF⟩, hce, hcv, hcl, st⟩
  · cases hv
    obtain ⟨k1, k2, k3⟩ := vx_keep h0 e1 hS hA hf hL hF
    obtain ⟨t2, a1, b1⟩ := kk u t T'.heap (locs ++ L) e1.symm (by rw [← e2]; exact X'.warmed.alike) hp hb k1 k2 k3 T' rfl X'
    exact ⟨t2, st t2 a1, b1⟩
  · obtain ⟨k1, k2, k3⟩ := vx_keep h0 e1 hS hAX hf hL hF
    obtain ⟨t2, a1, b1⟩ := kx E ce q u t T'.heap (locs ++ L) e1.symm (by rw [← e2]; exact X'.warmed.alike) hp hb k1 k2 k3 (by rw [e1]; exact hce) hcv hcl T' rfl X'
    exact ⟨t2, st.trans a1, b1⟩
/-- caught by the row x of this method's table; the rows ahead don't take it -/
theorem vx_catch {own name : String} {E : String} {ce : Cell} {q : Addr} (hown : s.vm.findClass own = some m.cls) (pre : List ExceptionTableEntry) (x : ExceptionTableEntry) (suf : List ExceptionTableEntry) (hsplit : c.exceptionTable.toList = pre ++ x :: suf)
    (hpass : ∀ z ∈ pre, covers z pc = false ∨ (z.catchType ≠ 0 ∧ ∃ nm : String, (Cond.classLink own z.catchType nm).before args s = true ∧ va_Nc E nm s)) (hx : covers x pc = true) (h0 : x.catchType ≠ 0)
    (hlink : (Cond.classLink own x.catchType name).before args s = true) (hcast : (Cond.castable E name).before args s = true) (hcell : H[q]? = some ce) (hv : ce.vm = .none) (hcl : s.vm.findClass E = some ce.cls)
    (kk : W p l e R s m args below meth c H locs cells slots Q (F0 m x.handlerPc ls [.ref q])) : vx_W p l e R s m args below meth c H locs cells slots Q (F0 m pc ls rest) q := by
  intro T hT X
  have hpl : e.platform.magicAccessors = ({} : Platform).magicAccessors := by rw [X.admits.platform]
  obtain ⟨c3, c4, hc3, hc4, hasg⟩ := Cond.castable_spec hcast
  cases Option.some.inj (hc3.symm.trans hcl)
  obtain ⟨c5, hc5, hcl5⟩ := Cond.classLink_spec hown hlink e.platform hpl
  cases Option.some.inj (hc4.symm.trans hc5)
  obtain ⟨vm', X', st⟩ := X.thenCaughtThrough q (g := F0 m pc ls rest) rfl (Steps.refl _) (by rw [hT]; exact hcell) (by rw [hv]; rfl) (by obtain ⟨k9, h9, -⟩ := Vm.findClass_spec hcl; exact ⟨k9, h9⟩) pre x suf hsplit
    (fun z hz => by
      rcases hpass z hz with h | ⟨hz0, nm, hl1, hn1⟩
      · exact Or.inl h
      · obtain ⟨c6, hc6, hcl6⟩ := Cond.classLink_spec hown hl1 e.platform hpl
        obtain ⟨a8, b8, h1, h2, h3⟩ := hn1
        cases Option.some.inj (h1.symm.trans hcl)
        cases Option.some.inj (h2.symm.trans hc6)
        exact Or.inr ⟨hz0, _, hcl6, h3⟩) hx (Or.inr ⟨h0, c4, hcl5, hasg⟩)
  obtain ⟨t, a1, b1⟩ := kk (T.setVm vm') hT X'
  exact ⟨t, st.trans a1, b1⟩
end Rows
section Ends
variable {p : Program} {l : Launch} {e : Env} {R : Room} {s : State} {m : MethodId} {args : Array Value} {below : List Frame} {meth : Method} {c : Code} {H : Heap} {locs : List Loc} {cells slots : Nat} {Q : State → Prop}
variable {mc ms : Nat} {free : Addr → Prop} {A0 A1 : Nat → Prop} {H0 : Heap} {a : Array Value} {ls : Array Slot} {st0 rest : List Value}
variable {Qc : Array Value → State → Outcome → State → Prop} {XC : String → State → State → Prop}
/-- what a body that may throw owes at its end -/
def vx_MQ (below : List Frame) (Qc : Array Value → State → Outcome → State → Prop) (XC : String → State → State → Prop) (a : Array Value) (s : State) (mc ms : Nat) (free : Addr → Prop) : State → Prop := fun t =>
  ∃ o, t.status = .running ∧ Ended t below o ∧ vx_Q Qc XC mc ms free a s o t
theorem vx_ret {g : JFrame} {mc ms : Nat} (k : W p l e R s m args below meth c H locs cells slots (MQ below Qc args s mc ms free) g) : W p l e R s m args below meth c H locs cells slots (vx_MQ below Qc XC args s mc ms free) g := by
  intro T hT X
  obtain ⟨t, a1, o, b1, b2, b3, b4⟩ := k T hT X
  exact ⟨t, a1, o, b1, b2, Or.inl ⟨b3, b4⟩⟩
/-- not caught here: it goes on to the caller -/
theorem vx_widen {g : JFrame} {q : Addr} {k n : Nat} (h1 : cells ≤ k) (h2 : slots ≤ n) (kk : vx_W p l e R s m args below meth c H locs k n Q g q) : vx_W p l e R s m args below meth c H locs cells slots Q g q := fun T hT X => kk T hT (stand_widen X h1 h2)
theorem vx_out {pc : Nat} {E : String} {ce : Cell} {q : Addr} {mc ms : Nat} (hout : ∀ x ∈ c.exceptionTable.toList, covers x pc = false) (hlocks : meth.locks = false) (hcell : H[q]? = some ce) (hv : ce.vm = .none) (hcl : s.vm.findClass E = some ce.cls)
    (hx : ∀ t : State, t.heap = H → s.vm.Alike t.vm → XC E s t) (hf : ∀ z ∈ locs, free z.base) (hc : cells ≤ mc) (hs : slots ≤ ms) :
    vx_W p l e R s m args below meth c H locs cells slots (vx_MQ below Qc XC args s mc ms free) (F0 m pc ls rest) q := by
  intro T hT X
  obtain ⟨st1, hrun, hend, hW, hsm⟩ := X.leaveThrown q (g := F0 m pc ls rest) rfl rfl rfl hout hlocks
  have hcell9 : (T.setFrames (.throwing q :: below)).heap[q]? = some ce := by
    show T.heap[q]? = some ce
    rw [hT]; exact hcell
  exact ⟨_, st1, .threw q, hrun, hend, Or.inr ⟨q, rfl, E, ce, locs, hx _ hT hW.alike, hcell9, hv, hcl, hW, hsm.mono hc hs, hf⟩⟩
theorem vx_frame {U : State} {k n : Nat} (h : s.sameButNew ({ U with vm := s.vm } : State) locs k n) : s.heap.size ≤ U.heap.size ∧ ∀ q : Nat, q < s.heap.size → (∀ z ∈ locs, z.base ≠ q) → U.heap[q]? = s.heap[q]? := by
  obtain ⟨-, h2, -, -, -, h6⟩ := h
  refine ⟨h2, fun q hq hz => ?_⟩
  obtain ⟨c9, e1, e2, e3, e4⟩ := h6 q _ (Array.getElem?_eq_getElem hq)
  have hs : c9.slots = (s.heap[q]).slots := Array.ext_getElem? fun i => e4 i fun hm => hz _ hm rfl
  have h9 : c9 = s.heap[q] := by
    rw [hs] at e2
    exact e2
  have e5 : U.heap[q]? = some c9 := e1
  rw [e5, h9, Array.getElem?_eq_getElem hq]
/-- the words of a throw but the four that speak of the heap -/
def vx_no (w : Cond) : Bool := decide (w ≠ .isRef (.static Bundle.tN "UNASSIGNED_STACK" Bundle.steD)) && decide (w ≠ .isRef (.static Bundle.tN "SUPPRESSED_SENTINEL" Bundle.listD)) && decide (w ≠ .laysStatic Bundle.tN "UNASSIGNED_STACK" Bundle.steD) && decide (w ≠ .laysStatic Bundle.tN "SUPPRESSED_SENTINEL" Bundle.listD)
def vx_at0 (own : String) (ic : Nat) (X : String) (names : List String) : List Cond := (Bundle.ownAtoms0 own ic X names).filter vx_no
def vx_atS (own : String) (ic : Nat) (X : String) (names : List String) : List Cond := (Bundle.ownAtoms own ic X names).filter vx_no
/-- a word that the tables alone decide, or a good one -/
def vx_ot (w : Cond) : Bool := w.onTables || goodWord w
theorem vx_ot_at {args a' : Array Value} {s U : State} {w : Cond} (hW : s.WarmedH U.vm) (hvm : s.vm = U.vm) (hg : vx_ot w = true) (h : w.before args s = true) : w.before a' U = true := by
  simp only [vx_ot, Bool.or_eq_true] at hg
  rcases hg with hg | hg
  · exact va_tabs hg hvm h
  · exact word_at hW (good_of_word hg) h
/-- a list's words: the good ones out of the method's own list, the others by premises of their own -/
theorem vx_hat {args : Array Value} {s : State} {L B : List Cond} (h1 : ∀ w ∈ L.filter goodWord, w.before args s = true) (h2 : ∀ w ∈ L.filter (fun w => !goodWord w), w ∈ B) (h3 : ∀ w ∈ B, w.before args s = true) : ∀ w ∈ L, w.before args s = true := by
  intro w hw
  by_cases g : goodWord w = true
  · exact h1 w (List.mem_filter.mpr ⟨hw, g⟩)
  · refine h3 w (h2 w (List.mem_filter.mpr ⟨hw, ?_⟩))
    show (!goodWord w) = true
    cases hgw : goodWord w
    · rfl
    · exact absurd hgw g
theorem vx_c {args : Array Value} {s : State} {w : Cond} {B : List Cond} (h : w.before args s = true) (t : ∀ w ∈ B, w.before args s = true) : ∀ w' ∈ w :: B, w'.before args s = true := fun w' h' => (List.mem_cons.mp h').elim (fun e => by rw [e]; exact h) (t w')
theorem vx_n {args : Array Value} {s : State} : ∀ w ∈ ([] : List Cond), w.before args s = true := fun _ h => nomatch h
theorem vx_own {args : Array Value} {s : State} {L : List Cond} (h1 : ∀ w ∈ L.filter vx_no, w.before args s = true)
    (hU : (Cond.isRef (.static Bundle.tN "UNASSIGNED_STACK" Bundle.steD)).before args s = true) (hN : (Cond.isRef (.static Bundle.tN "SUPPRESSED_SENTINEL" Bundle.listD)).before args s = true)
    (lU : (Cond.laysStatic Bundle.tN "UNASSIGNED_STACK" Bundle.steD).before args s = true) (lN : (Cond.laysStatic Bundle.tN "SUPPRESSED_SENTINEL" Bundle.listD).before args s = true) : ∀ w ∈ L, w.before args s = true := by
  intro w hw
  by_cases e1 : w = .isRef (.static Bundle.tN "UNASSIGNED_STACK" Bundle.steD)
  · rw [e1]; exact hU
  · by_cases e2 : w = .isRef (.static Bundle.tN "SUPPRESSED_SENTINEL" Bundle.listD)
    · rw [e2]; exact hN
    · by_cases e3 : w = .laysStatic Bundle.tN "UNASSIGNED_STACK" Bundle.steD
      · rw [e3]; exact lU
      · by_cases e4 : w = .laysStatic Bundle.tN "SUPPRESSED_SENTINEL" Bundle.listD
        · rw [e4]; exact lN
        · exact h1 w (List.mem_filter.mpr ⟨hw, by unfold vx_no; rw [decide_eq_true e1, decide_eq_true e2, decide_eq_true e3, decide_eq_true e4]; rfl⟩)
/-- where a static field lies, its class's statics cell in H -/
def vx_L (C n d : String) (A : Nat → Prop) (U : State) (H : Heap) : Prop := ∃ (c : ClassId) (k : Class) (i : Nat) (f : Field) (a : Nat) (cell : Cell), U.vm.findClass C = some c ∧ U.fieldFound? C n d = some (c, k, i, f) ∧ f.isStatic = true ∧ k.statics = some a ∧ H[a]? = some cell ∧ cell.vm.isStatics = true ∧ cell.cls = c ∧ f.slot < cell.slots.size ∧ k.staticTypes[f.slot]? = some f.type ∧ ¬ A a
theorem vx_L.moved {C n d : String} {A : Nat → Prop} {u U : State} {H : Heap} (hvm : u.vm.Alike U.vm) (h : vx_L C n d A u H) : vx_L C n d A U H := by
  obtain ⟨c, k, i, f, a, cell, h1, h2, h3, h4, h5, h6, h7, h8, h9, h10⟩ := h
  obtain ⟨k', hi', he⟩ := State.fieldFound?_setVm hvm h2
  exact ⟨c, k', i, f, a, cell, by rw [hvm.findClass]; exact h1, hi', h3, by rw [he]; exact h4, h5, h6, h7, h8, by rw [he]; exact h9, h10⟩
theorem vx_L.kept {C n d : String} {A : Nat → Prop} {U : State} {H H1 : Heap} (h : vx_L C n d A U H) (hq : ∀ a : Nat, a < H.size → ¬ A a → H1[a]? = H[a]?) : vx_L C n d A U H1 := by
  obtain ⟨c, k, i, f, a, cell, h1, h2, h3, h4, h5, h6, h7, h8, h9, h10⟩ := h
  exact ⟨c, k, i, f, a, cell, h1, h2, h3, h4, by rw [hq a (Array.getElem?_eq_some_iff.mp h5).1 h10]; exact h5, h6, h7, h8, h9, h10⟩
theorem vx_L.narrow {C n d : String} {A B : Nat → Prop} {U : State} {H : Heap} (h : vx_L C n d A U H) (hAB : ∀ q, B q → A q) : vx_L C n d B U H := by
  obtain ⟨c, k, i, f, a, cell, h1, h2, h3, h4, h5, h6, h7, h8, h9, h10⟩ := h
  exact ⟨c, k, i, f, a, cell, h1, h2, h3, h4, h5, h6, h7, h8, h9, fun z => h10 (hAB _ z)⟩
theorem vx_L.word {C n d : String} {A : Nat → Prop} {s : State} {args : Array Value} (h : vx_L C n d A s s.heap) : (Cond.laysStatic C n d).before args s = true := by
  obtain ⟨c, k, i, f, a, cell, h1, h2, h3, h4, h5, h6, h7, h8, h9, -⟩ := h
  show (Cond.laysStatic C n d).holds args s none s [] = true
  exact Cond.laysStatic_of h1 h2 h3 h4 h5 h6 h7 h8 h9
/-- .. and what it holds: null or some reference -/
def vx_Zq (C n d : String) (A : Nat → Prop) (U : State) (H : Heap) : Prop := va_Zq C n d A U H ∧ vx_L C n d A U H
theorem vx_Zq.moved {C n d : String} {A : Nat → Prop} {u U : State} {H : Heap} (hvm : u.vm.Alike U.vm) (h : vx_Zq C n d A u H) : vx_Zq C n d A U H := ⟨va_Zq.moved hvm h.1, vx_L.moved hvm h.2⟩
theorem vx_Zq.kept {C n d : String} {A : Nat → Prop} {U : State} {H H1 : Heap} (h : vx_Zq C n d A U H) (hq : ∀ a : Nat, a < H.size → ¬ A a → H1[a]? = H[a]?) : vx_Zq C n d A U H1 := ⟨va_Zq.kept h.1 hq, vx_L.kept h.2 hq⟩
theorem vx_Zq.narrow {C n d : String} {A B : Nat → Prop} {U : State} {H : Heap} (h : vx_Zq C n d A U H) (hAB : ∀ q, B q → A q) : vx_Zq C n d B U H := ⟨va_Zq.narrow h.1 hAB, vx_L.narrow h.2 hAB⟩
theorem vx_Zqof {args : Array Value} {s : State} {C n d : String} {A : Nat → Prop} (hl : (Cond.laysStatic C n d).before args s = true) (hini : (Cond.initialized C).before args s = true) (h : (Cond.isRef (.static C n d)).before args s = true) (hA : ∀ a : Nat, a < s.heap.size → ¬ A a) : vx_Zq C n d A s s.heap := by
  refine ⟨va_Zqof hl hini h hA, ?_⟩
  obtain ⟨c, k, i, f, a, cell, h1, h2, h3, h4, h5, h6, h7, h8, h9⟩ := Cond.laysStatic_spec hl
  exact ⟨c, k, i, f, a, cell, h1, h2, h3, h4, h5, h6, h7, h8, h9, hA a (Array.getElem?_eq_some_iff.mp h5).1⟩
theorem vx_isRef {C n d : String} {v : Value} {A : Nat → Prop} {s : State} {args : Array Value} (h : va_Z C n d v A s s.heap) (hv : v.isRef = true) : (Cond.isRef (.static C n d)).before args s = true := by
  obtain ⟨cf, kf, fi, f, a, cell, h1, h2, h3, h4, h5, h6, h7, -⟩ := h
  have he : (Term.static C n d).eval args s none [] s = some v := by
    simp [Term.eval, State.fieldNamed?, h1, h2, h4, h5, h6, h7]
  simp only [Cond.before, Cond.holds, Cond.value, he]
  cases v <;> simp_all [Value.isRef]
theorem vx_isRefq {C n d : String} {A : Nat → Prop} {s : State} {args : Array Value} (h : va_Zq C n d A s s.heap) : (Cond.isRef (.static C n d)).before args s = true := by
  rcases h with h | ⟨t, h⟩
  · exact vx_isRef h rfl
  · exact vx_isRef h rfl
/-- the same frame, seen from here: as if the method were called anew in this heap -/
theorem vx_rebase {T : State} (X : Stand p l e R s m args below meth c T locs cells slots) {R' : Room} (hf : R'.frames ≤ R.frames) (hl : R'.locals ≤ R.locals) (hc : cells + R'.cells ≤ R.cells) (hs : slots + R'.slots ≤ R.slots) :
    Stand p l e R' ((T.setVm s.vm).setFrames (.invoking m args :: below)) m args below meth c T [] 0 0 := by
  have htop : (T.setVm s.vm).topJava?.isSome := X.here.top
  have hF : ((T.setVm s.vm).setFrames (.invoking m args :: below)).frames = .invoking m args :: below := State.frames_setFrames _ (State.cur_lt_of_top htop)
  obtain ⟨g₀, hg0⟩ := Option.isSome_iff_exists.mp htop
  obtain ⟨r, hr⟩ := State.topJava?_eq_some.mp hg0
  have hl9 : e.platform.stackLimits (T.setVm s.vm).me = e.platform.stackLimits s.me := X.limits
  have hb9 : (T.setVm s.vm).me.stackBytes = s.me.stackBytes := X.bytes
  refine ⟨X.admits, X.cas, X.clock, hF, ?_, X.hears, X.method, X.code, X.here, X.tail, X.warmed, ?_, ?_, ?_⟩
  · have h := X.room
    have hU : ((T.setVm s.vm).setFrames (.invoking m args :: below)).localsInUse = s.localsInUse := by
      rw [State.localsInUse_invoking hF (meth := meth) (c := c) X.method X.code, State.localsInUse_invoking X.frames X.method X.code]
    simp only [State.hasRoom, Bool.and_eq_true, decide_eq_true_eq] at h ⊢
    obtain ⟨⟨⟨⟨h1, h2, h3, h4, h5, h6⟩, h7⟩, h8⟩, h9⟩ := h
    rw [X.frames, List.length_cons] at h2 h3
    have q1 := X.heapSize
    have q2 := X.used
    simp only [hF, hU, List.length_cons, State.stackLimits_setFrames, State.stackBytes_setFrames, hl9, hb9]
    refine ⟨⟨⟨⟨by omega, by omega, by omega, by omega, by omega, h6⟩, ?_⟩, ?_⟩, X.book⟩
    · show T.heap.size + R'.cells ≤ e.platform.maxCells
      omega
    · show T.slotsUsed + R'.slots ≤ e.platform.maxSlots
      omega
  · rw [State.stackLimits_setFrames]; rfl
  · rw [State.stackBytes_setFrames]; rfl
  · refine ⟨?_, Nat.le_refl _, Nat.le_refl _, ?_, ?_, fun a c9 h9 => ⟨c9, h9, rfl, rfl, fun _ _ => rfl⟩⟩
    · obtain ⟨t, ht, -⟩ := State.frames_cons hr
      show T.setVm s.vm = { ((T.setVm s.vm).setFrames (.invoking m args :: below)).setFrames (T.setVm s.vm).frames with heap := T.heap, slotsUsed := T.slotsUsed }
      rw [State.setFrames_setFrames, State.setFrames_self ht]
      rfl
    · show T.slotsUsed = T.slotsUsed + ((T.heap.toList.drop T.heap.size).map (·.slots.size)).sum
      rw [List.drop_eq_nil_of_le (Nat.le_of_eq Array.length_toList)]
      rfl
    · show ((T.heap.toList.drop T.heap.size).map (·.slots.size)).sum ≤ 0
      rw [List.drop_eq_nil_of_le (Nat.le_of_eq Array.length_toList)]
      exact Nat.le_refl _
/-- 'throw new E()': new; dup; invokespecial; athrow -/
theorem vx_throw0 {cc : ByteArray} {pc : Nat} (hexec : p.tables.exec = Jvm.exec) (hb : c.code = cc) (hl : l.stackTraces = false) {own cls : String} {names : List String} {ik ic mc ms : Nat} {A : Nat → Prop}
    (hown : s.vm.findClass own = some m.cls) (hcls : Bundle.fit cls = true) (hnames : ∀ n ∈ names, Bundle.fit n = true)
    (hk : (Cond.classLink own ik cls).before args s = true) (hini : (Cond.initialized cls).before args s = true) (hat : ∀ w ∈ vx_at0 own ic cls names, w.before args s = true)
    (hgood : ∀ w ∈ Cond.classLink own ik cls :: Cond.initialized cls :: vx_at0 own ic cls names, vx_ot w = true)
    (hU : vx_Zq Bundle.tN "UNASSIGNED_STACK" Bundle.steD A s s.heap) (hN : vx_Zq Bundle.tN "SUPPRESSED_SENTINEL" Bundle.listD A s s.heap) (hS : va_S A s.heap H locs) (hsize : ls.size = c.maxLocals)
    (d0 : decode cc pc = .ok (.new ik, 3)) (d3 : decode cc (pc + 3) = .ok (.dup, 1)) (d4 : decode cc (pc + 4) = .ok (.invokespecial ic, 3)) (d7 : decode cc (pc + 7) = .ok (.athrow, 1))
    (hout : ∀ x ∈ c.exceptionTable.toList, covers x (pc + 7) = false)
    (hRframes : names.length + 3 < R.frames) (hRlocals : (rest.map fun v => v.category).sum + (13 * (names.length + 1) + 42) ≤ R.locals) (hRcells : cells + 1 ≤ R.cells) (hRslots : slots + 6 ≤ R.slots) (hlocks : meth.locks = false)
    (hx : ∀ t : State, s.vm.Alike t.vm → H.size ≤ t.heap.size → (∀ q : Nat, q < H.size → t.heap[q]? = H[q]?) → XC cls s t)
    (hf : ∀ z ∈ locs, free z.base) (hc : cells + 1 ≤ mc) (hs : slots + 6 ≤ ms) :
    W p l e R s m args below meth c H locs cells slots (vx_MQ below Qc XC args s mc ms free) (F0 m pc ls rest) := by
  intro T hT X
  have htr : e.platform.stackTraces = false := (show e.platform.stackTraces = l.stackTraces by rw [X.admits.platform]).trans hl
  have Y := vx_rebase X (R' := { frames := R.frames, locals := R.locals, cells := 1, slots := 6 }) (Nat.le_refl _) (Nat.le_refl _) hRcells hRslots
  obtain ⟨s', hA⟩ : ∃ z, z = (T.setVm s.vm).setFrames (.invoking m args :: below) := ⟨_, rfl⟩
  rw [← hA] at Y
  have hvm : s'.vm = s.vm := by rw [hA]; rfl
  have hhp : s'.heap = H := by rw [hA]; exact hT
  have hW0 : s.WarmedH s'.vm := by rw [hvm]; exact State.WarmedH.refl s
  have hat' : ∀ w ∈ vx_at0 own ic cls names, w.before args s' = true := fun w hw => vx_ot_at hW0 hvm.symm (hgood w (List.mem_cons_of_mem _ (List.mem_cons_of_mem _ hw))) (hat w hw)
  have hk' : (Cond.classLink own ik cls).before args s' = true := vx_ot_at hW0 hvm.symm (hgood _ List.mem_cons_self) hk
  have hini' : (Cond.initialized cls).before args s' = true := vx_ot_at hW0 hvm.symm (hgood _ (List.mem_cons_of_mem _ List.mem_cons_self)) hini
  have hU' : vx_Zq Bundle.tN "UNASSIGNED_STACK" Bundle.steD A s' s'.heap := by rw [hhp]; exact vx_Zq.moved hW0.alike (hU.kept hS.2.1)
  have hN' : vx_Zq Bundle.tN "SUPPRESSED_SENTINEL" Bundle.listD A s' s'.heap := by rw [hhp]; exact vx_Zq.moved hW0.alike (hN.kept hS.2.1)
  have h : ∀ w ∈ Bundle.ownAtoms0 own ic cls names, w.before args s' = true := vx_own hat' (vx_isRefq hU'.1) (vx_isRefq hN'.1) hU'.2.word hN'.2.word
  have hown' : s'.vm.findClass own = some m.cls := by rw [hvm]; exact hown
  have hins : (Cond.instantiable cls 6).before args s' = true := h _ (by simp [Bundle.ownAtoms0])
  obtain ⟨vm₁, cX, kX, hfX, hkX, -, -, X₁, st1⟩ := Y.newCold hexec (own := own) (C := cls) (index := ik) (n := 6) hown' hk' hins hini'
    (g := F0 m pc ls rest) rfl (by rw [hb]; exact d0) (Nat.le_refl _) (Nat.le_refl _)
  generalize hT1 : (T.setVm vm₁).pushCell { cls := cX, slots := kX.instanceTypes.map defaultValue, vm := .none } = T1 at X₁ st1
  have hcat : (Value.ref T.heap.size).category = 1 := rfl
  have hcellA : T1.heap[T.heap.size]? = some (freshCell cX kX) := by rw [← hT1]; exact State.heap_pushCell_size _ _
  have d3' : decode c.code (pc + 3) = .ok (.dup, 1) := by rw [hb]; exact d3
  obtain ⟨U, hsteps, hrun, hend, hW, hsame, ce, hce, hO⟩ := X₁.ctorThrow0 hexec htr (own := own) (cls := cls) (names := names) (ic := ic) hown' hcls hnames h (fun x hx => nomatch hx) hfX hkX hcellA (by rw [hhp, hT]; exact Nat.le_refl _)
    (g := { method := m, pc := pc + 4, locals := ls, stack := .ref T.heap.size :: .ref T.heap.size :: rest, locked := none }) rfl hsize rfl rfl (rest := rest) rfl
    (by rw [hb]; exact d4) (by rw [hb]; exact d7) hout hRframes (by simp only [List.map_cons, List.sum_cons, hcat]; omega) hlocks
  obtain ⟨f1, f2⟩ := vx_frame hsame
  rw [hhp] at f1 f2
  have hWs : s.WarmedH U.vm := State.WarmedH.trans hW0 hW
  have hcl : s.vm.findClass cls = some ce.cls := by
    have h9 := hO.cls
    rw [hvm] at h9
    exact h9
  have hall : s.sameButNew ({ U with vm := s.vm } : State) locs mc ms := by
    subst hA
    obtain ⟨e1, e2⟩ := hsame
    rw [State.setFrames_setFrames] at e1
    have h2 : (T.setVm s.vm).sameButNew ({ U with vm := s.vm } : State) [] (0 + 1) (0 + 6) := ⟨e1, e2⟩
    have h3 := X.same.trans h2
    rw [List.append_nil] at h3
    exact h3.mono hc hs
  refine ⟨U, ?_, .threw T.heap.size, hrun, hend, Or.inr ⟨T.heap.size, rfl, cls, ce, locs, hx U hWs.alike f1 (fun q hq => f2 q hq (fun z hz => nomatch hz)), hce, hO.vm, hcl, hWs, hall, hf⟩⟩
  refine st1 _ ?_
  show Steps p.tables e below (T1.setTop { method := m, pc := pc + 3, locals := ls, stack := .ref T.heap.size :: rest, locked := none }) _
  jvm_step X₁.here [X₁.here.top, hexec, d3', Value.category]
  exact hsteps
/-- 'throw new E("text")': new; dup; ldc; invokespecial; athrow -/
theorem vx_throwS {cc : ByteArray} {pc : Nat} (hexec : p.tables.exec = Jvm.exec) (hb : c.code = cc) (hl : l.stackTraces = false) {own cls text : String} {names : List String} {ik is ic mc ms sa : Nat} {A : Nat → Prop}
    (hown : s.vm.findClass own = some m.cls) (hcls : Bundle.fit cls = true) (hnames : ∀ n ∈ names, Bundle.fit n = true)
    (hk : (Cond.classLink own ik cls).before args s = true) (hini : (Cond.initialized cls).before args s = true) (hstr : vk_R own is text sa s) (hat : ∀ w ∈ vx_atS own ic cls names, w.before args s = true)
    (hgood : ∀ w ∈ Cond.classLink own ik cls :: Cond.initialized cls :: vx_atS own ic cls names, vx_ot w = true)
    (hU : vx_Zq Bundle.tN "UNASSIGNED_STACK" Bundle.steD A s s.heap) (hN : vx_Zq Bundle.tN "SUPPRESSED_SENTINEL" Bundle.listD A s s.heap) (hS : va_S A s.heap H locs) (hsize : ls.size = c.maxLocals)
    (d0 : decode cc pc = .ok (.new ik, 3)) (d3 : decode cc (pc + 3) = .ok (.dup, 1)) (d4 : decode cc (pc + 4) = .ok (.ldc is, 2)) (d6 : decode cc (pc + 6) = .ok (.invokespecial ic, 3)) (d9 : decode cc (pc + 9) = .ok (.athrow, 1))
    (hout : ∀ x ∈ c.exceptionTable.toList, covers x (pc + 9) = false)
    (hRframes : names.length + 3 < R.frames) (hRlocals : (rest.map fun v => v.category).sum + (13 * (names.length + 1) + 43) ≤ R.locals) (hRcells : cells + 1 ≤ R.cells) (hRslots : slots + 6 ≤ R.slots) (hlocks : meth.locks = false)
    (hx : ∀ t : State, s.vm.Alike t.vm → H.size ≤ t.heap.size → (∀ q : Nat, q < H.size → t.heap[q]? = H[q]?) → XC cls s t)
    (hf : ∀ z ∈ locs, free z.base) (hc : cells + 1 ≤ mc) (hs : slots + 6 ≤ ms) :
    W p l e R s m args below meth c H locs cells slots (vx_MQ below Qc XC args s mc ms free) (F0 m pc ls rest) := by
  intro T hT X
  have htr : e.platform.stackTraces = false := (show e.platform.stackTraces = l.stackTraces by rw [X.admits.platform]).trans hl
  have Y := vx_rebase X (R' := { frames := R.frames, locals := R.locals, cells := 1, slots := 6 }) (Nat.le_refl _) (Nat.le_refl _) hRcells hRslots
  obtain ⟨s', hA⟩ : ∃ z, z = (T.setVm s.vm).setFrames (.invoking m args :: below) := ⟨_, rfl⟩
  rw [← hA] at Y
  have hvm : s'.vm = s.vm := by rw [hA]; rfl
  have hhp : s'.heap = H := by rw [hA]; exact hT
  have hW0 : s.WarmedH s'.vm := by rw [hvm]; exact State.WarmedH.refl s
  have hat' : ∀ w ∈ vx_atS own ic cls names, w.before args s' = true := fun w hw => vx_ot_at hW0 hvm.symm (hgood w (List.mem_cons_of_mem _ (List.mem_cons_of_mem _ hw))) (hat w hw)
  have hk' : (Cond.classLink own ik cls).before args s' = true := vx_ot_at hW0 hvm.symm (hgood _ List.mem_cons_self) hk
  have hini' : (Cond.initialized cls).before args s' = true := vx_ot_at hW0 hvm.symm (hgood _ (List.mem_cons_of_mem _ List.mem_cons_self)) hini
  have hU' : vx_Zq Bundle.tN "UNASSIGNED_STACK" Bundle.steD A s' s'.heap := by rw [hhp]; exact vx_Zq.moved hW0.alike (hU.kept hS.2.1)
  have hN' : vx_Zq Bundle.tN "SUPPRESSED_SENTINEL" Bundle.listD A s' s'.heap := by rw [hhp]; exact vx_Zq.moved hW0.alike (hN.kept hS.2.1)
  have h : ∀ w ∈ Bundle.ownAtoms own ic cls names, w.before args s' = true := vx_own hat' (vx_isRefq hU'.1) (vx_isRefq hN'.1) hU'.2.word hN'.2.word
  have hown' : s'.vm.findClass own = some m.cls := by rw [hvm]; exact hown
  have hins : (Cond.instantiable cls 6).before args s' = true := h _ (by simp [Bundle.ownAtoms])
  obtain ⟨vm₁, cX, kX, hfX, hkX, -, -, X₁, st1⟩ := Y.newCold hexec (own := own) (C := cls) (index := ik) (n := 6) hown' hk' hins hini'
    (g := F0 m pc ls rest) rfl (by rw [hb]; exact d0) (Nat.le_refl _) (Nat.le_refl _)
  generalize hT1 : (T.setVm vm₁).pushCell { cls := cX, slots := kX.instanceTypes.map defaultValue, vm := .none } = T1 at X₁ st1
  have hcat : (Value.ref T.heap.size).category = 1 := rfl
  have hcellA : T1.heap[T.heap.size]? = some (freshCell cX kX) := by rw [← hT1]; exact State.heap_pushCell_size _ _
  have d3' : decode c.code (pc + 3) = .ok (.dup, 1) := by rw [hb]; exact d3
  have d4' : decode c.code (pc + 4) = .ok (.ldc is, 2) := by rw [hb]; exact d4
  have hstr' : vk_R own is text sa s' := vk_R.warm hW0 hstr
  obtain ⟨U, hsteps, hrun, hend, hW, hsame, ce, hce, hO⟩ := X₁.ctorThrowS hexec htr (own := own) (cls := cls) (names := names) (ic := ic) hown' hcls hnames h (fun x hx => nomatch hx) hfX hkX hcellA (by rw [hhp, hT]; exact Nat.le_refl _) (msg := .ref sa) rfl
    (g := { method := m, pc := pc + 6, locals := ls, stack := .ref sa :: .ref T.heap.size :: .ref T.heap.size :: rest, locked := none }) rfl hsize rfl rfl (rest := rest) rfl
    (by rw [hb]; exact d6) (by rw [hb]; exact d9) hout hRframes (by simp only [List.map_cons, List.sum_cons, hcat]; omega) hlocks
  obtain ⟨f1, f2⟩ := vx_frame hsame
  rw [hhp] at f1 f2
  have hWs : s.WarmedH U.vm := State.WarmedH.trans hW0 hW
  have hcl : s.vm.findClass cls = some ce.cls := by
    have h9 := hO.cls
    rw [hvm] at h9
    exact h9
  have hall : s.sameButNew ({ U with vm := s.vm } : State) locs mc ms := by
    subst hA
    obtain ⟨e1, e2⟩ := hsame
    rw [State.setFrames_setFrames] at e1
    have h2 : (T.setVm s.vm).sameButNew ({ U with vm := s.vm } : State) [] (0 + 1) (0 + 6) := ⟨e1, e2⟩
    have h3 := X.same.trans h2
    rw [List.append_nil] at h3
    exact h3.mono hc hs
  refine ⟨U, ?_, .threw T.heap.size, hrun, hend, Or.inr ⟨T.heap.size, rfl, cls, ce, locs, hx U hWs.alike f1 (fun q hq => f2 q hq (fun z hz => nomatch hz)), hce, hO.vm, hcl, hWs, hall, hf⟩⟩
  refine st1 _ ?_
  show Steps p.tables e below (T1.setTop { method := m, pc := pc + 3, locals := ls, stack := .ref T.heap.size :: rest, locked := none }) _
  jvm_step X₁.here [X₁.here.top, hexec, d3', Value.category]
  exact X₁.ldcString hexec (own := own) (text := text) (index := is) (a := sa) hown' hstr'.1 hstr'.2
    (g := { method := m, pc := pc + 4, locals := ls, stack := .ref T.heap.size :: .ref T.heap.size :: rest, locked := none }) rfl d4' _ hsteps
/-- 'throw new E("text")', the text by a wide index -/
theorem vx_throwSW {cc : ByteArray} {pc : Nat} (hexec : p.tables.exec = Jvm.exec) (hb : c.code = cc) (hl : l.stackTraces = false) {own cls text : String} {names : List String} {ik is ic mc ms sa : Nat} {A : Nat → Prop}
    (hown : s.vm.findClass own = some m.cls) (hcls : Bundle.fit cls = true) (hnames : ∀ n ∈ names, Bundle.fit n = true)
    (hk : (Cond.classLink own ik cls).before args s = true) (hini : (Cond.initialized cls).before args s = true) (hstr : vk_R own is text sa s) (hat : ∀ w ∈ vx_atS own ic cls names, w.before args s = true)
    (hgood : ∀ w ∈ Cond.classLink own ik cls :: Cond.initialized cls :: vx_atS own ic cls names, vx_ot w = true)
    (hU : vx_Zq Bundle.tN "UNASSIGNED_STACK" Bundle.steD A s s.heap) (hN : vx_Zq Bundle.tN "SUPPRESSED_SENTINEL" Bundle.listD A s s.heap) (hS : va_S A s.heap H locs) (hsize : ls.size = c.maxLocals)
    (d0 : decode cc pc = .ok (.new ik, 3)) (d3 : decode cc (pc + 3) = .ok (.dup, 1)) (d4 : decode cc (pc + 4) = .ok (.ldc_w is, 3)) (d7 : decode cc (pc + 7) = .ok (.invokespecial ic, 3)) (d10 : decode cc (pc + 10) = .ok (.athrow, 1))
    (hout : ∀ x ∈ c.exceptionTable.toList, covers x (pc + 10) = false)
    (hRframes : names.length + 3 < R.frames) (hRlocals : (rest.map fun v => v.category).sum + (13 * (names.length + 1) + 43) ≤ R.locals) (hRcells : cells + 1 ≤ R.cells) (hRslots : slots + 6 ≤ R.slots) (hlocks : meth.locks = false)
    (hx : ∀ t : State, s.vm.Alike t.vm → H.size ≤ t.heap.size → (∀ q : Nat, q < H.size → t.heap[q]? = H[q]?) → XC cls s t)
    (hf : ∀ z ∈ locs, free z.base) (hc : cells + 1 ≤ mc) (hs : slots + 6 ≤ ms) :
    W p l e R s m args below meth c H locs cells slots (vx_MQ below Qc XC args s mc ms free) (F0 m pc ls rest) := by
  intro T hT X
  have htr : e.platform.stackTraces = false := (show e.platform.stackTraces = l.stackTraces by rw [X.admits.platform]).trans hl
  have Y := vx_rebase X (R' := { frames := R.frames, locals := R.locals, cells := 1, slots := 6 }) (Nat.le_refl _) (Nat.le_refl _) hRcells hRslots
  obtain ⟨s', hA⟩ : ∃ z, z = (T.setVm s.vm).setFrames (.invoking m args :: below) := ⟨_, rfl⟩
  rw [← hA] at Y
  have hvm : s'.vm = s.vm := by rw [hA]; rfl
  have hhp : s'.heap = H := by rw [hA]; exact hT
  have hW0 : s.WarmedH s'.vm := by rw [hvm]; exact State.WarmedH.refl s
  have hat' : ∀ w ∈ vx_atS own ic cls names, w.before args s' = true := fun w hw => vx_ot_at hW0 hvm.symm (hgood w (List.mem_cons_of_mem _ (List.mem_cons_of_mem _ hw))) (hat w hw)
  have hk' : (Cond.classLink own ik cls).before args s' = true := vx_ot_at hW0 hvm.symm (hgood _ List.mem_cons_self) hk
  have hini' : (Cond.initialized cls).before args s' = true := vx_ot_at hW0 hvm.symm (hgood _ (List.mem_cons_of_mem _ List.mem_cons_self)) hini
  have hU' : vx_Zq Bundle.tN "UNASSIGNED_STACK" Bundle.steD A s' s'.heap := by rw [hhp]; exact vx_Zq.moved hW0.alike (hU.kept hS.2.1)
  have hN' : vx_Zq Bundle.tN "SUPPRESSED_SENTINEL" Bundle.listD A s' s'.heap := by rw [hhp]; exact vx_Zq.moved hW0.alike (hN.kept hS.2.1)
  have h : ∀ w ∈ Bundle.ownAtoms own ic cls names, w.before args s' = true := vx_own hat' (vx_isRefq hU'.1) (vx_isRefq hN'.1) hU'.2.word hN'.2.word
  have hown' : s'.vm.findClass own = some m.cls := by rw [hvm]; exact hown
  have hins : (Cond.instantiable cls 6).before args s' = true := h _ (by simp [Bundle.ownAtoms])
  obtain ⟨vm₁, cX, kX, hfX, hkX, -, -, X₁, st1⟩ := Y.newCold hexec (own := own) (C := cls) (index := ik) (n := 6) hown' hk' hins hini'
    (g := F0 m pc ls rest) rfl (by rw [hb]; exact d0) (Nat.le_refl _) (Nat.le_refl _)
  generalize hT1 : (T.setVm vm₁).pushCell { cls := cX, slots := kX.instanceTypes.map defaultValue, vm := .none } = T1 at X₁ st1
  have hcat : (Value.ref T.heap.size).category = 1 := rfl
  have hcellA : T1.heap[T.heap.size]? = some (freshCell cX kX) := by rw [← hT1]; exact State.heap_pushCell_size _ _
  have d3' : decode c.code (pc + 3) = .ok (.dup, 1) := by rw [hb]; exact d3
  have d4' : decode c.code (pc + 4) = .ok (.ldc_w is, 3) := by rw [hb]; exact d4
  have hstr' : vk_R own is text sa s' := vk_R.warm hW0 hstr
  obtain ⟨U, hsteps, hrun, hend, hW, hsame, ce, hce, hO⟩ := X₁.ctorThrowS hexec htr (own := own) (cls := cls) (names := names) (ic := ic) hown' hcls hnames h (fun x hx => nomatch hx) hfX hkX hcellA (by rw [hhp, hT]; exact Nat.le_refl _) (msg := .ref sa) rfl
    (g := { method := m, pc := pc + 7, locals := ls, stack := .ref sa :: .ref T.heap.size :: .ref T.heap.size :: rest, locked := none }) rfl hsize rfl rfl (rest := rest) rfl
    (by rw [hb]; exact d7) (by rw [hb]; exact d10) hout hRframes (by simp only [List.map_cons, List.sum_cons, hcat]; omega) hlocks
  obtain ⟨f1, f2⟩ := vx_frame hsame
  rw [hhp] at f1 f2
  have hWs : s.WarmedH U.vm := State.WarmedH.trans hW0 hW
  have hcl : s.vm.findClass cls = some ce.cls := by
    have h9 := hO.cls
    rw [hvm] at h9
    exact h9
  have hall : s.sameButNew ({ U with vm := s.vm } : State) locs mc ms := by
    subst hA
    obtain ⟨e1, e2⟩ := hsame
    rw [State.setFrames_setFrames] at e1
    have h2 : (T.setVm s.vm).sameButNew ({ U with vm := s.vm } : State) [] (0 + 1) (0 + 6) := ⟨e1, e2⟩
    have h3 := X.same.trans h2
    rw [List.append_nil] at h3
    exact h3.mono hc hs
  refine ⟨U, ?_, .threw T.heap.size, hrun, hend, Or.inr ⟨T.heap.size, rfl, cls, ce, locs, hx U hWs.alike f1 (fun q hq => f2 q hq (fun z hz => nomatch hz)), hce, hO.vm, hcl, hWs, hall, hf⟩⟩
  refine st1 _ ?_
  show Steps p.tables e below (T1.setTop { method := m, pc := pc + 3, locals := ls, stack := .ref T.heap.size :: rest, locked := none }) _
  jvm_step X₁.here [X₁.here.top, hexec, d3', Value.category]
  exact X₁.ldcStringW hexec (own := own) (text := text) (index := is) (a := sa) hown' hstr'.1 hstr'.2
    (g := { method := m, pc := pc + 4, locals := ls, stack := .ref T.heap.size :: .ref T.heap.size :: rest, locked := none }) rfl d4' _ hsteps
end Ends
section Bodies
variable {l : Launch}
theorem vx_ofW {y : MethodName} {ws ws' : List Cond} {rm : Room} {Pc : Array Value → State → Prop} {Qc : Array Value → State → Outcome → State → Prop} {XC : String → State → State → Prop} {mc ms : Nat} {free : Addr → Prop} {cc : ByteArray} {maxL : Nat} {ret : Option FieldType}
    (hy : plainName y.cls = true) (hw : ws = Cond.code y cc maxL ret :: ws')
    (body : ∀ p e s m args below meth c s₁, BodyLoose p l y (headSpec ws rm) cc maxL ret e s m args below meth c s₁ → c.maxLocals = maxL → (∀ x ∈ c.exceptionTable.toList, False) → Pc args s →
      W p l e (headSpec ws rm).room s m args below meth c s.heap [] 0 0 (vx_MQ below Qc XC args s mc ms free) (entryFrame m args maxL)) : vx_Met l y ws rm Pc Qc XC mc ms free := by
  refine MetFree.of_bodyS (code := cc) (maxLocals := maxL) (ret := ret) hy ?_ ?_
  · intro args s m h hn
    obtain ⟨meth, c, h1, h2, h3, h4, h5, h6, -, -⟩ := Cond.code_spec hn (atoms_spec (ws := ws) h _ (by rw [hw]; exact List.mem_cons_self))
    exact ⟨meth, c, h1, h2, h3, h4, h5, h6⟩
  · intro p e s m args below meth c s₁ B hml hP _
    have hh0 : s₁.heap = s.heap := by rw [B.state]; rfl
    have ht : ∀ x ∈ c.exceptionTable.toList, False := by
      obtain ⟨meth9, c9, h1, h2, -, -, -, -, h7, -⟩ := Cond.code_spec B.named (atoms_spec (ws := ws) B.pre _ (by rw [hw]; exact List.mem_cons_self))
      cases Option.some.inj (h1.symm.trans B.method)
      cases Option.some.inj (h2.symm.trans (Stand.of_body B).code)
      intro x hx
      rw [Array.isEmpty_iff.mp h7] at hx
      cases hx
    obtain ⟨t, a1, o, b1, b2, b3⟩ := body p e s m args below meth c s₁ B hml ht hP s₁ hh0 (Stand.of_body B)
    exact ⟨t, o, a1, b1, b2, b3⟩
/-- the table of a body with handlers -/
theorem vx_table {p : Program} {x y : MethodName} {S : Spec} {cc bytes : ByteArray} {maxL maxL' : Nat} {ret ret' : Option FieldType} {e : Env} {s s₁ : State} {m : MethodId} {args : Array Value} {below : List Frame} {meth : Method} {c : Code} {hh : List (Nat × Nat × Nat × Nat)}
    (B : BodyLoose p l y S cc maxL ret e s m args below meth c s₁) (h : (Cond.codeWith y bytes maxL' ret' hh).before args s = true) : c.exceptionTable.toList = tableOf hh := by
  obtain ⟨m9, meth9, c9, hn9, h1, h2, -, -, h6, -⟩ := Cond.codeWith_spec h
  cases Option.some.inj (hn9.symm.trans B.named)
  cases Option.some.inj (h1.symm.trans B.method)
  cases Option.some.inj (h2.symm.trans (Stand.of_body B).code)
  rw [← h6, table_eq]
end Bodies
end VXA
/-! ===== END ===== -/
/-! ===== BEGIN a static call of a method with an exception table ===== -/
section VXS
variable {p : Program} {l : Launch} {e : Env} {R : Room} {s : State} {m : MethodId} {args : Array Value} {below : List Frame} {meth : Method} {c : Code} {T : State} {H : Heap} {locs : List Loc} {cells slots : Nat}
abbrev vx_CSW (R : Room) (s : State) (args : Array Value) (own : String) (index : Nat) (y : MethodName) (bytes : ByteArray) (maxL : Nat) (ret : Option FieldType) (hh : List (Nat × Nat × Nat × Nat)) (ws : List Cond) (rm : Room) (mc ms n : Nat) : Prop :=
  (rm.cells = mc ∧ rm.slots = ms ∧ rm.frames + 1 ≤ R.frames ∧ 8 + (maxL + 11) + rm.locals ≤ R.locals ∧ (∀ w ∈ ws, ∀ (a' : Array Value) (U : State), s.WarmedH U.vm → w.before a' U = true) ∧ Cond.codeWith y bytes maxL ret hh ∈ ws) ∧
  (Cond.codeWith y bytes maxL ret hh).before args s = true ∧ (Cond.initialized y.cls).before args s = true ∧ (y.cls ≠ "java/lang/invoke/MethodHandle" ∧ y.cls ≠ "java/lang/invoke/VarHandle") ∧
  (∀ sig, parseMethodDescriptor y.desc = some sig → n = sig.parameters.length) ∧ (Cond.methodLink own index y).before args s = true ∧ (Cond.static y).before args s = true
theorem vx_cwSW {own : String} {index maxL mc ms : Nat} {y : MethodName} {bytes : ByteArray} {ret : Option FieldType} {hh : List (Nat × Nat × Nat × Nat)} {Ts ws ws' : List Cond} {rm : Room} (n : Nat) (ht : ∀ w ∈ Ts, w.before args s = true) (hT : GoodIn Ts (va_wsS own index y ws)) (hw : ws = Cond.codeWith y bytes maxL ret hh :: ws') (hrc : rm.cells = mc) (hrs : rm.slots = ms)
    (hd : y.cls ≠ "java/lang/invoke/MethodHandle" ∧ y.cls ≠ "java/lang/invoke/VarHandle" ∧ (parseMethodDescriptor y.desc).map (fun d => d.parameters.length) = some n) (hR : rm.frames + 1 ≤ R.frames ∧ 8 + (maxL + 11) + rm.locals ≤ R.locals) :
    vx_CSW R s args own index y bytes maxL ret hh ws rm mc ms n := by
  have ok : ∀ w ∈ va_wsS own index y ws, w.before args s = true := fun w h => ht w (hT w h).1
  have hG : GoodIn Ts ws := fun w h => hT w (by unfold va_wsS; exact List.mem_append_right _ h)
  have hc : Cond.codeWith y bytes maxL ret hh ∈ ws := by rw [hw]; exact List.mem_cons_self
  refine ⟨⟨hrc, hrs, hR.1, hR.2, pay_in ht hG, hc⟩, ht _ (hG _ hc).1, ok _ (by simp [va_wsS]), ⟨hd.1, hd.2.1⟩, fun sig h => ?_, ok _ (by simp [va_wsS]), ok _ (by simp [va_wsS])⟩
  have h2 := hd.2.2
  rw [h] at h2
  exact (Option.some.inj h2).symm
theorem vx_callSW (X : Stand p l e R s m args below meth c T locs cells slots) (hexec : p.tables.exec = Jvm.exec) {own : String} {index : Nat} {y : MethodName} {bytes : ByteArray} {maxL : Nat} {ret : Option FieldType} {hh : List (Nat × Nat × Nat × Nat)}
    (hown : s.vm.findClass own = some m.cls) (hlink : (Cond.methodLink own index y).before args s = true) (hstat : (Cond.static y).before args s = true) (hinit : (Cond.initialized y.cls).before args s = true)
    (hcode : (Cond.codeWith y bytes maxL ret hh).before args s = true) (hy : y.cls ≠ "java/lang/invoke/MethodHandle" ∧ y.cls ≠ "java/lang/invoke/VarHandle")
    {W9 : Nat} {Pre : Pt → Array Value → Prop} {Post : Pt → Array Value → Option Value → Pt → Prop} (hK : Back l R p e below s args y 3 W9 Pre Post)
    {g : JFrame} (hg : g.method = m) (hsize : g.locals.size = c.maxLocals) {argsL rest : List Value} (hlen : ∀ sig, parseMethodDescriptor y.desc = some sig → argsL.length = sig.parameters.length)
    (hstack : g.stack = argsL.reverse ++ rest) (hW : 2 * g.monitorRoom + (rest.map fun v => v.category).sum ≤ W9) (hdg : decode c.code g.pc = .ok (.invokestatic index, 3))
    (hpre : ∀ vm₁, s.WarmedH vm₁ → Pre ⟨T.setVm vm₁, locs, cells, slots⟩ argsL.toArray) :
    ∃ (v : Option Value) (vm₁ : Vm) (B : Pt), s.WarmedH vm₁ ∧ Stand p l e R s m args below meth c B.U B.locs B.cells B.slots ∧ Post ⟨T.setVm vm₁, locs, cells, slots⟩ argsL.toArray v B ∧
      ∀ target, Steps p.tables e below (B.U.setTop { g with pc := g.pc + 3, stack := v.toList ++ rest }) target → Steps p.tables e below (T.setTop g) target := by
  obtain ⟨mk, methM, cM, hnamed, hmethM, -, -, -, -, -, -, hsigM⟩ := Cond.codeWith_spec hcode
  have hstatic : methM.isStatic = true := Cond.static_spec hnamed hmethM hstat
  obtain ⟨kP, hkP, -⟩ := className_of_methodNamed hnamed
  have hinitP : kP.init = .initialized := Cond.initialized_spec (findClass_of_methodNamed hnamed) hkP hinit
  obtain ⟨vm₁, X₁, hstep₁⟩ := X.invokestatic hexec hown hlink hnamed hmethM hstatic hkP hinitP hy (g := g) hg (argsL := argsL) (rest := rest) (hlen _ hsigM) hstack hdg
  obtain ⟨v, B, X', hpost, hsteps⟩ := hK m meth c ⟨T.setVm vm₁, locs, cells, slots⟩ { g with stack := rest } (.invokestatic index) mk argsL.toArray X₁ hg hsize hdg hW (X₁.named hnamed) (hpre vm₁ X₁.warmed)
  exact ⟨v, vm₁, B, X₁.warmed, X', hpost, fun target h => hstep₁ _ fun acts => by rw [doInvoke_state]; exact hsteps.trans h⟩
theorem vx_runSW {y : MethodName} {bytes cc : ByteArray} {maxL nL mc ms n index : Nat} {ret : Option FieldType} {hh : List (Nat × Nat × Nat × Nat)} {ws : List Cond} {rm : Room} {Pc : Array Value → State → Prop} {Qc : Array Value → State → Outcome → State → Prop} {free : Addr → Prop} {Ts : List Cond} {own : String} {As rest : List Value} {g : JFrame}
    (S : CallFix p m c cc nL s args Ts own) (hM : Met l y ws rm Pc Qc mc ms free) (cw : vx_CSW R s args own index y bytes maxL ret hh ws rm mc ms n) (hp : PreS s H Pc As)
    (hg : g.method = m) (hn : As.length = n) (hsize : g.locals.size = nL) (hstack : g.stack = As.reverse ++ rest) (hW : 2 * g.monitorRoom + (rest.map fun v => v.category).sum ≤ 8) (hdg : decode cc g.pc = .ok (.invokestatic index, 3)) (hf : cells + mc ≤ R.cells ∧ slots + ms ≤ R.slots) :
    va_Run p l e R s m args below meth c H locs cells slots mc ms g rest (Qc As.toArray) (free) := by
  obtain ⟨⟨hrc, hrs, hfr, hlo, hws, hcw⟩, hcode, hini, hy, hlen, hl, hstt⟩ := cw
  have hK : Back l R p e below s args y 3 8 (PreOf R mc ms Pc) (PostOf Qc mc ms free) := va_backW (hh := hh) (bytes := bytes) (maxL := maxL) (ret := ret) hM hp.1 hrc hrs hfr hlo hws hcw (fun a' U hW => word_at hW (Or.inl (by first | rfl | simp [Cond.onTables, Cond.keeps, Cond.steady])) hini)
  obtain ⟨hx, hb, hml, ho, -⟩ := S
  intro T hT X
  obtain ⟨v, vm₁, ⟨U', l2, c2, s2⟩, hW₁, X', ⟨g', mk, t, L, e1, e2, hq, h1, hL, h2, h3⟩, st⟩ := vx_callSW X hx (hh := hh) (bytes := bytes) (maxL := maxL) (ret := ret) ho hl hstt hini hcode hy hK hg (hsize.trans hml.symm) (argsL := As) (rest := rest) (fun sig h => hn.trans (hlen sig h)) hstack hW (by rw [hb]; exact hdg)
    (fun vm₁ hW₁ => ⟨hf.1, hf.2, hp.2 (T.setVm vm₁) hT hW₁⟩)
  dsimp only [Pt.U, Pt.locs, Pt.cells, Pt.slots] at X' e1 e2 h1 h2 h3 st
  subst h1; subst h2; subst h3
  exact ⟨v, (T.setVm vm₁).calling g' mk As.toArray, t, U', L, hT, X', hL, e1, e2, hq, st⟩
/-- not caught here, past rows that name other classes: it goes on to the caller -/
theorem vx_outP {p : Program} {l : Launch} {e : Env} {R : Room} {s : State} {m : MethodId} {args : Array Value} {below : List Frame} {meth : Method} {c : Code} {H : Heap} {locs : List Loc} {cells slots : Nat} {free : Addr → Prop} {ls : Array Slot} {rest : List Value} {Qc : Array Value → State → Outcome → State → Prop} {XC : String → State → State → Prop}
    {pc : Nat} {own E : String} {ce : Cell} {q : Addr} {mc ms : Nat} (hown : s.vm.findClass own = some m.cls) (hlocks : meth.locks = false)
    (hpass : ∀ z ∈ c.exceptionTable.toList, covers z pc = false ∨ (z.catchType ≠ 0 ∧ ∃ nm : String, (Cond.classLink own z.catchType nm).before args s = true ∧ va_Nc E nm s)) (hcell : H[q]? = some ce) (hv : ce.vm = .none) (hcl : s.vm.findClass E = some ce.cls)
    (hx : ∀ t : State, t.heap = H → s.vm.Alike t.vm → XC E s t) (hf : ∀ z ∈ locs, free z.base) (hc : cells ≤ mc) (hs : slots ≤ ms) :
    vx_W p l e R s m args below meth c H locs cells slots (vx_MQ below Qc XC args s mc ms free) (F0 m pc ls rest) q := by
  intro T hT X
  have hpl : e.platform.magicAccessors = ({} : Platform).magicAccessors := by rw [X.admits.platform]
  obtain ⟨vm', hW', X', st⟩ := X.outThrough hlocks q (g := F0 m pc ls rest) rfl rfl rfl (cell := ce) (by rw [hT]; exact hcell) (by rw [hv]; rfl)
    (by obtain ⟨k9, h9, -⟩ := Vm.findClass_spec hcl; exact ⟨k9, h9⟩) (fun z hz => by
      rcases hpass z hz with h | ⟨hz0, nm, hl1, hn1⟩
      · exact Or.inl h
      · obtain ⟨c6, hc6, hcl6⟩ := Cond.classLink_spec hown hl1 e.platform hpl
        obtain ⟨a8, b8, h1, h2, h3⟩ := hn1
        cases Option.some.inj (h1.symm.trans hcl)
        cases Option.some.inj (h2.symm.trans hc6)
        exact Or.inr ⟨hz0, _, hcl6, h3⟩)
  obtain ⟨g₀, hfr⟩ := X'.frames_eq
  have hcell9 : ((T.setVm vm').setFrames (.throwing q :: below)).heap[q]? = some ce := by
    show T.heap[q]? = some ce
    rw [hT]; exact hcell
  have hend : Ended ((T.setVm vm').setFrames (.throwing q :: below)) below (.threw q) := State.frames_setFrames _ (State.cur_lt_of_frames hfr)
  refine ⟨(T.setVm vm').setFrames (.throwing q :: below), ?_, .threw q, X'.here.running, hend, Or.inr ⟨q, rfl, E, ce, locs, hx _ hT (X'.ends _).1.alike, hcell9, hv, hcl, (X'.ends _).1, (X'.ends _).2.mono hc hs, hf⟩⟩
  rw [X.pushThrowing_eq]
  exact st
/-- a thing of a world lies in the heap -/
theorem vx_lt {D : va_G} {cl : List vw_C} {ws : va_W} {H1 : Heap} (h : va_P D cl ws H1) {k : Nat} {q : Nat × va_E} (hk : ws[k]? = some q) : q.1 < H1.size := (h k q hk).lt
end VXS
/-! ===== END ===== -/
/-! ===== BEGIN methods with a table of their own: called by a name, returning or throwing ===== -/
section VXH
/-! vx_backW, vx_callVX, vx_callSX, vx_callVW, vx_runVW, vx_runVX, vx_runSX, vx_ofWH follow the same proofs as their sisters above (Free/Laws.lean, Shelf42/LK1.lean); vx_outP calls Shelf42/NT130.lean (outThrough). -/
section
variable {l : Launch} {R : Room} {p : Program} {e : Env} {below : List Frame} {s : State} {sargs : Array Value} {y : MethodName} {len W9 : Nat}
theorem vx_backW {ws : List Cond} {rm : Room} {Pc : Array Value → State → Prop} {Qc : Array Value → State → Outcome → State → Prop} {XC : String → State → State → Prop} {mc ms : Nat} {free : Addr → Prop} {bytes : ByteArray} {maxL : Nat} {ret : Option FieldType} {hh : List (Nat × Nat × Nat × Nat)}
    (hM : vx_Met l y ws rm Pc Qc XC mc ms free) (hblind : FrameBlind Pc) (hrc : rm.cells = mc) (hrs : rm.slots = ms)
    (hframes : rm.frames + 1 ≤ R.frames) (hlocals : W9 + (maxL + 11) + rm.locals ≤ R.locals)
    (hws : ∀ w ∈ ws, ∀ a' U, s.WarmedH U.vm → w.before a' U = true) (hcode : Cond.codeWith y bytes maxL ret hh ∈ ws) (hinit : ∀ a' U, s.WarmedH U.vm → (Cond.initialized y.cls).before a' U = true) :
    vx_Back l R p e below s sargs y len W9 (PreOf R mc ms Pc) (PostOf Qc mc ms free) (vx_Post XC mc ms free) := by
  intro m meth c A g ig mk a X hg hsize hdg hW hn hp
  have h1 : (headSpec ws rm).pre.before a A.U = true := atoms_intro fun w hw => hws w hw _ _ X.warmed
  have h2 : (Cond.codeWith y bytes maxL ret hh).before a A.U = true := hws _ hcode _ _ X.warmed
  have h3 : (Cond.initialized y.cls).before a A.U = true := hinit _ _ X.warmed
  have h4 : A.cells + (headSpec ws rm).room.cells ≤ R.cells := by rw [show (headSpec ws rm).room.cells = mc from hrc]; exact hp.1
  have h5 : A.slots + (headSpec ws rm).room.slots ≤ R.slots := by rw [show (headSpec ws rm).room.slots = ms from hrs]; exact hp.2.1
  have hPc : Pc a (A.U.calling g mk a) := hblind _ _ _ _ hp.2.2
  obtain ⟨U, Ls, c0, s0⟩ := A
  dsimp only [Pt.U, Pt.locs, Pt.cells, Pt.slots] at h1 h2 h3 h4 h5 X hn hPc ⊢
  obtain ⟨m9, methY, cY, hn9, hmY, hcY, -, hlY, -⟩ := Cond.codeWith_spec h2
  cases Option.some.inj (hn9.symm.trans hn)
  obtain ⟨kY, hkY, -⟩ := className_of_methodNamed hn
  have hinitY : kY.init = .initialized := Cond.initialized_spec (findClass_of_methodNamed hn) hkY h3
  have h : At U g.method c below := by rw [hg]; exact X.here
  have hlocals9 : W9 + (maxL + 11) + (headSpec ws rm).room.locals ≤ R.locals := hlocals
  have happ : (headSpec ws rm).appliesLoose y e.platform (U.calling g mk a) = true :=
    Spec.appliesLoose_calling (g := g) h hdg hn hkY hinitY
      (X.room_calling (g := g) (R' := (headSpec ws rm).room) hsize hmY hcY hframes (by rw [hlY]; omega) h4 h5) h1
  obtain ⟨mid, hmid⟩ := h.above
  have hfr : (U.setTop g).frames = (.java g :: mid) ++ below := by rw [State.frames_setTop' g h.top, hmid]; rfl
  obtain ⟨o, s₂, hsteps, -, hend, hq⟩ := Steps.callFree hM p X.admits X.cas X.clock (acts := []) hfr happ hPc trivial
  have hq' : vx_Q Qc XC mc ms free a (U.calling g mk a) o s₂ := hq
  rw [State.frames_setTop' g h.top] at hend
  obtain ⟨g₀, hg0⟩ := Option.isSome_iff_exists.mp h.top
  obtain ⟨r, hr⟩ := State.topJava?_eq_some.mp hg0
  have hr' : (({ U with heap := s₂.heap, slotsUsed := s₂.slotsUsed } : State).setVm s₂.vm).frames = .java g₀ :: r := hr
  rcases hq' with ⟨hqc, L, hfe, hL⟩ | ⟨q, rfl, E, ce, L, hx, hce, hcv, hcl, hW₂, hsm, hL⟩
  · obtain ⟨⟨v, rfl⟩, hW₂, e2, q2, q3, q4, q5, q6⟩ := id hfe
    have e3 : s₂ = ({ (U.calling g mk a).setFrames s₂.frames with heap := s₂.heap, slotsUsed := s₂.slotsUsed } : State).setVm s₂.vm := by
      have : s₂ = ({ s₂ with vm := (U.calling g mk a).vm } : State).setVm s₂.vm := rfl
      rw [e2] at this
      exact this
    obtain ⟨c₂, i₂, len₂, hc₂, hd₂, hf₂⟩ := hend
    have hW' : U.WarmedH s₂.vm := hW₂
    have hcc : c₂ = c := by
      have h1 : s₂.code? g.method = U.code? g.method := by
        rw [State.code?_eq, State.code?_eq, hW'.alike.method?]
      exact Option.some.inj (hc₂.symm.trans (h1.trans h.code))
    subst hcc
    have hlen : len₂ = len := by rw [hdg] at hd₂; cases hd₂; rfl
    subst hlen
    have hs₂ : s₂ = (({ U with heap := s₂.heap, slotsUsed := s₂.slotsUsed } : State).setVm s₂.vm).setTop { g with pc := g.pc + len₂, stack := v.toList ++ g.stack } := by
      refine e3.trans ?_
      rw [hf₂, State.calling_eq h.top, State.setFrames_setFrames, State.setTop_of_frames _ hr', hr]
      rfl
    have hsame : U.sameButNew ({ U with heap := s₂.heap, slotsUsed := s₂.slotsUsed } : State) L mc ms := by
      refine ⟨?_, q2, q3, q4, q5, q6⟩
      obtain ⟨t, ht, -⟩ := State.frames_cons hr
      show ({ U with heap := s₂.heap, slotsUsed := s₂.slotsUsed } : State) = { U.setFrames U.frames with heap := s₂.heap, slotsUsed := s₂.slotsUsed }
      rw [State.setFrames_self ht]
    subst hg
    refine Or.inl ⟨v, ⟨(({ U with heap := s₂.heap, slotsUsed := s₂.slotsUsed } : State).setVm s₂.vm), Ls ++ L, c0 + mc, s0 + ms⟩,
      ⟨X.admits, X.cas, X.clock, X.frames, X.room, X.hears, X.method, X.code, (X.here.setHeapUsed s₂.heap s₂.slotsUsed).setVm hW'.alike, X.tail, State.WarmedH.trans X.warmed hW', X.limits, X.bytes, X.same.trans (hsame.setVm s.vm)⟩,
      ⟨g, mk, s₂, L, rfl, rfl, hqc, rfl, hL, rfl, rfl⟩, ?_⟩
    show Steps p.tables e below _ ((({ U with heap := s₂.heap, slotsUsed := s₂.slotsUsed } : State).setVm s₂.vm).setTop { g with pc := g.pc + len₂, stack := v.toList ++ g.stack })
    rw [← hs₂]
    exact hsteps
  · obtain ⟨e2, q2, q3, q4, q5, q6⟩ := id hsm
    have e3 : s₂ = ({ (U.calling g mk a).setFrames s₂.frames with heap := s₂.heap, slotsUsed := s₂.slotsUsed } : State).setVm s₂.vm := by
      have : s₂ = ({ s₂ with vm := (U.calling g mk a).vm } : State).setVm s₂.vm := rfl
      rw [e2] at this
      exact this
    have hf₂ : s₂.frames = .throwing q :: .java g :: U.frames.tail := hend
    have hW' : U.WarmedH s₂.vm := hW₂
    have hs₂ : s₂ = ((({ U with heap := s₂.heap, slotsUsed := s₂.slotsUsed } : State).setVm s₂.vm).setTop g).pushFrame (.throwing q) := by
      refine e3.trans ?_
      rw [hf₂, State.calling_eq h.top, State.setFrames_setFrames, State.pushFrame, State.frames_setTop _ hr', State.setTop_of_frames _ hr', State.setFrames_setFrames, hr]
      rfl
    have hsame : U.sameButNew ({ U with heap := s₂.heap, slotsUsed := s₂.slotsUsed } : State) L mc ms := by
      refine ⟨?_, q2, q3, q4, q5, q6⟩
      obtain ⟨t, ht, -⟩ := State.frames_cons hr
      show ({ U with heap := s₂.heap, slotsUsed := s₂.slotsUsed } : State) = { U.setFrames U.frames with heap := s₂.heap, slotsUsed := s₂.slotsUsed }
      rw [State.setFrames_self ht]
    subst hg
    refine Or.inr ⟨q, ⟨(({ U with heap := s₂.heap, slotsUsed := s₂.slotsUsed } : State).setVm s₂.vm), Ls ++ L, c0 + mc, s0 + ms⟩,
      ⟨X.admits, X.cas, X.clock, X.frames, X.room, X.hears, X.method, X.code, (X.here.setHeapUsed s₂.heap s₂.slotsUsed).setVm hW'.alike, X.tail, State.WarmedH.trans X.warmed hW', X.limits, X.bytes, X.same.trans (hsame.setVm s.vm)⟩,
      ⟨g, mk, s₂, L, E, ce, rfl, rfl, hx, hce, hcv, hcl, rfl, hL, rfl, rfl⟩, ?_⟩
    show Steps p.tables e below _ (((({ U with heap := s₂.heap, slotsUsed := s₂.slotsUsed } : State).setVm s₂.vm).setTop g).pushFrame (.throwing q))
    rw [← hs₂]
    exact hsteps
end
variable {p : Program} {l : Launch} {e : Env} {R : Room} {s : State} {m : MethodId} {args : Array Value} {below : List Frame} {meth : Method} {c : Code} {T : State} {H : Heap} {locs : List Loc} {cells slots : Nat}
theorem vx_callVX (X : Stand p l e R s m args below meth c T locs cells slots) (hexec : p.tables.exec = Jvm.exec) {own C : String} {index : Nat} {y : MethodName} {bytes : ByteArray} {maxL : Nat} {ret : Option FieldType} {hh : List (Nat × Nat × Nat × Nat)}
    (hown : s.vm.findClass own = some m.cls) (hlink : (Cond.methodLink own index y).before args s = true) (hinst : (Cond.instanceMethod y).before args s = true) (hsel : (Cond.selects C y y).before args s = true)
    (hcode : (Cond.codeWith y bytes maxL ret hh).before args s = true) (hy : y.cls ≠ "java/lang/invoke/MethodHandle" ∧ y.cls ≠ "java/lang/invoke/VarHandle")
    {W9 : Nat} {Pre : Pt → Array Value → Prop} {Post : Pt → Array Value → Option Value → Pt → Prop} {PostX : Pt → Array Value → Addr → Pt → Prop} (hK : vx_Back l R p e below s args y 3 W9 Pre Post PostX)
    {b : Addr} {cellB : Cell} (hcell : T.heap[b]? = some cellB) (hobj : cellB.vm.isStatics = false) (hcls : s.vm.findClass C = some cellB.cls)
    {g : JFrame} (hg : g.method = m) (hsize : g.locals.size = c.maxLocals) {argsL rest : List Value} (hlen : ∀ sig, parseMethodDescriptor y.desc = some sig → argsL.length = sig.parameters.length)
    (hstack : g.stack = argsL.reverse ++ .ref b :: rest) (hW : 2 * g.monitorRoom + (rest.map fun v => v.category).sum ≤ W9) (hdg : decode c.code g.pc = .ok (.invokevirtual index, 3))
    (hpre : ∀ vm₁, s.WarmedH vm₁ → Pre ⟨T.setVm vm₁, locs, cells, slots⟩ (Value.ref b :: argsL).toArray) :
    (∃ (v : Option Value) (vm₁ : Vm) (B : Pt), s.WarmedH vm₁ ∧ Stand p l e R s m args below meth c B.U B.locs B.cells B.slots ∧ Post ⟨T.setVm vm₁, locs, cells, slots⟩ (Value.ref b :: argsL).toArray v B ∧
      ∀ target, Steps p.tables e below (B.U.setTop { g with pc := g.pc + 3, stack := v.toList ++ rest }) target → Steps p.tables e below (T.setTop g) target) ∨
    (∃ (q : Addr) (vm₁ : Vm) (B : Pt), s.WarmedH vm₁ ∧ Stand p l e R s m args below meth c B.U B.locs B.cells B.slots ∧ PostX ⟨T.setVm vm₁, locs, cells, slots⟩ (Value.ref b :: argsL).toArray q B ∧
      Steps p.tables e below (T.setTop g) ((B.U.setTop { g with stack := rest }).pushFrame (.throwing q))) := by
  obtain ⟨mk, methM, hnamed, hmethM, hstM, habM⟩ := Cond.instanceMethod_spec hinst
  obtain ⟨m8, methM', cM, hn8, hmethM', -, -, -, -, -, -, hsigM⟩ := Cond.codeWith_spec hcode
  cases Option.some.inj (hn8.symm.trans hnamed)
  cases hmethM.symm.trans hmethM'
  obtain ⟨c2, r2, m2, q1, q2, q3, q4, kP, hkP, hkPi⟩ := Cond.selects_spec hsel
  cases hcls.symm.trans q1
  cases (State.methodFound?_of_named hnamed hy).symm.trans q2
  cases hnamed.symm.trans q3
  have hselP : selectMethod e.platform s.vm cellB.cls mk = .method mk := by rw [Launch.admits_selectMethod X.admits]; exact q4
  obtain ⟨vm₁, X₁, hstep₁⟩ := X.invokevirtual hexec hown hlink hnamed hmethM hstM hkP hkPi hy (a := b) (cell := cellB) hcell
    (fun z h => by rw [h] at hobj; cases hobj) hselP hmethM habM hkP hkPi (g := g) hg (argsL := argsL) (rest := rest) (hlen _ hsigM) hstack hdg
  rcases hK m meth c ⟨T.setVm vm₁, locs, cells, slots⟩ { g with stack := rest } (.invokevirtual index) mk (Value.ref b :: argsL).toArray X₁ hg hsize hdg hW (X₁.named hnamed) (hpre vm₁ X₁.warmed) with ⟨v, B, X', hpost, hsteps⟩ | ⟨q, B, X', hpost, hsteps⟩
  · exact Or.inl ⟨v, vm₁, B, X₁.warmed, X', hpost, fun target h => hstep₁ _ fun acts => by rw [doInvoke_state]; exact hsteps.trans h⟩
  · exact Or.inr ⟨q, vm₁, B, X₁.warmed, X', hpost, hstep₁ _ fun acts => by rw [doInvoke_state]; exact hsteps⟩
theorem vx_callSX (X : Stand p l e R s m args below meth c T locs cells slots) (hexec : p.tables.exec = Jvm.exec) {own : String} {index : Nat} {y : MethodName} {bytes : ByteArray} {maxL : Nat} {ret : Option FieldType} {hh : List (Nat × Nat × Nat × Nat)}
    (hown : s.vm.findClass own = some m.cls) (hlink : (Cond.methodLink own index y).before args s = true) (hstat : (Cond.static y).before args s = true) (hinit : (Cond.initialized y.cls).before args s = true)
    (hcode : (Cond.codeWith y bytes maxL ret hh).before args s = true) (hy : y.cls ≠ "java/lang/invoke/MethodHandle" ∧ y.cls ≠ "java/lang/invoke/VarHandle")
    {W9 : Nat} {Pre : Pt → Array Value → Prop} {Post : Pt → Array Value → Option Value → Pt → Prop} {PostX : Pt → Array Value → Addr → Pt → Prop} (hK : vx_Back l R p e below s args y 3 W9 Pre Post PostX)
    {g : JFrame} (hg : g.method = m) (hsize : g.locals.size = c.maxLocals) {argsL rest : List Value} (hlen : ∀ sig, parseMethodDescriptor y.desc = some sig → argsL.length = sig.parameters.length)
    (hstack : g.stack = argsL.reverse ++ rest) (hW : 2 * g.monitorRoom + (rest.map fun v => v.category).sum ≤ W9) (hdg : decode c.code g.pc = .ok (.invokestatic index, 3))
    (hpre : ∀ vm₁, s.WarmedH vm₁ → Pre ⟨T.setVm vm₁, locs, cells, slots⟩ argsL.toArray) :
    (∃ (v : Option Value) (vm₁ : Vm) (B : Pt), s.WarmedH vm₁ ∧ Stand p l e R s m args below meth c B.U B.locs B.cells B.slots ∧ Post ⟨T.setVm vm₁, locs, cells, slots⟩ argsL.toArray v B ∧
      ∀ target, Steps p.tables e below (B.U.setTop { g with pc := g.pc + 3, stack := v.toList ++ rest }) target → Steps p.tables e below (T.setTop g) target) ∨
    (∃ (q : Addr) (vm₁ : Vm) (B : Pt), s.WarmedH vm₁ ∧ Stand p l e R s m args below meth c B.U B.locs B.cells B.slots ∧ PostX ⟨T.setVm vm₁, locs, cells, slots⟩ argsL.toArray q B ∧
      Steps p.tables e below (T.setTop g) ((B.U.setTop { g with stack := rest }).pushFrame (.throwing q))) := by
  obtain ⟨mk, methM, cM, hnamed, hmethM, -, -, -, -, -, -, hsigM⟩ := Cond.codeWith_spec hcode
  have hstatic : methM.isStatic = true := Cond.static_spec hnamed hmethM hstat
  obtain ⟨kP, hkP, -⟩ := className_of_methodNamed hnamed
  have hinitP : kP.init = .initialized := Cond.initialized_spec (findClass_of_methodNamed hnamed) hkP hinit
  obtain ⟨vm₁, X₁, hstep₁⟩ := X.invokestatic hexec hown hlink hnamed hmethM hstatic hkP hinitP hy (g := g) hg (argsL := argsL) (rest := rest) (hlen _ hsigM) hstack hdg
  rcases hK m meth c ⟨T.setVm vm₁, locs, cells, slots⟩ { g with stack := rest } (.invokestatic index) mk argsL.toArray X₁ hg hsize hdg hW (X₁.named hnamed) (hpre vm₁ X₁.warmed) with ⟨v, B, X', hpost, hsteps⟩ | ⟨q, B, X', hpost, hsteps⟩
  · exact Or.inl ⟨v, vm₁, B, X₁.warmed, X', hpost, fun target h => hstep₁ _ fun acts => by rw [doInvoke_state]; exact hsteps.trans h⟩
  · exact Or.inr ⟨q, vm₁, B, X₁.warmed, X', hpost, hstep₁ _ fun acts => by rw [doInvoke_state]; exact hsteps⟩
theorem vx_callVW (X : Stand p l e R s m args below meth c T locs cells slots) (hexec : p.tables.exec = Jvm.exec) {own C : String} {index : Nat} {y : MethodName} {bytes : ByteArray} {maxL : Nat} {ret : Option FieldType} {hh : List (Nat × Nat × Nat × Nat)}
    (hown : s.vm.findClass own = some m.cls) (hlink : (Cond.methodLink own index y).before args s = true) (hinst : (Cond.instanceMethod y).before args s = true) (hsel : (Cond.selects C y y).before args s = true)
    (hcode : (Cond.codeWith y bytes maxL ret hh).before args s = true) (hy : y.cls ≠ "java/lang/invoke/MethodHandle" ∧ y.cls ≠ "java/lang/invoke/VarHandle")
    {W9 : Nat} {Pre : Pt → Array Value → Prop} {Post : Pt → Array Value → Option Value → Pt → Prop} (hK : Back l R p e below s args y 3 W9 Pre Post)
    {b : Addr} {cellB : Cell} (hcell : T.heap[b]? = some cellB) (hobj : cellB.vm.isStatics = false) (hcls : s.vm.findClass C = some cellB.cls)
    {g : JFrame} (hg : g.method = m) (hsize : g.locals.size = c.maxLocals) {argsL rest : List Value} (hlen : ∀ sig, parseMethodDescriptor y.desc = some sig → argsL.length = sig.parameters.length)
    (hstack : g.stack = argsL.reverse ++ .ref b :: rest) (hW : 2 * g.monitorRoom + (rest.map fun v => v.category).sum ≤ W9) (hdg : decode c.code g.pc = .ok (.invokevirtual index, 3))
    (hpre : ∀ vm₁, s.WarmedH vm₁ → Pre ⟨T.setVm vm₁, locs, cells, slots⟩ (Value.ref b :: argsL).toArray) :
    ∃ (v : Option Value) (vm₁ : Vm) (B : Pt), s.WarmedH vm₁ ∧ Stand p l e R s m args below meth c B.U B.locs B.cells B.slots ∧ Post ⟨T.setVm vm₁, locs, cells, slots⟩ (Value.ref b :: argsL).toArray v B ∧
      ∀ target, Steps p.tables e below (B.U.setTop { g with pc := g.pc + 3, stack := v.toList ++ rest }) target → Steps p.tables e below (T.setTop g) target := by
  obtain ⟨mk, methM, hnamed, hmethM, hstM, habM⟩ := Cond.instanceMethod_spec hinst
  obtain ⟨m8, methM', cM, hn8, hmethM', -, -, -, -, -, -, hsigM⟩ := Cond.codeWith_spec hcode
  cases Option.some.inj (hn8.symm.trans hnamed)
  cases hmethM.symm.trans hmethM'
  obtain ⟨c2, r2, m2, q1, q2, q3, q4, kP, hkP, hkPi⟩ := Cond.selects_spec hsel
  cases hcls.symm.trans q1
  cases (State.methodFound?_of_named hnamed hy).symm.trans q2
  cases hnamed.symm.trans q3
  have hselP : selectMethod e.platform s.vm cellB.cls mk = .method mk := by rw [Launch.admits_selectMethod X.admits]; exact q4
  obtain ⟨vm₁, X₁, hstep₁⟩ := X.invokevirtual hexec hown hlink hnamed hmethM hstM hkP hkPi hy (a := b) (cell := cellB) hcell
    (fun z h => by rw [h] at hobj; cases hobj) hselP hmethM habM hkP hkPi (g := g) hg (argsL := argsL) (rest := rest) (hlen _ hsigM) hstack hdg
  obtain ⟨v, B, X', hpost, hsteps⟩ := hK m meth c ⟨T.setVm vm₁, locs, cells, slots⟩ { g with stack := rest } (.invokevirtual index) mk (Value.ref b :: argsL).toArray X₁ hg hsize hdg hW (X₁.named hnamed) (hpre vm₁ X₁.warmed)
  exact ⟨v, vm₁, B, X₁.warmed, X', hpost, fun target h => hstep₁ _ fun acts => by rw [doInvoke_state]; exact hsteps.trans h⟩
abbrev vx_CVW (R : Room) (s : State) (args : Array Value) (own C : String) (index : Nat) (y : MethodName) (bytes : ByteArray) (maxL : Nat) (ret : Option FieldType) (hh : List (Nat × Nat × Nat × Nat)) (ws : List Cond) (rm : Room) (mc ms n : Nat) : Prop :=
  (rm.cells = mc ∧ rm.slots = ms ∧ rm.frames + 1 ≤ R.frames ∧ 8 + (maxL + 11) + rm.locals ≤ R.locals ∧ (∀ w ∈ ws, ∀ (a' : Array Value) (U : State), s.WarmedH U.vm → w.before a' U = true) ∧ Cond.codeWith y bytes maxL ret hh ∈ ws) ∧
  (Cond.codeWith y bytes maxL ret hh).before args s = true ∧ (Cond.initialized y.cls).before args s = true ∧ (y.cls ≠ "java/lang/invoke/MethodHandle" ∧ y.cls ≠ "java/lang/invoke/VarHandle") ∧
  (∀ sig, parseMethodDescriptor y.desc = some sig → n = sig.parameters.length) ∧ (Cond.methodLink own index y).before args s = true ∧ (Cond.instanceMethod y).before args s = true ∧ (Cond.selects C y y).before args s = true
theorem vx_cwVW {own C : String} {index maxL mc ms : Nat} {y : MethodName} {bytes : ByteArray} {ret : Option FieldType} {hh : List (Nat × Nat × Nat × Nat)} {Ts ws ws' : List Cond} {rm : Room} (n : Nat) (ht : ∀ w ∈ Ts, w.before args s = true) (hT : GoodIn Ts (wsV own index C y ws)) (hw : ws = Cond.codeWith y bytes maxL ret hh :: ws') (hrc : rm.cells = mc) (hrs : rm.slots = ms)
    (hd : y.cls = C ∧ y.cls ≠ "java/lang/invoke/MethodHandle" ∧ y.cls ≠ "java/lang/invoke/VarHandle" ∧ (parseMethodDescriptor y.desc).map (fun d => d.parameters.length) = some n) (hR : rm.frames + 1 ≤ R.frames ∧ 8 + (maxL + 11) + rm.locals ≤ R.locals) :
    vx_CVW R s args own C index y bytes maxL ret hh ws rm mc ms n := by
  obtain ⟨hC, hd⟩ := hd
  subst hC
  have ok : ∀ w ∈ wsV own index y.cls y ws, w.before args s = true := fun w h => ht w (hT w h).1
  have hG : GoodIn Ts ws := fun w h => hT w (by unfold wsV; exact List.mem_append_right _ h)
  have hc : Cond.codeWith y bytes maxL ret hh ∈ ws := by rw [hw]; exact List.mem_cons_self
  refine ⟨⟨hrc, hrs, hR.1, hR.2, pay_in ht hG, hc⟩, ht _ (hG _ hc).1, ok _ (by simp [wsV]), ⟨hd.1, hd.2.1⟩, fun sig h => ?_, ok _ (by simp [wsV]), ok _ (by simp [wsV]), ok _ (by simp [wsV])⟩
  have h2 := hd.2.2
  rw [h] at h2
  exact (Option.some.inj h2).symm
theorem vx_runVW {y : MethodName} {bytes cc : ByteArray} {maxL nL mc ms n index : Nat} {ret : Option FieldType} {hh : List (Nat × Nat × Nat × Nat)} {ws : List Cond} {rm : Room} {Pc : Array Value → State → Prop} {Qc : Array Value → State → Outcome → State → Prop} {free : Addr → Prop} {Ts : List Cond} {own C : String} {b : Addr} {As rest : List Value} {g : JFrame}
    (S : CallFix p m c cc nL s args Ts own) (hM : Met l y ws rm Pc Qc mc ms free) (cw : vx_CVW R s args own C index y bytes maxL ret hh ws rm mc ms n) (hp : PreV s H C b Pc As)
    (hg : g.method = m) (hn : As.length = n) (hsize : g.locals.size = nL) (hstack : g.stack = As.reverse ++ .ref b :: rest) (hW : 2 * g.monitorRoom + (rest.map fun v => v.category).sum ≤ 8) (hdg : decode cc g.pc = .ok (.invokevirtual index, 3)) (hf : cells + mc ≤ R.cells ∧ slots + ms ≤ R.slots) :
    va_Run p l e R s m args below meth c H locs cells slots mc ms g rest (Qc (Value.ref b :: As).toArray) free := by
  obtain ⟨⟨hrc, hrs, hfr, hlo, hws, hcw⟩, hcode, hini, hy, hlen, hl, hin, hse⟩ := cw
  have hK : Back l R p e below s args y 3 8 (PreOf R mc ms Pc) (PostOf Qc mc ms free) := va_backW (hh := hh) (bytes := bytes) (maxL := maxL) (ret := ret) hM hp.1 hrc hrs hfr hlo hws hcw (fun a' U hW => word_at hW (Or.inl (by first | rfl | simp [Cond.onTables, Cond.keeps, Cond.steady])) hini)
  obtain ⟨hx, hb, hml, ho, -⟩ := S
  obtain ⟨-, ⟨cellB, hcB, hoB, hclB⟩, hPc⟩ := hp
  intro T hT X
  obtain ⟨v, vm₁, ⟨U', l2, c2, s2⟩, hW₁, X', ⟨g', mk, t, L, e1, e2, hq, h1, hL, h2, h3⟩, st⟩ := vx_callVW X hx (C := C) (hh := hh) (bytes := bytes) (maxL := maxL) (ret := ret) ho hl hin hse hcode hy hK (by rw [hT]; exact hcB) hoB hclB hg (hsize.trans hml.symm) (argsL := As) (rest := rest) (fun sig h => hn.trans (hlen sig h)) hstack hW (by rw [hb]; exact hdg)
    (fun vm₁ hW₁ => ⟨hf.1, hf.2, hPc (T.setVm vm₁) hT hW₁⟩)
  dsimp only [Pt.U, Pt.locs, Pt.cells, Pt.slots] at X' e1 e2 h1 h2 h3 st
  subst h1; subst h2; subst h3
  exact ⟨v, (T.setVm vm₁).calling g' mk (Value.ref b :: As).toArray, t, U', L, hT, X', hL, e1, e2, hq, st⟩
section
variable {y : MethodName} {bytes cc : ByteArray} {maxL nL mc ms n index : Nat} {ret : Option FieldType} {ws : List Cond} {rm : Room} {Pc : Array Value → State → Prop} {Qc : Array Value → State → Outcome → State → Prop} {XC : String → State → State → Prop} {free : Addr → Prop} {Ts : List Cond} {own C : String} {b : Addr} {As rest : List Value} {g : JFrame}
theorem vx_runVX {hh : List (Nat × Nat × Nat × Nat)} (S : CallFix p m c cc nL s args Ts own) (hM : vx_Met l y ws rm Pc Qc XC mc ms free) (cw : vx_CVW R s args own C index y bytes maxL ret hh ws rm mc ms n) (hp : PreV s H C b Pc As)
    (hg : g.method = m) (hn : As.length = n) (hsize : g.locals.size = nL) (hstack : g.stack = As.reverse ++ .ref b :: rest) (hW : 2 * g.monitorRoom + (rest.map fun v => v.category).sum ≤ 8) (hdg : decode cc g.pc = .ok (.invokevirtual index, 3)) (hf : cells + mc ≤ R.cells ∧ slots + ms ≤ R.slots) :
    vx_Run p l e R s m args below meth c H locs cells slots mc ms g rest (Qc (Value.ref b :: As).toArray) XC free := by
  obtain ⟨⟨hrc, hrs, hfr, hlo, hws, hcw⟩, hcode, hini, hy, hlen, hl, hin, hse⟩ := cw
  have hK : vx_Back l R p e below s args y 3 8 (PreOf R mc ms Pc) (PostOf Qc mc ms free) (vx_Post XC mc ms free) := vx_backW (hh := hh) (bytes := bytes) (maxL := maxL) (ret := ret) hM hp.1 hrc hrs hfr hlo hws hcw (fun a' U hW => word_at hW (Or.inl (by first | rfl | simp [Cond.onTables, Cond.keeps, Cond.steady])) hini)
  obtain ⟨hx, hb, hml, ho, -⟩ := S
  obtain ⟨-, ⟨cellB, hcB, hoB, hclB⟩, hPc⟩ := hp
  intro T hT X
  rcases vx_callVX X hx (C := C) (hh := hh) (bytes := bytes) (maxL := maxL) (ret := ret) ho hl hin hse hcode hy hK (by rw [hT]; exact hcB) hoB hclB hg (hsize.trans hml.symm) (argsL := As) (rest := rest) (fun sig h => hn.trans (hlen sig h)) hstack hW (by rw [hb]; exact hdg)
    (fun vm₁ hW₁ => ⟨hf.1, hf.2, hPc (T.setVm vm₁) hT hW₁⟩) with ⟨v, vm₁, ⟨U', l2, c2, s2⟩, hW₁, X', ⟨g', mk, t, L, e1, e2, hq, h1, hL, h2, h3⟩, st⟩ | ⟨q, vm₁, ⟨U', l2, c2, s2⟩, hW₁, X', ⟨g', mk, t, L, E, ce, e1, e2, hq, hce, hcv, hcl, h1, hL, h2, h3⟩, st⟩
  · dsimp only [Pt.U, Pt.locs, Pt.cells, Pt.slots] at X' e1 e2 h1 h2 h3 st
    subst h1; subst h2; subst h3
    exact Or.inl ⟨v, (T.setVm vm₁).calling g' mk (Value.ref b :: As).toArray, t, U', L, hT, X', hL, e1, e2, hq, st⟩
  · dsimp only [Pt.U, Pt.locs, Pt.cells, Pt.slots] at X' e1 e2 h1 h2 h3 st hcl
    subst h1; subst h2; subst h3
    exact Or.inr ⟨q, (T.setVm vm₁).calling g' mk (Value.ref b :: As).toArray, t, U', L, E, ce, hT, X', hL, e1, e2, hq, hce, hcv, vx_cls hW₁ hcl, st⟩
theorem vx_runSX {hh : List (Nat × Nat × Nat × Nat)} (S : CallFix p m c cc nL s args Ts own) (hM : vx_Met l y ws rm Pc Qc XC mc ms free) (cw : vx_CSW R s args own index y bytes maxL ret hh ws rm mc ms n) (hp : PreS s H Pc As)
    (hg : g.method = m) (hn : As.length = n) (hsize : g.locals.size = nL) (hstack : g.stack = As.reverse ++ rest) (hW : 2 * g.monitorRoom + (rest.map fun v => v.category).sum ≤ 8) (hdg : decode cc g.pc = .ok (.invokestatic index, 3)) (hf : cells + mc ≤ R.cells ∧ slots + ms ≤ R.slots) :
    vx_Run p l e R s m args below meth c H locs cells slots mc ms g rest (Qc As.toArray) XC free := by
  obtain ⟨⟨hrc, hrs, hfr, hlo, hws, hcw⟩, hcode, hini, hy, hlen, hl, hstt⟩ := cw
  have hK : vx_Back l R p e below s args y 3 8 (PreOf R mc ms Pc) (PostOf Qc mc ms free) (vx_Post XC mc ms free) := vx_backW (hh := hh) (bytes := bytes) (maxL := maxL) (ret := ret) hM hp.1 hrc hrs hfr hlo hws hcw (fun a' U hW => word_at hW (Or.inl (by first | rfl | simp [Cond.onTables, Cond.keeps, Cond.steady])) hini)
  obtain ⟨hx, hb, hml, ho, -⟩ := S
  intro T hT X
  rcases vx_callSX X hx (hh := hh) (bytes := bytes) (maxL := maxL) (ret := ret) ho hl hstt hini hcode hy hK hg (hsize.trans hml.symm) (argsL := As) (rest := rest) (fun sig h => hn.trans (hlen sig h)) hstack hW (by rw [hb]; exact hdg)
    (fun vm₁ hW₁ => ⟨hf.1, hf.2, hp.2 (T.setVm vm₁) hT hW₁⟩) with ⟨v, vm₁, ⟨U', l2, c2, s2⟩, hW₁, X', ⟨g', mk, t, L, e1, e2, hq, h1, hL, h2, h3⟩, st⟩ | ⟨q, vm₁, ⟨U', l2, c2, s2⟩, hW₁, X', ⟨g', mk, t, L, E, ce, e1, e2, hq, hce, hcv, hcl, h1, hL, h2, h3⟩, st⟩
  · dsimp only [Pt.U, Pt.locs, Pt.cells, Pt.slots] at X' e1 e2 h1 h2 h3 st
    subst h1; subst h2; subst h3
    exact Or.inl ⟨v, (T.setVm vm₁).calling g' mk As.toArray, t, U', L, hT, X', hL, e1, e2, hq, st⟩
  · dsimp only [Pt.U, Pt.locs, Pt.cells, Pt.slots] at X' e1 e2 h1 h2 h3 st hcl
    subst h1; subst h2; subst h3
    exact Or.inr ⟨q, (T.setVm vm₁).calling g' mk As.toArray, t, U', L, E, ce, hT, X', hL, e1, e2, hq, hce, hcv, vx_cls hW₁ hcl, st⟩
end
end VXH
theorem vx_ofWH {l : Launch} {y : MethodName} {ws ws' : List Cond} {rm : Room} {Pc : Array Value → State → Prop} {Qc : Array Value → State → Outcome → State → Prop} {XC : String → State → State → Prop} {mc ms : Nat} {free : Addr → Prop} {cc : ByteArray} {maxL : Nat} {ret : Option FieldType} {hh : List (Nat × Nat × Nat × Nat)}
    (hy : plainName y.cls = true) (hw : ws = Cond.codeWith y cc maxL ret hh :: ws')
    (body : ∀ p e s m args below meth c s₁, BodyLoose p l y (headSpec ws rm) cc maxL ret e s m args below meth c s₁ → c.maxLocals = maxL → Pc args s →
      W p l e (headSpec ws rm).room s m args below meth c s.heap [] 0 0 (vx_MQ below Qc XC args s mc ms free) (entryFrame m args maxL)) : vx_Met l y ws rm Pc Qc XC mc ms free := by
  refine MetFree.of_bodyS (code := cc) (maxLocals := maxL) (ret := ret) hy ?_ ?_
  · intro args s m h hn
    obtain ⟨m9, meth, c, hn9, h1, h2, h3, h4, -, h5, h6, -⟩ := Cond.codeWith_spec (atoms_spec (ws := ws) h _ (by rw [hw]; exact List.mem_cons_self))
    cases hn.symm.trans hn9
    exact ⟨meth, c, h1, h2, h3, h4, h5, h6⟩
  · intro p e s m args below meth c s₁ B hml hP _
    have hh0 : s₁.heap = s.heap := by rw [B.state]; rfl
    obtain ⟨t, a1, o, b1, b2, b3⟩ := body p e s m args below meth c s₁ B hml hP s₁ hh0 (Stand.of_body B)
    exact ⟨t, o, a1, b1, b2, b3⟩
/-! ===== END ===== -/
/-! ===== BEGIN a constructor that throws (launches without stack traces) ===== -/
section VXIA
variable {p : Program} {l : Launch} {e : Env} {R : Room} {s : State} {m : MethodId} {args : Array Value} {below : List Frame} {meth : Method} {c : Code} {T : State} {locs : List Loc} {cells slots : Nat}
theorem vx_callI (X : Stand p l e R s m args below meth c T locs cells slots) (hexec : p.tables.exec = Jvm.exec) {own : String} {index : Nat} {y : MethodName} {bytes : ByteArray} {maxL : Nat}
    (hown : s.vm.findClass own = some m.cls) (hy1 : y.name = "<init>") (hlink : (Cond.methodLink own index y).before args s = true) (hinst : (Cond.instanceMethod y).before args s = true)
    (hcode : (Cond.code y bytes maxL none).before args s = true) (hy : y.cls ≠ "java/lang/invoke/MethodHandle" ∧ y.cls ≠ "java/lang/invoke/VarHandle")
    {W9 : Nat} {Pre : Pt → Array Value → Prop} {Post : Pt → Array Value → Option Value → Pt → Prop} {PostX : Pt → Array Value → Addr → Pt → Prop} (hK : vx_Back l R p e below s args y 3 W9 Pre Post PostX)
    {g : JFrame} (hg : g.method = m) (hsize : g.locals.size = c.maxLocals) {a : Addr} {argsL rest : List Value} (hlen : ∀ sig, parseMethodDescriptor y.desc = some sig → argsL.length = sig.parameters.length)
    (hstack : g.stack = argsL.reverse ++ .ref a :: rest) (hW : 2 * g.monitorRoom + (rest.map fun v => v.category).sum ≤ W9) (hdg : decode c.code g.pc = .ok (.invokespecial index, 3))
    (hpre : ∀ vm₁, s.WarmedH vm₁ → Pre ⟨T.setVm vm₁, locs, cells, slots⟩ (Value.ref a :: argsL).toArray) :
    (∃ (v : Option Value) (vm₁ : Vm) (B : Pt), s.WarmedH vm₁ ∧ Stand p l e R s m args below meth c B.U B.locs B.cells B.slots ∧ Post ⟨T.setVm vm₁, locs, cells, slots⟩ (Value.ref a :: argsL).toArray v B ∧
      ∀ target, Steps p.tables e below (B.U.setTop { g with pc := g.pc + 3, stack := v.toList ++ rest }) target → Steps p.tables e below (T.setTop g) target) ∨
    (∃ (q : Addr) (vm₁ : Vm) (B : Pt), s.WarmedH vm₁ ∧ Stand p l e R s m args below meth c B.U B.locs B.cells B.slots ∧ PostX ⟨T.setVm vm₁, locs, cells, slots⟩ (Value.ref a :: argsL).toArray q B ∧
      Steps p.tables e below (T.setTop g) ((B.U.setTop { g with stack := rest }).pushFrame (.throwing q))) := by
  subst hg
  have hpl : e.platform.magicAccessors = ({} : Platform).magicAccessors := by rw [X.admits.platform]
  obtain ⟨mk, methM, cM, kP, vm₁, hnamed, hmethM, hcodeM, -, hlocalsM, -, hkP, -, hW₁, hstep₁⟩ := Steps.initColdArgs (e := e) X.here hexec X.warmed hpl hown hy1 hy hlink hinst hcode (f := g) rfl hlen hstack hdg
  have X₁ := X.noted hW₁
  rcases hK g.method meth c ⟨T.setVm vm₁, locs, cells, slots⟩ { g with stack := rest } (.invokespecial index) mk (Value.ref a :: argsL).toArray X₁ rfl hsize hdg hW (X₁.named hnamed) (hpre vm₁ X₁.warmed) with ⟨v, B, X', hpost, hsteps⟩ | ⟨q, B, X', hpost, hsteps⟩
  · exact Or.inl ⟨v, vm₁, B, X₁.warmed, X', hpost, fun target h => hstep₁ _ fun acts => by rw [doInvoke_state]; exact hsteps.trans h⟩
  · exact Or.inr ⟨q, vm₁, B, X₁.warmed, X', hpost, hstep₁ _ fun acts => by rw [doInvoke_state]; exact hsteps⟩
end VXIA
section VXIB
variable {p : Program} {l : Launch} {e : Env} {R : Room} {s : State} {m : MethodId} {args : Array Value} {below : List Frame} {meth : Method} {c : Code} {H : Heap} {locs : List Loc} {cells slots : Nat}
variable {y : MethodName} {bytes cc : ByteArray} {maxL nL mc ms n index : Nat} {ret : Option FieldType} {ws : List Cond} {rm : Room} {Pc : Array Value → State → Prop} {Qc : Array Value → State → Outcome → State → Prop} {XC : String → State → State → Prop} {free : Addr → Prop} {Ts : List Cond} {own C : String} {b : Addr} {As rest : List Value} {g : JFrame}
theorem vx_runI (S : CallFix p m c cc nL s args Ts own) (hM : vx_Met l y ws rm Pc Qc XC mc ms free) (cw : CallB R s args own index y bytes maxL none ws rm mc ms n ∧ y.name = "<init>" ∧ (Cond.instanceMethod y).before args s = true) (hp : PreS s H Pc (.ref b :: As))
    (hg : g.method = m) (hn : As.length = n) (hsize : g.locals.size = nL) (hstack : g.stack = As.reverse ++ .ref b :: rest) (hW : 2 * g.monitorRoom + (rest.map fun v => v.category).sum ≤ 8) (hdg : decode cc g.pc = .ok (.invokespecial index, 3)) (hf : cells + mc ≤ R.cells ∧ slots + ms ≤ R.slots) :
    vx_Run p l e R s m args below meth c H locs cells slots mc ms g rest (Qc (Value.ref b :: As).toArray) XC free := by
  have hK : vx_Back l R p e below s args y 3 8 (PreOf R mc ms Pc) (PostOf Qc mc ms free) (vx_Post XC mc ms free) := vx_callBack cw.1 hM hp.1
  obtain ⟨⟨-, -, -, -, -, -, hcode, -, hy, hlen, hl⟩, hy1, hin⟩ := cw
  obtain ⟨hx, hb, hml, ho, -⟩ := S
  have hPc := hp.2
  intro T hT X
  rcases vx_callI X hx (bytes := bytes) (maxL := maxL) ho hy1 hl hin hcode hy hK hg (hsize.trans hml.symm) (a := b) (argsL := As) (rest := rest) (fun sig h => hn.trans (hlen sig h)) hstack hW (by rw [hb]; exact hdg)
    (fun vm₁ hW₁ => ⟨hf.1, hf.2, hPc (T.setVm vm₁) hT hW₁⟩) with ⟨v, vm₁, ⟨U', l2, c2, s2⟩, hW₁, X', ⟨g', mk, t, L, e1, e2, hq, h1, hL, h2, h3⟩, st⟩ | ⟨q, vm₁, ⟨U', l2, c2, s2⟩, hW₁, X', ⟨g', mk, t, L, E, ce, e1, e2, hq, hce, hcv, hcl, h1, hL, h2, h3⟩, st⟩
  · dsimp only [Pt.U, Pt.locs, Pt.cells, Pt.slots] at X' e1 e2 h1 h2 h3 st
    subst h1; subst h2; subst h3
    exact Or.inl ⟨v, (T.setVm vm₁).calling g' mk (Value.ref b :: As).toArray, t, U', L, hT, X', hL, e1, e2, hq, st⟩
  · dsimp only [Pt.U, Pt.locs, Pt.cells, Pt.slots] at X' e1 e2 h1 h2 h3 st hcl
    subst h1; subst h2; subst h3
    exact Or.inr ⟨q, (T.setVm vm₁).calling g' mk (Value.ref b :: As).toArray, t, U', L, E, ce, hT, X', hL, e1, e2, hq, hce, hcv, vx_cls hW₁ hcl, st⟩
end VXIB
/-! ===== END ===== -/
/-! ===== BEGIN a private constructor of a nest mate that throws ===== -/
section VXIC
variable {p : Program} {l : Launch} {e : Env} {R : Room} {s : State} {m : MethodId} {args : Array Value} {below : List Frame} {meth : Method} {c : Code} {T : State} {locs : List Loc} {cells slots : Nat}
theorem vx_callIN (X : Stand p l e R s m args below meth c T locs cells slots) (hexec : p.tables.exec = Jvm.exec) {own : String} {index : Nat} {host : String} {y : MethodName} {bytes : ByteArray} {maxL : Nat}
    (hown : s.vm.findClass own = some m.cls) (hy1 : y.name = "<init>") (hlink : (Cond.methodLinkNest own index y host).before args s = true) (hinst : (Cond.instanceMethod y).before args s = true)
    (hcode : (Cond.code y bytes maxL none).before args s = true) (hy : y.cls ≠ "java/lang/invoke/MethodHandle" ∧ y.cls ≠ "java/lang/invoke/VarHandle")
    {W9 : Nat} {Pre : Pt → Array Value → Prop} {Post : Pt → Array Value → Option Value → Pt → Prop} {PostX : Pt → Array Value → Addr → Pt → Prop} (hK : vx_Back l R p e below s args y 3 W9 Pre Post PostX)
    {g : JFrame} (hg : g.method = m) (hsize : g.locals.size = c.maxLocals) {a : Addr} {argsL rest : List Value} (hlen : ∀ sig, parseMethodDescriptor y.desc = some sig → argsL.length = sig.parameters.length)
    (hstack : g.stack = argsL.reverse ++ .ref a :: rest) (hW : 2 * g.monitorRoom + (rest.map fun v => v.category).sum ≤ W9) (hdg : decode c.code g.pc = .ok (.invokespecial index, 3))
    (hpre : ∀ vm₁, s.WarmedH vm₁ → Pre ⟨T.setVm vm₁, locs, cells, slots⟩ (Value.ref a :: argsL).toArray) :
    (∃ (v : Option Value) (vm₁ : Vm) (B : Pt), s.WarmedH vm₁ ∧ Stand p l e R s m args below meth c B.U B.locs B.cells B.slots ∧ Post ⟨T.setVm vm₁, locs, cells, slots⟩ (Value.ref a :: argsL).toArray v B ∧
      ∀ target, Steps p.tables e below (B.U.setTop { g with pc := g.pc + 3, stack := v.toList ++ rest }) target → Steps p.tables e below (T.setTop g) target) ∨
    (∃ (q : Addr) (vm₁ : Vm) (B : Pt), s.WarmedH vm₁ ∧ Stand p l e R s m args below meth c B.U B.locs B.cells B.slots ∧ PostX ⟨T.setVm vm₁, locs, cells, slots⟩ (Value.ref a :: argsL).toArray q B ∧
      Steps p.tables e below (T.setTop g) ((B.U.setTop { g with stack := rest }).pushFrame (.throwing q))) := by
  subst hg
  have hpl : e.platform.magicAccessors = ({} : Platform).magicAccessors := by rw [X.admits.platform]
  obtain ⟨mk, methM, cM, kP, vm₁, hnamed, hmethM, hcodeM, -, hlocalsM, -, hkP, -, hW₁, hstep₁⟩ := Steps.initColdArgsNest (e := e) X.here hexec X.warmed hpl hown hy1 hy hlink hinst hcode (f := g) rfl hlen hstack hdg
  have X₁ := X.noted hW₁
  rcases hK g.method meth c ⟨T.setVm vm₁, locs, cells, slots⟩ { g with stack := rest } (.invokespecial index) mk (Value.ref a :: argsL).toArray X₁ rfl hsize hdg hW (X₁.named hnamed) (hpre vm₁ X₁.warmed) with ⟨v, B, X', hpost, hsteps⟩ | ⟨q, B, X', hpost, hsteps⟩
  · exact Or.inl ⟨v, vm₁, B, X₁.warmed, X', hpost, fun target h => hstep₁ _ fun acts => by rw [doInvoke_state]; exact hsteps.trans h⟩
  · exact Or.inr ⟨q, vm₁, B, X₁.warmed, X', hpost, hstep₁ _ fun acts => by rw [doInvoke_state]; exact hsteps⟩
end VXIC
section VXID
variable {p : Program} {l : Launch} {e : Env} {R : Room} {s : State} {m : MethodId} {args : Array Value} {below : List Frame} {meth : Method} {c : Code} {H : Heap} {locs : List Loc} {cells slots : Nat}
theorem vx_runIN {y : MethodName} {bytes cc : ByteArray} {maxL nL mc ms n index : Nat} {ws : List Cond} {rm : Room} {Pc : Array Value → State → Prop} {Qc : Array Value → State → Outcome → State → Prop} {XC : String → State → State → Prop} {free : Addr → Prop} {Ts : List Cond} {own host : String} {b : Addr} {As rest : List Value} {g : JFrame}
    (S : CallFix p m c cc nL s args Ts own) (hM : vx_Met l y ws rm Pc Qc XC mc ms free) (cw : va_CN R s args own index y host bytes maxL none ws rm mc ms n ∧ y.name = "<init>" ∧ (Cond.instanceMethod y).before args s = true) (hp : PreS s H Pc (.ref b :: As))
    (hg : g.method = m) (hn : As.length = n) (hsize : g.locals.size = nL) (hstack : g.stack = As.reverse ++ .ref b :: rest) (hW : 2 * g.monitorRoom + (rest.map fun v => v.category).sum ≤ 8) (hdg : decode cc g.pc = .ok (.invokespecial index, 3)) (hf : cells + mc ≤ R.cells ∧ slots + ms ≤ R.slots) :
    vx_Run p l e R s m args below meth c H locs cells slots mc ms g rest (Qc (Value.ref b :: As).toArray) XC free := by
  obtain ⟨⟨⟨hrc, hrs, hfr, hlo, hws, hcw⟩, hcode, hini, hy, hlen, hl⟩, hx1, hx2⟩ := cw
  have hK : vx_Back l R p e below s args y 3 8 (PreOf R mc ms Pc) (PostOf Qc mc ms free) (vx_Post XC mc ms free) := vx_back (bytes := bytes) (maxL := maxL) (ret := none) hM hp.1 hrc hrs hfr hlo hws hcw (fun a' U hW => word_at hW (Or.inl (by first | rfl | simp [Cond.onTables, Cond.keeps, Cond.steady])) hini)
  obtain ⟨hx, hb, hml, ho, -⟩ := S
  have hPc := hp.2
  intro T hT X
  rcases vx_callIN X hx (bytes := bytes) (maxL := maxL) ho hx1 hl hx2 hcode hy hK hg (hsize.trans hml.symm) (a := b) (argsL := As) (rest := rest) (fun sig h => hn.trans (hlen sig h)) hstack hW (by rw [hb]; exact hdg)
    (fun vm₁ hW₁ => ⟨hf.1, hf.2, hPc (T.setVm vm₁) hT hW₁⟩) with ⟨v, vm₁, ⟨U', l2, c2, s2⟩, hW₁, X', ⟨g', mk, t, L, e1, e2, hq, h1, hL, h2, h3⟩, st⟩ | ⟨q, vm₁, ⟨U', l2, c2, s2⟩, hW₁, X', ⟨g', mk, t, L, E, ce, e1, e2, hq, hce, hcv, hcl, h1, hL, h2, h3⟩, st⟩
  · dsimp only [Pt.U, Pt.locs, Pt.cells, Pt.slots] at X' e1 e2 h1 h2 h3 st
    subst h1; subst h2; subst h3
    exact Or.inl ⟨v, (T.setVm vm₁).calling g' mk (Value.ref b :: As).toArray, t, U', L, hT, X', hL, e1, e2, hq, st⟩
  · dsimp only [Pt.U, Pt.locs, Pt.cells, Pt.slots] at X' e1 e2 h1 h2 h3 st hcl
    subst h1; subst h2; subst h3
    exact Or.inr ⟨q, (T.setVm vm₁).calling g' mk (Value.ref b :: As).toArray, t, U', L, E, ce, hT, X', hL, e1, e2, hq, hce, hcv, vx_cls hW₁ hcl, st⟩
end VXID
/-! ===== END ===== -/
end
section
def RX0 : String := "HiringHall$Matching"
def TX0 : u_T := fun k => match k with
  | 0 => ("HiringHall$Matching", "workersWithin", "[I", true)
  | _ => ("HiringHall$Matching", "placesWithin", "[I", true)
def tyX0 : Nat → FieldType := fun k => match k with
  | 0 => .array .int
  | _ => .array .int
abbrev wsX00 : List Cond := u_ws RX0 TX0 2
theorem nmX0 : ∀ a, a < 2 → ∀ b, b < 2 → a ≠ b → (TX0 a).2.1 ≠ (TX0 b).2.1 := by decide +kernel
theorem tyX0_ok : ∀ k, k < 2 → parseFieldDescriptor (TX0 k).2.2.1 = some (tyX0 k) := by decide +kernel
abbrev cX0_init : ByteArray := prog_2_method_1_code
def yX0_init : MethodName := ⟨RX0, "<init>", "()V"⟩
abbrev cX0_clear : ByteArray := prog_2_method_2_code
def yX0_clear : MethodName := ⟨RX0, "clear", "()V"⟩
abbrev cX0_addWorker : ByteArray := prog_2_method_3_code
def yX0_addWorker : MethodName := ⟨RX0, "addWorker", "(I)V"⟩
abbrev cX0_removeWorker : ByteArray := prog_2_method_4_code
def yX0_removeWorker : MethodName := ⟨RX0, "removeWorker", "(I)V"⟩
abbrev cX0_addPlace : ByteArray := prog_2_method_5_code
def yX0_addPlace : MethodName := ⟨RX0, "addPlace", "(I)V"⟩
abbrev cX0_removePlace : ByteArray := prog_2_method_6_code
def yX0_removePlace : MethodName := ⟨RX0, "removePlace", "(I)V"⟩
abbrev cX0_canPlaceAlso : ByteArray := prog_2_method_7_code
def yX0_canPlaceAlso : MethodName := ⟨RX0, "canPlaceAlso", "(I)Z"⟩
abbrev cX0_canSpare : ByteArray := prog_2_method_8_code
def yX0_canSpare : MethodName := ⟨RX0, "canSpare", "(I)Z"⟩
abbrev cX0_mostPlaced : ByteArray := prog_2_method_9_code
def yX0_mostPlaced : MethodName := ⟨RX0, "mostPlaced", "()I"⟩
abbrev cX0_oneIfWithin : ByteArray := prog_2_method_10_code
def yX0_oneIfWithin : MethodName := ⟨RX0, "oneIfWithin", "(II)I"⟩
def RX1 : String := "HiringHall$Worker"
def TX1 : u_T := fun k => match k with
  | 0 => ("HiringHall$Worker", "number", "I", true)
  | 1 => ("HiringHall$Worker", "board", "I", false)
  | 2 => ("HiringHall$Worker", "skills", "I", false)
  | 3 => ("HiringHall$Worker", "away", "Z", false)
  | 4 => ("HiringHall$Worker", "refusing", "Z", false)
  | 5 => ("HiringHall$Worker", "hours", "I", false)
  | 6 => ("HiringHall$Worker", "refusals", "I", false)
  | 7 => ("HiringHall$Worker", "place", "I", false)
  | 8 => ("HiringHall$Worker", "cameInAt", "I", false)
  | _ => ("HiringHall$Worker", "wasAtWork", "Z", false)
def tyX1 : Nat → FieldType := fun k => match k with
  | 0 => .int
  | 1 => .int
  | 2 => .int
  | 3 => .boolean
  | 4 => .boolean
  | 5 => .int
  | 6 => .int
  | 7 => .int
  | 8 => .int
  | _ => .boolean
abbrev wsX10 : List Cond := u_ws RX1 TX1 10
theorem nmX1 : ∀ a, a < 10 → ∀ b, b < 10 → a ≠ b → (TX1 a).2.1 ≠ (TX1 b).2.1 := by decide +kernel
theorem tyX1_ok : ∀ k, k < 10 → parseFieldDescriptor (TX1 k).2.2.1 = some (tyX1 k) := by decide +kernel
abbrev cX1_init : ByteArray := prog_3_method_1_code
def yX1_init : MethodName := ⟨RX1, "<init>", "(III)V"⟩
abbrev cX1_isAtWork : ByteArray := prog_3_method_2_code
def yX1_isAtWork : MethodName := ⟨RX1, "isAtWork", "()Z"⟩
abbrev cX1_isReady : ByteArray := prog_3_method_3_code
def yX1_isReady : MethodName := ⟨RX1, "isReady", "()Z"⟩
abbrev cX1_hasSkill : ByteArray := prog_3_method_4_code
def yX1_hasSkill : MethodName := ⟨RX1, "hasSkill", "(I)Z"⟩
abbrev cX1_stopWork : ByteArray := prog_3_method_5_code
def yX1_stopWork : MethodName := ⟨RX1, "stopWork", "(I)I"⟩
def RX2 : String := "HiringHall"
def TX2 : u_T := fun k => match k with
  | 0 => ("HiringHall", "turn", "Ljava/util/ArrayList;", true)
  | 1 => ("HiringHall", "turnBefore", "Ljava/util/ArrayList;", true)
  | 2 => ("HiringHall", "taken", "Ljava/util/ArrayList;", true)
  | 3 => ("HiringHall", "matching", "LHiringHall$Matching;", true)
  | 4 => ("HiringHall", "refusalCosts", "[Z", true)
  | 5 => ("HiringHall", "guaranteedHours", "[I", true)
  | 6 => ("HiringHall", "skillNeeded", "[I", true)
  | 7 => ("HiringHall", "nextNumber", "I", false)
  | 8 => ("HiringHall", "placeCount", "I", false)
  | 9 => ("HiringHall", "shiftHours", "I", false)
  | 10 => ("HiringHall", "shiftHour", "I", false)
  | 11 => ("HiringHall", "hoursOfLeavers", "I", false)
  | _ => ("HiringHall", "workHasBegun", "Z", false)
def tyX2 : Nat → FieldType := fun k => match k with
  | 0 => .object "java/util/ArrayList"
  | 1 => .object "java/util/ArrayList"
  | 2 => .object "java/util/ArrayList"
  | 3 => .object "HiringHall$Matching"
  | 4 => .array .boolean
  | 5 => .array .int
  | 6 => .array .int
  | 7 => .int
  | 8 => .int
  | 9 => .int
  | 10 => .int
  | 11 => .int
  | _ => .boolean
abbrev wsX20 : List Cond := u_ws RX2 TX2 13
theorem nmX2 : ∀ a, a < 13 → ∀ b, b < 13 → a ≠ b → (TX2 a).2.1 ≠ (TX2 b).2.1 := by decide +kernel
theorem tyX2_ok : ∀ k, k < 13 → parseFieldDescriptor (TX2 k).2.2.1 = some (tyX2 k) := by decide +kernel
abbrev cX2_init : ByteArray := prog_1_method_1_code
def yX2_init : MethodName := ⟨RX2, "<init>", "()V"⟩
abbrev cX2_signOn : ByteArray := prog_1_method_2_code
def yX2_signOn : MethodName := ⟨RX2, "signOn", "(II)I"⟩
abbrev cX2_signOff : ByteArray := prog_1_method_3_code
def yX2_signOff : MethodName := ⟨RX2, "signOff", "(I)I"⟩
abbrev cX2_setSkills : ByteArray := prog_1_method_4_code
def yX2_setSkills : MethodName := ⟨RX2, "setSkills", "(II)I"⟩
abbrev cX2_move : ByteArray := prog_1_method_5_code
def yX2_move : MethodName := ⟨RX2, "move", "(II)I"⟩
abbrev cX2_setAway : ByteArray := prog_1_method_6_code
def yX2_setAway : MethodName := ⟨RX2, "setAway", "(IZ)Z"⟩
abbrev cX2_setRefusing : ByteArray := prog_1_method_7_code
def yX2_setRefusing : MethodName := ⟨RX2, "setRefusing", "(IZ)Z"⟩
abbrev cX2_setRule : ByteArray := prog_1_method_8_code
def yX2_setRule : MethodName := ⟨RX2, "setRule", "(IZI)I"⟩
abbrev cX2_equalise : ByteArray := prog_1_method_9_code
def yX2_equalise : MethodName := ⟨RX2, "equalise", "(I)I"⟩
abbrev cX2_order : ByteArray := prog_1_method_10_code
def yX2_order : MethodName := ⟨RX2, "order", "(I)I"⟩
abbrev cX2_dispatch : ByteArray := prog_1_method_11_code
def yX2_dispatch : MethodName := ⟨RX2, "dispatch", "()I"⟩
abbrev cX2_setHours : ByteArray := prog_1_method_12_code
def yX2_setHours : MethodName := ⟨RX2, "setHours", "(I)I"⟩
abbrev cX2_leave : ByteArray := prog_1_method_13_code
def yX2_leave : MethodName := ⟨RX2, "leave", "(II)I"⟩
abbrev cX2_replace : ByteArray := prog_1_method_14_code
def yX2_replace : MethodName := ⟨RX2, "replace", "(I)I"⟩
abbrev cX2_endShift : ByteArray := prog_1_method_15_code
def yX2_endShift : MethodName := ⟨RX2, "endShift", "()I"⟩
abbrev cX2_endPeriod : ByteArray := prog_1_method_16_code
def yX2_endPeriod : MethodName := ⟨RX2, "endPeriod", "()I"⟩
abbrev cX2_workers : ByteArray := prog_1_method_17_code
def yX2_workers : MethodName := ⟨RX2, "workers", "()I"⟩
abbrev cX2_boardOf : ByteArray := prog_1_method_18_code
def yX2_boardOf : MethodName := ⟨RX2, "boardOf", "(I)I"⟩
abbrev cX2_rankOf : ByteArray := prog_1_method_19_code
def yX2_rankOf : MethodName := ⟨RX2, "rankOf", "(I)I"⟩
abbrev cX2_hoursOf : ByteArray := prog_1_method_20_code
def yX2_hoursOf : MethodName := ⟨RX2, "hoursOf", "(I)I"⟩
abbrev cX2_refusalsOf : ByteArray := prog_1_method_21_code
def yX2_refusalsOf : MethodName := ⟨RX2, "refusalsOf", "(I)I"⟩
abbrev cX2_placeOf : ByteArray := prog_1_method_22_code
def yX2_placeOf : MethodName := ⟨RX2, "placeOf", "(I)I"⟩
abbrev cX2_owedTo : ByteArray := prog_1_method_23_code
def yX2_owedTo : MethodName := ⟨RX2, "owedTo", "(I)I"⟩
abbrev cX2_places : ByteArray := prog_1_method_24_code
def yX2_places : MethodName := ⟨RX2, "places", "()I"⟩
abbrev cX2_workerAt : ByteArray := prog_1_method_25_code
def yX2_workerAt : MethodName := ⟨RX2, "workerAt", "(I)I"⟩
abbrev cX2_nextUp : ByteArray := prog_1_method_26_code
def yX2_nextUp : MethodName := ⟨RX2, "nextUp", "(I)I"⟩
abbrev cX2_fillable : ByteArray := prog_1_method_27_code
def yX2_fillable : MethodName := ⟨RX2, "fillable", "()I"⟩
abbrev cX2_find : ByteArray := prog_1_method_28_code
def yX2_find : MethodName := ⟨RX2, "find", "(I)LHiringHall$Worker;"⟩
abbrev cX2_checkPlace : ByteArray := prog_1_method_29_code
def yX2_checkPlace : MethodName := ⟨RX2, "checkPlace", "(I)V"⟩
abbrev cX2_checkBoard : ByteArray := prog_1_method_30_code
def yX2_checkBoard : MethodName := ⟨RX2, "checkBoard", "(I)V"⟩
abbrev cX2_checkSkills : ByteArray := prog_1_method_31_code
def yX2_checkSkills : MethodName := ⟨RX2, "checkSkills", "(I)V"⟩
abbrev cX2_checkNotAtWork : ByteArray := prog_1_method_32_code
def yX2_checkNotAtWork : MethodName := ⟨RX2, "checkNotAtWork", "(LHiringHall$Worker;)V"⟩
abbrev cX2_checkWorkHasNotBegun : ByteArray := prog_1_method_33_code
def yX2_checkWorkHasNotBegun : MethodName := ⟨RX2, "checkWorkHasNotBegun", "()V"⟩
abbrev cX2_takeOffBoard : ByteArray := prog_1_method_34_code
def yX2_takeOffBoard : MethodName := ⟨RX2, "takeOffBoard", "(LHiringHall$Worker;)V"⟩
abbrev cX2_putAtBottom : ByteArray := prog_1_method_35_code
def yX2_putAtBottom : MethodName := ⟨RX2, "putAtBottom", "(LHiringHall$Worker;)V"⟩
abbrev cX2_sendToBottom : ByteArray := prog_1_method_36_code
def yX2_sendToBottom : MethodName := ⟨RX2, "sendToBottom", "(LHiringHall$Worker;)V"⟩
abbrev cX2_rememberTurn : ByteArray := prog_1_method_37_code
def yX2_rememberTurn : MethodName := ⟨RX2, "rememberTurn", "()V"⟩
abbrev cX2_riseByHours : ByteArray := prog_1_method_38_code
def yX2_riseByHours : MethodName := ⟨RX2, "riseByHours", "(I)V"⟩
abbrev cX2_countDisplaced : ByteArray := prog_1_method_39_code
def yX2_countDisplaced : MethodName := ⟨RX2, "countDisplaced", "()I"⟩
abbrev cX2_matchOpenPlaces : ByteArray := prog_1_method_40_code
def yX2_matchOpenPlaces : MethodName := ⟨RX2, "matchOpenPlaces", "()V"⟩
abbrev cX2_takeInTurn : ByteArray := prog_1_method_41_code
def yX2_takeInTurn : MethodName := ⟨RX2, "takeInTurn", "()V"⟩
abbrev cX2_placeTaken : ByteArray := prog_1_method_42_code
def yX2_placeTaken : MethodName := ⟨RX2, "placeTaken", "()V"⟩
abbrev cX2_lowestPlaceFor : ByteArray := prog_1_method_43_code
def yX2_lowestPlaceFor : MethodName := ⟨RX2, "lowestPlaceFor", "(LHiringHall$Worker;)I"⟩
abbrev cX2_startWork : ByteArray := prog_1_method_44_code
def yX2_startWork : MethodName := ⟨RX2, "startWork", "(LHiringHall$Worker;I)V"⟩
abbrev cX2_countRefusal : ByteArray := prog_1_method_45_code
def yX2_countRefusal : MethodName := ⟨RX2, "countRefusal", "(LHiringHall$Worker;)V"⟩
abbrev cX2_isOpen : ByteArray := prog_1_method_46_code
def yX2_isOpen : MethodName := ⟨RX2, "isOpen", "(I)Z"⟩
abbrev cX2_holderOf : ByteArray := prog_1_method_47_code
def yX2_holderOf : MethodName := ⟨RX2, "holderOf", "(I)I"⟩
abbrev cX2_hoursOwed : ByteArray := prog_1_method_48_code
def yX2_hoursOwed : MethodName := ⟨RX2, "hoursOwed", "(LHiringHall$Worker;)I"⟩
def RX3 : String := "HiringHallModel"
def TX3 : u_T := fun k => match k with
  | 0 => ("HiringHallModel", "numbers", "[I", true)
  | 1 => ("HiringHallModel", "boards", "[I", true)
  | 2 => ("HiringHallModel", "marks", "[I", true)
  | 3 => ("HiringHallModel", "skills", "[I", true)
  | 4 => ("HiringHallModel", "aways", "[Z", true)
  | 5 => ("HiringHallModel", "refusing", "[Z", true)
  | 6 => ("HiringHallModel", "been", "[Z", true)
  | 7 => ("HiringHallModel", "at", "[I", true)
  | 8 => ("HiringHallModel", "since", "[I", true)
  | 9 => ("HiringHallModel", "hours", "[I", true)
  | 10 => ("HiringHallModel", "refusals", "[I", true)
  | 11 => ("HiringHallModel", "given", "I", false)
  | 12 => ("HiringHallModel", "mark", "I", false)
  | 13 => ("HiringHallModel", "costs", "[Z", true)
  | 14 => ("HiringHallModel", "guaranteed", "[I", true)
  | 15 => ("HiringHallModel", "needs", "[I", true)
  | 16 => ("HiringHallModel", "fillers", "[I", true)
  | 17 => ("HiringHallModel", "places", "I", false)
  | 18 => ("HiringHallModel", "length", "I", false)
  | 19 => ("HiringHallModel", "hour", "I", false)
  | 20 => ("HiringHallModel", "worked", "I", false)
  | 21 => ("HiringHallModel", "begun", "Z", false)
  | 22 => ("HiringHallModel", "turn", "[I", true)
  | 23 => ("HiringHallModel", "taken", "[I", true)
  | 24 => ("HiringHallModel", "open", "[I", true)
  | _ => ("HiringHallModel", "last", "I", false)
def tyX3 : Nat → FieldType := fun k => match k with
  | 0 => .array .int
  | 1 => .array .int
  | 2 => .array .int
  | 3 => .array .int
  | 4 => .array .boolean
  | 5 => .array .boolean
  | 6 => .array .boolean
  | 7 => .array .int
  | 8 => .array .int
  | 9 => .array .int
  | 10 => .array .int
  | 11 => .int
  | 12 => .int
  | 13 => .array .boolean
  | 14 => .array .int
  | 15 => .array .int
  | 16 => .array .int
  | 17 => .int
  | 18 => .int
  | 19 => .int
  | 20 => .int
  | 21 => .boolean
  | 22 => .array .int
  | 23 => .array .int
  | 24 => .array .int
  | _ => .int
abbrev wsX30 : List Cond := u_ws RX3 TX3 26
theorem nmX3 : ∀ a, a < 26 → ∀ b, b < 26 → a ≠ b → (TX3 a).2.1 ≠ (TX3 b).2.1 := by decide +kernel
theorem tyX3_ok : ∀ k, k < 26 → parseFieldDescriptor (TX3 k).2.2.1 = some (tyX3 k) := by decide +kernel
abbrev cX3_init : ByteArray := prog_5_method_1_code
def yX3_init : MethodName := ⟨RX3, "<init>", "()V"⟩
abbrev cX3_thrown : ByteArray := prog_5_method_2_code
def yX3_thrown : MethodName := ⟨RX3, "thrown", "()I"⟩
abbrev cX3_in : ByteArray := prog_5_method_3_code
def yX3_in : MethodName := ⟨RX3, "in", "(III)Z"⟩
abbrev cX3_goes : ByteArray := prog_5_method_4_code
def yX3_goes : MethodName := ⟨RX3, "goes", "(ZZZ)Z"⟩
abbrev cX3_isBoard : ByteArray := prog_5_method_5_code
def yX3_isBoard : MethodName := ⟨RX3, "isBoard", "(I)Z"⟩
abbrev cX3_kept : ByteArray := prog_5_method_6_code
def yX3_kept : MethodName := ⟨RX3, "kept", "(I)I"⟩
abbrev cX3_count : ByteArray := prog_5_method_7_code
def yX3_count : MethodName := ⟨RX3, "count", "()I"⟩
abbrev cX3_lowers : ByteArray := prog_5_method_8_code
def yX3_lowers : MethodName := ⟨RX3, "lowers", "(I)V"⟩
abbrev cX3_isBefore : ByteArray := prog_5_method_9_code
def yX3_isBefore : MethodName := ⟨RX3, "isBefore", "(II)Z"⟩
abbrev cX3_isReady : ByteArray := prog_5_method_10_code
def yX3_isReady : MethodName := ⟨RX3, "isReady", "(I)Z"⟩
abbrev cX3_lineUp : ByteArray := prog_5_method_11_code
def yX3_lineUp : MethodName := ⟨RX3, "lineUp", "()I"⟩
abbrev cX3_signOn : ByteArray := prog_5_method_12_code
def yX3_signOn : MethodName := ⟨RX3, "signOn", "(II)I"⟩
abbrev cX3_signOff : ByteArray := prog_5_method_13_code
def yX3_signOff : MethodName := ⟨RX3, "signOff", "(I)I"⟩
abbrev cX3_setSkills : ByteArray := prog_5_method_14_code
def yX3_setSkills : MethodName := ⟨RX3, "setSkills", "(II)I"⟩
abbrev cX3_move : ByteArray := prog_5_method_15_code
def yX3_move : MethodName := ⟨RX3, "move", "(II)I"⟩
abbrev cX3_setAway : ByteArray := prog_5_method_16_code
def yX3_setAway : MethodName := ⟨RX3, "setAway", "(IZ)Z"⟩
abbrev cX3_setRefusing : ByteArray := prog_5_method_17_code
def yX3_setRefusing : MethodName := ⟨RX3, "setRefusing", "(IZ)Z"⟩
abbrev cX3_setRule : ByteArray := prog_5_method_18_code
def yX3_setRule : MethodName := ⟨RX3, "setRule", "(IZI)I"⟩
abbrev cX3_rank : ByteArray := prog_5_method_19_code
def yX3_rank : MethodName := ⟨RX3, "rank", "(I)I"⟩
abbrev cX3_equalise : ByteArray := prog_5_method_20_code
def yX3_equalise : MethodName := ⟨RX3, "equalise", "(I)I"⟩
abbrev cX3_order : ByteArray := prog_5_method_21_code
def yX3_order : MethodName := ⟨RX3, "order", "(I)I"⟩
abbrev cX3_countOpen : ByteArray := prog_5_method_22_code
def yX3_countOpen : MethodName := ⟨RX3, "countOpen", "()V"⟩
abbrev cX3_canAll : ByteArray := prog_5_method_23_code
def yX3_canAll : MethodName := ⟨RX3, "canAll", "(II)Z"⟩
abbrev cX3_refuses : ByteArray := prog_5_method_24_code
def yX3_refuses : MethodName := ⟨RX3, "refuses", "(I)V"⟩
abbrev cX3_fills : ByteArray := prog_5_method_25_code
def yX3_fills : MethodName := ⟨RX3, "fills", "(II)V"⟩
abbrev cX3_gives : ByteArray := prog_5_method_26_code
def yX3_gives : MethodName := ⟨RX3, "gives", "(I)V"⟩
abbrev cX3_dispatch : ByteArray := prog_5_method_27_code
def yX3_dispatch : MethodName := ⟨RX3, "dispatch", "()I"⟩
abbrev cX3_setHours : ByteArray := prog_5_method_28_code
def yX3_setHours : MethodName := ⟨RX3, "setHours", "(I)I"⟩
abbrev cX3_works : ByteArray := prog_5_method_29_code
def yX3_works : MethodName := ⟨RX3, "works", "(II)V"⟩
abbrev cX3_leave : ByteArray := prog_5_method_30_code
def yX3_leave : MethodName := ⟨RX3, "leave", "(II)I"⟩
abbrev cX3_isPlace : ByteArray := prog_5_method_31_code
def yX3_isPlace : MethodName := ⟨RX3, "isPlace", "(I)Z"⟩
abbrev cX3_replace : ByteArray := prog_5_method_32_code
def yX3_replace : MethodName := ⟨RX3, "replace", "(I)I"⟩
abbrev cX3_endShift : ByteArray := prog_5_method_33_code
def yX3_endShift : MethodName := ⟨RX3, "endShift", "()I"⟩
abbrev cX3_owes : ByteArray := prog_5_method_34_code
def yX3_owes : MethodName := ⟨RX3, "owes", "(I)I"⟩
abbrev cX3_endPeriod : ByteArray := prog_5_method_35_code
def yX3_endPeriod : MethodName := ⟨RX3, "endPeriod", "()I"⟩
abbrev cX3_workers : ByteArray := prog_5_method_36_code
def yX3_workers : MethodName := ⟨RX3, "workers", "()I"⟩
abbrev cX3_boardOf : ByteArray := prog_5_method_37_code
def yX3_boardOf : MethodName := ⟨RX3, "boardOf", "(I)I"⟩
abbrev cX3_rankOf : ByteArray := prog_5_method_38_code
def yX3_rankOf : MethodName := ⟨RX3, "rankOf", "(I)I"⟩
abbrev cX3_hoursOf : ByteArray := prog_5_method_39_code
def yX3_hoursOf : MethodName := ⟨RX3, "hoursOf", "(I)I"⟩
abbrev cX3_refusalsOf : ByteArray := prog_5_method_40_code
def yX3_refusalsOf : MethodName := ⟨RX3, "refusalsOf", "(I)I"⟩
abbrev cX3_placeOf : ByteArray := prog_5_method_41_code
def yX3_placeOf : MethodName := ⟨RX3, "placeOf", "(I)I"⟩
abbrev cX3_owedTo : ByteArray := prog_5_method_42_code
def yX3_owedTo : MethodName := ⟨RX3, "owedTo", "(I)I"⟩
abbrev cX3_places : ByteArray := prog_5_method_43_code
def yX3_places : MethodName := ⟨RX3, "places", "()I"⟩
abbrev cX3_workerAt : ByteArray := prog_5_method_44_code
def yX3_workerAt : MethodName := ⟨RX3, "workerAt", "(I)I"⟩
abbrev cX3_nextUp : ByteArray := prog_5_method_45_code
def yX3_nextUp : MethodName := ⟨RX3, "nextUp", "(I)I"⟩
abbrev cX3_fillable : ByteArray := prog_5_method_46_code
def yX3_fillable : MethodName := ⟨RX3, "fillable", "()I"⟩
def RJx145de : String := "java/io/Serializable"
def TJx145de : u_T := fun k => match k with
  | _ => ("", "", "", false)
def tyJx145de : Nat → FieldType := fun k => match k with
  | _ => .int
abbrev wsJx145de0 : List Cond := u_ws RJx145de TJx145de 0
theorem nmJx145de : ∀ a, a < 0 → ∀ b, b < 0 → a ≠ b → (TJx145de a).2.1 ≠ (TJx145de b).2.1 := by decide +kernel
theorem tyJx145de_ok : ∀ k, k < 0 → parseFieldDescriptor (TJx145de k).2.2.1 = some (tyJx145de k) := by decide +kernel
def RJx8e188 : String := "java/lang/Cloneable"
def TJx8e188 : u_T := fun k => match k with
  | _ => ("", "", "", false)
def tyJx8e188 : Nat → FieldType := fun k => match k with
  | _ => .int
abbrev wsJx8e1880 : List Cond := u_ws RJx8e188 TJx8e188 0
theorem nmJx8e188 : ∀ a, a < 0 → ∀ b, b < 0 → a ≠ b → (TJx8e188 a).2.1 ≠ (TJx8e188 b).2.1 := by decide +kernel
theorem tyJx8e188_ok : ∀ k, k < 0 → parseFieldDescriptor (TJx8e188 k).2.2.1 = some (tyJx8e188 k) := by decide +kernel
def RJxab1ab : String := "java/lang/Iterable"
def TJxab1ab : u_T := fun k => match k with
  | _ => ("", "", "", false)
def tyJxab1ab : Nat → FieldType := fun k => match k with
  | _ => .int
abbrev wsJxab1ab0 : List Cond := u_ws RJxab1ab TJxab1ab 0
theorem nmJxab1ab : ∀ a, a < 0 → ∀ b, b < 0 → a ≠ b → (TJxab1ab a).2.1 ≠ (TJxab1ab b).2.1 := by decide +kernel
theorem tyJxab1ab_ok : ∀ k, k < 0 → parseFieldDescriptor (TJxab1ab k).2.2.1 = some (tyJxab1ab k) := by decide +kernel
def RJ9 : String := "java/lang/Math"
def TJ9 : u_T := fun k => match k with
  | _ => ("", "", "", false)
def tyJ9 : Nat → FieldType := fun k => match k with
  | _ => .int
abbrev wsJ90 : List Cond := u_ws RJ9 TJ9 0
theorem nmJ9 : ∀ a, a < 0 → ∀ b, b < 0 → a ≠ b → (TJ9 a).2.1 ≠ (TJ9 b).2.1 := by decide +kernel
theorem tyJ9_ok : ∀ k, k < 0 → parseFieldDescriptor (TJ9 k).2.2.1 = some (tyJ9 k) := by decide +kernel
abbrev cJ9_max_7cf53 : ByteArray := prog_12_method_65_code
def yJ9_max_7cf53 : MethodName := ⟨RJ9, "max", "(II)I"⟩
abbrev cJ9_min_7cf53 : ByteArray := prog_12_method_69_code
def yJ9_min_7cf53 : MethodName := ⟨RJ9, "min", "(II)I"⟩
def RJ0 : String := "java/lang/String"
def TJ0 : u_T := fun k => match k with
  | _ => ("", "", "", false)
def tyJ0 : Nat → FieldType := fun k => match k with
  | _ => .int
abbrev wsJ00 : List Cond := u_ws RJ0 TJ0 0
theorem nmJ0 : ∀ a, a < 0 → ∀ b, b < 0 → a ≠ b → (TJ0 a).2.1 ≠ (TJ0 b).2.1 := by decide +kernel
theorem tyJ0_ok : ∀ k, k < 0 → parseFieldDescriptor (TJ0 k).2.2.1 = some (tyJ0 k) := by decide +kernel
def RJ10 : String := "java/lang/System"
def TJ10 : u_T := fun k => match k with
  | _ => ("", "", "", false)
def tyJ10 : Nat → FieldType := fun k => match k with
  | _ => .int
abbrev wsJ100 : List Cond := u_ws RJ10 TJ10 0
theorem nmJ10 : ∀ a, a < 0 → ∀ b, b < 0 → a ≠ b → (TJ10 a).2.1 ≠ (TJ10 b).2.1 := by decide +kernel
theorem tyJ10_ok : ∀ k, k < 0 → parseFieldDescriptor (TJ10 k).2.2.1 = some (tyJ10 k) := by decide +kernel
def RJxa1e45 : String := "java/util/AbstractCollection"
def TJxa1e45 : u_T := fun k => match k with
  | _ => ("", "", "", false)
def tyJxa1e45 : Nat → FieldType := fun k => match k with
  | _ => .int
abbrev wsJxa1e450 : List Cond := u_ws RJxa1e45 TJxa1e45 0
theorem nmJxa1e45 : ∀ a, a < 0 → ∀ b, b < 0 → a ≠ b → (TJxa1e45 a).2.1 ≠ (TJxa1e45 b).2.1 := by decide +kernel
theorem tyJxa1e45_ok : ∀ k, k < 0 → parseFieldDescriptor (TJxa1e45 k).2.2.1 = some (tyJxa1e45 k) := by decide +kernel
abbrev cJxa1e45_init_da8c8 : ByteArray := prog_17_method_1_code
def yJxa1e45_init_da8c8 : MethodName := ⟨RJxa1e45, "<init>", "()V"⟩
def RJxc12de : String := "java/util/AbstractList"
def TJxc12de : u_T := fun k => match k with
  | _ => ("", "", "", false)
def tyJxc12de : Nat → FieldType := fun k => match k with
  | _ => .int
abbrev wsJxc12de0 : List Cond := u_ws RJxc12de TJxc12de 0
theorem nmJxc12de : ∀ a, a < 0 → ∀ b, b < 0 → a ≠ b → (TJxc12de a).2.1 ≠ (TJxc12de b).2.1 := by decide +kernel
theorem tyJxc12de_ok : ∀ k, k < 0 → parseFieldDescriptor (TJxc12de k).2.2.1 = some (tyJxc12de k) := by decide +kernel
abbrev cJxc12de_init_da8c8 : ByteArray := prog_18_method_1_code
def yJxc12de_init_da8c8 : MethodName := ⟨RJxc12de, "<init>", "()V"⟩
def RJx4a65c : String := "java/util/ArrayList"
def TJx4a65c : u_T := fun k => match k with
  | 0 => ("java/util/AbstractList", "modCount", "I", false)
  | 1 => ("java/util/ArrayList", "elementData", "[Ljava/lang/Object;", false)
  | _ => ("java/util/ArrayList", "size", "I", false)
def tyJx4a65c : Nat → FieldType := fun k => match k with
  | 0 => .int
  | 1 => .array (.object "java/lang/Object")
  | _ => .int
abbrev wsJx4a65c0 : List Cond := u_ws RJx4a65c TJx4a65c 3
theorem nmJx4a65c : ∀ a, a < 3 → ∀ b, b < 3 → a ≠ b → (TJx4a65c a).2.1 ≠ (TJx4a65c b).2.1 := by decide +kernel
theorem tyJx4a65c_ok : ∀ k, k < 3 → parseFieldDescriptor (TJx4a65c k).2.2.1 = some (tyJx4a65c k) := by decide +kernel
abbrev cJx4a65c_init_da8c8 : ByteArray := prog_19_method_2_code
def yJx4a65c_init_da8c8 : MethodName := ⟨RJx4a65c, "<init>", "()V"⟩
abbrev cJx4a65c_grow_92f84 : ByteArray := prog_19_method_6_code
def yJx4a65c_grow_92f84 : MethodName := ⟨RJx4a65c, "grow", "(I)[Ljava/lang/Object;"⟩
abbrev cJx4a65c_grow_d5877 : ByteArray := prog_19_method_7_code
def yJx4a65c_grow_d5877 : MethodName := ⟨RJx4a65c, "grow", "()[Ljava/lang/Object;"⟩
abbrev cJx4a65c_size_8abf5 : ByteArray := prog_19_method_8_code
def yJx4a65c_size_8abf5 : MethodName := ⟨RJx4a65c, "size", "()I"⟩
abbrev cJx4a65c_elementData_915e3 : ByteArray := prog_19_method_18_code
def yJx4a65c_elementData_915e3 : MethodName := ⟨RJx4a65c, "elementData", "(I)Ljava/lang/Object;"⟩
abbrev cJx4a65c_get_915e3 : ByteArray := prog_19_method_20_code
def yJx4a65c_get_915e3 : MethodName := ⟨RJx4a65c, "get", "(I)Ljava/lang/Object;"⟩
abbrev cJx4a65c_set_bcc79 : ByteArray := prog_19_method_23_code
def yJx4a65c_set_bcc79 : MethodName := ⟨RJx4a65c, "set", "(ILjava/lang/Object;)Ljava/lang/Object;"⟩
abbrev cJx4a65c_add_72be8 : ByteArray := prog_19_method_24_code
def yJx4a65c_add_72be8 : MethodName := ⟨RJx4a65c, "add", "(Ljava/lang/Object;[Ljava/lang/Object;I)V"⟩
abbrev cJx4a65c_add_9ea2d : ByteArray := prog_19_method_25_code
def yJx4a65c_add_9ea2d : MethodName := ⟨RJx4a65c, "add", "(Ljava/lang/Object;)Z"⟩
abbrev cJx4a65c_add_7a177 : ByteArray := prog_19_method_26_code
def yJx4a65c_add_7a177 : MethodName := ⟨RJx4a65c, "add", "(ILjava/lang/Object;)V"⟩
abbrev cJx4a65c_remove_915e3 : ByteArray := prog_19_method_29_code
def yJx4a65c_remove_915e3 : MethodName := ⟨RJx4a65c, "remove", "(I)Ljava/lang/Object;"⟩
abbrev cJx4a65c_fastRemove_b59b0 : ByteArray := prog_19_method_39_code
def yJx4a65c_fastRemove_b59b0 : MethodName := ⟨RJx4a65c, "fastRemove", "([Ljava/lang/Object;I)V"⟩
abbrev cJx4a65c_clear_da8c8 : ByteArray := prog_19_method_40_code
def yJx4a65c_clear_da8c8 : MethodName := ⟨RJx4a65c, "clear", "()V"⟩
abbrev cJx4a65c_rangeCheckForAdd_d00df : ByteArray := prog_19_method_45_code
def yJx4a65c_rangeCheckForAdd_d00df : MethodName := ⟨RJx4a65c, "rangeCheckForAdd", "(I)V"⟩
def RJ7 : String := "java/util/Arrays"
def TJ7 : u_T := fun k => match k with
  | _ => ("", "", "", false)
def tyJ7 : Nat → FieldType := fun k => match k with
  | _ => .int
abbrev wsJ70 : List Cond := u_ws RJ7 TJ7 0
theorem nmJ7 : ∀ a, a < 0 → ∀ b, b < 0 → a ≠ b → (TJ7 a).2.1 ≠ (TJ7 b).2.1 := by decide +kernel
theorem tyJ7_ok : ∀ k, k < 0 → parseFieldDescriptor (TJ7 k).2.2.1 = some (tyJ7 k) := by decide +kernel
abbrev cJ7_copyOf_1904c : ByteArray := prog_20_method_119_code
def yJ7_copyOf_1904c : MethodName := ⟨RJ7, "copyOf", "([Ljava/lang/Object;I)[Ljava/lang/Object;"⟩
abbrev cJ7_copyOf_6403c : ByteArray := prog_20_method_120_code
def yJ7_copyOf_6403c : MethodName := ⟨RJ7, "copyOf", "([Ljava/lang/Object;ILjava/lang/Class;)[Ljava/lang/Object;"⟩
def RJx5ef63 : String := "java/util/Collection"
def TJx5ef63 : u_T := fun k => match k with
  | _ => ("", "", "", false)
def tyJx5ef63 : Nat → FieldType := fun k => match k with
  | _ => .int
abbrev wsJx5ef630 : List Cond := u_ws RJx5ef63 TJx5ef63 0
theorem nmJx5ef63 : ∀ a, a < 0 → ∀ b, b < 0 → a ≠ b → (TJx5ef63 a).2.1 ≠ (TJx5ef63 b).2.1 := by decide +kernel
theorem tyJx5ef63_ok : ∀ k, k < 0 → parseFieldDescriptor (TJx5ef63 k).2.2.1 = some (tyJx5ef63 k) := by decide +kernel
def RJxbd725 : String := "java/util/List"
def TJxbd725 : u_T := fun k => match k with
  | _ => ("", "", "", false)
def tyJxbd725 : Nat → FieldType := fun k => match k with
  | _ => .int
abbrev wsJxbd7250 : List Cond := u_ws RJxbd725 TJxbd725 0
theorem nmJxbd725 : ∀ a, a < 0 → ∀ b, b < 0 → a ≠ b → (TJxbd725 a).2.1 ≠ (TJxbd725 b).2.1 := by decide +kernel
theorem tyJxbd725_ok : ∀ k, k < 0 → parseFieldDescriptor (TJxbd725 k).2.2.1 = some (tyJxbd725 k) := by decide +kernel
def RJ15 : String := "java/util/Objects"
def TJ15 : u_T := fun k => match k with
  | _ => ("", "", "", false)
def tyJ15 : Nat → FieldType := fun k => match k with
  | _ => .int
abbrev wsJ150 : List Cond := u_ws RJ15 TJ15 0
theorem nmJ15 : ∀ a, a < 0 → ∀ b, b < 0 → a ≠ b → (TJ15 a).2.1 ≠ (TJ15 b).2.1 := by decide +kernel
theorem tyJ15_ok : ∀ k, k < 0 → parseFieldDescriptor (TJ15 k).2.2.1 = some (tyJ15 k) := by decide +kernel
abbrev cJ15_checkIndex_7cf53 : ByteArray := prog_24_method_17_code
def yJ15_checkIndex_7cf53 : MethodName := ⟨RJ15, "checkIndex", "(II)I"⟩
def RJxf0a74 : String := "java/util/RandomAccess"
def TJxf0a74 : u_T := fun k => match k with
  | _ => ("", "", "", false)
def tyJxf0a74 : Nat → FieldType := fun k => match k with
  | _ => .int
abbrev wsJxf0a740 : List Cond := u_ws RJxf0a74 TJxf0a74 0
theorem nmJxf0a74 : ∀ a, a < 0 → ∀ b, b < 0 → a ≠ b → (TJxf0a74 a).2.1 ≠ (TJxf0a74 b).2.1 := by decide +kernel
theorem tyJxf0a74_ok : ∀ k, k < 0 → parseFieldDescriptor (TJxf0a74 k).2.2.1 = some (tyJxf0a74 k) := by decide +kernel
def RJxa66e6 : String := "java/util/SequencedCollection"
def TJxa66e6 : u_T := fun k => match k with
  | _ => ("", "", "", false)
def tyJxa66e6 : Nat → FieldType := fun k => match k with
  | _ => .int
abbrev wsJxa66e60 : List Cond := u_ws RJxa66e6 TJxa66e6 0
theorem nmJxa66e6 : ∀ a, a < 0 → ∀ b, b < 0 → a ≠ b → (TJxa66e6 a).2.1 ≠ (TJxa66e6 b).2.1 := by decide +kernel
theorem tyJxa66e6_ok : ∀ k, k < 0 → parseFieldDescriptor (TJxa66e6 k).2.2.1 = some (tyJxa66e6 k) := by decide +kernel
def RJ8 : String := "jdk/internal/util/ArraysSupport"
def TJ8 : u_T := fun k => match k with
  | _ => ("", "", "", false)
def tyJ8 : Nat → FieldType := fun k => match k with
  | _ => .int
abbrev wsJ80 : List Cond := u_ws RJ8 TJ8 0
theorem nmJ8 : ∀ a, a < 0 → ∀ b, b < 0 → a ≠ b → (TJ8 a).2.1 ≠ (TJ8 b).2.1 := by decide +kernel
theorem tyJ8_ok : ∀ k, k < 0 → parseFieldDescriptor (TJ8 k).2.2.1 = some (tyJ8 k) := by decide +kernel
abbrev cJ8_newLength_cabcc : ByteArray := prog_27_method_27_code
def yJ8_newLength_cabcc : MethodName := ⟨RJ8, "newLength", "(III)I"⟩
abbrev cJ8_hugeLength_7cf53 : ByteArray := prog_27_method_28_code
def yJ8_hugeLength_7cf53 : MethodName := ⟨RJ8, "hugeLength", "(II)I"⟩
def RJ3 : String := "jdk/internal/util/Preconditions"
def TJ3 : u_T := fun k => match k with
  | _ => ("", "", "", false)
def tyJ3 : Nat → FieldType := fun k => match k with
  | _ => .int
abbrev wsJ30 : List Cond := u_ws RJ3 TJ3 0
theorem nmJ3 : ∀ a, a < 0 → ∀ b, b < 0 → a ≠ b → (TJ3 a).2.1 ≠ (TJ3 b).2.1 := by decide +kernel
theorem tyJ3_ok : ∀ k, k < 0 → parseFieldDescriptor (TJ3 k).2.2.1 = some (tyJ3 k) := by decide +kernel
abbrev cJ3_checkIndex_8e157 : ByteArray := prog_28_method_11_code
def yJ3_checkIndex_8e157 : MethodName := ⟨RJ3, "checkIndex", "(IILjava/util/function/BiFunction;)I"⟩
def RL : String := "HiringHallLaw"
abbrev cL_signOn : ByteArray := method_3_code
def yL_signOn : MethodName := ⟨RL, "signOn", "(LHiringHall;II[J)I"⟩
abbrev cL_signOff : ByteArray := method_4_code
def yL_signOff : MethodName := ⟨RL, "signOff", "(LHiringHall;I[J)I"⟩
abbrev cL_setSkills : ByteArray := method_5_code
def yL_setSkills : MethodName := ⟨RL, "setSkills", "(LHiringHall;II[J)I"⟩
abbrev cL_move : ByteArray := method_6_code
def yL_move : MethodName := ⟨RL, "move", "(LHiringHall;II[J)I"⟩
abbrev cL_setAway : ByteArray := method_7_code
def yL_setAway : MethodName := ⟨RL, "setAway", "(LHiringHall;IZ[J)I"⟩
abbrev cL_setRefusing : ByteArray := method_8_code
def yL_setRefusing : MethodName := ⟨RL, "setRefusing", "(LHiringHall;IZ[J)I"⟩
abbrev cL_setRule : ByteArray := method_9_code
def yL_setRule : MethodName := ⟨RL, "setRule", "(LHiringHall;IZI[J)I"⟩
abbrev cL_equalise : ByteArray := method_10_code
def yL_equalise : MethodName := ⟨RL, "equalise", "(LHiringHall;I[J)I"⟩
abbrev cL_order : ByteArray := method_11_code
def yL_order : MethodName := ⟨RL, "order", "(LHiringHall;I[J)I"⟩
abbrev cL_setHours : ByteArray := method_12_code
def yL_setHours : MethodName := ⟨RL, "setHours", "(LHiringHall;I[J)I"⟩
abbrev cL_leave : ByteArray := method_13_code
def yL_leave : MethodName := ⟨RL, "leave", "(LHiringHall;II[J)I"⟩
abbrev cL_replace : ByteArray := method_14_code
def yL_replace : MethodName := ⟨RL, "replace", "(LHiringHall;I[J)I"⟩
abbrev cL_endPeriod : ByteArray := method_15_code
def yL_endPeriod : MethodName := ⟨RL, "endPeriod", "(LHiringHall;[J)I"⟩
abbrev cL_boardOf : ByteArray := method_16_code
def yL_boardOf : MethodName := ⟨RL, "boardOf", "(LHiringHall;I[J)I"⟩
abbrev cL_rankOf : ByteArray := method_17_code
def yL_rankOf : MethodName := ⟨RL, "rankOf", "(LHiringHall;I[J)I"⟩
abbrev cL_hoursOf : ByteArray := method_18_code
def yL_hoursOf : MethodName := ⟨RL, "hoursOf", "(LHiringHall;I[J)I"⟩
abbrev cL_refusalsOf : ByteArray := method_19_code
def yL_refusalsOf : MethodName := ⟨RL, "refusalsOf", "(LHiringHall;I[J)I"⟩
abbrev cL_placeOf : ByteArray := method_20_code
def yL_placeOf : MethodName := ⟨RL, "placeOf", "(LHiringHall;I[J)I"⟩
abbrev cL_owedTo : ByteArray := method_21_code
def yL_owedTo : MethodName := ⟨RL, "owedTo", "(LHiringHall;I[J)I"⟩
abbrev cL_workerAt : ByteArray := method_22_code
def yL_workerAt : MethodName := ⟨RL, "workerAt", "(LHiringHall;I[J)I"⟩
abbrev cL_nextUp : ByteArray := method_23_code
def yL_nextUp : MethodName := ⟨RL, "nextUp", "(LHiringHall;I[J)I"⟩
abbrev cL_law : ByteArray := code
def yL_law : MethodName := ⟨RL, "law", "([I)Z"⟩
abbrev vwCl : List vw_C := [(RJx4a65c, TJx4a65c, 3), (RX0, TX0, 2), (RX1, TX1, 10), (RX2, TX2, 13), (RX3, TX3, 26)]
end
section
theorem dX0_init_0 : decode cX0_init 0 = .ok (.aload_n 0, 1) := by decide +kernel
theorem dX0_init_1 : decode cX0_init 1 = .ok (.invokespecial 3, 3) := by decide +kernel
theorem dX0_init_4 : decode cX0_init 4 = .ok (.aload_n 0, 1) := by decide +kernel
theorem dX0_init_5 : decode cX0_init 5 = .ok (.bipush 32, 2) := by decide +kernel
theorem dX0_init_7 : decode cX0_init 7 = .ok (.newarray .int, 2) := by decide +kernel
theorem dX0_init_9 : decode cX0_init 9 = .ok (.putfield 9, 3) := by decide +kernel
theorem dX0_init_12 : decode cX0_init 12 = .ok (.aload_n 0, 1) := by decide +kernel
theorem dX0_init_13 : decode cX0_init 13 = .ok (.bipush 32, 2) := by decide +kernel
theorem dX0_init_15 : decode cX0_init 15 = .ok (.newarray .int, 2) := by decide +kernel
theorem dX0_init_17 : decode cX0_init 17 = .ok (.putfield 15, 3) := by decide +kernel
theorem dX0_init_20 : decode cX0_init 20 = .ok (.return_, 1) := by decide +kernel
theorem dX0_clear_0 : decode cX0_clear 0 = .ok (.iconst 0, 1) := by decide +kernel
theorem dX0_clear_1 : decode cX0_clear 1 = .ok (.istore_n 1, 1) := by decide +kernel
theorem dX0_clear_2 : decode cX0_clear 2 = .ok (.iload_n 1, 1) := by decide +kernel
theorem dX0_clear_3 : decode cX0_clear 3 = .ok (.bipush 32, 2) := by decide +kernel
theorem dX0_clear_5 : decode cX0_clear 5 = .ok (.if_icmp .ge 23, 3) := by decide +kernel
theorem dX0_clear_8 : decode cX0_clear 8 = .ok (.aload_n 0, 1) := by decide +kernel
theorem dX0_clear_9 : decode cX0_clear 9 = .ok (.getfield 9, 3) := by decide +kernel
theorem dX0_clear_12 : decode cX0_clear 12 = .ok (.iload_n 1, 1) := by decide +kernel
theorem dX0_clear_13 : decode cX0_clear 13 = .ok (.iconst 0, 1) := by decide +kernel
theorem dX0_clear_14 : decode cX0_clear 14 = .ok (.iastore, 1) := by decide +kernel
theorem dX0_clear_15 : decode cX0_clear 15 = .ok (.aload_n 0, 1) := by decide +kernel
theorem dX0_clear_16 : decode cX0_clear 16 = .ok (.getfield 15, 3) := by decide +kernel
theorem dX0_clear_19 : decode cX0_clear 19 = .ok (.iload_n 1, 1) := by decide +kernel
theorem dX0_clear_20 : decode cX0_clear 20 = .ok (.iconst 0, 1) := by decide +kernel
theorem dX0_clear_21 : decode cX0_clear 21 = .ok (.iastore, 1) := by decide +kernel
theorem dX0_clear_22 : decode cX0_clear 22 = .ok (.iinc 1 1, 3) := by decide +kernel
theorem dX0_clear_25 : decode cX0_clear 25 = .ok (.goto (-23), 3) := by decide +kernel
theorem dX0_clear_28 : decode cX0_clear 28 = .ok (.return_, 1) := by decide +kernel
theorem dX0_addWorker_0 : decode cX0_addWorker 0 = .ok (.iconst 0, 1) := by decide +kernel
theorem dX0_addWorker_1 : decode cX0_addWorker 1 = .ok (.istore_n 2, 1) := by decide +kernel
theorem dX0_addWorker_2 : decode cX0_addWorker 2 = .ok (.iload_n 2, 1) := by decide +kernel
theorem dX0_addWorker_3 : decode cX0_addWorker 3 = .ok (.bipush 32, 2) := by decide +kernel
theorem dX0_addWorker_5 : decode cX0_addWorker 5 = .ok (.if_icmp .ge 23, 3) := by decide +kernel
theorem dX0_addWorker_8 : decode cX0_addWorker 8 = .ok (.aload_n 0, 1) := by decide +kernel
theorem dX0_addWorker_9 : decode cX0_addWorker 9 = .ok (.getfield 9, 3) := by decide +kernel
theorem dX0_addWorker_12 : decode cX0_addWorker 12 = .ok (.iload_n 2, 1) := by decide +kernel
theorem dX0_addWorker_13 : decode cX0_addWorker 13 = .ok (.dup2, 1) := by decide +kernel
theorem dX0_addWorker_14 : decode cX0_addWorker 14 = .ok (.iaload, 1) := by decide +kernel
theorem dX0_addWorker_15 : decode cX0_addWorker 15 = .ok (.iload_n 1, 1) := by decide +kernel
theorem dX0_addWorker_16 : decode cX0_addWorker 16 = .ok (.iload_n 2, 1) := by decide +kernel
theorem dX0_addWorker_17 : decode cX0_addWorker 17 = .ok (.invokestatic 18, 3) := by decide +kernel
theorem dX0_addWorker_20 : decode cX0_addWorker 20 = .ok (.iadd, 1) := by decide +kernel
theorem dX0_addWorker_21 : decode cX0_addWorker 21 = .ok (.iastore, 1) := by decide +kernel
theorem dX0_addWorker_22 : decode cX0_addWorker 22 = .ok (.iinc 2 1, 3) := by decide +kernel
theorem dX0_addWorker_25 : decode cX0_addWorker 25 = .ok (.goto (-23), 3) := by decide +kernel
theorem dX0_addWorker_28 : decode cX0_addWorker 28 = .ok (.return_, 1) := by decide +kernel
theorem dX0_removeWorker_0 : decode cX0_removeWorker 0 = .ok (.iconst 0, 1) := by decide +kernel
theorem dX0_removeWorker_1 : decode cX0_removeWorker 1 = .ok (.istore_n 2, 1) := by decide +kernel
theorem dX0_removeWorker_2 : decode cX0_removeWorker 2 = .ok (.iload_n 2, 1) := by decide +kernel
theorem dX0_removeWorker_3 : decode cX0_removeWorker 3 = .ok (.bipush 32, 2) := by decide +kernel
theorem dX0_removeWorker_5 : decode cX0_removeWorker 5 = .ok (.if_icmp .ge 23, 3) := by decide +kernel
theorem dX0_removeWorker_8 : decode cX0_removeWorker 8 = .ok (.aload_n 0, 1) := by decide +kernel
theorem dX0_removeWorker_9 : decode cX0_removeWorker 9 = .ok (.getfield 9, 3) := by decide +kernel
theorem dX0_removeWorker_12 : decode cX0_removeWorker 12 = .ok (.iload_n 2, 1) := by decide +kernel
theorem dX0_removeWorker_13 : decode cX0_removeWorker 13 = .ok (.dup2, 1) := by decide +kernel
theorem dX0_removeWorker_14 : decode cX0_removeWorker 14 = .ok (.iaload, 1) := by decide +kernel
theorem dX0_removeWorker_15 : decode cX0_removeWorker 15 = .ok (.iload_n 1, 1) := by decide +kernel
theorem dX0_removeWorker_16 : decode cX0_removeWorker 16 = .ok (.iload_n 2, 1) := by decide +kernel
theorem dX0_removeWorker_17 : decode cX0_removeWorker 17 = .ok (.invokestatic 18, 3) := by decide +kernel
theorem dX0_removeWorker_20 : decode cX0_removeWorker 20 = .ok (.isub, 1) := by decide +kernel
theorem dX0_removeWorker_21 : decode cX0_removeWorker 21 = .ok (.iastore, 1) := by decide +kernel
theorem dX0_removeWorker_22 : decode cX0_removeWorker 22 = .ok (.iinc 2 1, 3) := by decide +kernel
theorem dX0_removeWorker_25 : decode cX0_removeWorker 25 = .ok (.goto (-23), 3) := by decide +kernel
theorem dX0_removeWorker_28 : decode cX0_removeWorker 28 = .ok (.return_, 1) := by decide +kernel
theorem dX0_addPlace_0 : decode cX0_addPlace 0 = .ok (.iconst 0, 1) := by decide +kernel
theorem dX0_addPlace_1 : decode cX0_addPlace 1 = .ok (.istore_n 2, 1) := by decide +kernel
theorem dX0_addPlace_2 : decode cX0_addPlace 2 = .ok (.iload_n 2, 1) := by decide +kernel
theorem dX0_addPlace_3 : decode cX0_addPlace 3 = .ok (.bipush 32, 2) := by decide +kernel
theorem dX0_addPlace_5 : decode cX0_addPlace 5 = .ok (.if_icmp .ge 25, 3) := by decide +kernel
theorem dX0_addPlace_8 : decode cX0_addPlace 8 = .ok (.aload_n 0, 1) := by decide +kernel
theorem dX0_addPlace_9 : decode cX0_addPlace 9 = .ok (.getfield 15, 3) := by decide +kernel
theorem dX0_addPlace_12 : decode cX0_addPlace 12 = .ok (.iload_n 2, 1) := by decide +kernel
theorem dX0_addPlace_13 : decode cX0_addPlace 13 = .ok (.dup2, 1) := by decide +kernel
theorem dX0_addPlace_14 : decode cX0_addPlace 14 = .ok (.iaload, 1) := by decide +kernel
theorem dX0_addPlace_15 : decode cX0_addPlace 15 = .ok (.iconst 1, 1) := by decide +kernel
theorem dX0_addPlace_16 : decode cX0_addPlace 16 = .ok (.iload_n 1, 1) := by decide +kernel
theorem dX0_addPlace_17 : decode cX0_addPlace 17 = .ok (.ishl, 1) := by decide +kernel
theorem dX0_addPlace_18 : decode cX0_addPlace 18 = .ok (.iload_n 2, 1) := by decide +kernel
theorem dX0_addPlace_19 : decode cX0_addPlace 19 = .ok (.invokestatic 18, 3) := by decide +kernel
theorem dX0_addPlace_22 : decode cX0_addPlace 22 = .ok (.iadd, 1) := by decide +kernel
theorem dX0_addPlace_23 : decode cX0_addPlace 23 = .ok (.iastore, 1) := by decide +kernel
theorem dX0_addPlace_24 : decode cX0_addPlace 24 = .ok (.iinc 2 1, 3) := by decide +kernel
theorem dX0_addPlace_27 : decode cX0_addPlace 27 = .ok (.goto (-25), 3) := by decide +kernel
theorem dX0_addPlace_30 : decode cX0_addPlace 30 = .ok (.return_, 1) := by decide +kernel
theorem dX0_removePlace_0 : decode cX0_removePlace 0 = .ok (.iconst 0, 1) := by decide +kernel
theorem dX0_removePlace_1 : decode cX0_removePlace 1 = .ok (.istore_n 2, 1) := by decide +kernel
theorem dX0_removePlace_2 : decode cX0_removePlace 2 = .ok (.iload_n 2, 1) := by decide +kernel
theorem dX0_removePlace_3 : decode cX0_removePlace 3 = .ok (.bipush 32, 2) := by decide +kernel
theorem dX0_removePlace_5 : decode cX0_removePlace 5 = .ok (.if_icmp .ge 25, 3) := by decide +kernel
theorem dX0_removePlace_8 : decode cX0_removePlace 8 = .ok (.aload_n 0, 1) := by decide +kernel
theorem dX0_removePlace_9 : decode cX0_removePlace 9 = .ok (.getfield 15, 3) := by decide +kernel
theorem dX0_removePlace_12 : decode cX0_removePlace 12 = .ok (.iload_n 2, 1) := by decide +kernel
theorem dX0_removePlace_13 : decode cX0_removePlace 13 = .ok (.dup2, 1) := by decide +kernel
theorem dX0_removePlace_14 : decode cX0_removePlace 14 = .ok (.iaload, 1) := by decide +kernel
theorem dX0_removePlace_15 : decode cX0_removePlace 15 = .ok (.iconst 1, 1) := by decide +kernel
theorem dX0_removePlace_16 : decode cX0_removePlace 16 = .ok (.iload_n 1, 1) := by decide +kernel
theorem dX0_removePlace_17 : decode cX0_removePlace 17 = .ok (.ishl, 1) := by decide +kernel
theorem dX0_removePlace_18 : decode cX0_removePlace 18 = .ok (.iload_n 2, 1) := by decide +kernel
theorem dX0_removePlace_19 : decode cX0_removePlace 19 = .ok (.invokestatic 18, 3) := by decide +kernel
theorem dX0_removePlace_22 : decode cX0_removePlace 22 = .ok (.isub, 1) := by decide +kernel
theorem dX0_removePlace_23 : decode cX0_removePlace 23 = .ok (.iastore, 1) := by decide +kernel
theorem dX0_removePlace_24 : decode cX0_removePlace 24 = .ok (.iinc 2 1, 3) := by decide +kernel
theorem dX0_removePlace_27 : decode cX0_removePlace 27 = .ok (.goto (-25), 3) := by decide +kernel
theorem dX0_removePlace_30 : decode cX0_removePlace 30 = .ok (.return_, 1) := by decide +kernel
theorem dX0_canPlaceAlso_0 : decode cX0_canPlaceAlso 0 = .ok (.iconst 0, 1) := by decide +kernel
theorem dX0_canPlaceAlso_1 : decode cX0_canPlaceAlso 1 = .ok (.istore_n 2, 1) := by decide +kernel
theorem dX0_canPlaceAlso_2 : decode cX0_canPlaceAlso 2 = .ok (.iload_n 2, 1) := by decide +kernel
theorem dX0_canPlaceAlso_3 : decode cX0_canPlaceAlso 3 = .ok (.bipush 32, 2) := by decide +kernel
theorem dX0_canPlaceAlso_5 : decode cX0_canPlaceAlso 5 = .ok (.if_icmp .ge 32, 3) := by decide +kernel
theorem dX0_canPlaceAlso_8 : decode cX0_canPlaceAlso 8 = .ok (.aload_n 0, 1) := by decide +kernel
theorem dX0_canPlaceAlso_9 : decode cX0_canPlaceAlso 9 = .ok (.getfield 9, 3) := by decide +kernel
theorem dX0_canPlaceAlso_12 : decode cX0_canPlaceAlso 12 = .ok (.iload_n 2, 1) := by decide +kernel
theorem dX0_canPlaceAlso_13 : decode cX0_canPlaceAlso 13 = .ok (.iaload, 1) := by decide +kernel
theorem dX0_canPlaceAlso_14 : decode cX0_canPlaceAlso 14 = .ok (.iload_n 1, 1) := by decide +kernel
theorem dX0_canPlaceAlso_15 : decode cX0_canPlaceAlso 15 = .ok (.iload_n 2, 1) := by decide +kernel
theorem dX0_canPlaceAlso_16 : decode cX0_canPlaceAlso 16 = .ok (.invokestatic 18, 3) := by decide +kernel
theorem dX0_canPlaceAlso_19 : decode cX0_canPlaceAlso 19 = .ok (.iadd, 1) := by decide +kernel
theorem dX0_canPlaceAlso_20 : decode cX0_canPlaceAlso 20 = .ok (.aload_n 0, 1) := by decide +kernel
theorem dX0_canPlaceAlso_21 : decode cX0_canPlaceAlso 21 = .ok (.getfield 15, 3) := by decide +kernel
theorem dX0_canPlaceAlso_24 : decode cX0_canPlaceAlso 24 = .ok (.iload_n 2, 1) := by decide +kernel
theorem dX0_canPlaceAlso_25 : decode cX0_canPlaceAlso 25 = .ok (.iaload, 1) := by decide +kernel
theorem dX0_canPlaceAlso_26 : decode cX0_canPlaceAlso 26 = .ok (.if_icmp .le 5, 3) := by decide +kernel
theorem dX0_canPlaceAlso_29 : decode cX0_canPlaceAlso 29 = .ok (.iconst 0, 1) := by decide +kernel
theorem dX0_canPlaceAlso_30 : decode cX0_canPlaceAlso 30 = .ok (.ireturn, 1) := by decide +kernel
theorem dX0_canPlaceAlso_31 : decode cX0_canPlaceAlso 31 = .ok (.iinc 2 1, 3) := by decide +kernel
theorem dX0_canPlaceAlso_34 : decode cX0_canPlaceAlso 34 = .ok (.goto (-32), 3) := by decide +kernel
theorem dX0_canPlaceAlso_37 : decode cX0_canPlaceAlso 37 = .ok (.iconst 1, 1) := by decide +kernel
theorem dX0_canPlaceAlso_38 : decode cX0_canPlaceAlso 38 = .ok (.ireturn, 1) := by decide +kernel
theorem dX0_canSpare_0 : decode cX0_canSpare 0 = .ok (.iconst 0, 1) := by decide +kernel
theorem dX0_canSpare_1 : decode cX0_canSpare 1 = .ok (.istore_n 2, 1) := by decide +kernel
theorem dX0_canSpare_2 : decode cX0_canSpare 2 = .ok (.iload_n 2, 1) := by decide +kernel
theorem dX0_canSpare_3 : decode cX0_canSpare 3 = .ok (.bipush 32, 2) := by decide +kernel
theorem dX0_canSpare_5 : decode cX0_canSpare 5 = .ok (.if_icmp .ge 34, 3) := by decide +kernel
theorem dX0_canSpare_8 : decode cX0_canSpare 8 = .ok (.aload_n 0, 1) := by decide +kernel
theorem dX0_canSpare_9 : decode cX0_canSpare 9 = .ok (.getfield 9, 3) := by decide +kernel
theorem dX0_canSpare_12 : decode cX0_canSpare 12 = .ok (.iload_n 2, 1) := by decide +kernel
theorem dX0_canSpare_13 : decode cX0_canSpare 13 = .ok (.iaload, 1) := by decide +kernel
theorem dX0_canSpare_14 : decode cX0_canSpare 14 = .ok (.aload_n 0, 1) := by decide +kernel
theorem dX0_canSpare_15 : decode cX0_canSpare 15 = .ok (.getfield 15, 3) := by decide +kernel
theorem dX0_canSpare_18 : decode cX0_canSpare 18 = .ok (.iload_n 2, 1) := by decide +kernel
theorem dX0_canSpare_19 : decode cX0_canSpare 19 = .ok (.iaload, 1) := by decide +kernel
theorem dX0_canSpare_20 : decode cX0_canSpare 20 = .ok (.iconst 1, 1) := by decide +kernel
theorem dX0_canSpare_21 : decode cX0_canSpare 21 = .ok (.iload_n 1, 1) := by decide +kernel
theorem dX0_canSpare_22 : decode cX0_canSpare 22 = .ok (.ishl, 1) := by decide +kernel
theorem dX0_canSpare_23 : decode cX0_canSpare 23 = .ok (.iload_n 2, 1) := by decide +kernel
theorem dX0_canSpare_24 : decode cX0_canSpare 24 = .ok (.invokestatic 18, 3) := by decide +kernel
theorem dX0_canSpare_27 : decode cX0_canSpare 27 = .ok (.isub, 1) := by decide +kernel
theorem dX0_canSpare_28 : decode cX0_canSpare 28 = .ok (.if_icmp .le 5, 3) := by decide +kernel
theorem dX0_canSpare_31 : decode cX0_canSpare 31 = .ok (.iconst 0, 1) := by decide +kernel
theorem dX0_canSpare_32 : decode cX0_canSpare 32 = .ok (.ireturn, 1) := by decide +kernel
theorem dX0_canSpare_33 : decode cX0_canSpare 33 = .ok (.iinc 2 1, 3) := by decide +kernel
theorem dX0_canSpare_36 : decode cX0_canSpare 36 = .ok (.goto (-34), 3) := by decide +kernel
theorem dX0_canSpare_39 : decode cX0_canSpare 39 = .ok (.iconst 1, 1) := by decide +kernel
theorem dX0_canSpare_40 : decode cX0_canSpare 40 = .ok (.ireturn, 1) := by decide +kernel
theorem dX0_mostPlaced_0 : decode cX0_mostPlaced 0 = .ok (.aload_n 0, 1) := by decide +kernel
theorem dX0_mostPlaced_1 : decode cX0_mostPlaced 1 = .ok (.getfield 9, 3) := by decide +kernel
theorem dX0_mostPlaced_4 : decode cX0_mostPlaced 4 = .ok (.bipush 31, 2) := by decide +kernel
theorem dX0_mostPlaced_6 : decode cX0_mostPlaced 6 = .ok (.iaload, 1) := by decide +kernel
theorem dX0_mostPlaced_7 : decode cX0_mostPlaced 7 = .ok (.istore_n 1, 1) := by decide +kernel
theorem dX0_mostPlaced_8 : decode cX0_mostPlaced 8 = .ok (.iconst 0, 1) := by decide +kernel
theorem dX0_mostPlaced_9 : decode cX0_mostPlaced 9 = .ok (.istore_n 2, 1) := by decide +kernel
theorem dX0_mostPlaced_10 : decode cX0_mostPlaced 10 = .ok (.iconst 0, 1) := by decide +kernel
theorem dX0_mostPlaced_11 : decode cX0_mostPlaced 11 = .ok (.istore_n 3, 1) := by decide +kernel
theorem dX0_mostPlaced_12 : decode cX0_mostPlaced 12 = .ok (.iload_n 3, 1) := by decide +kernel
theorem dX0_mostPlaced_13 : decode cX0_mostPlaced 13 = .ok (.bipush 32, 2) := by decide +kernel
theorem dX0_mostPlaced_15 : decode cX0_mostPlaced 15 = .ok (.if_icmp .ge 27, 3) := by decide +kernel
theorem dX0_mostPlaced_18 : decode cX0_mostPlaced 18 = .ok (.iload_n 2, 1) := by decide +kernel
theorem dX0_mostPlaced_19 : decode cX0_mostPlaced 19 = .ok (.aload_n 0, 1) := by decide +kernel
theorem dX0_mostPlaced_20 : decode cX0_mostPlaced 20 = .ok (.getfield 9, 3) := by decide +kernel
theorem dX0_mostPlaced_23 : decode cX0_mostPlaced 23 = .ok (.iload_n 3, 1) := by decide +kernel
theorem dX0_mostPlaced_24 : decode cX0_mostPlaced 24 = .ok (.iaload, 1) := by decide +kernel
theorem dX0_mostPlaced_25 : decode cX0_mostPlaced 25 = .ok (.aload_n 0, 1) := by decide +kernel
theorem dX0_mostPlaced_26 : decode cX0_mostPlaced 26 = .ok (.getfield 15, 3) := by decide +kernel
theorem dX0_mostPlaced_29 : decode cX0_mostPlaced 29 = .ok (.iload_n 3, 1) := by decide +kernel
theorem dX0_mostPlaced_30 : decode cX0_mostPlaced 30 = .ok (.iaload, 1) := by decide +kernel
theorem dX0_mostPlaced_31 : decode cX0_mostPlaced 31 = .ok (.isub, 1) := by decide +kernel
theorem dX0_mostPlaced_32 : decode cX0_mostPlaced 32 = .ok (.invokestatic 22, 3) := by decide +kernel
theorem dX0_mostPlaced_35 : decode cX0_mostPlaced 35 = .ok (.istore_n 2, 1) := by decide +kernel
theorem dX0_mostPlaced_36 : decode cX0_mostPlaced 36 = .ok (.iinc 3 1, 3) := by decide +kernel
theorem dX0_mostPlaced_39 : decode cX0_mostPlaced 39 = .ok (.goto (-27), 3) := by decide +kernel
theorem dX0_mostPlaced_42 : decode cX0_mostPlaced 42 = .ok (.iload_n 1, 1) := by decide +kernel
theorem dX0_mostPlaced_43 : decode cX0_mostPlaced 43 = .ok (.iload_n 2, 1) := by decide +kernel
theorem dX0_mostPlaced_44 : decode cX0_mostPlaced 44 = .ok (.isub, 1) := by decide +kernel
theorem dX0_mostPlaced_45 : decode cX0_mostPlaced 45 = .ok (.ireturn, 1) := by decide +kernel
theorem dX0_oneIfWithin_0 : decode cX0_oneIfWithin 0 = .ok (.iload_n 0, 1) := by decide +kernel
theorem dX0_oneIfWithin_1 : decode cX0_oneIfWithin 1 = .ok (.iload_n 1, 1) := by decide +kernel
theorem dX0_oneIfWithin_2 : decode cX0_oneIfWithin 2 = .ok (.iconst (-1), 1) := by decide +kernel
theorem dX0_oneIfWithin_3 : decode cX0_oneIfWithin 3 = .ok (.ixor, 1) := by decide +kernel
theorem dX0_oneIfWithin_4 : decode cX0_oneIfWithin 4 = .ok (.iand, 1) := by decide +kernel
theorem dX0_oneIfWithin_5 : decode cX0_oneIfWithin 5 = .ok (.ifCond .ne 7, 3) := by decide +kernel
theorem dX0_oneIfWithin_8 : decode cX0_oneIfWithin 8 = .ok (.iconst 1, 1) := by decide +kernel
theorem dX0_oneIfWithin_9 : decode cX0_oneIfWithin 9 = .ok (.goto 4, 3) := by decide +kernel
theorem dX0_oneIfWithin_12 : decode cX0_oneIfWithin 12 = .ok (.iconst 0, 1) := by decide +kernel
theorem dX0_oneIfWithin_13 : decode cX0_oneIfWithin 13 = .ok (.ireturn, 1) := by decide +kernel
theorem dX1_init_0 : decode cX1_init 0 = .ok (.aload_n 0, 1) := by decide +kernel
theorem dX1_init_1 : decode cX1_init 1 = .ok (.invokespecial 3, 3) := by decide +kernel
theorem dX1_init_4 : decode cX1_init 4 = .ok (.aload_n 0, 1) := by decide +kernel
theorem dX1_init_5 : decode cX1_init 5 = .ok (.iconst 0, 1) := by decide +kernel
theorem dX1_init_6 : decode cX1_init 6 = .ok (.putfield 9, 3) := by decide +kernel
theorem dX1_init_9 : decode cX1_init 9 = .ok (.aload_n 0, 1) := by decide +kernel
theorem dX1_init_10 : decode cX1_init 10 = .ok (.iconst 0, 1) := by decide +kernel
theorem dX1_init_11 : decode cX1_init 11 = .ok (.putfield 15, 3) := by decide +kernel
theorem dX1_init_14 : decode cX1_init 14 = .ok (.aload_n 0, 1) := by decide +kernel
theorem dX1_init_15 : decode cX1_init 15 = .ok (.iconst 0, 1) := by decide +kernel
theorem dX1_init_16 : decode cX1_init 16 = .ok (.putfield 18, 3) := by decide +kernel
theorem dX1_init_19 : decode cX1_init 19 = .ok (.aload_n 0, 1) := by decide +kernel
theorem dX1_init_20 : decode cX1_init 20 = .ok (.iconst 0, 1) := by decide +kernel
theorem dX1_init_21 : decode cX1_init 21 = .ok (.putfield 22, 3) := by decide +kernel
theorem dX1_init_24 : decode cX1_init 24 = .ok (.aload_n 0, 1) := by decide +kernel
theorem dX1_init_25 : decode cX1_init 25 = .ok (.iconst (-1), 1) := by decide +kernel
theorem dX1_init_26 : decode cX1_init 26 = .ok (.putfield 25, 3) := by decide +kernel
theorem dX1_init_29 : decode cX1_init 29 = .ok (.aload_n 0, 1) := by decide +kernel
theorem dX1_init_30 : decode cX1_init 30 = .ok (.iconst 0, 1) := by decide +kernel
theorem dX1_init_31 : decode cX1_init 31 = .ok (.putfield 28, 3) := by decide +kernel
theorem dX1_init_34 : decode cX1_init 34 = .ok (.aload_n 0, 1) := by decide +kernel
theorem dX1_init_35 : decode cX1_init 35 = .ok (.iconst 0, 1) := by decide +kernel
theorem dX1_init_36 : decode cX1_init 36 = .ok (.putfield 31, 3) := by decide +kernel
theorem dX1_init_39 : decode cX1_init 39 = .ok (.aload_n 0, 1) := by decide +kernel
theorem dX1_init_40 : decode cX1_init 40 = .ok (.iload_n 1, 1) := by decide +kernel
theorem dX1_init_41 : decode cX1_init 41 = .ok (.putfield 34, 3) := by decide +kernel
theorem dX1_init_44 : decode cX1_init 44 = .ok (.aload_n 0, 1) := by decide +kernel
theorem dX1_init_45 : decode cX1_init 45 = .ok (.iload_n 2, 1) := by decide +kernel
theorem dX1_init_46 : decode cX1_init 46 = .ok (.putfield 37, 3) := by decide +kernel
theorem dX1_init_49 : decode cX1_init 49 = .ok (.aload_n 0, 1) := by decide +kernel
theorem dX1_init_50 : decode cX1_init 50 = .ok (.iload_n 3, 1) := by decide +kernel
theorem dX1_init_51 : decode cX1_init 51 = .ok (.putfield 40, 3) := by decide +kernel
theorem dX1_init_54 : decode cX1_init 54 = .ok (.return_, 1) := by decide +kernel
theorem dX1_isAtWork_0 : decode cX1_isAtWork 0 = .ok (.aload_n 0, 1) := by decide +kernel
theorem dX1_isAtWork_1 : decode cX1_isAtWork 1 = .ok (.getfield 25, 3) := by decide +kernel
theorem dX1_isAtWork_4 : decode cX1_isAtWork 4 = .ok (.iconst (-1), 1) := by decide +kernel
theorem dX1_isAtWork_5 : decode cX1_isAtWork 5 = .ok (.if_icmp .eq 7, 3) := by decide +kernel
theorem dX1_isAtWork_8 : decode cX1_isAtWork 8 = .ok (.iconst 1, 1) := by decide +kernel
theorem dX1_isAtWork_9 : decode cX1_isAtWork 9 = .ok (.goto 4, 3) := by decide +kernel
theorem dX1_isAtWork_12 : decode cX1_isAtWork 12 = .ok (.iconst 0, 1) := by decide +kernel
theorem dX1_isAtWork_13 : decode cX1_isAtWork 13 = .ok (.ireturn, 1) := by decide +kernel
theorem dX1_isReady_0 : decode cX1_isReady 0 = .ok (.aload_n 0, 1) := by decide +kernel
theorem dX1_isReady_1 : decode cX1_isReady 1 = .ok (.getfield 9, 3) := by decide +kernel
theorem dX1_isReady_4 : decode cX1_isReady 4 = .ok (.ifCond .ne 14, 3) := by decide +kernel
theorem dX1_isReady_7 : decode cX1_isReady 7 = .ok (.aload_n 0, 1) := by decide +kernel
theorem dX1_isReady_8 : decode cX1_isReady 8 = .ok (.getfield 31, 3) := by decide +kernel
theorem dX1_isReady_11 : decode cX1_isReady 11 = .ok (.ifCond .ne 7, 3) := by decide +kernel
theorem dX1_isReady_14 : decode cX1_isReady 14 = .ok (.iconst 1, 1) := by decide +kernel
theorem dX1_isReady_15 : decode cX1_isReady 15 = .ok (.goto 4, 3) := by decide +kernel
theorem dX1_isReady_18 : decode cX1_isReady 18 = .ok (.iconst 0, 1) := by decide +kernel
theorem dX1_isReady_19 : decode cX1_isReady 19 = .ok (.ireturn, 1) := by decide +kernel
theorem dX1_hasSkill_0 : decode cX1_hasSkill 0 = .ok (.aload_n 0, 1) := by decide +kernel
theorem dX1_hasSkill_1 : decode cX1_hasSkill 1 = .ok (.getfield 40, 3) := by decide +kernel
theorem dX1_hasSkill_4 : decode cX1_hasSkill 4 = .ok (.iload_n 1, 1) := by decide +kernel
theorem dX1_hasSkill_5 : decode cX1_hasSkill 5 = .ok (.ishr, 1) := by decide +kernel
theorem dX1_hasSkill_6 : decode cX1_hasSkill 6 = .ok (.iconst 1, 1) := by decide +kernel
theorem dX1_hasSkill_7 : decode cX1_hasSkill 7 = .ok (.iand, 1) := by decide +kernel
theorem dX1_hasSkill_8 : decode cX1_hasSkill 8 = .ok (.iconst 1, 1) := by decide +kernel
theorem dX1_hasSkill_9 : decode cX1_hasSkill 9 = .ok (.if_icmp .ne 7, 3) := by decide +kernel
theorem dX1_hasSkill_12 : decode cX1_hasSkill 12 = .ok (.iconst 1, 1) := by decide +kernel
theorem dX1_hasSkill_13 : decode cX1_hasSkill 13 = .ok (.goto 4, 3) := by decide +kernel
theorem dX1_hasSkill_16 : decode cX1_hasSkill 16 = .ok (.iconst 0, 1) := by decide +kernel
theorem dX1_hasSkill_17 : decode cX1_hasSkill 17 = .ok (.ireturn, 1) := by decide +kernel
theorem dX1_stopWork_0 : decode cX1_stopWork 0 = .ok (.iload_n 1, 1) := by decide +kernel
theorem dX1_stopWork_1 : decode cX1_stopWork 1 = .ok (.aload_n 0, 1) := by decide +kernel
theorem dX1_stopWork_2 : decode cX1_stopWork 2 = .ok (.getfield 28, 3) := by decide +kernel
theorem dX1_stopWork_5 : decode cX1_stopWork 5 = .ok (.isub, 1) := by decide +kernel
theorem dX1_stopWork_6 : decode cX1_stopWork 6 = .ok (.istore_n 2, 1) := by decide +kernel
theorem dX1_stopWork_7 : decode cX1_stopWork 7 = .ok (.aload_n 0, 1) := by decide +kernel
theorem dX1_stopWork_8 : decode cX1_stopWork 8 = .ok (.dup, 1) := by decide +kernel
theorem dX1_stopWork_9 : decode cX1_stopWork 9 = .ok (.getfield 18, 3) := by decide +kernel
theorem dX1_stopWork_12 : decode cX1_stopWork 12 = .ok (.iload_n 2, 1) := by decide +kernel
theorem dX1_stopWork_13 : decode cX1_stopWork 13 = .ok (.iadd, 1) := by decide +kernel
theorem dX1_stopWork_14 : decode cX1_stopWork 14 = .ok (.putfield 18, 3) := by decide +kernel
theorem dX1_stopWork_17 : decode cX1_stopWork 17 = .ok (.aload_n 0, 1) := by decide +kernel
theorem dX1_stopWork_18 : decode cX1_stopWork 18 = .ok (.iconst (-1), 1) := by decide +kernel
theorem dX1_stopWork_19 : decode cX1_stopWork 19 = .ok (.putfield 25, 3) := by decide +kernel
theorem dX1_stopWork_22 : decode cX1_stopWork 22 = .ok (.iload_n 2, 1) := by decide +kernel
theorem dX1_stopWork_23 : decode cX1_stopWork 23 = .ok (.ireturn, 1) := by decide +kernel
theorem dX2_init_0 : decode cX2_init 0 = .ok (.aload_n 0, 1) := by decide +kernel
theorem dX2_init_1 : decode cX2_init 1 = .ok (.invokespecial 1, 3) := by decide +kernel
theorem dX2_init_4 : decode cX2_init 4 = .ok (.aload_n 0, 1) := by decide +kernel
theorem dX2_init_5 : decode cX2_init 5 = .ok (.new 7, 3) := by decide +kernel
theorem dX2_init_8 : decode cX2_init 8 = .ok (.dup, 1) := by decide +kernel
theorem dX2_init_9 : decode cX2_init 9 = .ok (.invokespecial 9, 3) := by decide +kernel
theorem dX2_init_12 : decode cX2_init 12 = .ok (.putfield 10, 3) := by decide +kernel
theorem dX2_init_15 : decode cX2_init 15 = .ok (.aload_n 0, 1) := by decide +kernel
theorem dX2_init_16 : decode cX2_init 16 = .ok (.new 7, 3) := by decide +kernel
theorem dX2_init_19 : decode cX2_init 19 = .ok (.dup, 1) := by decide +kernel
theorem dX2_init_20 : decode cX2_init 20 = .ok (.invokespecial 9, 3) := by decide +kernel
theorem dX2_init_23 : decode cX2_init 23 = .ok (.putfield 16, 3) := by decide +kernel
theorem dX2_init_26 : decode cX2_init 26 = .ok (.aload_n 0, 1) := by decide +kernel
theorem dX2_init_27 : decode cX2_init 27 = .ok (.new 7, 3) := by decide +kernel
theorem dX2_init_30 : decode cX2_init 30 = .ok (.dup, 1) := by decide +kernel
theorem dX2_init_31 : decode cX2_init 31 = .ok (.invokespecial 9, 3) := by decide +kernel
theorem dX2_init_34 : decode cX2_init 34 = .ok (.putfield 19, 3) := by decide +kernel
theorem dX2_init_37 : decode cX2_init 37 = .ok (.aload_n 0, 1) := by decide +kernel
theorem dX2_init_38 : decode cX2_init 38 = .ok (.new 22, 3) := by decide +kernel
theorem dX2_init_41 : decode cX2_init 41 = .ok (.dup, 1) := by decide +kernel
theorem dX2_init_42 : decode cX2_init 42 = .ok (.invokespecial 24, 3) := by decide +kernel
theorem dX2_init_45 : decode cX2_init 45 = .ok (.putfield 25, 3) := by decide +kernel
theorem dX2_init_48 : decode cX2_init 48 = .ok (.aload_n 0, 1) := by decide +kernel
theorem dX2_init_49 : decode cX2_init 49 = .ok (.iconst 4, 1) := by decide +kernel
theorem dX2_init_50 : decode cX2_init 50 = .ok (.newarray .boolean, 2) := by decide +kernel
theorem dX2_init_52 : decode cX2_init 52 = .ok (.putfield 29, 3) := by decide +kernel
theorem dX2_init_55 : decode cX2_init 55 = .ok (.aload_n 0, 1) := by decide +kernel
theorem dX2_init_56 : decode cX2_init 56 = .ok (.iconst 4, 1) := by decide +kernel
theorem dX2_init_57 : decode cX2_init 57 = .ok (.newarray .int, 2) := by decide +kernel
theorem dX2_init_59 : decode cX2_init 59 = .ok (.putfield 33, 3) := by decide +kernel
theorem dX2_init_62 : decode cX2_init 62 = .ok (.aload_n 0, 1) := by decide +kernel
theorem dX2_init_63 : decode cX2_init 63 = .ok (.bipush 16, 2) := by decide +kernel
theorem dX2_init_65 : decode cX2_init 65 = .ok (.newarray .int, 2) := by decide +kernel
theorem dX2_init_67 : decode cX2_init 67 = .ok (.putfield 37, 3) := by decide +kernel
theorem dX2_init_70 : decode cX2_init 70 = .ok (.aload_n 0, 1) := by decide +kernel
theorem dX2_init_71 : decode cX2_init 71 = .ok (.iconst 0, 1) := by decide +kernel
theorem dX2_init_72 : decode cX2_init 72 = .ok (.putfield 40, 3) := by decide +kernel
theorem dX2_init_75 : decode cX2_init 75 = .ok (.aload_n 0, 1) := by decide +kernel
theorem dX2_init_76 : decode cX2_init 76 = .ok (.iconst 0, 1) := by decide +kernel
theorem dX2_init_77 : decode cX2_init 77 = .ok (.putfield 44, 3) := by decide +kernel
theorem dX2_init_80 : decode cX2_init 80 = .ok (.aload_n 0, 1) := by decide +kernel
theorem dX2_init_81 : decode cX2_init 81 = .ok (.bipush 8, 2) := by decide +kernel
theorem dX2_init_83 : decode cX2_init 83 = .ok (.putfield 47, 3) := by decide +kernel
theorem dX2_init_86 : decode cX2_init 86 = .ok (.aload_n 0, 1) := by decide +kernel
theorem dX2_init_87 : decode cX2_init 87 = .ok (.iconst 0, 1) := by decide +kernel
theorem dX2_init_88 : decode cX2_init 88 = .ok (.putfield 50, 3) := by decide +kernel
theorem dX2_init_91 : decode cX2_init 91 = .ok (.aload_n 0, 1) := by decide +kernel
theorem dX2_init_92 : decode cX2_init 92 = .ok (.iconst 0, 1) := by decide +kernel
theorem dX2_init_93 : decode cX2_init 93 = .ok (.putfield 53, 3) := by decide +kernel
theorem dX2_init_96 : decode cX2_init 96 = .ok (.aload_n 0, 1) := by decide +kernel
theorem dX2_init_97 : decode cX2_init 97 = .ok (.iconst 0, 1) := by decide +kernel
theorem dX2_init_98 : decode cX2_init 98 = .ok (.putfield 56, 3) := by decide +kernel
theorem dX2_init_101 : decode cX2_init 101 = .ok (.return_, 1) := by decide +kernel
theorem dX2_signOn_0 : decode cX2_signOn 0 = .ok (.iload_n 1, 1) := by decide +kernel
theorem dX2_signOn_1 : decode cX2_signOn 1 = .ok (.invokestatic 60, 3) := by decide +kernel
theorem dX2_signOn_4 : decode cX2_signOn 4 = .ok (.iload_n 2, 1) := by decide +kernel
theorem dX2_signOn_5 : decode cX2_signOn 5 = .ok (.invokestatic 64, 3) := by decide +kernel
theorem dX2_signOn_8 : decode cX2_signOn 8 = .ok (.aload_n 0, 1) := by decide +kernel
theorem dX2_signOn_9 : decode cX2_signOn 9 = .ok (.getfield 10, 3) := by decide +kernel
theorem dX2_signOn_12 : decode cX2_signOn 12 = .ok (.invokevirtual 67, 3) := by decide +kernel
theorem dX2_signOn_15 : decode cX2_signOn 15 = .ok (.bipush 30, 2) := by decide +kernel
theorem dX2_signOn_17 : decode cX2_signOn 17 = .ok (.if_icmp .lt 13, 3) := by decide +kernel
theorem dX2_signOn_20 : decode cX2_signOn 20 = .ok (.new 71, 3) := by decide +kernel
theorem dX2_signOn_23 : decode cX2_signOn 23 = .ok (.dup, 1) := by decide +kernel
theorem dX2_signOn_24 : decode cX2_signOn 24 = .ok (.ldc 73, 2) := by decide +kernel
theorem dX2_signOn_26 : decode cX2_signOn 26 = .ok (.invokespecial 75, 3) := by decide +kernel
theorem dX2_signOn_29 : decode cX2_signOn 29 = .ok (.athrow, 1) := by decide +kernel
theorem dX2_signOn_30 : decode cX2_signOn 30 = .ok (.new 78, 3) := by decide +kernel
theorem dX2_signOn_33 : decode cX2_signOn 33 = .ok (.dup, 1) := by decide +kernel
theorem dX2_signOn_34 : decode cX2_signOn 34 = .ok (.aload_n 0, 1) := by decide +kernel
theorem dX2_signOn_35 : decode cX2_signOn 35 = .ok (.getfield 40, 3) := by decide +kernel
theorem dX2_signOn_38 : decode cX2_signOn 38 = .ok (.iload_n 1, 1) := by decide +kernel
theorem dX2_signOn_39 : decode cX2_signOn 39 = .ok (.iload_n 2, 1) := by decide +kernel
theorem dX2_signOn_40 : decode cX2_signOn 40 = .ok (.invokespecial 80, 3) := by decide +kernel
theorem dX2_signOn_43 : decode cX2_signOn 43 = .ok (.astore_n 3, 1) := by decide +kernel
theorem dX2_signOn_44 : decode cX2_signOn 44 = .ok (.aload_n 0, 1) := by decide +kernel
theorem dX2_signOn_45 : decode cX2_signOn 45 = .ok (.dup, 1) := by decide +kernel
theorem dX2_signOn_46 : decode cX2_signOn 46 = .ok (.getfield 40, 3) := by decide +kernel
theorem dX2_signOn_49 : decode cX2_signOn 49 = .ok (.iconst 1, 1) := by decide +kernel
theorem dX2_signOn_50 : decode cX2_signOn 50 = .ok (.iadd, 1) := by decide +kernel
theorem dX2_signOn_51 : decode cX2_signOn 51 = .ok (.putfield 40, 3) := by decide +kernel
theorem dX2_signOn_54 : decode cX2_signOn 54 = .ok (.aload_n 0, 1) := by decide +kernel
theorem dX2_signOn_55 : decode cX2_signOn 55 = .ok (.aload_n 3, 1) := by decide +kernel
theorem dX2_signOn_56 : decode cX2_signOn 56 = .ok (.invokevirtual 83, 3) := by decide +kernel
theorem dX2_signOn_59 : decode cX2_signOn 59 = .ok (.aload_n 3, 1) := by decide +kernel
theorem dX2_signOn_60 : decode cX2_signOn 60 = .ok (.getfield 87, 3) := by decide +kernel
theorem dX2_signOn_63 : decode cX2_signOn 63 = .ok (.ireturn, 1) := by decide +kernel
theorem dX2_signOff_0 : decode cX2_signOff 0 = .ok (.aload_n 0, 1) := by decide +kernel
theorem dX2_signOff_1 : decode cX2_signOff 1 = .ok (.iload_n 1, 1) := by decide +kernel
theorem dX2_signOff_2 : decode cX2_signOff 2 = .ok (.invokevirtual 90, 3) := by decide +kernel
theorem dX2_signOff_5 : decode cX2_signOff 5 = .ok (.astore_n 2, 1) := by decide +kernel
theorem dX2_signOff_6 : decode cX2_signOff 6 = .ok (.aload_n 2, 1) := by decide +kernel
theorem dX2_signOff_7 : decode cX2_signOff 7 = .ok (.invokestatic 94, 3) := by decide +kernel
theorem dX2_signOff_10 : decode cX2_signOff 10 = .ok (.aload_n 0, 1) := by decide +kernel
theorem dX2_signOff_11 : decode cX2_signOff 11 = .ok (.aload_n 2, 1) := by decide +kernel
theorem dX2_signOff_12 : decode cX2_signOff 12 = .ok (.invokevirtual 97, 3) := by decide +kernel
theorem dX2_signOff_15 : decode cX2_signOff 15 = .ok (.aload_n 2, 1) := by decide +kernel
theorem dX2_signOff_16 : decode cX2_signOff 16 = .ok (.getfield 100, 3) := by decide +kernel
theorem dX2_signOff_19 : decode cX2_signOff 19 = .ok (.ireturn, 1) := by decide +kernel
theorem dX2_setSkills_0 : decode cX2_setSkills 0 = .ok (.aload_n 0, 1) := by decide +kernel
theorem dX2_setSkills_1 : decode cX2_setSkills 1 = .ok (.iload_n 1, 1) := by decide +kernel
theorem dX2_setSkills_2 : decode cX2_setSkills 2 = .ok (.invokevirtual 90, 3) := by decide +kernel
theorem dX2_setSkills_5 : decode cX2_setSkills 5 = .ok (.astore_n 3, 1) := by decide +kernel
theorem dX2_setSkills_6 : decode cX2_setSkills 6 = .ok (.iload_n 2, 1) := by decide +kernel
theorem dX2_setSkills_7 : decode cX2_setSkills 7 = .ok (.invokestatic 64, 3) := by decide +kernel
theorem dX2_setSkills_10 : decode cX2_setSkills 10 = .ok (.aload_n 3, 1) := by decide +kernel
theorem dX2_setSkills_11 : decode cX2_setSkills 11 = .ok (.invokestatic 94, 3) := by decide +kernel
theorem dX2_setSkills_14 : decode cX2_setSkills 14 = .ok (.aload_n 3, 1) := by decide +kernel
theorem dX2_setSkills_15 : decode cX2_setSkills 15 = .ok (.getfield 103, 3) := by decide +kernel
theorem dX2_setSkills_18 : decode cX2_setSkills 18 = .ok (.istore 4, 2) := by decide +kernel
theorem dX2_setSkills_20 : decode cX2_setSkills 20 = .ok (.aload_n 3, 1) := by decide +kernel
theorem dX2_setSkills_21 : decode cX2_setSkills 21 = .ok (.iload_n 2, 1) := by decide +kernel
theorem dX2_setSkills_22 : decode cX2_setSkills 22 = .ok (.putfield 103, 3) := by decide +kernel
theorem dX2_setSkills_25 : decode cX2_setSkills 25 = .ok (.iload 4, 2) := by decide +kernel
theorem dX2_setSkills_27 : decode cX2_setSkills 27 = .ok (.ireturn, 1) := by decide +kernel
theorem dX2_move_0 : decode cX2_move 0 = .ok (.aload_n 0, 1) := by decide +kernel
theorem dX2_move_1 : decode cX2_move 1 = .ok (.iload_n 1, 1) := by decide +kernel
theorem dX2_move_2 : decode cX2_move 2 = .ok (.invokevirtual 90, 3) := by decide +kernel
theorem dX2_move_5 : decode cX2_move 5 = .ok (.astore_n 3, 1) := by decide +kernel
theorem dX2_move_6 : decode cX2_move 6 = .ok (.iload_n 2, 1) := by decide +kernel
theorem dX2_move_7 : decode cX2_move 7 = .ok (.invokestatic 60, 3) := by decide +kernel
theorem dX2_move_10 : decode cX2_move 10 = .ok (.aload_n 3, 1) := by decide +kernel
theorem dX2_move_11 : decode cX2_move 11 = .ok (.getfield 106, 3) := by decide +kernel
theorem dX2_move_14 : decode cX2_move 14 = .ok (.istore 4, 2) := by decide +kernel
theorem dX2_move_16 : decode cX2_move 16 = .ok (.aload_n 0, 1) := by decide +kernel
theorem dX2_move_17 : decode cX2_move 17 = .ok (.aload_n 3, 1) := by decide +kernel
theorem dX2_move_18 : decode cX2_move 18 = .ok (.invokevirtual 97, 3) := by decide +kernel
theorem dX2_move_21 : decode cX2_move 21 = .ok (.aload_n 3, 1) := by decide +kernel
theorem dX2_move_22 : decode cX2_move 22 = .ok (.iload_n 2, 1) := by decide +kernel
theorem dX2_move_23 : decode cX2_move 23 = .ok (.putfield 106, 3) := by decide +kernel
theorem dX2_move_26 : decode cX2_move 26 = .ok (.aload_n 0, 1) := by decide +kernel
theorem dX2_move_27 : decode cX2_move 27 = .ok (.aload_n 3, 1) := by decide +kernel
theorem dX2_move_28 : decode cX2_move 28 = .ok (.invokevirtual 83, 3) := by decide +kernel
theorem dX2_move_31 : decode cX2_move 31 = .ok (.iload 4, 2) := by decide +kernel
theorem dX2_move_33 : decode cX2_move 33 = .ok (.ireturn, 1) := by decide +kernel
theorem dX2_setAway_0 : decode cX2_setAway 0 = .ok (.aload_n 0, 1) := by decide +kernel
theorem dX2_setAway_1 : decode cX2_setAway 1 = .ok (.iload_n 1, 1) := by decide +kernel
theorem dX2_setAway_2 : decode cX2_setAway 2 = .ok (.invokevirtual 90, 3) := by decide +kernel
theorem dX2_setAway_5 : decode cX2_setAway 5 = .ok (.astore_n 3, 1) := by decide +kernel
theorem dX2_setAway_6 : decode cX2_setAway 6 = .ok (.aload_n 3, 1) := by decide +kernel
theorem dX2_setAway_7 : decode cX2_setAway 7 = .ok (.getfield 109, 3) := by decide +kernel
theorem dX2_setAway_10 : decode cX2_setAway 10 = .ok (.istore 4, 2) := by decide +kernel
theorem dX2_setAway_12 : decode cX2_setAway 12 = .ok (.aload_n 3, 1) := by decide +kernel
theorem dX2_setAway_13 : decode cX2_setAway 13 = .ok (.iload_n 2, 1) := by decide +kernel
theorem dX2_setAway_14 : decode cX2_setAway 14 = .ok (.putfield 109, 3) := by decide +kernel
theorem dX2_setAway_17 : decode cX2_setAway 17 = .ok (.iload 4, 2) := by decide +kernel
theorem dX2_setAway_19 : decode cX2_setAway 19 = .ok (.ireturn, 1) := by decide +kernel
theorem dX2_setRefusing_0 : decode cX2_setRefusing 0 = .ok (.aload_n 0, 1) := by decide +kernel
theorem dX2_setRefusing_1 : decode cX2_setRefusing 1 = .ok (.iload_n 1, 1) := by decide +kernel
theorem dX2_setRefusing_2 : decode cX2_setRefusing 2 = .ok (.invokevirtual 90, 3) := by decide +kernel
theorem dX2_setRefusing_5 : decode cX2_setRefusing 5 = .ok (.astore_n 3, 1) := by decide +kernel
theorem dX2_setRefusing_6 : decode cX2_setRefusing 6 = .ok (.aload_n 3, 1) := by decide +kernel
theorem dX2_setRefusing_7 : decode cX2_setRefusing 7 = .ok (.getfield 112, 3) := by decide +kernel
theorem dX2_setRefusing_10 : decode cX2_setRefusing 10 = .ok (.istore 4, 2) := by decide +kernel
theorem dX2_setRefusing_12 : decode cX2_setRefusing 12 = .ok (.aload_n 3, 1) := by decide +kernel
theorem dX2_setRefusing_13 : decode cX2_setRefusing 13 = .ok (.iload_n 2, 1) := by decide +kernel
theorem dX2_setRefusing_14 : decode cX2_setRefusing 14 = .ok (.putfield 112, 3) := by decide +kernel
theorem dX2_setRefusing_17 : decode cX2_setRefusing 17 = .ok (.iload 4, 2) := by decide +kernel
theorem dX2_setRefusing_19 : decode cX2_setRefusing 19 = .ok (.ireturn, 1) := by decide +kernel
theorem dX2_setRule_0 : decode cX2_setRule 0 = .ok (.iload_n 1, 1) := by decide +kernel
theorem dX2_setRule_1 : decode cX2_setRule 1 = .ok (.invokestatic 60, 3) := by decide +kernel
theorem dX2_setRule_4 : decode cX2_setRule 4 = .ok (.iload_n 3, 1) := by decide +kernel
theorem dX2_setRule_5 : decode cX2_setRule 5 = .ok (.ifCond .lt 10, 3) := by decide +kernel
theorem dX2_setRule_8 : decode cX2_setRule 8 = .ok (.iload_n 3, 1) := by decide +kernel
theorem dX2_setRule_9 : decode cX2_setRule 9 = .ok (.sipush 400, 3) := by decide +kernel
theorem dX2_setRule_12 : decode cX2_setRule 12 = .ok (.if_icmp .le 13, 3) := by decide +kernel
theorem dX2_setRule_15 : decode cX2_setRule 15 = .ok (.new 115, 3) := by decide +kernel
theorem dX2_setRule_18 : decode cX2_setRule 18 = .ok (.dup, 1) := by decide +kernel
theorem dX2_setRule_19 : decode cX2_setRule 19 = .ok (.ldc 117, 2) := by decide +kernel
theorem dX2_setRule_21 : decode cX2_setRule 21 = .ok (.invokespecial 119, 3) := by decide +kernel
theorem dX2_setRule_24 : decode cX2_setRule 24 = .ok (.athrow, 1) := by decide +kernel
theorem dX2_setRule_25 : decode cX2_setRule 25 = .ok (.aload_n 0, 1) := by decide +kernel
theorem dX2_setRule_26 : decode cX2_setRule 26 = .ok (.getfield 33, 3) := by decide +kernel
theorem dX2_setRule_29 : decode cX2_setRule 29 = .ok (.iload_n 1, 1) := by decide +kernel
theorem dX2_setRule_30 : decode cX2_setRule 30 = .ok (.iaload, 1) := by decide +kernel
theorem dX2_setRule_31 : decode cX2_setRule 31 = .ok (.istore 4, 2) := by decide +kernel
theorem dX2_setRule_33 : decode cX2_setRule 33 = .ok (.aload_n 0, 1) := by decide +kernel
theorem dX2_setRule_34 : decode cX2_setRule 34 = .ok (.getfield 29, 3) := by decide +kernel
theorem dX2_setRule_37 : decode cX2_setRule 37 = .ok (.iload_n 1, 1) := by decide +kernel
theorem dX2_setRule_38 : decode cX2_setRule 38 = .ok (.iload_n 2, 1) := by decide +kernel
theorem dX2_setRule_39 : decode cX2_setRule 39 = .ok (.bastore, 1) := by decide +kernel
theorem dX2_setRule_40 : decode cX2_setRule 40 = .ok (.aload_n 0, 1) := by decide +kernel
theorem dX2_setRule_41 : decode cX2_setRule 41 = .ok (.getfield 33, 3) := by decide +kernel
theorem dX2_setRule_44 : decode cX2_setRule 44 = .ok (.iload_n 1, 1) := by decide +kernel
theorem dX2_setRule_45 : decode cX2_setRule 45 = .ok (.iload_n 3, 1) := by decide +kernel
theorem dX2_setRule_46 : decode cX2_setRule 46 = .ok (.iastore, 1) := by decide +kernel
theorem dX2_setRule_47 : decode cX2_setRule 47 = .ok (.iload 4, 2) := by decide +kernel
theorem dX2_setRule_49 : decode cX2_setRule 49 = .ok (.ireturn, 1) := by decide +kernel
theorem dX2_equalise_0 : decode cX2_equalise 0 = .ok (.iload_n 1, 1) := by decide +kernel
theorem dX2_equalise_1 : decode cX2_equalise 1 = .ok (.invokestatic 60, 3) := by decide +kernel
theorem dX2_equalise_4 : decode cX2_equalise 4 = .ok (.aload_n 0, 1) := by decide +kernel
theorem dX2_equalise_5 : decode cX2_equalise 5 = .ok (.invokevirtual 120, 3) := by decide +kernel
theorem dX2_equalise_8 : decode cX2_equalise 8 = .ok (.iconst 0, 1) := by decide +kernel
theorem dX2_equalise_9 : decode cX2_equalise 9 = .ok (.istore_n 2, 1) := by decide +kernel
theorem dX2_equalise_10 : decode cX2_equalise 10 = .ok (.iload_n 2, 1) := by decide +kernel
theorem dX2_equalise_11 : decode cX2_equalise 11 = .ok (.aload_n 0, 1) := by decide +kernel
theorem dX2_equalise_12 : decode cX2_equalise 12 = .ok (.getfield 10, 3) := by decide +kernel
theorem dX2_equalise_15 : decode cX2_equalise 15 = .ok (.invokevirtual 67, 3) := by decide +kernel
theorem dX2_equalise_18 : decode cX2_equalise 18 = .ok (.if_icmp .ge 32, 3) := by decide +kernel
theorem dX2_equalise_21 : decode cX2_equalise 21 = .ok (.aload_n 0, 1) := by decide +kernel
theorem dX2_equalise_22 : decode cX2_equalise 22 = .ok (.getfield 10, 3) := by decide +kernel
theorem dX2_equalise_25 : decode cX2_equalise 25 = .ok (.iload_n 2, 1) := by decide +kernel
theorem dX2_equalise_26 : decode cX2_equalise 26 = .ok (.invokevirtual 123, 3) := by decide +kernel
theorem dX2_equalise_29 : decode cX2_equalise 29 = .ok (.checkcast 78, 3) := by decide +kernel
theorem dX2_equalise_32 : decode cX2_equalise 32 = .ok (.getfield 106, 3) := by decide +kernel
theorem dX2_equalise_35 : decode cX2_equalise 35 = .ok (.iload_n 1, 1) := by decide +kernel
theorem dX2_equalise_36 : decode cX2_equalise 36 = .ok (.if_icmp .ne 8, 3) := by decide +kernel
theorem dX2_equalise_39 : decode cX2_equalise 39 = .ok (.aload_n 0, 1) := by decide +kernel
theorem dX2_equalise_40 : decode cX2_equalise 40 = .ok (.iload_n 2, 1) := by decide +kernel
theorem dX2_equalise_41 : decode cX2_equalise 41 = .ok (.invokevirtual 127, 3) := by decide +kernel
theorem dX2_equalise_44 : decode cX2_equalise 44 = .ok (.iinc 2 1, 3) := by decide +kernel
theorem dX2_equalise_47 : decode cX2_equalise 47 = .ok (.goto (-37), 3) := by decide +kernel
theorem dX2_equalise_50 : decode cX2_equalise 50 = .ok (.aload_n 0, 1) := by decide +kernel
theorem dX2_equalise_51 : decode cX2_equalise 51 = .ok (.invokevirtual 130, 3) := by decide +kernel
theorem dX2_equalise_54 : decode cX2_equalise 54 = .ok (.ireturn, 1) := by decide +kernel
theorem dX2_order_0 : decode cX2_order 0 = .ok (.iload_n 1, 1) := by decide +kernel
theorem dX2_order_1 : decode cX2_order 1 = .ok (.ifCond .lt 8, 3) := by decide +kernel
theorem dX2_order_4 : decode cX2_order 4 = .ok (.iload_n 1, 1) := by decide +kernel
theorem dX2_order_5 : decode cX2_order 5 = .ok (.iconst 5, 1) := by decide +kernel
theorem dX2_order_6 : decode cX2_order 6 = .ok (.if_icmp .lt 13, 3) := by decide +kernel
theorem dX2_order_9 : decode cX2_order 9 = .ok (.new 115, 3) := by decide +kernel
theorem dX2_order_12 : decode cX2_order 12 = .ok (.dup, 1) := by decide +kernel
theorem dX2_order_13 : decode cX2_order 13 = .ok (.ldc 133, 2) := by decide +kernel
theorem dX2_order_15 : decode cX2_order 15 = .ok (.invokespecial 119, 3) := by decide +kernel
theorem dX2_order_18 : decode cX2_order 18 = .ok (.athrow, 1) := by decide +kernel
theorem dX2_order_19 : decode cX2_order 19 = .ok (.aload_n 0, 1) := by decide +kernel
theorem dX2_order_20 : decode cX2_order 20 = .ok (.getfield 44, 3) := by decide +kernel
theorem dX2_order_23 : decode cX2_order 23 = .ok (.bipush 16, 2) := by decide +kernel
theorem dX2_order_25 : decode cX2_order 25 = .ok (.if_icmp .lt 13, 3) := by decide +kernel
theorem dX2_order_28 : decode cX2_order 28 = .ok (.new 71, 3) := by decide +kernel
theorem dX2_order_31 : decode cX2_order 31 = .ok (.dup, 1) := by decide +kernel
theorem dX2_order_32 : decode cX2_order 32 = .ok (.ldc 135, 2) := by decide +kernel
theorem dX2_order_34 : decode cX2_order 34 = .ok (.invokespecial 75, 3) := by decide +kernel
theorem dX2_order_37 : decode cX2_order 37 = .ok (.athrow, 1) := by decide +kernel
theorem dX2_order_38 : decode cX2_order 38 = .ok (.aload_n 0, 1) := by decide +kernel
theorem dX2_order_39 : decode cX2_order 39 = .ok (.getfield 44, 3) := by decide +kernel
theorem dX2_order_42 : decode cX2_order 42 = .ok (.istore_n 2, 1) := by decide +kernel
theorem dX2_order_43 : decode cX2_order 43 = .ok (.aload_n 0, 1) := by decide +kernel
theorem dX2_order_44 : decode cX2_order 44 = .ok (.getfield 37, 3) := by decide +kernel
theorem dX2_order_47 : decode cX2_order 47 = .ok (.iload_n 2, 1) := by decide +kernel
theorem dX2_order_48 : decode cX2_order 48 = .ok (.iload_n 1, 1) := by decide +kernel
theorem dX2_order_49 : decode cX2_order 49 = .ok (.iastore, 1) := by decide +kernel
theorem dX2_order_50 : decode cX2_order 50 = .ok (.aload_n 0, 1) := by decide +kernel
theorem dX2_order_51 : decode cX2_order 51 = .ok (.dup, 1) := by decide +kernel
theorem dX2_order_52 : decode cX2_order 52 = .ok (.getfield 44, 3) := by decide +kernel
theorem dX2_order_55 : decode cX2_order 55 = .ok (.iconst 1, 1) := by decide +kernel
theorem dX2_order_56 : decode cX2_order 56 = .ok (.iadd, 1) := by decide +kernel
theorem dX2_order_57 : decode cX2_order 57 = .ok (.putfield 44, 3) := by decide +kernel
theorem dX2_order_60 : decode cX2_order 60 = .ok (.iload_n 2, 1) := by decide +kernel
theorem dX2_order_61 : decode cX2_order 61 = .ok (.ireturn, 1) := by decide +kernel
theorem dX2_dispatch_0 : decode cX2_dispatch 0 = .ok (.aload_n 0, 1) := by decide +kernel
theorem dX2_dispatch_1 : decode cX2_dispatch 1 = .ok (.getfield 25, 3) := by decide +kernel
theorem dX2_dispatch_4 : decode cX2_dispatch 4 = .ok (.invokevirtual 137, 3) := by decide +kernel
theorem dX2_dispatch_7 : decode cX2_dispatch 7 = .ok (.aload_n 0, 1) := by decide +kernel
theorem dX2_dispatch_8 : decode cX2_dispatch 8 = .ok (.invokevirtual 140, 3) := by decide +kernel
theorem dX2_dispatch_11 : decode cX2_dispatch 11 = .ok (.aload_n 0, 1) := by decide +kernel
theorem dX2_dispatch_12 : decode cX2_dispatch 12 = .ok (.invokevirtual 143, 3) := by decide +kernel
theorem dX2_dispatch_15 : decode cX2_dispatch 15 = .ok (.aload_n 0, 1) := by decide +kernel
theorem dX2_dispatch_16 : decode cX2_dispatch 16 = .ok (.invokevirtual 146, 3) := by decide +kernel
theorem dX2_dispatch_19 : decode cX2_dispatch 19 = .ok (.aload_n 0, 1) := by decide +kernel
theorem dX2_dispatch_20 : decode cX2_dispatch 20 = .ok (.getfield 19, 3) := by decide +kernel
theorem dX2_dispatch_23 : decode cX2_dispatch 23 = .ok (.invokevirtual 67, 3) := by decide +kernel
theorem dX2_dispatch_26 : decode cX2_dispatch 26 = .ok (.ireturn, 1) := by decide +kernel
theorem dX2_setHours_0 : decode cX2_setHours 0 = .ok (.iload_n 1, 1) := by decide +kernel
theorem dX2_setHours_1 : decode cX2_setHours 1 = .ok (.iconst 1, 1) := by decide +kernel
theorem dX2_setHours_2 : decode cX2_setHours 2 = .ok (.if_icmp .lt 9, 3) := by decide +kernel
theorem dX2_setHours_5 : decode cX2_setHours 5 = .ok (.iload_n 1, 1) := by decide +kernel
theorem dX2_setHours_6 : decode cX2_setHours 6 = .ok (.bipush 12, 2) := by decide +kernel
theorem dX2_setHours_8 : decode cX2_setHours 8 = .ok (.if_icmp .le 13, 3) := by decide +kernel
theorem dX2_setHours_11 : decode cX2_setHours 11 = .ok (.new 115, 3) := by decide +kernel
theorem dX2_setHours_14 : decode cX2_setHours 14 = .ok (.dup, 1) := by decide +kernel
theorem dX2_setHours_15 : decode cX2_setHours 15 = .ok (.ldc 149, 2) := by decide +kernel
theorem dX2_setHours_17 : decode cX2_setHours 17 = .ok (.invokespecial 119, 3) := by decide +kernel
theorem dX2_setHours_20 : decode cX2_setHours 20 = .ok (.athrow, 1) := by decide +kernel
theorem dX2_setHours_21 : decode cX2_setHours 21 = .ok (.aload_n 0, 1) := by decide +kernel
theorem dX2_setHours_22 : decode cX2_setHours 22 = .ok (.invokevirtual 151, 3) := by decide +kernel
theorem dX2_setHours_25 : decode cX2_setHours 25 = .ok (.aload_n 0, 1) := by decide +kernel
theorem dX2_setHours_26 : decode cX2_setHours 26 = .ok (.getfield 47, 3) := by decide +kernel
theorem dX2_setHours_29 : decode cX2_setHours 29 = .ok (.istore_n 2, 1) := by decide +kernel
theorem dX2_setHours_30 : decode cX2_setHours 30 = .ok (.aload_n 0, 1) := by decide +kernel
theorem dX2_setHours_31 : decode cX2_setHours 31 = .ok (.iload_n 1, 1) := by decide +kernel
theorem dX2_setHours_32 : decode cX2_setHours 32 = .ok (.putfield 47, 3) := by decide +kernel
theorem dX2_setHours_35 : decode cX2_setHours 35 = .ok (.iload_n 2, 1) := by decide +kernel
theorem dX2_setHours_36 : decode cX2_setHours 36 = .ok (.ireturn, 1) := by decide +kernel
theorem dX2_leave_0 : decode cX2_leave 0 = .ok (.aload_n 0, 1) := by decide +kernel
theorem dX2_leave_1 : decode cX2_leave 1 = .ok (.iload_n 1, 1) := by decide +kernel
theorem dX2_leave_2 : decode cX2_leave 2 = .ok (.invokevirtual 90, 3) := by decide +kernel
theorem dX2_leave_5 : decode cX2_leave 5 = .ok (.astore_n 3, 1) := by decide +kernel
theorem dX2_leave_6 : decode cX2_leave 6 = .ok (.iload_n 2, 1) := by decide +kernel
theorem dX2_leave_7 : decode cX2_leave 7 = .ok (.ifCond .lt 11, 3) := by decide +kernel
theorem dX2_leave_10 : decode cX2_leave 10 = .ok (.iload_n 2, 1) := by decide +kernel
theorem dX2_leave_11 : decode cX2_leave 11 = .ok (.aload_n 0, 1) := by decide +kernel
theorem dX2_leave_12 : decode cX2_leave 12 = .ok (.getfield 47, 3) := by decide +kernel
theorem dX2_leave_15 : decode cX2_leave 15 = .ok (.if_icmp .le 13, 3) := by decide +kernel
theorem dX2_leave_18 : decode cX2_leave 18 = .ok (.new 115, 3) := by decide +kernel
theorem dX2_leave_21 : decode cX2_leave 21 = .ok (.dup, 1) := by decide +kernel
theorem dX2_leave_22 : decode cX2_leave 22 = .ok (.ldc 154, 2) := by decide +kernel
theorem dX2_leave_24 : decode cX2_leave 24 = .ok (.invokespecial 119, 3) := by decide +kernel
theorem dX2_leave_27 : decode cX2_leave 27 = .ok (.athrow, 1) := by decide +kernel
theorem dX2_leave_28 : decode cX2_leave 28 = .ok (.aload_n 3, 1) := by decide +kernel
theorem dX2_leave_29 : decode cX2_leave 29 = .ok (.invokevirtual 156, 3) := by decide +kernel
theorem dX2_leave_32 : decode cX2_leave 32 = .ok (.ifCond .eq 11, 3) := by decide +kernel
theorem dX2_leave_35 : decode cX2_leave 35 = .ok (.iload_n 2, 1) := by decide +kernel
theorem dX2_leave_36 : decode cX2_leave 36 = .ok (.aload_n 0, 1) := by decide +kernel
theorem dX2_leave_37 : decode cX2_leave 37 = .ok (.getfield 50, 3) := by decide +kernel
theorem dX2_leave_40 : decode cX2_leave 40 = .ok (.if_icmp .ge 13, 3) := by decide +kernel
theorem dX2_leave_43 : decode cX2_leave 43 = .ok (.new 71, 3) := by decide +kernel
theorem dX2_leave_46 : decode cX2_leave 46 = .ok (.dup, 1) := by decide +kernel
theorem dX2_leave_47 : decode cX2_leave 47 = .ok (.ldc 160, 2) := by decide +kernel
theorem dX2_leave_49 : decode cX2_leave 49 = .ok (.invokespecial 75, 3) := by decide +kernel
theorem dX2_leave_52 : decode cX2_leave 52 = .ok (.athrow, 1) := by decide +kernel
theorem dX2_leave_53 : decode cX2_leave 53 = .ok (.aload_n 3, 1) := by decide +kernel
theorem dX2_leave_54 : decode cX2_leave 54 = .ok (.getfield 162, 3) := by decide +kernel
theorem dX2_leave_57 : decode cX2_leave 57 = .ok (.istore 4, 2) := by decide +kernel
theorem dX2_leave_59 : decode cX2_leave 59 = .ok (.aload_n 0, 1) := by decide +kernel
theorem dX2_leave_60 : decode cX2_leave 60 = .ok (.iload_n 2, 1) := by decide +kernel
theorem dX2_leave_61 : decode cX2_leave 61 = .ok (.putfield 50, 3) := by decide +kernel
theorem dX2_leave_64 : decode cX2_leave 64 = .ok (.aload_n 0, 1) := by decide +kernel
theorem dX2_leave_65 : decode cX2_leave 65 = .ok (.dup, 1) := by decide +kernel
theorem dX2_leave_66 : decode cX2_leave 66 = .ok (.getfield 53, 3) := by decide +kernel
theorem dX2_leave_69 : decode cX2_leave 69 = .ok (.aload_n 3, 1) := by decide +kernel
theorem dX2_leave_70 : decode cX2_leave 70 = .ok (.iload_n 2, 1) := by decide +kernel
theorem dX2_leave_71 : decode cX2_leave 71 = .ok (.invokevirtual 165, 3) := by decide +kernel
theorem dX2_leave_74 : decode cX2_leave 74 = .ok (.iadd, 1) := by decide +kernel
theorem dX2_leave_75 : decode cX2_leave 75 = .ok (.putfield 53, 3) := by decide +kernel
theorem dX2_leave_78 : decode cX2_leave 78 = .ok (.iload 4, 2) := by decide +kernel
theorem dX2_leave_80 : decode cX2_leave 80 = .ok (.ireturn, 1) := by decide +kernel
theorem dX2_replace_0 : decode cX2_replace 0 = .ok (.aload_n 0, 1) := by decide +kernel
theorem dX2_replace_1 : decode cX2_replace 1 = .ok (.iload_n 1, 1) := by decide +kernel
theorem dX2_replace_2 : decode cX2_replace 2 = .ok (.invokevirtual 169, 3) := by decide +kernel
theorem dX2_replace_5 : decode cX2_replace 5 = .ok (.aload_n 0, 1) := by decide +kernel
theorem dX2_replace_6 : decode cX2_replace 6 = .ok (.iload_n 1, 1) := by decide +kernel
theorem dX2_replace_7 : decode cX2_replace 7 = .ok (.invokevirtual 172, 3) := by decide +kernel
theorem dX2_replace_10 : decode cX2_replace 10 = .ok (.ifCond .ne 13, 3) := by decide +kernel
theorem dX2_replace_13 : decode cX2_replace 13 = .ok (.new 71, 3) := by decide +kernel
theorem dX2_replace_16 : decode cX2_replace 16 = .ok (.dup, 1) := by decide +kernel
theorem dX2_replace_17 : decode cX2_replace 17 = .ok (.ldc 176, 2) := by decide +kernel
theorem dX2_replace_19 : decode cX2_replace 19 = .ok (.invokespecial 75, 3) := by decide +kernel
theorem dX2_replace_22 : decode cX2_replace 22 = .ok (.athrow, 1) := by decide +kernel
theorem dX2_replace_23 : decode cX2_replace 23 = .ok (.aload_n 0, 1) := by decide +kernel
theorem dX2_replace_24 : decode cX2_replace 24 = .ok (.getfield 37, 3) := by decide +kernel
theorem dX2_replace_27 : decode cX2_replace 27 = .ok (.iload_n 1, 1) := by decide +kernel
theorem dX2_replace_28 : decode cX2_replace 28 = .ok (.iaload, 1) := by decide +kernel
theorem dX2_replace_29 : decode cX2_replace 29 = .ok (.istore_n 2, 1) := by decide +kernel
theorem dX2_replace_30 : decode cX2_replace 30 = .ok (.aload_n 0, 1) := by decide +kernel
theorem dX2_replace_31 : decode cX2_replace 31 = .ok (.invokevirtual 120, 3) := by decide +kernel
theorem dX2_replace_34 : decode cX2_replace 34 = .ok (.iconst 0, 1) := by decide +kernel
theorem dX2_replace_35 : decode cX2_replace 35 = .ok (.istore_n 3, 1) := by decide +kernel
theorem dX2_replace_36 : decode cX2_replace 36 = .ok (.iload_n 3, 1) := by decide +kernel
theorem dX2_replace_37 : decode cX2_replace 37 = .ok (.aload_n 0, 1) := by decide +kernel
theorem dX2_replace_38 : decode cX2_replace 38 = .ok (.getfield 16, 3) := by decide +kernel
theorem dX2_replace_41 : decode cX2_replace 41 = .ok (.invokevirtual 67, 3) := by decide +kernel
theorem dX2_replace_44 : decode cX2_replace 44 = .ok (.if_icmp .ge 66, 3) := by decide +kernel
theorem dX2_replace_47 : decode cX2_replace 47 = .ok (.aload_n 0, 1) := by decide +kernel
theorem dX2_replace_48 : decode cX2_replace 48 = .ok (.getfield 16, 3) := by decide +kernel
theorem dX2_replace_51 : decode cX2_replace 51 = .ok (.iload_n 3, 1) := by decide +kernel
theorem dX2_replace_52 : decode cX2_replace 52 = .ok (.invokevirtual 123, 3) := by decide +kernel
theorem dX2_replace_55 : decode cX2_replace 55 = .ok (.checkcast 78, 3) := by decide +kernel
theorem dX2_replace_58 : decode cX2_replace 58 = .ok (.astore 4, 2) := by decide +kernel
theorem dX2_replace_60 : decode cX2_replace 60 = .ok (.aload 4, 2) := by decide +kernel
theorem dX2_replace_62 : decode cX2_replace 62 = .ok (.invokevirtual 178, 3) := by decide +kernel
theorem dX2_replace_65 : decode cX2_replace 65 = .ok (.ifCond .eq 39, 3) := by decide +kernel
theorem dX2_replace_68 : decode cX2_replace 68 = .ok (.aload 4, 2) := by decide +kernel
theorem dX2_replace_70 : decode cX2_replace 70 = .ok (.iload_n 2, 1) := by decide +kernel
theorem dX2_replace_71 : decode cX2_replace 71 = .ok (.invokevirtual 181, 3) := by decide +kernel
theorem dX2_replace_74 : decode cX2_replace 74 = .ok (.ifCond .eq 30, 3) := by decide +kernel
theorem dX2_replace_77 : decode cX2_replace 77 = .ok (.aload 4, 2) := by decide +kernel
theorem dX2_replace_79 : decode cX2_replace 79 = .ok (.getfield 112, 3) := by decide +kernel
theorem dX2_replace_82 : decode cX2_replace 82 = .ok (.ifCond .ne 16, 3) := by decide +kernel
theorem dX2_replace_85 : decode cX2_replace 85 = .ok (.aload_n 0, 1) := by decide +kernel
theorem dX2_replace_86 : decode cX2_replace 86 = .ok (.aload 4, 2) := by decide +kernel
theorem dX2_replace_88 : decode cX2_replace 88 = .ok (.iload_n 1, 1) := by decide +kernel
theorem dX2_replace_89 : decode cX2_replace 89 = .ok (.invokevirtual 184, 3) := by decide +kernel
theorem dX2_replace_92 : decode cX2_replace 92 = .ok (.aload 4, 2) := by decide +kernel
theorem dX2_replace_94 : decode cX2_replace 94 = .ok (.getfield 87, 3) := by decide +kernel
theorem dX2_replace_97 : decode cX2_replace 97 = .ok (.ireturn, 1) := by decide +kernel
theorem dX2_replace_98 : decode cX2_replace 98 = .ok (.aload_n 0, 1) := by decide +kernel
theorem dX2_replace_99 : decode cX2_replace 99 = .ok (.aload 4, 2) := by decide +kernel
theorem dX2_replace_101 : decode cX2_replace 101 = .ok (.invokevirtual 188, 3) := by decide +kernel
theorem dX2_replace_104 : decode cX2_replace 104 = .ok (.iinc 3 1, 3) := by decide +kernel
theorem dX2_replace_107 : decode cX2_replace 107 = .ok (.goto (-71), 3) := by decide +kernel
theorem dX2_replace_110 : decode cX2_replace 110 = .ok (.iconst (-1), 1) := by decide +kernel
theorem dX2_replace_111 : decode cX2_replace 111 = .ok (.ireturn, 1) := by decide +kernel
theorem dX2_endShift_0 : decode cX2_endShift 0 = .ok (.aload_n 0, 1) := by decide +kernel
theorem dX2_endShift_1 : decode cX2_endShift 1 = .ok (.getfield 53, 3) := by decide +kernel
theorem dX2_endShift_4 : decode cX2_endShift 4 = .ok (.istore_n 1, 1) := by decide +kernel
theorem dX2_endShift_5 : decode cX2_endShift 5 = .ok (.iconst 0, 1) := by decide +kernel
theorem dX2_endShift_6 : decode cX2_endShift 6 = .ok (.istore_n 2, 1) := by decide +kernel
theorem dX2_endShift_7 : decode cX2_endShift 7 = .ok (.iload_n 2, 1) := by decide +kernel
theorem dX2_endShift_8 : decode cX2_endShift 8 = .ok (.aload_n 0, 1) := by decide +kernel
theorem dX2_endShift_9 : decode cX2_endShift 9 = .ok (.getfield 10, 3) := by decide +kernel
theorem dX2_endShift_12 : decode cX2_endShift 12 = .ok (.invokevirtual 67, 3) := by decide +kernel
theorem dX2_endShift_15 : decode cX2_endShift 15 = .ok (.if_icmp .ge 49, 3) := by decide +kernel
theorem dX2_endShift_18 : decode cX2_endShift 18 = .ok (.aload_n 0, 1) := by decide +kernel
theorem dX2_endShift_19 : decode cX2_endShift 19 = .ok (.getfield 10, 3) := by decide +kernel
theorem dX2_endShift_22 : decode cX2_endShift 22 = .ok (.iload_n 2, 1) := by decide +kernel
theorem dX2_endShift_23 : decode cX2_endShift 23 = .ok (.invokevirtual 123, 3) := by decide +kernel
theorem dX2_endShift_26 : decode cX2_endShift 26 = .ok (.checkcast 78, 3) := by decide +kernel
theorem dX2_endShift_29 : decode cX2_endShift 29 = .ok (.astore_n 3, 1) := by decide +kernel
theorem dX2_endShift_30 : decode cX2_endShift 30 = .ok (.aload_n 3, 1) := by decide +kernel
theorem dX2_endShift_31 : decode cX2_endShift 31 = .ok (.invokevirtual 156, 3) := by decide +kernel
theorem dX2_endShift_34 : decode cX2_endShift 34 = .ok (.ifCond .eq 14, 3) := by decide +kernel
theorem dX2_endShift_37 : decode cX2_endShift 37 = .ok (.iload_n 1, 1) := by decide +kernel
theorem dX2_endShift_38 : decode cX2_endShift 38 = .ok (.aload_n 3, 1) := by decide +kernel
theorem dX2_endShift_39 : decode cX2_endShift 39 = .ok (.aload_n 0, 1) := by decide +kernel
theorem dX2_endShift_40 : decode cX2_endShift 40 = .ok (.getfield 47, 3) := by decide +kernel
theorem dX2_endShift_43 : decode cX2_endShift 43 = .ok (.invokevirtual 165, 3) := by decide +kernel
theorem dX2_endShift_46 : decode cX2_endShift 46 = .ok (.iadd, 1) := by decide +kernel
theorem dX2_endShift_47 : decode cX2_endShift 47 = .ok (.istore_n 1, 1) := by decide +kernel
theorem dX2_endShift_48 : decode cX2_endShift 48 = .ok (.aload_n 3, 1) := by decide +kernel
theorem dX2_endShift_49 : decode cX2_endShift 49 = .ok (.iconst 0, 1) := by decide +kernel
theorem dX2_endShift_50 : decode cX2_endShift 50 = .ok (.putfield 191, 3) := by decide +kernel
theorem dX2_endShift_53 : decode cX2_endShift 53 = .ok (.aload_n 3, 1) := by decide +kernel
theorem dX2_endShift_54 : decode cX2_endShift 54 = .ok (.iconst 0, 1) := by decide +kernel
theorem dX2_endShift_55 : decode cX2_endShift 55 = .ok (.putfield 112, 3) := by decide +kernel
theorem dX2_endShift_58 : decode cX2_endShift 58 = .ok (.iinc 2 1, 3) := by decide +kernel
theorem dX2_endShift_61 : decode cX2_endShift 61 = .ok (.goto (-54), 3) := by decide +kernel
theorem dX2_endShift_64 : decode cX2_endShift 64 = .ok (.aload_n 0, 1) := by decide +kernel
theorem dX2_endShift_65 : decode cX2_endShift 65 = .ok (.iconst 0, 1) := by decide +kernel
theorem dX2_endShift_66 : decode cX2_endShift 66 = .ok (.putfield 44, 3) := by decide +kernel
theorem dX2_endShift_69 : decode cX2_endShift 69 = .ok (.aload_n 0, 1) := by decide +kernel
theorem dX2_endShift_70 : decode cX2_endShift 70 = .ok (.iconst 0, 1) := by decide +kernel
theorem dX2_endShift_71 : decode cX2_endShift 71 = .ok (.putfield 50, 3) := by decide +kernel
theorem dX2_endShift_74 : decode cX2_endShift 74 = .ok (.aload_n 0, 1) := by decide +kernel
theorem dX2_endShift_75 : decode cX2_endShift 75 = .ok (.iconst 0, 1) := by decide +kernel
theorem dX2_endShift_76 : decode cX2_endShift 76 = .ok (.putfield 53, 3) := by decide +kernel
theorem dX2_endShift_79 : decode cX2_endShift 79 = .ok (.aload_n 0, 1) := by decide +kernel
theorem dX2_endShift_80 : decode cX2_endShift 80 = .ok (.iconst 0, 1) := by decide +kernel
theorem dX2_endShift_81 : decode cX2_endShift 81 = .ok (.putfield 56, 3) := by decide +kernel
theorem dX2_endShift_84 : decode cX2_endShift 84 = .ok (.iload_n 1, 1) := by decide +kernel
theorem dX2_endShift_85 : decode cX2_endShift 85 = .ok (.ireturn, 1) := by decide +kernel
theorem dX2_endPeriod_0 : decode cX2_endPeriod 0 = .ok (.aload_n 0, 1) := by decide +kernel
theorem dX2_endPeriod_1 : decode cX2_endPeriod 1 = .ok (.invokevirtual 151, 3) := by decide +kernel
theorem dX2_endPeriod_4 : decode cX2_endPeriod 4 = .ok (.iconst 0, 1) := by decide +kernel
theorem dX2_endPeriod_5 : decode cX2_endPeriod 5 = .ok (.istore_n 1, 1) := by decide +kernel
theorem dX2_endPeriod_6 : decode cX2_endPeriod 6 = .ok (.iconst 0, 1) := by decide +kernel
theorem dX2_endPeriod_7 : decode cX2_endPeriod 7 = .ok (.istore_n 2, 1) := by decide +kernel
theorem dX2_endPeriod_8 : decode cX2_endPeriod 8 = .ok (.iload_n 2, 1) := by decide +kernel
theorem dX2_endPeriod_9 : decode cX2_endPeriod 9 = .ok (.aload_n 0, 1) := by decide +kernel
theorem dX2_endPeriod_10 : decode cX2_endPeriod 10 = .ok (.getfield 10, 3) := by decide +kernel
theorem dX2_endPeriod_13 : decode cX2_endPeriod 13 = .ok (.invokevirtual 67, 3) := by decide +kernel
theorem dX2_endPeriod_16 : decode cX2_endPeriod 16 = .ok (.if_icmp .ge 39, 3) := by decide +kernel
theorem dX2_endPeriod_19 : decode cX2_endPeriod 19 = .ok (.aload_n 0, 1) := by decide +kernel
theorem dX2_endPeriod_20 : decode cX2_endPeriod 20 = .ok (.getfield 10, 3) := by decide +kernel
theorem dX2_endPeriod_23 : decode cX2_endPeriod 23 = .ok (.iload_n 2, 1) := by decide +kernel
theorem dX2_endPeriod_24 : decode cX2_endPeriod 24 = .ok (.invokevirtual 123, 3) := by decide +kernel
theorem dX2_endPeriod_27 : decode cX2_endPeriod 27 = .ok (.checkcast 78, 3) := by decide +kernel
theorem dX2_endPeriod_30 : decode cX2_endPeriod 30 = .ok (.astore_n 3, 1) := by decide +kernel
theorem dX2_endPeriod_31 : decode cX2_endPeriod 31 = .ok (.iload_n 1, 1) := by decide +kernel
theorem dX2_endPeriod_32 : decode cX2_endPeriod 32 = .ok (.aload_n 0, 1) := by decide +kernel
theorem dX2_endPeriod_33 : decode cX2_endPeriod 33 = .ok (.aload_n 3, 1) := by decide +kernel
theorem dX2_endPeriod_34 : decode cX2_endPeriod 34 = .ok (.invokevirtual 194, 3) := by decide +kernel
theorem dX2_endPeriod_37 : decode cX2_endPeriod 37 = .ok (.iadd, 1) := by decide +kernel
theorem dX2_endPeriod_38 : decode cX2_endPeriod 38 = .ok (.istore_n 1, 1) := by decide +kernel
theorem dX2_endPeriod_39 : decode cX2_endPeriod 39 = .ok (.aload_n 3, 1) := by decide +kernel
theorem dX2_endPeriod_40 : decode cX2_endPeriod 40 = .ok (.iconst 0, 1) := by decide +kernel
theorem dX2_endPeriod_41 : decode cX2_endPeriod 41 = .ok (.putfield 100, 3) := by decide +kernel
theorem dX2_endPeriod_44 : decode cX2_endPeriod 44 = .ok (.aload_n 3, 1) := by decide +kernel
theorem dX2_endPeriod_45 : decode cX2_endPeriod 45 = .ok (.iconst 0, 1) := by decide +kernel
theorem dX2_endPeriod_46 : decode cX2_endPeriod 46 = .ok (.putfield 198, 3) := by decide +kernel
theorem dX2_endPeriod_49 : decode cX2_endPeriod 49 = .ok (.iinc 2 1, 3) := by decide +kernel
theorem dX2_endPeriod_52 : decode cX2_endPeriod 52 = .ok (.goto (-44), 3) := by decide +kernel
theorem dX2_endPeriod_55 : decode cX2_endPeriod 55 = .ok (.iload_n 1, 1) := by decide +kernel
theorem dX2_endPeriod_56 : decode cX2_endPeriod 56 = .ok (.ireturn, 1) := by decide +kernel
theorem dX2_workers_0 : decode cX2_workers 0 = .ok (.aload_n 0, 1) := by decide +kernel
theorem dX2_workers_1 : decode cX2_workers 1 = .ok (.getfield 10, 3) := by decide +kernel
theorem dX2_workers_4 : decode cX2_workers 4 = .ok (.invokevirtual 67, 3) := by decide +kernel
theorem dX2_workers_7 : decode cX2_workers 7 = .ok (.ireturn, 1) := by decide +kernel
theorem dX2_boardOf_0 : decode cX2_boardOf 0 = .ok (.aload_n 0, 1) := by decide +kernel
theorem dX2_boardOf_1 : decode cX2_boardOf 1 = .ok (.iload_n 1, 1) := by decide +kernel
theorem dX2_boardOf_2 : decode cX2_boardOf 2 = .ok (.invokevirtual 90, 3) := by decide +kernel
theorem dX2_boardOf_5 : decode cX2_boardOf 5 = .ok (.getfield 106, 3) := by decide +kernel
theorem dX2_boardOf_8 : decode cX2_boardOf 8 = .ok (.ireturn, 1) := by decide +kernel
theorem dX2_rankOf_0 : decode cX2_rankOf 0 = .ok (.aload_n 0, 1) := by decide +kernel
theorem dX2_rankOf_1 : decode cX2_rankOf 1 = .ok (.iload_n 1, 1) := by decide +kernel
theorem dX2_rankOf_2 : decode cX2_rankOf 2 = .ok (.invokevirtual 90, 3) := by decide +kernel
theorem dX2_rankOf_5 : decode cX2_rankOf 5 = .ok (.astore_n 2, 1) := by decide +kernel
theorem dX2_rankOf_6 : decode cX2_rankOf 6 = .ok (.iconst 0, 1) := by decide +kernel
theorem dX2_rankOf_7 : decode cX2_rankOf 7 = .ok (.istore_n 3, 1) := by decide +kernel
theorem dX2_rankOf_8 : decode cX2_rankOf 8 = .ok (.iconst 0, 1) := by decide +kernel
theorem dX2_rankOf_9 : decode cX2_rankOf 9 = .ok (.istore 4, 2) := by decide +kernel
theorem dX2_rankOf_11 : decode cX2_rankOf 11 = .ok (.iload 4, 2) := by decide +kernel
theorem dX2_rankOf_13 : decode cX2_rankOf 13 = .ok (.aload_n 0, 1) := by decide +kernel
theorem dX2_rankOf_14 : decode cX2_rankOf 14 = .ok (.getfield 10, 3) := by decide +kernel
theorem dX2_rankOf_17 : decode cX2_rankOf 17 = .ok (.invokevirtual 67, 3) := by decide +kernel
theorem dX2_rankOf_20 : decode cX2_rankOf 20 = .ok (.if_icmp .ge 47, 3) := by decide +kernel
theorem dX2_rankOf_23 : decode cX2_rankOf 23 = .ok (.aload_n 0, 1) := by decide +kernel
theorem dX2_rankOf_24 : decode cX2_rankOf 24 = .ok (.getfield 10, 3) := by decide +kernel
theorem dX2_rankOf_27 : decode cX2_rankOf 27 = .ok (.iload 4, 2) := by decide +kernel
theorem dX2_rankOf_29 : decode cX2_rankOf 29 = .ok (.invokevirtual 123, 3) := by decide +kernel
theorem dX2_rankOf_32 : decode cX2_rankOf 32 = .ok (.aload_n 2, 1) := by decide +kernel
theorem dX2_rankOf_33 : decode cX2_rankOf 33 = .ok (.if_acmp .eq 34, 3) := by decide +kernel
theorem dX2_rankOf_36 : decode cX2_rankOf 36 = .ok (.aload_n 0, 1) := by decide +kernel
theorem dX2_rankOf_37 : decode cX2_rankOf 37 = .ok (.getfield 10, 3) := by decide +kernel
theorem dX2_rankOf_40 : decode cX2_rankOf 40 = .ok (.iload 4, 2) := by decide +kernel
theorem dX2_rankOf_42 : decode cX2_rankOf 42 = .ok (.invokevirtual 123, 3) := by decide +kernel
theorem dX2_rankOf_45 : decode cX2_rankOf 45 = .ok (.checkcast 78, 3) := by decide +kernel
theorem dX2_rankOf_48 : decode cX2_rankOf 48 = .ok (.getfield 106, 3) := by decide +kernel
theorem dX2_rankOf_51 : decode cX2_rankOf 51 = .ok (.aload_n 2, 1) := by decide +kernel
theorem dX2_rankOf_52 : decode cX2_rankOf 52 = .ok (.getfield 106, 3) := by decide +kernel
theorem dX2_rankOf_55 : decode cX2_rankOf 55 = .ok (.if_icmp .ne 6, 3) := by decide +kernel
theorem dX2_rankOf_58 : decode cX2_rankOf 58 = .ok (.iinc 3 1, 3) := by decide +kernel
theorem dX2_rankOf_61 : decode cX2_rankOf 61 = .ok (.iinc 4 1, 3) := by decide +kernel
theorem dX2_rankOf_64 : decode cX2_rankOf 64 = .ok (.goto (-53), 3) := by decide +kernel
theorem dX2_rankOf_67 : decode cX2_rankOf 67 = .ok (.iload_n 3, 1) := by decide +kernel
theorem dX2_rankOf_68 : decode cX2_rankOf 68 = .ok (.ireturn, 1) := by decide +kernel
theorem dX2_hoursOf_0 : decode cX2_hoursOf 0 = .ok (.aload_n 0, 1) := by decide +kernel
theorem dX2_hoursOf_1 : decode cX2_hoursOf 1 = .ok (.iload_n 1, 1) := by decide +kernel
theorem dX2_hoursOf_2 : decode cX2_hoursOf 2 = .ok (.invokevirtual 90, 3) := by decide +kernel
theorem dX2_hoursOf_5 : decode cX2_hoursOf 5 = .ok (.getfield 100, 3) := by decide +kernel
theorem dX2_hoursOf_8 : decode cX2_hoursOf 8 = .ok (.ireturn, 1) := by decide +kernel
theorem dX2_refusalsOf_0 : decode cX2_refusalsOf 0 = .ok (.aload_n 0, 1) := by decide +kernel
theorem dX2_refusalsOf_1 : decode cX2_refusalsOf 1 = .ok (.iload_n 1, 1) := by decide +kernel
theorem dX2_refusalsOf_2 : decode cX2_refusalsOf 2 = .ok (.invokevirtual 90, 3) := by decide +kernel
theorem dX2_refusalsOf_5 : decode cX2_refusalsOf 5 = .ok (.getfield 198, 3) := by decide +kernel
theorem dX2_refusalsOf_8 : decode cX2_refusalsOf 8 = .ok (.ireturn, 1) := by decide +kernel
theorem dX2_placeOf_0 : decode cX2_placeOf 0 = .ok (.aload_n 0, 1) := by decide +kernel
theorem dX2_placeOf_1 : decode cX2_placeOf 1 = .ok (.iload_n 1, 1) := by decide +kernel
theorem dX2_placeOf_2 : decode cX2_placeOf 2 = .ok (.invokevirtual 90, 3) := by decide +kernel
theorem dX2_placeOf_5 : decode cX2_placeOf 5 = .ok (.getfield 162, 3) := by decide +kernel
theorem dX2_placeOf_8 : decode cX2_placeOf 8 = .ok (.ireturn, 1) := by decide +kernel
theorem dX2_owedTo_0 : decode cX2_owedTo 0 = .ok (.aload_n 0, 1) := by decide +kernel
theorem dX2_owedTo_1 : decode cX2_owedTo 1 = .ok (.aload_n 0, 1) := by decide +kernel
theorem dX2_owedTo_2 : decode cX2_owedTo 2 = .ok (.iload_n 1, 1) := by decide +kernel
theorem dX2_owedTo_3 : decode cX2_owedTo 3 = .ok (.invokevirtual 90, 3) := by decide +kernel
theorem dX2_owedTo_6 : decode cX2_owedTo 6 = .ok (.invokevirtual 194, 3) := by decide +kernel
end
section
theorem dX2_owedTo_9 : decode cX2_owedTo 9 = .ok (.ireturn, 1) := by decide +kernel
theorem dX2_places_0 : decode cX2_places 0 = .ok (.aload_n 0, 1) := by decide +kernel
theorem dX2_places_1 : decode cX2_places 1 = .ok (.getfield 44, 3) := by decide +kernel
theorem dX2_places_4 : decode cX2_places 4 = .ok (.ireturn, 1) := by decide +kernel
theorem dX2_workerAt_0 : decode cX2_workerAt 0 = .ok (.aload_n 0, 1) := by decide +kernel
theorem dX2_workerAt_1 : decode cX2_workerAt 1 = .ok (.iload_n 1, 1) := by decide +kernel
theorem dX2_workerAt_2 : decode cX2_workerAt 2 = .ok (.invokevirtual 169, 3) := by decide +kernel
theorem dX2_workerAt_5 : decode cX2_workerAt 5 = .ok (.aload_n 0, 1) := by decide +kernel
theorem dX2_workerAt_6 : decode cX2_workerAt 6 = .ok (.iload_n 1, 1) := by decide +kernel
theorem dX2_workerAt_7 : decode cX2_workerAt 7 = .ok (.invokevirtual 201, 3) := by decide +kernel
theorem dX2_workerAt_10 : decode cX2_workerAt 10 = .ok (.ireturn, 1) := by decide +kernel
theorem dX2_nextUp_0 : decode cX2_nextUp 0 = .ok (.iload_n 1, 1) := by decide +kernel
theorem dX2_nextUp_1 : decode cX2_nextUp 1 = .ok (.invokestatic 60, 3) := by decide +kernel
theorem dX2_nextUp_4 : decode cX2_nextUp 4 = .ok (.iconst 0, 1) := by decide +kernel
theorem dX2_nextUp_5 : decode cX2_nextUp 5 = .ok (.istore_n 2, 1) := by decide +kernel
theorem dX2_nextUp_6 : decode cX2_nextUp 6 = .ok (.iload_n 2, 1) := by decide +kernel
theorem dX2_nextUp_7 : decode cX2_nextUp 7 = .ok (.aload_n 0, 1) := by decide +kernel
theorem dX2_nextUp_8 : decode cX2_nextUp 8 = .ok (.getfield 10, 3) := by decide +kernel
theorem dX2_nextUp_11 : decode cX2_nextUp 11 = .ok (.invokevirtual 67, 3) := by decide +kernel
theorem dX2_nextUp_14 : decode cX2_nextUp 14 = .ok (.if_icmp .ge 41, 3) := by decide +kernel
theorem dX2_nextUp_17 : decode cX2_nextUp 17 = .ok (.aload_n 0, 1) := by decide +kernel
theorem dX2_nextUp_18 : decode cX2_nextUp 18 = .ok (.getfield 10, 3) := by decide +kernel
theorem dX2_nextUp_21 : decode cX2_nextUp 21 = .ok (.iload_n 2, 1) := by decide +kernel
theorem dX2_nextUp_22 : decode cX2_nextUp 22 = .ok (.invokevirtual 123, 3) := by decide +kernel
theorem dX2_nextUp_25 : decode cX2_nextUp 25 = .ok (.checkcast 78, 3) := by decide +kernel
theorem dX2_nextUp_28 : decode cX2_nextUp 28 = .ok (.astore_n 3, 1) := by decide +kernel
theorem dX2_nextUp_29 : decode cX2_nextUp 29 = .ok (.aload_n 3, 1) := by decide +kernel
theorem dX2_nextUp_30 : decode cX2_nextUp 30 = .ok (.getfield 106, 3) := by decide +kernel
theorem dX2_nextUp_33 : decode cX2_nextUp 33 = .ok (.iload_n 1, 1) := by decide +kernel
theorem dX2_nextUp_34 : decode cX2_nextUp 34 = .ok (.if_icmp .ne 15, 3) := by decide +kernel
theorem dX2_nextUp_37 : decode cX2_nextUp 37 = .ok (.aload_n 3, 1) := by decide +kernel
theorem dX2_nextUp_38 : decode cX2_nextUp 38 = .ok (.invokevirtual 178, 3) := by decide +kernel
theorem dX2_nextUp_41 : decode cX2_nextUp 41 = .ok (.ifCond .eq 8, 3) := by decide +kernel
theorem dX2_nextUp_44 : decode cX2_nextUp 44 = .ok (.aload_n 3, 1) := by decide +kernel
theorem dX2_nextUp_45 : decode cX2_nextUp 45 = .ok (.getfield 87, 3) := by decide +kernel
theorem dX2_nextUp_48 : decode cX2_nextUp 48 = .ok (.ireturn, 1) := by decide +kernel
theorem dX2_nextUp_49 : decode cX2_nextUp 49 = .ok (.iinc 2 1, 3) := by decide +kernel
theorem dX2_nextUp_52 : decode cX2_nextUp 52 = .ok (.goto (-46), 3) := by decide +kernel
theorem dX2_nextUp_55 : decode cX2_nextUp 55 = .ok (.iconst (-1), 1) := by decide +kernel
theorem dX2_nextUp_56 : decode cX2_nextUp 56 = .ok (.ireturn, 1) := by decide +kernel
theorem dX2_fillable_0 : decode cX2_fillable 0 = .ok (.aload_n 0, 1) := by decide +kernel
theorem dX2_fillable_1 : decode cX2_fillable 1 = .ok (.getfield 25, 3) := by decide +kernel
theorem dX2_fillable_4 : decode cX2_fillable 4 = .ok (.invokevirtual 137, 3) := by decide +kernel
theorem dX2_fillable_7 : decode cX2_fillable 7 = .ok (.aload_n 0, 1) := by decide +kernel
theorem dX2_fillable_8 : decode cX2_fillable 8 = .ok (.invokevirtual 140, 3) := by decide +kernel
theorem dX2_fillable_11 : decode cX2_fillable 11 = .ok (.iconst 0, 1) := by decide +kernel
theorem dX2_fillable_12 : decode cX2_fillable 12 = .ok (.istore_n 1, 1) := by decide +kernel
theorem dX2_fillable_13 : decode cX2_fillable 13 = .ok (.iload_n 1, 1) := by decide +kernel
theorem dX2_fillable_14 : decode cX2_fillable 14 = .ok (.aload_n 0, 1) := by decide +kernel
theorem dX2_fillable_15 : decode cX2_fillable 15 = .ok (.getfield 10, 3) := by decide +kernel
theorem dX2_fillable_18 : decode cX2_fillable 18 = .ok (.invokevirtual 67, 3) := by decide +kernel
theorem dX2_fillable_21 : decode cX2_fillable 21 = .ok (.if_icmp .ge 46, 3) := by decide +kernel
theorem dX2_fillable_24 : decode cX2_fillable 24 = .ok (.aload_n 0, 1) := by decide +kernel
theorem dX2_fillable_25 : decode cX2_fillable 25 = .ok (.getfield 10, 3) := by decide +kernel
theorem dX2_fillable_28 : decode cX2_fillable 28 = .ok (.iload_n 1, 1) := by decide +kernel
theorem dX2_fillable_29 : decode cX2_fillable 29 = .ok (.invokevirtual 123, 3) := by decide +kernel
theorem dX2_fillable_32 : decode cX2_fillable 32 = .ok (.checkcast 78, 3) := by decide +kernel
theorem dX2_fillable_35 : decode cX2_fillable 35 = .ok (.astore_n 2, 1) := by decide +kernel
theorem dX2_fillable_36 : decode cX2_fillable 36 = .ok (.aload_n 2, 1) := by decide +kernel
theorem dX2_fillable_37 : decode cX2_fillable 37 = .ok (.invokevirtual 178, 3) := by decide +kernel
theorem dX2_fillable_40 : decode cX2_fillable 40 = .ok (.ifCond .eq 21, 3) := by decide +kernel
theorem dX2_fillable_43 : decode cX2_fillable 43 = .ok (.aload_n 2, 1) := by decide +kernel
theorem dX2_fillable_44 : decode cX2_fillable 44 = .ok (.getfield 112, 3) := by decide +kernel
theorem dX2_fillable_47 : decode cX2_fillable 47 = .ok (.ifCond .ne 14, 3) := by decide +kernel
theorem dX2_fillable_50 : decode cX2_fillable 50 = .ok (.aload_n 0, 1) := by decide +kernel
theorem dX2_fillable_51 : decode cX2_fillable 51 = .ok (.getfield 25, 3) := by decide +kernel
theorem dX2_fillable_54 : decode cX2_fillable 54 = .ok (.aload_n 2, 1) := by decide +kernel
theorem dX2_fillable_55 : decode cX2_fillable 55 = .ok (.getfield 103, 3) := by decide +kernel
theorem dX2_fillable_58 : decode cX2_fillable 58 = .ok (.invokevirtual 204, 3) := by decide +kernel
theorem dX2_fillable_61 : decode cX2_fillable 61 = .ok (.iinc 1 1, 3) := by decide +kernel
theorem dX2_fillable_64 : decode cX2_fillable 64 = .ok (.goto (-51), 3) := by decide +kernel
theorem dX2_fillable_67 : decode cX2_fillable 67 = .ok (.aload_n 0, 1) := by decide +kernel
theorem dX2_fillable_68 : decode cX2_fillable 68 = .ok (.getfield 25, 3) := by decide +kernel
theorem dX2_fillable_71 : decode cX2_fillable 71 = .ok (.invokevirtual 207, 3) := by decide +kernel
theorem dX2_fillable_74 : decode cX2_fillable 74 = .ok (.ireturn, 1) := by decide +kernel
theorem dX2_find_0 : decode cX2_find 0 = .ok (.iconst 0, 1) := by decide +kernel
theorem dX2_find_1 : decode cX2_find 1 = .ok (.istore_n 2, 1) := by decide +kernel
theorem dX2_find_2 : decode cX2_find 2 = .ok (.iload_n 2, 1) := by decide +kernel
theorem dX2_find_3 : decode cX2_find 3 = .ok (.aload_n 0, 1) := by decide +kernel
theorem dX2_find_4 : decode cX2_find 4 = .ok (.getfield 10, 3) := by decide +kernel
theorem dX2_find_7 : decode cX2_find 7 = .ok (.invokevirtual 67, 3) := by decide +kernel
theorem dX2_find_10 : decode cX2_find 10 = .ok (.if_icmp .ge 31, 3) := by decide +kernel
theorem dX2_find_13 : decode cX2_find 13 = .ok (.aload_n 0, 1) := by decide +kernel
theorem dX2_find_14 : decode cX2_find 14 = .ok (.getfield 10, 3) := by decide +kernel
theorem dX2_find_17 : decode cX2_find 17 = .ok (.iload_n 2, 1) := by decide +kernel
theorem dX2_find_18 : decode cX2_find 18 = .ok (.invokevirtual 123, 3) := by decide +kernel
theorem dX2_find_21 : decode cX2_find 21 = .ok (.checkcast 78, 3) := by decide +kernel
theorem dX2_find_24 : decode cX2_find 24 = .ok (.astore_n 3, 1) := by decide +kernel
theorem dX2_find_25 : decode cX2_find 25 = .ok (.aload_n 3, 1) := by decide +kernel
theorem dX2_find_26 : decode cX2_find 26 = .ok (.getfield 87, 3) := by decide +kernel
theorem dX2_find_29 : decode cX2_find 29 = .ok (.iload_n 1, 1) := by decide +kernel
theorem dX2_find_30 : decode cX2_find 30 = .ok (.if_icmp .ne 5, 3) := by decide +kernel
theorem dX2_find_33 : decode cX2_find 33 = .ok (.aload_n 3, 1) := by decide +kernel
theorem dX2_find_34 : decode cX2_find 34 = .ok (.areturn, 1) := by decide +kernel
theorem dX2_find_35 : decode cX2_find 35 = .ok (.iinc 2 1, 3) := by decide +kernel
theorem dX2_find_38 : decode cX2_find 38 = .ok (.goto (-36), 3) := by decide +kernel
theorem dX2_find_41 : decode cX2_find 41 = .ok (.new 210, 3) := by decide +kernel
theorem dX2_find_44 : decode cX2_find 44 = .ok (.dup, 1) := by decide +kernel
theorem dX2_find_45 : decode cX2_find 45 = .ok (.ldc 212, 2) := by decide +kernel
theorem dX2_find_47 : decode cX2_find 47 = .ok (.invokespecial 214, 3) := by decide +kernel
theorem dX2_find_50 : decode cX2_find 50 = .ok (.athrow, 1) := by decide +kernel
theorem dX2_checkPlace_0 : decode cX2_checkPlace 0 = .ok (.iload_n 1, 1) := by decide +kernel
theorem dX2_checkPlace_1 : decode cX2_checkPlace 1 = .ok (.ifCond .lt 11, 3) := by decide +kernel
theorem dX2_checkPlace_4 : decode cX2_checkPlace 4 = .ok (.iload_n 1, 1) := by decide +kernel
theorem dX2_checkPlace_5 : decode cX2_checkPlace 5 = .ok (.aload_n 0, 1) := by decide +kernel
theorem dX2_checkPlace_6 : decode cX2_checkPlace 6 = .ok (.getfield 44, 3) := by decide +kernel
theorem dX2_checkPlace_9 : decode cX2_checkPlace 9 = .ok (.if_icmp .lt 13, 3) := by decide +kernel
theorem dX2_checkPlace_12 : decode cX2_checkPlace 12 = .ok (.new 210, 3) := by decide +kernel
theorem dX2_checkPlace_15 : decode cX2_checkPlace 15 = .ok (.dup, 1) := by decide +kernel
theorem dX2_checkPlace_16 : decode cX2_checkPlace 16 = .ok (.ldc 215, 2) := by decide +kernel
theorem dX2_checkPlace_18 : decode cX2_checkPlace 18 = .ok (.invokespecial 214, 3) := by decide +kernel
theorem dX2_checkPlace_21 : decode cX2_checkPlace 21 = .ok (.athrow, 1) := by decide +kernel
theorem dX2_checkPlace_22 : decode cX2_checkPlace 22 = .ok (.return_, 1) := by decide +kernel
theorem dX2_checkBoard_0 : decode cX2_checkBoard 0 = .ok (.iload_n 0, 1) := by decide +kernel
theorem dX2_checkBoard_1 : decode cX2_checkBoard 1 = .ok (.ifCond .lt 8, 3) := by decide +kernel
theorem dX2_checkBoard_4 : decode cX2_checkBoard 4 = .ok (.iload_n 0, 1) := by decide +kernel
theorem dX2_checkBoard_5 : decode cX2_checkBoard 5 = .ok (.iconst 4, 1) := by decide +kernel
theorem dX2_checkBoard_6 : decode cX2_checkBoard 6 = .ok (.if_icmp .lt 13, 3) := by decide +kernel
theorem dX2_checkBoard_9 : decode cX2_checkBoard 9 = .ok (.new 115, 3) := by decide +kernel
theorem dX2_checkBoard_12 : decode cX2_checkBoard 12 = .ok (.dup, 1) := by decide +kernel
theorem dX2_checkBoard_13 : decode cX2_checkBoard 13 = .ok (.ldc 217, 2) := by decide +kernel
theorem dX2_checkBoard_15 : decode cX2_checkBoard 15 = .ok (.invokespecial 119, 3) := by decide +kernel
theorem dX2_checkBoard_18 : decode cX2_checkBoard 18 = .ok (.athrow, 1) := by decide +kernel
theorem dX2_checkBoard_19 : decode cX2_checkBoard 19 = .ok (.return_, 1) := by decide +kernel
theorem dX2_checkSkills_0 : decode cX2_checkSkills 0 = .ok (.iload_n 0, 1) := by decide +kernel
theorem dX2_checkSkills_1 : decode cX2_checkSkills 1 = .ok (.ifCond .lt 9, 3) := by decide +kernel
theorem dX2_checkSkills_4 : decode cX2_checkSkills 4 = .ok (.iload_n 0, 1) := by decide +kernel
theorem dX2_checkSkills_5 : decode cX2_checkSkills 5 = .ok (.bipush 32, 2) := by decide +kernel
theorem dX2_checkSkills_7 : decode cX2_checkSkills 7 = .ok (.if_icmp .lt 13, 3) := by decide +kernel
theorem dX2_checkSkills_10 : decode cX2_checkSkills 10 = .ok (.new 115, 3) := by decide +kernel
theorem dX2_checkSkills_13 : decode cX2_checkSkills 13 = .ok (.dup, 1) := by decide +kernel
theorem dX2_checkSkills_14 : decode cX2_checkSkills 14 = .ok (.ldc 219, 2) := by decide +kernel
theorem dX2_checkSkills_16 : decode cX2_checkSkills 16 = .ok (.invokespecial 119, 3) := by decide +kernel
theorem dX2_checkSkills_19 : decode cX2_checkSkills 19 = .ok (.athrow, 1) := by decide +kernel
theorem dX2_checkSkills_20 : decode cX2_checkSkills 20 = .ok (.return_, 1) := by decide +kernel
theorem dX2_checkNotAtWork_0 : decode cX2_checkNotAtWork 0 = .ok (.aload_n 0, 1) := by decide +kernel
theorem dX2_checkNotAtWork_1 : decode cX2_checkNotAtWork 1 = .ok (.invokevirtual 156, 3) := by decide +kernel
theorem dX2_checkNotAtWork_4 : decode cX2_checkNotAtWork 4 = .ok (.ifCond .eq 13, 3) := by decide +kernel
theorem dX2_checkNotAtWork_7 : decode cX2_checkNotAtWork 7 = .ok (.new 71, 3) := by decide +kernel
theorem dX2_checkNotAtWork_10 : decode cX2_checkNotAtWork 10 = .ok (.dup, 1) := by decide +kernel
theorem dX2_checkNotAtWork_11 : decode cX2_checkNotAtWork 11 = .ok (.ldc 221, 2) := by decide +kernel
theorem dX2_checkNotAtWork_13 : decode cX2_checkNotAtWork 13 = .ok (.invokespecial 75, 3) := by decide +kernel
theorem dX2_checkNotAtWork_16 : decode cX2_checkNotAtWork 16 = .ok (.athrow, 1) := by decide +kernel
theorem dX2_checkNotAtWork_17 : decode cX2_checkNotAtWork 17 = .ok (.return_, 1) := by decide +kernel
theorem dX2_checkWorkHasNotBegun_0 : decode cX2_checkWorkHasNotBegun 0 = .ok (.aload_n 0, 1) := by decide +kernel
theorem dX2_checkWorkHasNotBegun_1 : decode cX2_checkWorkHasNotBegun 1 = .ok (.getfield 56, 3) := by decide +kernel
theorem dX2_checkWorkHasNotBegun_4 : decode cX2_checkWorkHasNotBegun 4 = .ok (.ifCond .eq 13, 3) := by decide +kernel
theorem dX2_checkWorkHasNotBegun_7 : decode cX2_checkWorkHasNotBegun 7 = .ok (.new 71, 3) := by decide +kernel
theorem dX2_checkWorkHasNotBegun_10 : decode cX2_checkWorkHasNotBegun 10 = .ok (.dup, 1) := by decide +kernel
theorem dX2_checkWorkHasNotBegun_11 : decode cX2_checkWorkHasNotBegun 11 = .ok (.ldc 223, 2) := by decide +kernel
theorem dX2_checkWorkHasNotBegun_13 : decode cX2_checkWorkHasNotBegun 13 = .ok (.invokespecial 75, 3) := by decide +kernel
theorem dX2_checkWorkHasNotBegun_16 : decode cX2_checkWorkHasNotBegun 16 = .ok (.athrow, 1) := by decide +kernel
theorem dX2_checkWorkHasNotBegun_17 : decode cX2_checkWorkHasNotBegun 17 = .ok (.return_, 1) := by decide +kernel
theorem dX2_takeOffBoard_0 : decode cX2_takeOffBoard 0 = .ok (.iconst 0, 1) := by decide +kernel
theorem dX2_takeOffBoard_1 : decode cX2_takeOffBoard 1 = .ok (.istore_n 2, 1) := by decide +kernel
theorem dX2_takeOffBoard_2 : decode cX2_takeOffBoard 2 = .ok (.iload_n 2, 1) := by decide +kernel
theorem dX2_takeOffBoard_3 : decode cX2_takeOffBoard 3 = .ok (.aload_n 0, 1) := by decide +kernel
theorem dX2_takeOffBoard_4 : decode cX2_takeOffBoard 4 = .ok (.getfield 10, 3) := by decide +kernel
theorem dX2_takeOffBoard_7 : decode cX2_takeOffBoard 7 = .ok (.invokevirtual 67, 3) := by decide +kernel
theorem dX2_takeOffBoard_10 : decode cX2_takeOffBoard 10 = .ok (.if_icmp .ge 31, 3) := by decide +kernel
theorem dX2_takeOffBoard_13 : decode cX2_takeOffBoard 13 = .ok (.aload_n 0, 1) := by decide +kernel
theorem dX2_takeOffBoard_14 : decode cX2_takeOffBoard 14 = .ok (.getfield 10, 3) := by decide +kernel
theorem dX2_takeOffBoard_17 : decode cX2_takeOffBoard 17 = .ok (.iload_n 2, 1) := by decide +kernel
theorem dX2_takeOffBoard_18 : decode cX2_takeOffBoard 18 = .ok (.invokevirtual 123, 3) := by decide +kernel
theorem dX2_takeOffBoard_21 : decode cX2_takeOffBoard 21 = .ok (.aload_n 1, 1) := by decide +kernel
theorem dX2_takeOffBoard_22 : decode cX2_takeOffBoard 22 = .ok (.if_acmp .ne 13, 3) := by decide +kernel
theorem dX2_takeOffBoard_25 : decode cX2_takeOffBoard 25 = .ok (.aload_n 0, 1) := by decide +kernel
theorem dX2_takeOffBoard_26 : decode cX2_takeOffBoard 26 = .ok (.getfield 10, 3) := by decide +kernel
theorem dX2_takeOffBoard_29 : decode cX2_takeOffBoard 29 = .ok (.iload_n 2, 1) := by decide +kernel
theorem dX2_takeOffBoard_30 : decode cX2_takeOffBoard 30 = .ok (.invokevirtual 225, 3) := by decide +kernel
theorem dX2_takeOffBoard_33 : decode cX2_takeOffBoard 33 = .ok (.pop, 1) := by decide +kernel
theorem dX2_takeOffBoard_34 : decode cX2_takeOffBoard 34 = .ok (.return_, 1) := by decide +kernel
theorem dX2_takeOffBoard_35 : decode cX2_takeOffBoard 35 = .ok (.iinc 2 1, 3) := by decide +kernel
theorem dX2_takeOffBoard_38 : decode cX2_takeOffBoard 38 = .ok (.goto (-36), 3) := by decide +kernel
theorem dX2_takeOffBoard_41 : decode cX2_takeOffBoard 41 = .ok (.return_, 1) := by decide +kernel
theorem dX2_putAtBottom_0 : decode cX2_putAtBottom 0 = .ok (.iconst 0, 1) := by decide +kernel
theorem dX2_putAtBottom_1 : decode cX2_putAtBottom 1 = .ok (.istore_n 2, 1) := by decide +kernel
theorem dX2_putAtBottom_2 : decode cX2_putAtBottom 2 = .ok (.iload_n 2, 1) := by decide +kernel
theorem dX2_putAtBottom_3 : decode cX2_putAtBottom 3 = .ok (.aload_n 0, 1) := by decide +kernel
theorem dX2_putAtBottom_4 : decode cX2_putAtBottom 4 = .ok (.getfield 10, 3) := by decide +kernel
theorem dX2_putAtBottom_7 : decode cX2_putAtBottom 7 = .ok (.invokevirtual 67, 3) := by decide +kernel
theorem dX2_putAtBottom_10 : decode cX2_putAtBottom 10 = .ok (.if_icmp .ge 30, 3) := by decide +kernel
theorem dX2_putAtBottom_13 : decode cX2_putAtBottom 13 = .ok (.aload_n 0, 1) := by decide +kernel
theorem dX2_putAtBottom_14 : decode cX2_putAtBottom 14 = .ok (.getfield 10, 3) := by decide +kernel
theorem dX2_putAtBottom_17 : decode cX2_putAtBottom 17 = .ok (.iload_n 2, 1) := by decide +kernel
theorem dX2_putAtBottom_18 : decode cX2_putAtBottom 18 = .ok (.invokevirtual 123, 3) := by decide +kernel
theorem dX2_putAtBottom_21 : decode cX2_putAtBottom 21 = .ok (.checkcast 78, 3) := by decide +kernel
theorem dX2_putAtBottom_24 : decode cX2_putAtBottom 24 = .ok (.getfield 106, 3) := by decide +kernel
theorem dX2_putAtBottom_27 : decode cX2_putAtBottom 27 = .ok (.aload_n 1, 1) := by decide +kernel
theorem dX2_putAtBottom_28 : decode cX2_putAtBottom 28 = .ok (.getfield 106, 3) := by decide +kernel
theorem dX2_putAtBottom_31 : decode cX2_putAtBottom 31 = .ok (.if_icmp .gt 9, 3) := by decide +kernel
theorem dX2_putAtBottom_34 : decode cX2_putAtBottom 34 = .ok (.iinc 2 1, 3) := by decide +kernel
theorem dX2_putAtBottom_37 : decode cX2_putAtBottom 37 = .ok (.goto (-35), 3) := by decide +kernel
theorem dX2_putAtBottom_40 : decode cX2_putAtBottom 40 = .ok (.aload_n 0, 1) := by decide +kernel
theorem dX2_putAtBottom_41 : decode cX2_putAtBottom 41 = .ok (.getfield 10, 3) := by decide +kernel
theorem dX2_putAtBottom_44 : decode cX2_putAtBottom 44 = .ok (.iload_n 2, 1) := by decide +kernel
theorem dX2_putAtBottom_45 : decode cX2_putAtBottom 45 = .ok (.aload_n 1, 1) := by decide +kernel
theorem dX2_putAtBottom_46 : decode cX2_putAtBottom 46 = .ok (.invokevirtual 228, 3) := by decide +kernel
theorem dX2_putAtBottom_49 : decode cX2_putAtBottom 49 = .ok (.return_, 1) := by decide +kernel
theorem dX2_sendToBottom_0 : decode cX2_sendToBottom 0 = .ok (.aload_n 0, 1) := by decide +kernel
theorem dX2_sendToBottom_1 : decode cX2_sendToBottom 1 = .ok (.aload_n 1, 1) := by decide +kernel
theorem dX2_sendToBottom_2 : decode cX2_sendToBottom 2 = .ok (.invokevirtual 97, 3) := by decide +kernel
theorem dX2_sendToBottom_5 : decode cX2_sendToBottom 5 = .ok (.aload_n 0, 1) := by decide +kernel
theorem dX2_sendToBottom_6 : decode cX2_sendToBottom 6 = .ok (.aload_n 1, 1) := by decide +kernel
theorem dX2_sendToBottom_7 : decode cX2_sendToBottom 7 = .ok (.invokevirtual 83, 3) := by decide +kernel
theorem dX2_sendToBottom_10 : decode cX2_sendToBottom 10 = .ok (.return_, 1) := by decide +kernel
theorem dX2_rememberTurn_0 : decode cX2_rememberTurn 0 = .ok (.aload_n 0, 1) := by decide +kernel
theorem dX2_rememberTurn_1 : decode cX2_rememberTurn 1 = .ok (.getfield 16, 3) := by decide +kernel
theorem dX2_rememberTurn_4 : decode cX2_rememberTurn 4 = .ok (.invokevirtual 232, 3) := by decide +kernel
theorem dX2_rememberTurn_7 : decode cX2_rememberTurn 7 = .ok (.iconst 0, 1) := by decide +kernel
theorem dX2_rememberTurn_8 : decode cX2_rememberTurn 8 = .ok (.istore_n 1, 1) := by decide +kernel
theorem dX2_rememberTurn_9 : decode cX2_rememberTurn 9 = .ok (.iload_n 1, 1) := by decide +kernel
theorem dX2_rememberTurn_10 : decode cX2_rememberTurn 10 = .ok (.aload_n 0, 1) := by decide +kernel
theorem dX2_rememberTurn_11 : decode cX2_rememberTurn 11 = .ok (.getfield 10, 3) := by decide +kernel
theorem dX2_rememberTurn_14 : decode cX2_rememberTurn 14 = .ok (.invokevirtual 67, 3) := by decide +kernel
theorem dX2_rememberTurn_17 : decode cX2_rememberTurn 17 = .ok (.if_icmp .ge 28, 3) := by decide +kernel
theorem dX2_rememberTurn_20 : decode cX2_rememberTurn 20 = .ok (.aload_n 0, 1) := by decide +kernel
theorem dX2_rememberTurn_21 : decode cX2_rememberTurn 21 = .ok (.getfield 16, 3) := by decide +kernel
theorem dX2_rememberTurn_24 : decode cX2_rememberTurn 24 = .ok (.aload_n 0, 1) := by decide +kernel
theorem dX2_rememberTurn_25 : decode cX2_rememberTurn 25 = .ok (.getfield 10, 3) := by decide +kernel
theorem dX2_rememberTurn_28 : decode cX2_rememberTurn 28 = .ok (.iload_n 1, 1) := by decide +kernel
theorem dX2_rememberTurn_29 : decode cX2_rememberTurn 29 = .ok (.invokevirtual 123, 3) := by decide +kernel
theorem dX2_rememberTurn_32 : decode cX2_rememberTurn 32 = .ok (.checkcast 78, 3) := by decide +kernel
theorem dX2_rememberTurn_35 : decode cX2_rememberTurn 35 = .ok (.invokevirtual 233, 3) := by decide +kernel
theorem dX2_rememberTurn_38 : decode cX2_rememberTurn 38 = .ok (.pop, 1) := by decide +kernel
theorem dX2_rememberTurn_39 : decode cX2_rememberTurn 39 = .ok (.iinc 1 1, 3) := by decide +kernel
theorem dX2_rememberTurn_42 : decode cX2_rememberTurn 42 = .ok (.goto (-33), 3) := by decide +kernel
theorem dX2_rememberTurn_45 : decode cX2_rememberTurn 45 = .ok (.return_, 1) := by decide +kernel
theorem dX2_riseByHours_0 : decode cX2_riseByHours 0 = .ok (.iload_n 1, 1) := by decide +kernel
theorem dX2_riseByHours_1 : decode cX2_riseByHours 1 = .ok (.istore_n 2, 1) := by decide +kernel
theorem dX2_riseByHours_2 : decode cX2_riseByHours 2 = .ok (.iload_n 2, 1) := by decide +kernel
theorem dX2_riseByHours_3 : decode cX2_riseByHours 3 = .ok (.ifCond .le 95, 3) := by decide +kernel
theorem dX2_riseByHours_6 : decode cX2_riseByHours 6 = .ok (.iload_n 2, 1) := by decide +kernel
theorem dX2_riseByHours_7 : decode cX2_riseByHours 7 = .ok (.aload_n 0, 1) := by decide +kernel
theorem dX2_riseByHours_8 : decode cX2_riseByHours 8 = .ok (.getfield 10, 3) := by decide +kernel
theorem dX2_riseByHours_11 : decode cX2_riseByHours 11 = .ok (.invokevirtual 67, 3) := by decide +kernel
theorem dX2_riseByHours_14 : decode cX2_riseByHours 14 = .ok (.if_icmp .ge 84, 3) := by decide +kernel
theorem dX2_riseByHours_17 : decode cX2_riseByHours 17 = .ok (.aload_n 0, 1) := by decide +kernel
theorem dX2_riseByHours_18 : decode cX2_riseByHours 18 = .ok (.getfield 10, 3) := by decide +kernel
theorem dX2_riseByHours_21 : decode cX2_riseByHours 21 = .ok (.iload_n 2, 1) := by decide +kernel
theorem dX2_riseByHours_22 : decode cX2_riseByHours 22 = .ok (.invokevirtual 123, 3) := by decide +kernel
theorem dX2_riseByHours_25 : decode cX2_riseByHours 25 = .ok (.checkcast 78, 3) := by decide +kernel
theorem dX2_riseByHours_28 : decode cX2_riseByHours 28 = .ok (.astore_n 3, 1) := by decide +kernel
theorem dX2_riseByHours_29 : decode cX2_riseByHours 29 = .ok (.aload_n 0, 1) := by decide +kernel
theorem dX2_riseByHours_30 : decode cX2_riseByHours 30 = .ok (.getfield 10, 3) := by decide +kernel
theorem dX2_riseByHours_33 : decode cX2_riseByHours 33 = .ok (.iload_n 2, 1) := by decide +kernel
theorem dX2_riseByHours_34 : decode cX2_riseByHours 34 = .ok (.iconst 1, 1) := by decide +kernel
theorem dX2_riseByHours_35 : decode cX2_riseByHours 35 = .ok (.isub, 1) := by decide +kernel
theorem dX2_riseByHours_36 : decode cX2_riseByHours 36 = .ok (.invokevirtual 123, 3) := by decide +kernel
theorem dX2_riseByHours_39 : decode cX2_riseByHours 39 = .ok (.checkcast 78, 3) := by decide +kernel
theorem dX2_riseByHours_42 : decode cX2_riseByHours 42 = .ok (.astore 4, 2) := by decide +kernel
theorem dX2_riseByHours_44 : decode cX2_riseByHours 44 = .ok (.aload 4, 2) := by decide +kernel
theorem dX2_riseByHours_46 : decode cX2_riseByHours 46 = .ok (.getfield 106, 3) := by decide +kernel
theorem dX2_riseByHours_49 : decode cX2_riseByHours 49 = .ok (.aload_n 3, 1) := by decide +kernel
theorem dX2_riseByHours_50 : decode cX2_riseByHours 50 = .ok (.getfield 106, 3) := by decide +kernel
theorem dX2_riseByHours_53 : decode cX2_riseByHours 53 = .ok (.if_icmp .ne 15, 3) := by decide +kernel
theorem dX2_riseByHours_56 : decode cX2_riseByHours 56 = .ok (.aload 4, 2) := by decide +kernel
theorem dX2_riseByHours_58 : decode cX2_riseByHours 58 = .ok (.getfield 100, 3) := by decide +kernel
theorem dX2_riseByHours_61 : decode cX2_riseByHours 61 = .ok (.aload_n 3, 1) := by decide +kernel
theorem dX2_riseByHours_62 : decode cX2_riseByHours 62 = .ok (.getfield 100, 3) := by decide +kernel
theorem dX2_riseByHours_65 : decode cX2_riseByHours 65 = .ok (.if_icmp .gt 4, 3) := by decide +kernel
theorem dX2_riseByHours_68 : decode cX2_riseByHours 68 = .ok (.return_, 1) := by decide +kernel
theorem dX2_riseByHours_69 : decode cX2_riseByHours 69 = .ok (.aload_n 0, 1) := by decide +kernel
theorem dX2_riseByHours_70 : decode cX2_riseByHours 70 = .ok (.getfield 10, 3) := by decide +kernel
theorem dX2_riseByHours_73 : decode cX2_riseByHours 73 = .ok (.iload_n 2, 1) := by decide +kernel
theorem dX2_riseByHours_74 : decode cX2_riseByHours 74 = .ok (.iconst 1, 1) := by decide +kernel
theorem dX2_riseByHours_75 : decode cX2_riseByHours 75 = .ok (.isub, 1) := by decide +kernel
theorem dX2_riseByHours_76 : decode cX2_riseByHours 76 = .ok (.aload_n 3, 1) := by decide +kernel
theorem dX2_riseByHours_77 : decode cX2_riseByHours 77 = .ok (.invokevirtual 236, 3) := by decide +kernel
theorem dX2_riseByHours_80 : decode cX2_riseByHours 80 = .ok (.pop, 1) := by decide +kernel
theorem dX2_riseByHours_81 : decode cX2_riseByHours 81 = .ok (.aload_n 0, 1) := by decide +kernel
theorem dX2_riseByHours_82 : decode cX2_riseByHours 82 = .ok (.getfield 10, 3) := by decide +kernel
theorem dX2_riseByHours_85 : decode cX2_riseByHours 85 = .ok (.iload_n 2, 1) := by decide +kernel
theorem dX2_riseByHours_86 : decode cX2_riseByHours 86 = .ok (.aload 4, 2) := by decide +kernel
theorem dX2_riseByHours_88 : decode cX2_riseByHours 88 = .ok (.invokevirtual 236, 3) := by decide +kernel
theorem dX2_riseByHours_91 : decode cX2_riseByHours 91 = .ok (.pop, 1) := by decide +kernel
theorem dX2_riseByHours_92 : decode cX2_riseByHours 92 = .ok (.iinc 2 (-1), 3) := by decide +kernel
theorem dX2_riseByHours_95 : decode cX2_riseByHours 95 = .ok (.goto (-93), 3) := by decide +kernel
theorem dX2_riseByHours_98 : decode cX2_riseByHours 98 = .ok (.return_, 1) := by decide +kernel
theorem dX2_countDisplaced_0 : decode cX2_countDisplaced 0 = .ok (.iconst 0, 1) := by decide +kernel
theorem dX2_countDisplaced_1 : decode cX2_countDisplaced 1 = .ok (.istore_n 1, 1) := by decide +kernel
theorem dX2_countDisplaced_2 : decode cX2_countDisplaced 2 = .ok (.iconst 0, 1) := by decide +kernel
theorem dX2_countDisplaced_3 : decode cX2_countDisplaced 3 = .ok (.istore_n 2, 1) := by decide +kernel
theorem dX2_countDisplaced_4 : decode cX2_countDisplaced 4 = .ok (.iload_n 2, 1) := by decide +kernel
theorem dX2_countDisplaced_5 : decode cX2_countDisplaced 5 = .ok (.aload_n 0, 1) := by decide +kernel
theorem dX2_countDisplaced_6 : decode cX2_countDisplaced 6 = .ok (.getfield 10, 3) := by decide +kernel
theorem dX2_countDisplaced_9 : decode cX2_countDisplaced 9 = .ok (.invokevirtual 67, 3) := by decide +kernel
theorem dX2_countDisplaced_12 : decode cX2_countDisplaced 12 = .ok (.if_icmp .ge 42, 3) := by decide +kernel
theorem dX2_countDisplaced_15 : decode cX2_countDisplaced 15 = .ok (.iload_n 2, 1) := by decide +kernel
theorem dX2_countDisplaced_16 : decode cX2_countDisplaced 16 = .ok (.aload_n 0, 1) := by decide +kernel
theorem dX2_countDisplaced_17 : decode cX2_countDisplaced 17 = .ok (.getfield 16, 3) := by decide +kernel
theorem dX2_countDisplaced_20 : decode cX2_countDisplaced 20 = .ok (.invokevirtual 67, 3) := by decide +kernel
theorem dX2_countDisplaced_23 : decode cX2_countDisplaced 23 = .ok (.if_icmp .ge 31, 3) := by decide +kernel
theorem dX2_countDisplaced_26 : decode cX2_countDisplaced 26 = .ok (.aload_n 0, 1) := by decide +kernel
theorem dX2_countDisplaced_27 : decode cX2_countDisplaced 27 = .ok (.getfield 10, 3) := by decide +kernel
theorem dX2_countDisplaced_30 : decode cX2_countDisplaced 30 = .ok (.iload_n 2, 1) := by decide +kernel
theorem dX2_countDisplaced_31 : decode cX2_countDisplaced 31 = .ok (.invokevirtual 123, 3) := by decide +kernel
theorem dX2_countDisplaced_34 : decode cX2_countDisplaced 34 = .ok (.aload_n 0, 1) := by decide +kernel
theorem dX2_countDisplaced_35 : decode cX2_countDisplaced 35 = .ok (.getfield 16, 3) := by decide +kernel
theorem dX2_countDisplaced_38 : decode cX2_countDisplaced 38 = .ok (.iload_n 2, 1) := by decide +kernel
theorem dX2_countDisplaced_39 : decode cX2_countDisplaced 39 = .ok (.invokevirtual 123, 3) := by decide +kernel
theorem dX2_countDisplaced_42 : decode cX2_countDisplaced 42 = .ok (.if_acmp .eq 6, 3) := by decide +kernel
theorem dX2_countDisplaced_45 : decode cX2_countDisplaced 45 = .ok (.iinc 1 1, 3) := by decide +kernel
theorem dX2_countDisplaced_48 : decode cX2_countDisplaced 48 = .ok (.iinc 2 1, 3) := by decide +kernel
theorem dX2_countDisplaced_51 : decode cX2_countDisplaced 51 = .ok (.goto (-47), 3) := by decide +kernel
theorem dX2_countDisplaced_54 : decode cX2_countDisplaced 54 = .ok (.iload_n 1, 1) := by decide +kernel
theorem dX2_countDisplaced_55 : decode cX2_countDisplaced 55 = .ok (.ireturn, 1) := by decide +kernel
theorem dX2_matchOpenPlaces_0 : decode cX2_matchOpenPlaces 0 = .ok (.iconst 0, 1) := by decide +kernel
theorem dX2_matchOpenPlaces_1 : decode cX2_matchOpenPlaces 1 = .ok (.istore_n 1, 1) := by decide +kernel
theorem dX2_matchOpenPlaces_2 : decode cX2_matchOpenPlaces 2 = .ok (.iload_n 1, 1) := by decide +kernel
theorem dX2_matchOpenPlaces_3 : decode cX2_matchOpenPlaces 3 = .ok (.aload_n 0, 1) := by decide +kernel
theorem dX2_matchOpenPlaces_4 : decode cX2_matchOpenPlaces 4 = .ok (.getfield 44, 3) := by decide +kernel
theorem dX2_matchOpenPlaces_7 : decode cX2_matchOpenPlaces 7 = .ok (.if_icmp .ge 30, 3) := by decide +kernel
theorem dX2_matchOpenPlaces_10 : decode cX2_matchOpenPlaces 10 = .ok (.aload_n 0, 1) := by decide +kernel
theorem dX2_matchOpenPlaces_11 : decode cX2_matchOpenPlaces 11 = .ok (.iload_n 1, 1) := by decide +kernel
theorem dX2_matchOpenPlaces_12 : decode cX2_matchOpenPlaces 12 = .ok (.invokevirtual 172, 3) := by decide +kernel
theorem dX2_matchOpenPlaces_15 : decode cX2_matchOpenPlaces 15 = .ok (.ifCond .eq 16, 3) := by decide +kernel
theorem dX2_matchOpenPlaces_18 : decode cX2_matchOpenPlaces 18 = .ok (.aload_n 0, 1) := by decide +kernel
theorem dX2_matchOpenPlaces_19 : decode cX2_matchOpenPlaces 19 = .ok (.getfield 25, 3) := by decide +kernel
theorem dX2_matchOpenPlaces_22 : decode cX2_matchOpenPlaces 22 = .ok (.aload_n 0, 1) := by decide +kernel
theorem dX2_matchOpenPlaces_23 : decode cX2_matchOpenPlaces 23 = .ok (.getfield 37, 3) := by decide +kernel
theorem dX2_matchOpenPlaces_26 : decode cX2_matchOpenPlaces 26 = .ok (.iload_n 1, 1) := by decide +kernel
theorem dX2_matchOpenPlaces_27 : decode cX2_matchOpenPlaces 27 = .ok (.iaload, 1) := by decide +kernel
theorem dX2_matchOpenPlaces_28 : decode cX2_matchOpenPlaces 28 = .ok (.invokevirtual 240, 3) := by decide +kernel
theorem dX2_matchOpenPlaces_31 : decode cX2_matchOpenPlaces 31 = .ok (.iinc 1 1, 3) := by decide +kernel
theorem dX2_matchOpenPlaces_34 : decode cX2_matchOpenPlaces 34 = .ok (.goto (-32), 3) := by decide +kernel
theorem dX2_matchOpenPlaces_37 : decode cX2_matchOpenPlaces 37 = .ok (.return_, 1) := by decide +kernel
theorem dX2_takeInTurn_0 : decode cX2_takeInTurn 0 = .ok (.aload_n 0, 1) := by decide +kernel
theorem dX2_takeInTurn_1 : decode cX2_takeInTurn 1 = .ok (.getfield 19, 3) := by decide +kernel
theorem dX2_takeInTurn_4 : decode cX2_takeInTurn 4 = .ok (.invokevirtual 232, 3) := by decide +kernel
theorem dX2_takeInTurn_7 : decode cX2_takeInTurn 7 = .ok (.aload_n 0, 1) := by decide +kernel
theorem dX2_takeInTurn_8 : decode cX2_takeInTurn 8 = .ok (.invokevirtual 120, 3) := by decide +kernel
theorem dX2_takeInTurn_11 : decode cX2_takeInTurn 11 = .ok (.iconst 0, 1) := by decide +kernel
theorem dX2_takeInTurn_12 : decode cX2_takeInTurn 12 = .ok (.istore_n 1, 1) := by decide +kernel
theorem dX2_takeInTurn_13 : decode cX2_takeInTurn 13 = .ok (.iload_n 1, 1) := by decide +kernel
theorem dX2_takeInTurn_14 : decode cX2_takeInTurn 14 = .ok (.aload_n 0, 1) := by decide +kernel
theorem dX2_takeInTurn_15 : decode cX2_takeInTurn 15 = .ok (.getfield 16, 3) := by decide +kernel
theorem dX2_takeInTurn_18 : decode cX2_takeInTurn 18 = .ok (.invokevirtual 67, 3) := by decide +kernel
theorem dX2_takeInTurn_21 : decode cX2_takeInTurn 21 = .ok (.if_icmp .ge 77, 3) := by decide +kernel
theorem dX2_takeInTurn_24 : decode cX2_takeInTurn 24 = .ok (.aload_n 0, 1) := by decide +kernel
theorem dX2_takeInTurn_25 : decode cX2_takeInTurn 25 = .ok (.getfield 16, 3) := by decide +kernel
theorem dX2_takeInTurn_28 : decode cX2_takeInTurn 28 = .ok (.iload_n 1, 1) := by decide +kernel
theorem dX2_takeInTurn_29 : decode cX2_takeInTurn 29 = .ok (.invokevirtual 123, 3) := by decide +kernel
theorem dX2_takeInTurn_32 : decode cX2_takeInTurn 32 = .ok (.checkcast 78, 3) := by decide +kernel
theorem dX2_takeInTurn_35 : decode cX2_takeInTurn 35 = .ok (.astore_n 2, 1) := by decide +kernel
theorem dX2_takeInTurn_36 : decode cX2_takeInTurn 36 = .ok (.aload_n 2, 1) := by decide +kernel
theorem dX2_takeInTurn_37 : decode cX2_takeInTurn 37 = .ok (.invokevirtual 178, 3) := by decide +kernel
theorem dX2_takeInTurn_40 : decode cX2_takeInTurn 40 = .ok (.ifCond .eq 52, 3) := by decide +kernel
theorem dX2_takeInTurn_43 : decode cX2_takeInTurn 43 = .ok (.aload_n 0, 1) := by decide +kernel
theorem dX2_takeInTurn_44 : decode cX2_takeInTurn 44 = .ok (.getfield 25, 3) := by decide +kernel
theorem dX2_takeInTurn_47 : decode cX2_takeInTurn 47 = .ok (.aload_n 2, 1) := by decide +kernel
theorem dX2_takeInTurn_48 : decode cX2_takeInTurn 48 = .ok (.getfield 103, 3) := by decide +kernel
theorem dX2_takeInTurn_51 : decode cX2_takeInTurn 51 = .ok (.invokevirtual 243, 3) := by decide +kernel
theorem dX2_takeInTurn_54 : decode cX2_takeInTurn 54 = .ok (.ifCond .eq 38, 3) := by decide +kernel
theorem dX2_takeInTurn_57 : decode cX2_takeInTurn 57 = .ok (.aload_n 2, 1) := by decide +kernel
theorem dX2_takeInTurn_58 : decode cX2_takeInTurn 58 = .ok (.getfield 112, 3) := by decide +kernel
theorem dX2_takeInTurn_61 : decode cX2_takeInTurn 61 = .ok (.ifCond .eq 11, 3) := by decide +kernel
theorem dX2_takeInTurn_64 : decode cX2_takeInTurn 64 = .ok (.aload_n 0, 1) := by decide +kernel
theorem dX2_takeInTurn_65 : decode cX2_takeInTurn 65 = .ok (.aload_n 2, 1) := by decide +kernel
theorem dX2_takeInTurn_66 : decode cX2_takeInTurn 66 = .ok (.invokevirtual 188, 3) := by decide +kernel
theorem dX2_takeInTurn_69 : decode cX2_takeInTurn 69 = .ok (.goto 23, 3) := by decide +kernel
theorem dX2_takeInTurn_72 : decode cX2_takeInTurn 72 = .ok (.aload_n 0, 1) := by decide +kernel
theorem dX2_takeInTurn_73 : decode cX2_takeInTurn 73 = .ok (.getfield 25, 3) := by decide +kernel
theorem dX2_takeInTurn_76 : decode cX2_takeInTurn 76 = .ok (.aload_n 2, 1) := by decide +kernel
theorem dX2_takeInTurn_77 : decode cX2_takeInTurn 77 = .ok (.getfield 103, 3) := by decide +kernel
theorem dX2_takeInTurn_80 : decode cX2_takeInTurn 80 = .ok (.invokevirtual 204, 3) := by decide +kernel
theorem dX2_takeInTurn_83 : decode cX2_takeInTurn 83 = .ok (.aload_n 0, 1) := by decide +kernel
theorem dX2_takeInTurn_84 : decode cX2_takeInTurn 84 = .ok (.getfield 19, 3) := by decide +kernel
theorem dX2_takeInTurn_87 : decode cX2_takeInTurn 87 = .ok (.aload_n 2, 1) := by decide +kernel
theorem dX2_takeInTurn_88 : decode cX2_takeInTurn 88 = .ok (.invokevirtual 233, 3) := by decide +kernel
theorem dX2_takeInTurn_91 : decode cX2_takeInTurn 91 = .ok (.pop, 1) := by decide +kernel
theorem dX2_takeInTurn_92 : decode cX2_takeInTurn 92 = .ok (.iinc 1 1, 3) := by decide +kernel
theorem dX2_takeInTurn_95 : decode cX2_takeInTurn 95 = .ok (.goto (-82), 3) := by decide +kernel
theorem dX2_takeInTurn_98 : decode cX2_takeInTurn 98 = .ok (.return_, 1) := by decide +kernel
theorem dX2_placeTaken_0 : decode cX2_placeTaken 0 = .ok (.iconst 0, 1) := by decide +kernel
theorem dX2_placeTaken_1 : decode cX2_placeTaken 1 = .ok (.istore_n 1, 1) := by decide +kernel
theorem dX2_placeTaken_2 : decode cX2_placeTaken 2 = .ok (.iload_n 1, 1) := by decide +kernel
theorem dX2_placeTaken_3 : decode cX2_placeTaken 3 = .ok (.aload_n 0, 1) := by decide +kernel
theorem dX2_placeTaken_4 : decode cX2_placeTaken 4 = .ok (.getfield 19, 3) := by decide +kernel
theorem dX2_placeTaken_7 : decode cX2_placeTaken 7 = .ok (.invokevirtual 67, 3) := by decide +kernel
theorem dX2_placeTaken_10 : decode cX2_placeTaken 10 = .ok (.if_icmp .ge 62, 3) := by decide +kernel
theorem dX2_placeTaken_13 : decode cX2_placeTaken 13 = .ok (.aload_n 0, 1) := by decide +kernel
theorem dX2_placeTaken_14 : decode cX2_placeTaken 14 = .ok (.getfield 19, 3) := by decide +kernel
theorem dX2_placeTaken_17 : decode cX2_placeTaken 17 = .ok (.iload_n 1, 1) := by decide +kernel
theorem dX2_placeTaken_18 : decode cX2_placeTaken 18 = .ok (.invokevirtual 123, 3) := by decide +kernel
theorem dX2_placeTaken_21 : decode cX2_placeTaken 21 = .ok (.checkcast 78, 3) := by decide +kernel
theorem dX2_placeTaken_24 : decode cX2_placeTaken 24 = .ok (.astore_n 2, 1) := by decide +kernel
theorem dX2_placeTaken_25 : decode cX2_placeTaken 25 = .ok (.aload_n 0, 1) := by decide +kernel
theorem dX2_placeTaken_26 : decode cX2_placeTaken 26 = .ok (.getfield 25, 3) := by decide +kernel
theorem dX2_placeTaken_29 : decode cX2_placeTaken 29 = .ok (.aload_n 2, 1) := by decide +kernel
theorem dX2_placeTaken_30 : decode cX2_placeTaken 30 = .ok (.getfield 103, 3) := by decide +kernel
theorem dX2_placeTaken_33 : decode cX2_placeTaken 33 = .ok (.invokevirtual 246, 3) := by decide +kernel
theorem dX2_placeTaken_36 : decode cX2_placeTaken 36 = .ok (.aload_n 0, 1) := by decide +kernel
theorem dX2_placeTaken_37 : decode cX2_placeTaken 37 = .ok (.aload_n 2, 1) := by decide +kernel
theorem dX2_placeTaken_38 : decode cX2_placeTaken 38 = .ok (.invokevirtual 249, 3) := by decide +kernel
theorem dX2_placeTaken_41 : decode cX2_placeTaken 41 = .ok (.istore_n 3, 1) := by decide +kernel
theorem dX2_placeTaken_42 : decode cX2_placeTaken 42 = .ok (.iload_n 3, 1) := by decide +kernel
theorem dX2_placeTaken_43 : decode cX2_placeTaken 43 = .ok (.iconst (-1), 1) := by decide +kernel
theorem dX2_placeTaken_44 : decode cX2_placeTaken 44 = .ok (.if_icmp .eq 22, 3) := by decide +kernel
theorem dX2_placeTaken_47 : decode cX2_placeTaken 47 = .ok (.aload_n 0, 1) := by decide +kernel
theorem dX2_placeTaken_48 : decode cX2_placeTaken 48 = .ok (.getfield 25, 3) := by decide +kernel
theorem dX2_placeTaken_51 : decode cX2_placeTaken 51 = .ok (.aload_n 0, 1) := by decide +kernel
theorem dX2_placeTaken_52 : decode cX2_placeTaken 52 = .ok (.getfield 37, 3) := by decide +kernel
theorem dX2_placeTaken_55 : decode cX2_placeTaken 55 = .ok (.iload_n 3, 1) := by decide +kernel
theorem dX2_placeTaken_56 : decode cX2_placeTaken 56 = .ok (.iaload, 1) := by decide +kernel
theorem dX2_placeTaken_57 : decode cX2_placeTaken 57 = .ok (.invokevirtual 252, 3) := by decide +kernel
theorem dX2_placeTaken_60 : decode cX2_placeTaken 60 = .ok (.aload_n 0, 1) := by decide +kernel
theorem dX2_placeTaken_61 : decode cX2_placeTaken 61 = .ok (.aload_n 2, 1) := by decide +kernel
theorem dX2_placeTaken_62 : decode cX2_placeTaken 62 = .ok (.iload_n 3, 1) := by decide +kernel
theorem dX2_placeTaken_63 : decode cX2_placeTaken 63 = .ok (.invokevirtual 184, 3) := by decide +kernel
theorem dX2_placeTaken_66 : decode cX2_placeTaken 66 = .ok (.iinc 1 1, 3) := by decide +kernel
theorem dX2_placeTaken_69 : decode cX2_placeTaken 69 = .ok (.goto (-67), 3) := by decide +kernel
theorem dX2_placeTaken_72 : decode cX2_placeTaken 72 = .ok (.return_, 1) := by decide +kernel
theorem dX2_lowestPlaceFor_0 : decode cX2_lowestPlaceFor 0 = .ok (.iconst 0, 1) := by decide +kernel
theorem dX2_lowestPlaceFor_1 : decode cX2_lowestPlaceFor 1 = .ok (.istore_n 2, 1) := by decide +kernel
theorem dX2_lowestPlaceFor_2 : decode cX2_lowestPlaceFor 2 = .ok (.iload_n 2, 1) := by decide +kernel
theorem dX2_lowestPlaceFor_3 : decode cX2_lowestPlaceFor 3 = .ok (.aload_n 0, 1) := by decide +kernel
theorem dX2_lowestPlaceFor_4 : decode cX2_lowestPlaceFor 4 = .ok (.getfield 44, 3) := by decide +kernel
theorem dX2_lowestPlaceFor_7 : decode cX2_lowestPlaceFor 7 = .ok (.if_icmp .ge 45, 3) := by decide +kernel
theorem dX2_lowestPlaceFor_10 : decode cX2_lowestPlaceFor 10 = .ok (.aload_n 0, 1) := by decide +kernel
theorem dX2_lowestPlaceFor_11 : decode cX2_lowestPlaceFor 11 = .ok (.getfield 37, 3) := by decide +kernel
theorem dX2_lowestPlaceFor_14 : decode cX2_lowestPlaceFor 14 = .ok (.iload_n 2, 1) := by decide +kernel
theorem dX2_lowestPlaceFor_15 : decode cX2_lowestPlaceFor 15 = .ok (.iaload, 1) := by decide +kernel
theorem dX2_lowestPlaceFor_16 : decode cX2_lowestPlaceFor 16 = .ok (.istore_n 3, 1) := by decide +kernel
theorem dX2_lowestPlaceFor_17 : decode cX2_lowestPlaceFor 17 = .ok (.aload_n 0, 1) := by decide +kernel
theorem dX2_lowestPlaceFor_18 : decode cX2_lowestPlaceFor 18 = .ok (.iload_n 2, 1) := by decide +kernel
theorem dX2_lowestPlaceFor_19 : decode cX2_lowestPlaceFor 19 = .ok (.invokevirtual 172, 3) := by decide +kernel
theorem dX2_lowestPlaceFor_22 : decode cX2_lowestPlaceFor 22 = .ok (.ifCond .eq 24, 3) := by decide +kernel
theorem dX2_lowestPlaceFor_25 : decode cX2_lowestPlaceFor 25 = .ok (.aload_n 1, 1) := by decide +kernel
theorem dX2_lowestPlaceFor_26 : decode cX2_lowestPlaceFor 26 = .ok (.iload_n 3, 1) := by decide +kernel
theorem dX2_lowestPlaceFor_27 : decode cX2_lowestPlaceFor 27 = .ok (.invokevirtual 181, 3) := by decide +kernel
theorem dX2_lowestPlaceFor_30 : decode cX2_lowestPlaceFor 30 = .ok (.ifCond .eq 16, 3) := by decide +kernel
theorem dX2_lowestPlaceFor_33 : decode cX2_lowestPlaceFor 33 = .ok (.aload_n 0, 1) := by decide +kernel
theorem dX2_lowestPlaceFor_34 : decode cX2_lowestPlaceFor 34 = .ok (.getfield 25, 3) := by decide +kernel
theorem dX2_lowestPlaceFor_37 : decode cX2_lowestPlaceFor 37 = .ok (.iload_n 3, 1) := by decide +kernel
theorem dX2_lowestPlaceFor_38 : decode cX2_lowestPlaceFor 38 = .ok (.invokevirtual 255, 3) := by decide +kernel
theorem dX2_lowestPlaceFor_41 : decode cX2_lowestPlaceFor 41 = .ok (.ifCond .eq 5, 3) := by decide +kernel
theorem dX2_lowestPlaceFor_44 : decode cX2_lowestPlaceFor 44 = .ok (.iload_n 2, 1) := by decide +kernel
theorem dX2_lowestPlaceFor_45 : decode cX2_lowestPlaceFor 45 = .ok (.ireturn, 1) := by decide +kernel
theorem dX2_lowestPlaceFor_46 : decode cX2_lowestPlaceFor 46 = .ok (.iinc 2 1, 3) := by decide +kernel
theorem dX2_lowestPlaceFor_49 : decode cX2_lowestPlaceFor 49 = .ok (.goto (-47), 3) := by decide +kernel
theorem dX2_lowestPlaceFor_52 : decode cX2_lowestPlaceFor 52 = .ok (.iconst (-1), 1) := by decide +kernel
theorem dX2_lowestPlaceFor_53 : decode cX2_lowestPlaceFor 53 = .ok (.ireturn, 1) := by decide +kernel
theorem dX2_startWork_0 : decode cX2_startWork 0 = .ok (.aload_n 1, 1) := by decide +kernel
theorem dX2_startWork_1 : decode cX2_startWork 1 = .ok (.iload_n 2, 1) := by decide +kernel
theorem dX2_startWork_2 : decode cX2_startWork 2 = .ok (.putfield 162, 3) := by decide +kernel
theorem dX2_startWork_5 : decode cX2_startWork 5 = .ok (.aload_n 1, 1) := by decide +kernel
theorem dX2_startWork_6 : decode cX2_startWork 6 = .ok (.aload_n 0, 1) := by decide +kernel
theorem dX2_startWork_7 : decode cX2_startWork 7 = .ok (.getfield 50, 3) := by decide +kernel
theorem dX2_startWork_10 : decode cX2_startWork 10 = .ok (.putfield 258, 3) := by decide +kernel
theorem dX2_startWork_13 : decode cX2_startWork 13 = .ok (.aload_n 1, 1) := by decide +kernel
theorem dX2_startWork_14 : decode cX2_startWork 14 = .ok (.iconst 1, 1) := by decide +kernel
theorem dX2_startWork_15 : decode cX2_startWork 15 = .ok (.putfield 191, 3) := by decide +kernel
theorem dX2_startWork_18 : decode cX2_startWork 18 = .ok (.aload_n 0, 1) := by decide +kernel
theorem dX2_startWork_19 : decode cX2_startWork 19 = .ok (.iconst 1, 1) := by decide +kernel
theorem dX2_startWork_20 : decode cX2_startWork 20 = .ok (.putfield 56, 3) := by decide +kernel
theorem dX2_startWork_23 : decode cX2_startWork 23 = .ok (.aload_n 0, 1) := by decide +kernel
theorem dX2_startWork_24 : decode cX2_startWork 24 = .ok (.aload_n 1, 1) := by decide +kernel
theorem dX2_startWork_25 : decode cX2_startWork 25 = .ok (.invokevirtual 261, 3) := by decide +kernel
theorem dX2_startWork_28 : decode cX2_startWork 28 = .ok (.return_, 1) := by decide +kernel
theorem dX2_countRefusal_0 : decode cX2_countRefusal 0 = .ok (.aload_n 1, 1) := by decide +kernel
theorem dX2_countRefusal_1 : decode cX2_countRefusal 1 = .ok (.dup, 1) := by decide +kernel
theorem dX2_countRefusal_2 : decode cX2_countRefusal 2 = .ok (.getfield 198, 3) := by decide +kernel
theorem dX2_countRefusal_5 : decode cX2_countRefusal 5 = .ok (.iconst 1, 1) := by decide +kernel
theorem dX2_countRefusal_6 : decode cX2_countRefusal 6 = .ok (.iadd, 1) := by decide +kernel
theorem dX2_countRefusal_7 : decode cX2_countRefusal 7 = .ok (.putfield 198, 3) := by decide +kernel
theorem dX2_countRefusal_10 : decode cX2_countRefusal 10 = .ok (.aload_n 0, 1) := by decide +kernel
theorem dX2_countRefusal_11 : decode cX2_countRefusal 11 = .ok (.getfield 29, 3) := by decide +kernel
theorem dX2_countRefusal_14 : decode cX2_countRefusal 14 = .ok (.aload_n 1, 1) := by decide +kernel
theorem dX2_countRefusal_15 : decode cX2_countRefusal 15 = .ok (.getfield 106, 3) := by decide +kernel
theorem dX2_countRefusal_18 : decode cX2_countRefusal 18 = .ok (.baload, 1) := by decide +kernel
theorem dX2_countRefusal_19 : decode cX2_countRefusal 19 = .ok (.ifCond .eq 8, 3) := by decide +kernel
theorem dX2_countRefusal_22 : decode cX2_countRefusal 22 = .ok (.aload_n 0, 1) := by decide +kernel
theorem dX2_countRefusal_23 : decode cX2_countRefusal 23 = .ok (.aload_n 1, 1) := by decide +kernel
theorem dX2_countRefusal_24 : decode cX2_countRefusal 24 = .ok (.invokevirtual 261, 3) := by decide +kernel
theorem dX2_countRefusal_27 : decode cX2_countRefusal 27 = .ok (.return_, 1) := by decide +kernel
theorem dX2_isOpen_0 : decode cX2_isOpen 0 = .ok (.aload_n 0, 1) := by decide +kernel
theorem dX2_isOpen_1 : decode cX2_isOpen 1 = .ok (.iload_n 1, 1) := by decide +kernel
theorem dX2_isOpen_2 : decode cX2_isOpen 2 = .ok (.invokevirtual 201, 3) := by decide +kernel
theorem dX2_isOpen_5 : decode cX2_isOpen 5 = .ok (.iconst (-1), 1) := by decide +kernel
theorem dX2_isOpen_6 : decode cX2_isOpen 6 = .ok (.if_icmp .ne 7, 3) := by decide +kernel
theorem dX2_isOpen_9 : decode cX2_isOpen 9 = .ok (.iconst 1, 1) := by decide +kernel
theorem dX2_isOpen_10 : decode cX2_isOpen 10 = .ok (.goto 4, 3) := by decide +kernel
theorem dX2_isOpen_13 : decode cX2_isOpen 13 = .ok (.iconst 0, 1) := by decide +kernel
theorem dX2_isOpen_14 : decode cX2_isOpen 14 = .ok (.ireturn, 1) := by decide +kernel
theorem dX2_holderOf_0 : decode cX2_holderOf 0 = .ok (.iconst 0, 1) := by decide +kernel
theorem dX2_holderOf_1 : decode cX2_holderOf 1 = .ok (.istore_n 2, 1) := by decide +kernel
theorem dX2_holderOf_2 : decode cX2_holderOf 2 = .ok (.iload_n 2, 1) := by decide +kernel
theorem dX2_holderOf_3 : decode cX2_holderOf 3 = .ok (.aload_n 0, 1) := by decide +kernel
theorem dX2_holderOf_4 : decode cX2_holderOf 4 = .ok (.getfield 10, 3) := by decide +kernel
theorem dX2_holderOf_7 : decode cX2_holderOf 7 = .ok (.invokevirtual 67, 3) := by decide +kernel
theorem dX2_holderOf_10 : decode cX2_holderOf 10 = .ok (.if_icmp .ge 42, 3) := by decide +kernel
theorem dX2_holderOf_13 : decode cX2_holderOf 13 = .ok (.aload_n 0, 1) := by decide +kernel
theorem dX2_holderOf_14 : decode cX2_holderOf 14 = .ok (.getfield 10, 3) := by decide +kernel
theorem dX2_holderOf_17 : decode cX2_holderOf 17 = .ok (.iload_n 2, 1) := by decide +kernel
theorem dX2_holderOf_18 : decode cX2_holderOf 18 = .ok (.invokevirtual 123, 3) := by decide +kernel
theorem dX2_holderOf_21 : decode cX2_holderOf 21 = .ok (.checkcast 78, 3) := by decide +kernel
theorem dX2_holderOf_24 : decode cX2_holderOf 24 = .ok (.getfield 162, 3) := by decide +kernel
theorem dX2_holderOf_27 : decode cX2_holderOf 27 = .ok (.iload_n 1, 1) := by decide +kernel
theorem dX2_holderOf_28 : decode cX2_holderOf 28 = .ok (.if_icmp .ne 18, 3) := by decide +kernel
theorem dX2_holderOf_31 : decode cX2_holderOf 31 = .ok (.aload_n 0, 1) := by decide +kernel
theorem dX2_holderOf_32 : decode cX2_holderOf 32 = .ok (.getfield 10, 3) := by decide +kernel
theorem dX2_holderOf_35 : decode cX2_holderOf 35 = .ok (.iload_n 2, 1) := by decide +kernel
theorem dX2_holderOf_36 : decode cX2_holderOf 36 = .ok (.invokevirtual 123, 3) := by decide +kernel
theorem dX2_holderOf_39 : decode cX2_holderOf 39 = .ok (.checkcast 78, 3) := by decide +kernel
theorem dX2_holderOf_42 : decode cX2_holderOf 42 = .ok (.getfield 87, 3) := by decide +kernel
theorem dX2_holderOf_45 : decode cX2_holderOf 45 = .ok (.ireturn, 1) := by decide +kernel
theorem dX2_holderOf_46 : decode cX2_holderOf 46 = .ok (.iinc 2 1, 3) := by decide +kernel
theorem dX2_holderOf_49 : decode cX2_holderOf 49 = .ok (.goto (-47), 3) := by decide +kernel
theorem dX2_holderOf_52 : decode cX2_holderOf 52 = .ok (.iconst (-1), 1) := by decide +kernel
theorem dX2_holderOf_53 : decode cX2_holderOf 53 = .ok (.ireturn, 1) := by decide +kernel
theorem dX2_hoursOwed_0 : decode cX2_hoursOwed 0 = .ok (.aload_n 0, 1) := by decide +kernel
theorem dX2_hoursOwed_1 : decode cX2_hoursOwed 1 = .ok (.getfield 33, 3) := by decide +kernel
theorem dX2_hoursOwed_4 : decode cX2_hoursOwed 4 = .ok (.aload_n 1, 1) := by decide +kernel
theorem dX2_hoursOwed_5 : decode cX2_hoursOwed 5 = .ok (.getfield 106, 3) := by decide +kernel
theorem dX2_hoursOwed_8 : decode cX2_hoursOwed 8 = .ok (.iaload, 1) := by decide +kernel
theorem dX2_hoursOwed_9 : decode cX2_hoursOwed 9 = .ok (.aload_n 1, 1) := by decide +kernel
theorem dX2_hoursOwed_10 : decode cX2_hoursOwed 10 = .ok (.getfield 100, 3) := by decide +kernel
theorem dX2_hoursOwed_13 : decode cX2_hoursOwed 13 = .ok (.isub, 1) := by decide +kernel
theorem dX2_hoursOwed_14 : decode cX2_hoursOwed 14 = .ok (.istore_n 2, 1) := by decide +kernel
theorem dX2_hoursOwed_15 : decode cX2_hoursOwed 15 = .ok (.aload_n 1, 1) := by decide +kernel
theorem dX2_hoursOwed_16 : decode cX2_hoursOwed 16 = .ok (.getfield 109, 3) := by decide +kernel
theorem dX2_hoursOwed_19 : decode cX2_hoursOwed 19 = .ok (.ifCond .ne 15, 3) := by decide +kernel
theorem dX2_hoursOwed_22 : decode cX2_hoursOwed 22 = .ok (.aload_n 1, 1) := by decide +kernel
theorem dX2_hoursOwed_23 : decode cX2_hoursOwed 23 = .ok (.getfield 198, 3) := by decide +kernel
theorem dX2_hoursOwed_26 : decode cX2_hoursOwed 26 = .ok (.iconst 3, 1) := by decide +kernel
theorem dX2_hoursOwed_27 : decode cX2_hoursOwed 27 = .ok (.if_icmp .ge 7, 3) := by decide +kernel
theorem dX2_hoursOwed_30 : decode cX2_hoursOwed 30 = .ok (.iconst 1, 1) := by decide +kernel
theorem dX2_hoursOwed_31 : decode cX2_hoursOwed 31 = .ok (.goto 4, 3) := by decide +kernel
theorem dX2_hoursOwed_34 : decode cX2_hoursOwed 34 = .ok (.iconst 0, 1) := by decide +kernel
theorem dX2_hoursOwed_35 : decode cX2_hoursOwed 35 = .ok (.istore_n 3, 1) := by decide +kernel
theorem dX2_hoursOwed_36 : decode cX2_hoursOwed 36 = .ok (.iload_n 3, 1) := by decide +kernel
theorem dX2_hoursOwed_37 : decode cX2_hoursOwed 37 = .ok (.ifCond .eq 11, 3) := by decide +kernel
theorem dX2_hoursOwed_40 : decode cX2_hoursOwed 40 = .ok (.iload_n 2, 1) := by decide +kernel
theorem dX2_hoursOwed_41 : decode cX2_hoursOwed 41 = .ok (.ifCond .le 7, 3) := by decide +kernel
theorem dX2_hoursOwed_44 : decode cX2_hoursOwed 44 = .ok (.iload_n 2, 1) := by decide +kernel
theorem dX2_hoursOwed_45 : decode cX2_hoursOwed 45 = .ok (.goto 4, 3) := by decide +kernel
theorem dX2_hoursOwed_48 : decode cX2_hoursOwed 48 = .ok (.iconst 0, 1) := by decide +kernel
theorem dX2_hoursOwed_49 : decode cX2_hoursOwed 49 = .ok (.ireturn, 1) := by decide +kernel
theorem dX3_init_0 : decode cX3_init 0 = .ok (.aload_n 0, 1) := by decide +kernel
theorem dX3_init_1 : decode cX3_init 1 = .ok (.invokespecial 1, 3) := by decide +kernel
theorem dX3_init_4 : decode cX3_init 4 = .ok (.aload_n 0, 1) := by decide +kernel
theorem dX3_init_5 : decode cX3_init 5 = .ok (.bipush 30, 2) := by decide +kernel
theorem dX3_init_7 : decode cX3_init 7 = .ok (.newarray .int, 2) := by decide +kernel
theorem dX3_init_9 : decode cX3_init 9 = .ok (.putfield 7, 3) := by decide +kernel
theorem dX3_init_12 : decode cX3_init 12 = .ok (.aload_n 0, 1) := by decide +kernel
theorem dX3_init_13 : decode cX3_init 13 = .ok (.bipush 30, 2) := by decide +kernel
theorem dX3_init_15 : decode cX3_init 15 = .ok (.newarray .int, 2) := by decide +kernel
theorem dX3_init_17 : decode cX3_init 17 = .ok (.putfield 13, 3) := by decide +kernel
theorem dX3_init_20 : decode cX3_init 20 = .ok (.aload_n 0, 1) := by decide +kernel
theorem dX3_init_21 : decode cX3_init 21 = .ok (.bipush 30, 2) := by decide +kernel
theorem dX3_init_23 : decode cX3_init 23 = .ok (.newarray .int, 2) := by decide +kernel
theorem dX3_init_25 : decode cX3_init 25 = .ok (.putfield 16, 3) := by decide +kernel
theorem dX3_init_28 : decode cX3_init 28 = .ok (.aload_n 0, 1) := by decide +kernel
theorem dX3_init_29 : decode cX3_init 29 = .ok (.bipush 30, 2) := by decide +kernel
theorem dX3_init_31 : decode cX3_init 31 = .ok (.newarray .int, 2) := by decide +kernel
theorem dX3_init_33 : decode cX3_init 33 = .ok (.putfield 19, 3) := by decide +kernel
theorem dX3_init_36 : decode cX3_init 36 = .ok (.aload_n 0, 1) := by decide +kernel
theorem dX3_init_37 : decode cX3_init 37 = .ok (.bipush 30, 2) := by decide +kernel
theorem dX3_init_39 : decode cX3_init 39 = .ok (.newarray .boolean, 2) := by decide +kernel
theorem dX3_init_41 : decode cX3_init 41 = .ok (.putfield 22, 3) := by decide +kernel
theorem dX3_init_44 : decode cX3_init 44 = .ok (.aload_n 0, 1) := by decide +kernel
theorem dX3_init_45 : decode cX3_init 45 = .ok (.bipush 30, 2) := by decide +kernel
theorem dX3_init_47 : decode cX3_init 47 = .ok (.newarray .boolean, 2) := by decide +kernel
theorem dX3_init_49 : decode cX3_init 49 = .ok (.putfield 26, 3) := by decide +kernel
theorem dX3_init_52 : decode cX3_init 52 = .ok (.aload_n 0, 1) := by decide +kernel
theorem dX3_init_53 : decode cX3_init 53 = .ok (.bipush 30, 2) := by decide +kernel
theorem dX3_init_55 : decode cX3_init 55 = .ok (.newarray .boolean, 2) := by decide +kernel
theorem dX3_init_57 : decode cX3_init 57 = .ok (.putfield 29, 3) := by decide +kernel
theorem dX3_init_60 : decode cX3_init 60 = .ok (.aload_n 0, 1) := by decide +kernel
theorem dX3_init_61 : decode cX3_init 61 = .ok (.bipush 30, 2) := by decide +kernel
theorem dX3_init_63 : decode cX3_init 63 = .ok (.newarray .int, 2) := by decide +kernel
theorem dX3_init_65 : decode cX3_init 65 = .ok (.putfield 32, 3) := by decide +kernel
theorem dX3_init_68 : decode cX3_init 68 = .ok (.aload_n 0, 1) := by decide +kernel
theorem dX3_init_69 : decode cX3_init 69 = .ok (.bipush 30, 2) := by decide +kernel
theorem dX3_init_71 : decode cX3_init 71 = .ok (.newarray .int, 2) := by decide +kernel
theorem dX3_init_73 : decode cX3_init 73 = .ok (.putfield 35, 3) := by decide +kernel
theorem dX3_init_76 : decode cX3_init 76 = .ok (.aload_n 0, 1) := by decide +kernel
theorem dX3_init_77 : decode cX3_init 77 = .ok (.bipush 30, 2) := by decide +kernel
theorem dX3_init_79 : decode cX3_init 79 = .ok (.newarray .int, 2) := by decide +kernel
theorem dX3_init_81 : decode cX3_init 81 = .ok (.putfield 38, 3) := by decide +kernel
theorem dX3_init_84 : decode cX3_init 84 = .ok (.aload_n 0, 1) := by decide +kernel
theorem dX3_init_85 : decode cX3_init 85 = .ok (.bipush 30, 2) := by decide +kernel
theorem dX3_init_87 : decode cX3_init 87 = .ok (.newarray .int, 2) := by decide +kernel
theorem dX3_init_89 : decode cX3_init 89 = .ok (.putfield 41, 3) := by decide +kernel
theorem dX3_init_92 : decode cX3_init 92 = .ok (.aload_n 0, 1) := by decide +kernel
theorem dX3_init_93 : decode cX3_init 93 = .ok (.iconst 4, 1) := by decide +kernel
theorem dX3_init_94 : decode cX3_init 94 = .ok (.newarray .boolean, 2) := by decide +kernel
theorem dX3_init_96 : decode cX3_init 96 = .ok (.putfield 44, 3) := by decide +kernel
theorem dX3_init_99 : decode cX3_init 99 = .ok (.aload_n 0, 1) := by decide +kernel
theorem dX3_init_100 : decode cX3_init 100 = .ok (.iconst 4, 1) := by decide +kernel
theorem dX3_init_101 : decode cX3_init 101 = .ok (.newarray .int, 2) := by decide +kernel
theorem dX3_init_103 : decode cX3_init 103 = .ok (.putfield 47, 3) := by decide +kernel
theorem dX3_init_106 : decode cX3_init 106 = .ok (.aload_n 0, 1) := by decide +kernel
theorem dX3_init_107 : decode cX3_init 107 = .ok (.bipush 16, 2) := by decide +kernel
theorem dX3_init_109 : decode cX3_init 109 = .ok (.newarray .int, 2) := by decide +kernel
theorem dX3_init_111 : decode cX3_init 111 = .ok (.putfield 50, 3) := by decide +kernel
theorem dX3_init_114 : decode cX3_init 114 = .ok (.aload_n 0, 1) := by decide +kernel
theorem dX3_init_115 : decode cX3_init 115 = .ok (.bipush 16, 2) := by decide +kernel
theorem dX3_init_117 : decode cX3_init 117 = .ok (.newarray .int, 2) := by decide +kernel
theorem dX3_init_119 : decode cX3_init 119 = .ok (.putfield 53, 3) := by decide +kernel
theorem dX3_init_122 : decode cX3_init 122 = .ok (.aload_n 0, 1) := by decide +kernel
theorem dX3_init_123 : decode cX3_init 123 = .ok (.bipush 8, 2) := by decide +kernel
theorem dX3_init_125 : decode cX3_init 125 = .ok (.putfield 56, 3) := by decide +kernel
theorem dX3_init_128 : decode cX3_init 128 = .ok (.aload_n 0, 1) := by decide +kernel
theorem dX3_init_129 : decode cX3_init 129 = .ok (.bipush 30, 2) := by decide +kernel
theorem dX3_init_131 : decode cX3_init 131 = .ok (.newarray .int, 2) := by decide +kernel
theorem dX3_init_133 : decode cX3_init 133 = .ok (.putfield 60, 3) := by decide +kernel
theorem dX3_init_136 : decode cX3_init 136 = .ok (.aload_n 0, 1) := by decide +kernel
theorem dX3_init_137 : decode cX3_init 137 = .ok (.bipush 30, 2) := by decide +kernel
theorem dX3_init_139 : decode cX3_init 139 = .ok (.newarray .int, 2) := by decide +kernel
theorem dX3_init_141 : decode cX3_init 141 = .ok (.putfield 63, 3) := by decide +kernel
theorem dX3_init_144 : decode cX3_init 144 = .ok (.aload_n 0, 1) := by decide +kernel
theorem dX3_init_145 : decode cX3_init 145 = .ok (.iconst 5, 1) := by decide +kernel
theorem dX3_init_146 : decode cX3_init 146 = .ok (.newarray .int, 2) := by decide +kernel
theorem dX3_init_148 : decode cX3_init 148 = .ok (.putfield 66, 3) := by decide +kernel
theorem dX3_init_151 : decode cX3_init 151 = .ok (.iconst 0, 1) := by decide +kernel
theorem dX3_init_152 : decode cX3_init 152 = .ok (.istore_n 1, 1) := by decide +kernel
theorem dX3_init_153 : decode cX3_init 153 = .ok (.iload_n 1, 1) := by decide +kernel
theorem dX3_init_154 : decode cX3_init 154 = .ok (.bipush 30, 2) := by decide +kernel
theorem dX3_init_156 : decode cX3_init 156 = .ok (.if_icmp .ge 16, 3) := by decide +kernel
theorem dX3_init_159 : decode cX3_init 159 = .ok (.aload_n 0, 1) := by decide +kernel
theorem dX3_init_160 : decode cX3_init 160 = .ok (.getfield 7, 3) := by decide +kernel
theorem dX3_init_163 : decode cX3_init 163 = .ok (.iload_n 1, 1) := by decide +kernel
theorem dX3_init_164 : decode cX3_init 164 = .ok (.iconst (-1), 1) := by decide +kernel
theorem dX3_init_165 : decode cX3_init 165 = .ok (.iastore, 1) := by decide +kernel
theorem dX3_init_166 : decode cX3_init 166 = .ok (.iinc 1 1, 3) := by decide +kernel
theorem dX3_init_169 : decode cX3_init 169 = .ok (.goto (-16), 3) := by decide +kernel
theorem dX3_init_172 : decode cX3_init 172 = .ok (.return_, 1) := by decide +kernel
theorem dX3_thrown_0 : decode cX3_thrown 0 = .ok (.aload_n 0, 1) := by decide +kernel
theorem dX3_thrown_1 : decode cX3_thrown 1 = .ok (.getfield 69, 3) := by decide +kernel
theorem dX3_thrown_4 : decode cX3_thrown 4 = .ok (.ireturn, 1) := by decide +kernel
theorem dX3_in_0 : decode cX3_in 0 = .ok (.iload_n 0, 1) := by decide +kernel
theorem dX3_in_1 : decode cX3_in 1 = .ok (.iload_n 1, 1) := by decide +kernel
theorem dX3_in_2 : decode cX3_in 2 = .ok (.if_icmp .lt 12, 3) := by decide +kernel
theorem dX3_in_5 : decode cX3_in 5 = .ok (.iload_n 0, 1) := by decide +kernel
theorem dX3_in_6 : decode cX3_in 6 = .ok (.iload_n 2, 1) := by decide +kernel
theorem dX3_in_7 : decode cX3_in 7 = .ok (.if_icmp .gt 7, 3) := by decide +kernel
theorem dX3_in_10 : decode cX3_in 10 = .ok (.iconst 1, 1) := by decide +kernel
theorem dX3_in_11 : decode cX3_in 11 = .ok (.goto 4, 3) := by decide +kernel
theorem dX3_in_14 : decode cX3_in 14 = .ok (.iconst 0, 1) := by decide +kernel
theorem dX3_in_15 : decode cX3_in 15 = .ok (.ireturn, 1) := by decide +kernel
theorem dX3_goes_0 : decode cX3_goes 0 = .ok (.aload_n 0, 1) := by decide +kernel
theorem dX3_goes_1 : decode cX3_goes 1 = .ok (.iload_n 1, 1) := by decide +kernel
theorem dX3_goes_2 : decode cX3_goes 2 = .ok (.ifCond .ne 7, 3) := by decide +kernel
theorem dX3_goes_5 : decode cX3_goes 5 = .ok (.iconst 1, 1) := by decide +kernel
theorem dX3_goes_6 : decode cX3_goes 6 = .ok (.goto 20, 3) := by decide +kernel
theorem dX3_goes_9 : decode cX3_goes 9 = .ok (.iload_n 2, 1) := by decide +kernel
theorem dX3_goes_10 : decode cX3_goes 10 = .ok (.ifCond .ne 7, 3) := by decide +kernel
theorem dX3_goes_13 : decode cX3_goes 13 = .ok (.iconst 2, 1) := by decide +kernel
theorem dX3_goes_14 : decode cX3_goes 14 = .ok (.goto 12, 3) := by decide +kernel
theorem dX3_goes_17 : decode cX3_goes 17 = .ok (.iload_n 3, 1) := by decide +kernel
theorem dX3_goes_18 : decode cX3_goes 18 = .ok (.ifCond .eq 7, 3) := by decide +kernel
theorem dX3_goes_21 : decode cX3_goes 21 = .ok (.iconst 0, 1) := by decide +kernel
theorem dX3_goes_22 : decode cX3_goes 22 = .ok (.goto 4, 3) := by decide +kernel
theorem dX3_goes_25 : decode cX3_goes 25 = .ok (.iconst 3, 1) := by decide +kernel
theorem dX3_goes_26 : decode cX3_goes 26 = .ok (.putfield 69, 3) := by decide +kernel
theorem dX3_goes_29 : decode cX3_goes 29 = .ok (.aload_n 0, 1) := by decide +kernel
theorem dX3_goes_30 : decode cX3_goes 30 = .ok (.getfield 69, 3) := by decide +kernel
theorem dX3_goes_33 : decode cX3_goes 33 = .ok (.ifCond .ne 7, 3) := by decide +kernel
theorem dX3_goes_36 : decode cX3_goes 36 = .ok (.iconst 1, 1) := by decide +kernel
theorem dX3_goes_37 : decode cX3_goes 37 = .ok (.goto 4, 3) := by decide +kernel
theorem dX3_goes_40 : decode cX3_goes 40 = .ok (.iconst 0, 1) := by decide +kernel
theorem dX3_goes_41 : decode cX3_goes 41 = .ok (.ireturn, 1) := by decide +kernel
theorem dX3_isBoard_0 : decode cX3_isBoard 0 = .ok (.iload_n 0, 1) := by decide +kernel
theorem dX3_isBoard_1 : decode cX3_isBoard 1 = .ok (.iconst 0, 1) := by decide +kernel
theorem dX3_isBoard_2 : decode cX3_isBoard 2 = .ok (.iconst 3, 1) := by decide +kernel
theorem dX3_isBoard_3 : decode cX3_isBoard 3 = .ok (.invokestatic 72, 3) := by decide +kernel
theorem dX3_isBoard_6 : decode cX3_isBoard 6 = .ok (.ireturn, 1) := by decide +kernel
theorem dX3_kept_0 : decode cX3_kept 0 = .ok (.iconst 0, 1) := by decide +kernel
theorem dX3_kept_1 : decode cX3_kept 1 = .ok (.istore_n 2, 1) := by decide +kernel
theorem dX3_kept_2 : decode cX3_kept 2 = .ok (.iload_n 2, 1) := by decide +kernel
theorem dX3_kept_3 : decode cX3_kept 3 = .ok (.bipush 30, 2) := by decide +kernel
theorem dX3_kept_5 : decode cX3_kept 5 = .ok (.if_icmp .ge 25, 3) := by decide +kernel
theorem dX3_kept_8 : decode cX3_kept 8 = .ok (.iload_n 1, 1) := by decide +kernel
theorem dX3_kept_9 : decode cX3_kept 9 = .ok (.ifCond .lt 15, 3) := by decide +kernel
theorem dX3_kept_12 : decode cX3_kept 12 = .ok (.aload_n 0, 1) := by decide +kernel
theorem dX3_kept_13 : decode cX3_kept 13 = .ok (.getfield 7, 3) := by decide +kernel
theorem dX3_kept_16 : decode cX3_kept 16 = .ok (.iload_n 2, 1) := by decide +kernel
theorem dX3_kept_17 : decode cX3_kept 17 = .ok (.iaload, 1) := by decide +kernel
theorem dX3_kept_18 : decode cX3_kept 18 = .ok (.iload_n 1, 1) := by decide +kernel
theorem dX3_kept_19 : decode cX3_kept 19 = .ok (.if_icmp .ne 5, 3) := by decide +kernel
theorem dX3_kept_22 : decode cX3_kept 22 = .ok (.iload_n 2, 1) := by decide +kernel
theorem dX3_kept_23 : decode cX3_kept 23 = .ok (.ireturn, 1) := by decide +kernel
theorem dX3_kept_24 : decode cX3_kept 24 = .ok (.iinc 2 1, 3) := by decide +kernel
theorem dX3_kept_27 : decode cX3_kept 27 = .ok (.goto (-25), 3) := by decide +kernel
theorem dX3_kept_30 : decode cX3_kept 30 = .ok (.iconst (-1), 1) := by decide +kernel
theorem dX3_kept_31 : decode cX3_kept 31 = .ok (.ireturn, 1) := by decide +kernel
theorem dX3_count_0 : decode cX3_count 0 = .ok (.iconst 0, 1) := by decide +kernel
theorem dX3_count_1 : decode cX3_count 1 = .ok (.istore_n 1, 1) := by decide +kernel
theorem dX3_count_2 : decode cX3_count 2 = .ok (.iconst 0, 1) := by decide +kernel
theorem dX3_count_3 : decode cX3_count 3 = .ok (.istore_n 2, 1) := by decide +kernel
theorem dX3_count_4 : decode cX3_count 4 = .ok (.iload_n 2, 1) := by decide +kernel
theorem dX3_count_5 : decode cX3_count 5 = .ok (.bipush 30, 2) := by decide +kernel
theorem dX3_count_7 : decode cX3_count 7 = .ok (.if_icmp .ge 27, 3) := by decide +kernel
theorem dX3_count_10 : decode cX3_count 10 = .ok (.iload_n 1, 1) := by decide +kernel
theorem dX3_count_11 : decode cX3_count 11 = .ok (.aload_n 0, 1) := by decide +kernel
theorem dX3_count_12 : decode cX3_count 12 = .ok (.getfield 7, 3) := by decide +kernel
theorem dX3_count_15 : decode cX3_count 15 = .ok (.iload_n 2, 1) := by decide +kernel
theorem dX3_count_16 : decode cX3_count 16 = .ok (.iaload, 1) := by decide +kernel
theorem dX3_count_17 : decode cX3_count 17 = .ok (.iconst (-1), 1) := by decide +kernel
theorem dX3_count_18 : decode cX3_count 18 = .ok (.if_icmp .ne 7, 3) := by decide +kernel
theorem dX3_count_21 : decode cX3_count 21 = .ok (.iconst 0, 1) := by decide +kernel
theorem dX3_count_22 : decode cX3_count 22 = .ok (.goto 4, 3) := by decide +kernel
theorem dX3_count_25 : decode cX3_count 25 = .ok (.iconst 1, 1) := by decide +kernel
theorem dX3_count_26 : decode cX3_count 26 = .ok (.iadd, 1) := by decide +kernel
theorem dX3_count_27 : decode cX3_count 27 = .ok (.istore_n 1, 1) := by decide +kernel
theorem dX3_count_28 : decode cX3_count 28 = .ok (.iinc 2 1, 3) := by decide +kernel
theorem dX3_count_31 : decode cX3_count 31 = .ok (.goto (-27), 3) := by decide +kernel
theorem dX3_count_34 : decode cX3_count 34 = .ok (.iload_n 1, 1) := by decide +kernel
theorem dX3_count_35 : decode cX3_count 35 = .ok (.ireturn, 1) := by decide +kernel
theorem dX3_lowers_0 : decode cX3_lowers 0 = .ok (.aload_n 0, 1) := by decide +kernel
theorem dX3_lowers_1 : decode cX3_lowers 1 = .ok (.dup, 1) := by decide +kernel
theorem dX3_lowers_2 : decode cX3_lowers 2 = .ok (.getfield 76, 3) := by decide +kernel
theorem dX3_lowers_5 : decode cX3_lowers 5 = .ok (.iconst 1, 1) := by decide +kernel
theorem dX3_lowers_6 : decode cX3_lowers 6 = .ok (.iadd, 1) := by decide +kernel
theorem dX3_lowers_7 : decode cX3_lowers 7 = .ok (.putfield 76, 3) := by decide +kernel
theorem dX3_lowers_10 : decode cX3_lowers 10 = .ok (.aload_n 0, 1) := by decide +kernel
theorem dX3_lowers_11 : decode cX3_lowers 11 = .ok (.getfield 16, 3) := by decide +kernel
theorem dX3_lowers_14 : decode cX3_lowers 14 = .ok (.iload_n 1, 1) := by decide +kernel
theorem dX3_lowers_15 : decode cX3_lowers 15 = .ok (.aload_n 0, 1) := by decide +kernel
theorem dX3_lowers_16 : decode cX3_lowers 16 = .ok (.getfield 76, 3) := by decide +kernel
theorem dX3_lowers_19 : decode cX3_lowers 19 = .ok (.iastore, 1) := by decide +kernel
theorem dX3_lowers_20 : decode cX3_lowers 20 = .ok (.return_, 1) := by decide +kernel
theorem dX3_isBefore_0 : decode cX3_isBefore 0 = .ok (.aload_n 0, 1) := by decide +kernel
theorem dX3_isBefore_1 : decode cX3_isBefore 1 = .ok (.getfield 13, 3) := by decide +kernel
theorem dX3_isBefore_4 : decode cX3_isBefore 4 = .ok (.iload_n 1, 1) := by decide +kernel
theorem dX3_isBefore_5 : decode cX3_isBefore 5 = .ok (.iaload, 1) := by decide +kernel
theorem dX3_isBefore_6 : decode cX3_isBefore 6 = .ok (.aload_n 0, 1) := by decide +kernel
theorem dX3_isBefore_7 : decode cX3_isBefore 7 = .ok (.getfield 13, 3) := by decide +kernel
theorem dX3_isBefore_10 : decode cX3_isBefore 10 = .ok (.iload_n 2, 1) := by decide +kernel
theorem dX3_isBefore_11 : decode cX3_isBefore 11 = .ok (.iaload, 1) := by decide +kernel
theorem dX3_isBefore_12 : decode cX3_isBefore 12 = .ok (.if_icmp .lt 33, 3) := by decide +kernel
theorem dX3_isBefore_15 : decode cX3_isBefore 15 = .ok (.aload_n 0, 1) := by decide +kernel
theorem dX3_isBefore_16 : decode cX3_isBefore 16 = .ok (.getfield 13, 3) := by decide +kernel
theorem dX3_isBefore_19 : decode cX3_isBefore 19 = .ok (.iload_n 1, 1) := by decide +kernel
theorem dX3_isBefore_20 : decode cX3_isBefore 20 = .ok (.iaload, 1) := by decide +kernel
theorem dX3_isBefore_21 : decode cX3_isBefore 21 = .ok (.aload_n 0, 1) := by decide +kernel
theorem dX3_isBefore_22 : decode cX3_isBefore 22 = .ok (.getfield 13, 3) := by decide +kernel
theorem dX3_isBefore_25 : decode cX3_isBefore 25 = .ok (.iload_n 2, 1) := by decide +kernel
theorem dX3_isBefore_26 : decode cX3_isBefore 26 = .ok (.iaload, 1) := by decide +kernel
theorem dX3_isBefore_27 : decode cX3_isBefore 27 = .ok (.if_icmp .ne 22, 3) := by decide +kernel
theorem dX3_isBefore_30 : decode cX3_isBefore 30 = .ok (.aload_n 0, 1) := by decide +kernel
theorem dX3_isBefore_31 : decode cX3_isBefore 31 = .ok (.getfield 16, 3) := by decide +kernel
theorem dX3_isBefore_34 : decode cX3_isBefore 34 = .ok (.iload_n 1, 1) := by decide +kernel
theorem dX3_isBefore_35 : decode cX3_isBefore 35 = .ok (.iaload, 1) := by decide +kernel
theorem dX3_isBefore_36 : decode cX3_isBefore 36 = .ok (.aload_n 0, 1) := by decide +kernel
theorem dX3_isBefore_37 : decode cX3_isBefore 37 = .ok (.getfield 16, 3) := by decide +kernel
theorem dX3_isBefore_40 : decode cX3_isBefore 40 = .ok (.iload_n 2, 1) := by decide +kernel
theorem dX3_isBefore_41 : decode cX3_isBefore 41 = .ok (.iaload, 1) := by decide +kernel
theorem dX3_isBefore_42 : decode cX3_isBefore 42 = .ok (.if_icmp .ge 7, 3) := by decide +kernel
theorem dX3_isBefore_45 : decode cX3_isBefore 45 = .ok (.iconst 1, 1) := by decide +kernel
theorem dX3_isBefore_46 : decode cX3_isBefore 46 = .ok (.goto 4, 3) := by decide +kernel
theorem dX3_isBefore_49 : decode cX3_isBefore 49 = .ok (.iconst 0, 1) := by decide +kernel
theorem dX3_isBefore_50 : decode cX3_isBefore 50 = .ok (.ireturn, 1) := by decide +kernel
theorem dX3_isReady_0 : decode cX3_isReady 0 = .ok (.aload_n 0, 1) := by decide +kernel
theorem dX3_isReady_1 : decode cX3_isReady 1 = .ok (.getfield 7, 3) := by decide +kernel
theorem dX3_isReady_4 : decode cX3_isReady 4 = .ok (.iload_n 1, 1) := by decide +kernel
theorem dX3_isReady_5 : decode cX3_isReady 5 = .ok (.iaload, 1) := by decide +kernel
theorem dX3_isReady_6 : decode cX3_isReady 6 = .ok (.iconst (-1), 1) := by decide +kernel
theorem dX3_isReady_7 : decode cX3_isReady 7 = .ok (.if_icmp .eq 35, 3) := by decide +kernel
theorem dX3_isReady_10 : decode cX3_isReady 10 = .ok (.aload_n 0, 1) := by decide +kernel
theorem dX3_isReady_11 : decode cX3_isReady 11 = .ok (.getfield 22, 3) := by decide +kernel
theorem dX3_isReady_14 : decode cX3_isReady 14 = .ok (.iload_n 1, 1) := by decide +kernel
theorem dX3_isReady_15 : decode cX3_isReady 15 = .ok (.baload, 1) := by decide +kernel
theorem dX3_isReady_16 : decode cX3_isReady 16 = .ok (.ifCond .ne 26, 3) := by decide +kernel
theorem dX3_isReady_19 : decode cX3_isReady 19 = .ok (.aload_n 0, 1) := by decide +kernel
theorem dX3_isReady_20 : decode cX3_isReady 20 = .ok (.getfield 32, 3) := by decide +kernel
theorem dX3_isReady_23 : decode cX3_isReady 23 = .ok (.iload_n 1, 1) := by decide +kernel
theorem dX3_isReady_24 : decode cX3_isReady 24 = .ok (.iaload, 1) := by decide +kernel
theorem dX3_isReady_25 : decode cX3_isReady 25 = .ok (.iconst (-1), 1) := by decide +kernel
theorem dX3_isReady_26 : decode cX3_isReady 26 = .ok (.if_icmp .ne 16, 3) := by decide +kernel
theorem dX3_isReady_29 : decode cX3_isReady 29 = .ok (.aload_n 0, 1) := by decide +kernel
theorem dX3_isReady_30 : decode cX3_isReady 30 = .ok (.getfield 29, 3) := by decide +kernel
theorem dX3_isReady_33 : decode cX3_isReady 33 = .ok (.iload_n 1, 1) := by decide +kernel
theorem dX3_isReady_34 : decode cX3_isReady 34 = .ok (.baload, 1) := by decide +kernel
theorem dX3_isReady_35 : decode cX3_isReady 35 = .ok (.ifCond .ne 7, 3) := by decide +kernel
theorem dX3_isReady_38 : decode cX3_isReady 38 = .ok (.iconst 1, 1) := by decide +kernel
theorem dX3_isReady_39 : decode cX3_isReady 39 = .ok (.goto 4, 3) := by decide +kernel
theorem dX3_isReady_42 : decode cX3_isReady 42 = .ok (.iconst 0, 1) := by decide +kernel
theorem dX3_isReady_43 : decode cX3_isReady 43 = .ok (.ireturn, 1) := by decide +kernel
theorem dX3_lineUp_0 : decode cX3_lineUp 0 = .ok (.iconst 0, 1) := by decide +kernel
theorem dX3_lineUp_1 : decode cX3_lineUp 1 = .ok (.istore_n 1, 1) := by decide +kernel
theorem dX3_lineUp_2 : decode cX3_lineUp 2 = .ok (.iconst 0, 1) := by decide +kernel
theorem dX3_lineUp_3 : decode cX3_lineUp 3 = .ok (.istore_n 2, 1) := by decide +kernel
theorem dX3_lineUp_4 : decode cX3_lineUp 4 = .ok (.iload_n 2, 1) := by decide +kernel
theorem dX3_lineUp_5 : decode cX3_lineUp 5 = .ok (.bipush 30, 2) := by decide +kernel
theorem dX3_lineUp_7 : decode cX3_lineUp 7 = .ok (.if_icmp .ge 71, 3) := by decide +kernel
theorem dX3_lineUp_10 : decode cX3_lineUp 10 = .ok (.aload_n 0, 1) := by decide +kernel
theorem dX3_lineUp_11 : decode cX3_lineUp 11 = .ok (.getfield 7, 3) := by decide +kernel
theorem dX3_lineUp_14 : decode cX3_lineUp 14 = .ok (.iload_n 2, 1) := by decide +kernel
theorem dX3_lineUp_15 : decode cX3_lineUp 15 = .ok (.iaload, 1) := by decide +kernel
theorem dX3_lineUp_16 : decode cX3_lineUp 16 = .ok (.iconst (-1), 1) := by decide +kernel
theorem dX3_lineUp_17 : decode cX3_lineUp 17 = .ok (.if_icmp .eq 55, 3) := by decide +kernel
theorem dX3_lineUp_20 : decode cX3_lineUp 20 = .ok (.iload_n 1, 1) := by decide +kernel
theorem dX3_lineUp_21 : decode cX3_lineUp 21 = .ok (.istore_n 3, 1) := by decide +kernel
theorem dX3_lineUp_22 : decode cX3_lineUp 22 = .ok (.iload_n 3, 1) := by decide +kernel
theorem dX3_lineUp_23 : decode cX3_lineUp 23 = .ok (.ifCond .le 39, 3) := by decide +kernel
theorem dX3_lineUp_26 : decode cX3_lineUp 26 = .ok (.aload_n 0, 1) := by decide +kernel
theorem dX3_lineUp_27 : decode cX3_lineUp 27 = .ok (.iload_n 2, 1) := by decide +kernel
end
section
theorem dX3_lineUp_28 : decode cX3_lineUp 28 = .ok (.aload_n 0, 1) := by decide +kernel
theorem dX3_lineUp_29 : decode cX3_lineUp 29 = .ok (.getfield 60, 3) := by decide +kernel
theorem dX3_lineUp_32 : decode cX3_lineUp 32 = .ok (.iload_n 3, 1) := by decide +kernel
theorem dX3_lineUp_33 : decode cX3_lineUp 33 = .ok (.iconst 1, 1) := by decide +kernel
theorem dX3_lineUp_34 : decode cX3_lineUp 34 = .ok (.isub, 1) := by decide +kernel
theorem dX3_lineUp_35 : decode cX3_lineUp 35 = .ok (.iaload, 1) := by decide +kernel
theorem dX3_lineUp_36 : decode cX3_lineUp 36 = .ok (.invokevirtual 79, 3) := by decide +kernel
theorem dX3_lineUp_39 : decode cX3_lineUp 39 = .ok (.ifCond .eq 23, 3) := by decide +kernel
theorem dX3_lineUp_42 : decode cX3_lineUp 42 = .ok (.aload_n 0, 1) := by decide +kernel
theorem dX3_lineUp_43 : decode cX3_lineUp 43 = .ok (.getfield 60, 3) := by decide +kernel
theorem dX3_lineUp_46 : decode cX3_lineUp 46 = .ok (.iload_n 3, 1) := by decide +kernel
theorem dX3_lineUp_47 : decode cX3_lineUp 47 = .ok (.aload_n 0, 1) := by decide +kernel
theorem dX3_lineUp_48 : decode cX3_lineUp 48 = .ok (.getfield 60, 3) := by decide +kernel
theorem dX3_lineUp_51 : decode cX3_lineUp 51 = .ok (.iload_n 3, 1) := by decide +kernel
theorem dX3_lineUp_52 : decode cX3_lineUp 52 = .ok (.iconst 1, 1) := by decide +kernel
theorem dX3_lineUp_53 : decode cX3_lineUp 53 = .ok (.isub, 1) := by decide +kernel
theorem dX3_lineUp_54 : decode cX3_lineUp 54 = .ok (.iaload, 1) := by decide +kernel
theorem dX3_lineUp_55 : decode cX3_lineUp 55 = .ok (.iastore, 1) := by decide +kernel
theorem dX3_lineUp_56 : decode cX3_lineUp 56 = .ok (.iinc 3 (-1), 3) := by decide +kernel
theorem dX3_lineUp_59 : decode cX3_lineUp 59 = .ok (.goto (-37), 3) := by decide +kernel
theorem dX3_lineUp_62 : decode cX3_lineUp 62 = .ok (.aload_n 0, 1) := by decide +kernel
theorem dX3_lineUp_63 : decode cX3_lineUp 63 = .ok (.getfield 60, 3) := by decide +kernel
theorem dX3_lineUp_66 : decode cX3_lineUp 66 = .ok (.iload_n 3, 1) := by decide +kernel
theorem dX3_lineUp_67 : decode cX3_lineUp 67 = .ok (.iload_n 2, 1) := by decide +kernel
theorem dX3_lineUp_68 : decode cX3_lineUp 68 = .ok (.iastore, 1) := by decide +kernel
theorem dX3_lineUp_69 : decode cX3_lineUp 69 = .ok (.iinc 1 1, 3) := by decide +kernel
theorem dX3_lineUp_72 : decode cX3_lineUp 72 = .ok (.iinc 2 1, 3) := by decide +kernel
theorem dX3_lineUp_75 : decode cX3_lineUp 75 = .ok (.goto (-71), 3) := by decide +kernel
theorem dX3_lineUp_78 : decode cX3_lineUp 78 = .ok (.iload_n 1, 1) := by decide +kernel
theorem dX3_lineUp_79 : decode cX3_lineUp 79 = .ok (.ireturn, 1) := by decide +kernel
theorem dX3_signOn_0 : decode cX3_signOn 0 = .ok (.aload_n 0, 1) := by decide +kernel
theorem dX3_signOn_1 : decode cX3_signOn 1 = .ok (.iload_n 1, 1) := by decide +kernel
theorem dX3_signOn_2 : decode cX3_signOn 2 = .ok (.invokestatic 83, 3) := by decide +kernel
theorem dX3_signOn_5 : decode cX3_signOn 5 = .ok (.ifCond .eq 17, 3) := by decide +kernel
theorem dX3_signOn_8 : decode cX3_signOn 8 = .ok (.iload_n 2, 1) := by decide +kernel
theorem dX3_signOn_9 : decode cX3_signOn 9 = .ok (.iconst 0, 1) := by decide +kernel
theorem dX3_signOn_10 : decode cX3_signOn 10 = .ok (.bipush 31, 2) := by decide +kernel
theorem dX3_signOn_12 : decode cX3_signOn 12 = .ok (.invokestatic 72, 3) := by decide +kernel
theorem dX3_signOn_15 : decode cX3_signOn 15 = .ok (.ifCond .eq 7, 3) := by decide +kernel
theorem dX3_signOn_18 : decode cX3_signOn 18 = .ok (.iconst 1, 1) := by decide +kernel
theorem dX3_signOn_19 : decode cX3_signOn 19 = .ok (.goto 4, 3) := by decide +kernel
theorem dX3_signOn_22 : decode cX3_signOn 22 = .ok (.iconst 0, 1) := by decide +kernel
theorem dX3_signOn_23 : decode cX3_signOn 23 = .ok (.aload_n 0, 1) := by decide +kernel
theorem dX3_signOn_24 : decode cX3_signOn 24 = .ok (.invokevirtual 87, 3) := by decide +kernel
theorem dX3_signOn_27 : decode cX3_signOn 27 = .ok (.bipush 30, 2) := by decide +kernel
theorem dX3_signOn_29 : decode cX3_signOn 29 = .ok (.if_icmp .ge 7, 3) := by decide +kernel
theorem dX3_signOn_32 : decode cX3_signOn 32 = .ok (.iconst 1, 1) := by decide +kernel
theorem dX3_signOn_33 : decode cX3_signOn 33 = .ok (.goto 4, 3) := by decide +kernel
theorem dX3_signOn_36 : decode cX3_signOn 36 = .ok (.iconst 0, 1) := by decide +kernel
theorem dX3_signOn_37 : decode cX3_signOn 37 = .ok (.iconst 1, 1) := by decide +kernel
theorem dX3_signOn_38 : decode cX3_signOn 38 = .ok (.invokevirtual 91, 3) := by decide +kernel
theorem dX3_signOn_41 : decode cX3_signOn 41 = .ok (.ifCond .ne 5, 3) := by decide +kernel
theorem dX3_signOn_44 : decode cX3_signOn 44 = .ok (.iconst 0, 1) := by decide +kernel
theorem dX3_signOn_45 : decode cX3_signOn 45 = .ok (.ireturn, 1) := by decide +kernel
theorem dX3_signOn_46 : decode cX3_signOn 46 = .ok (.iconst 0, 1) := by decide +kernel
theorem dX3_signOn_47 : decode cX3_signOn 47 = .ok (.istore_n 3, 1) := by decide +kernel
theorem dX3_signOn_48 : decode cX3_signOn 48 = .ok (.aload_n 0, 1) := by decide +kernel
theorem dX3_signOn_49 : decode cX3_signOn 49 = .ok (.getfield 7, 3) := by decide +kernel
theorem dX3_signOn_52 : decode cX3_signOn 52 = .ok (.iload_n 3, 1) := by decide +kernel
theorem dX3_signOn_53 : decode cX3_signOn 53 = .ok (.iaload, 1) := by decide +kernel
theorem dX3_signOn_54 : decode cX3_signOn 54 = .ok (.iconst (-1), 1) := by decide +kernel
theorem dX3_signOn_55 : decode cX3_signOn 55 = .ok (.if_icmp .eq 9, 3) := by decide +kernel
theorem dX3_signOn_58 : decode cX3_signOn 58 = .ok (.iinc 3 1, 3) := by decide +kernel
theorem dX3_signOn_61 : decode cX3_signOn 61 = .ok (.goto (-13), 3) := by decide +kernel
theorem dX3_signOn_64 : decode cX3_signOn 64 = .ok (.aload_n 0, 1) := by decide +kernel
theorem dX3_signOn_65 : decode cX3_signOn 65 = .ok (.getfield 7, 3) := by decide +kernel
theorem dX3_signOn_68 : decode cX3_signOn 68 = .ok (.iload_n 3, 1) := by decide +kernel
theorem dX3_signOn_69 : decode cX3_signOn 69 = .ok (.aload_n 0, 1) := by decide +kernel
theorem dX3_signOn_70 : decode cX3_signOn 70 = .ok (.getfield 95, 3) := by decide +kernel
theorem dX3_signOn_73 : decode cX3_signOn 73 = .ok (.iastore, 1) := by decide +kernel
theorem dX3_signOn_74 : decode cX3_signOn 74 = .ok (.aload_n 0, 1) := by decide +kernel
theorem dX3_signOn_75 : decode cX3_signOn 75 = .ok (.getfield 13, 3) := by decide +kernel
theorem dX3_signOn_78 : decode cX3_signOn 78 = .ok (.iload_n 3, 1) := by decide +kernel
theorem dX3_signOn_79 : decode cX3_signOn 79 = .ok (.iload_n 1, 1) := by decide +kernel
theorem dX3_signOn_80 : decode cX3_signOn 80 = .ok (.iastore, 1) := by decide +kernel
theorem dX3_signOn_81 : decode cX3_signOn 81 = .ok (.aload_n 0, 1) := by decide +kernel
theorem dX3_signOn_82 : decode cX3_signOn 82 = .ok (.getfield 19, 3) := by decide +kernel
theorem dX3_signOn_85 : decode cX3_signOn 85 = .ok (.iload_n 3, 1) := by decide +kernel
theorem dX3_signOn_86 : decode cX3_signOn 86 = .ok (.iload_n 2, 1) := by decide +kernel
theorem dX3_signOn_87 : decode cX3_signOn 87 = .ok (.iastore, 1) := by decide +kernel
theorem dX3_signOn_88 : decode cX3_signOn 88 = .ok (.aload_n 0, 1) := by decide +kernel
theorem dX3_signOn_89 : decode cX3_signOn 89 = .ok (.getfield 22, 3) := by decide +kernel
theorem dX3_signOn_92 : decode cX3_signOn 92 = .ok (.iload_n 3, 1) := by decide +kernel
theorem dX3_signOn_93 : decode cX3_signOn 93 = .ok (.iconst 0, 1) := by decide +kernel
theorem dX3_signOn_94 : decode cX3_signOn 94 = .ok (.bastore, 1) := by decide +kernel
theorem dX3_signOn_95 : decode cX3_signOn 95 = .ok (.aload_n 0, 1) := by decide +kernel
theorem dX3_signOn_96 : decode cX3_signOn 96 = .ok (.getfield 26, 3) := by decide +kernel
theorem dX3_signOn_99 : decode cX3_signOn 99 = .ok (.iload_n 3, 1) := by decide +kernel
theorem dX3_signOn_100 : decode cX3_signOn 100 = .ok (.iconst 0, 1) := by decide +kernel
theorem dX3_signOn_101 : decode cX3_signOn 101 = .ok (.bastore, 1) := by decide +kernel
theorem dX3_signOn_102 : decode cX3_signOn 102 = .ok (.aload_n 0, 1) := by decide +kernel
theorem dX3_signOn_103 : decode cX3_signOn 103 = .ok (.getfield 29, 3) := by decide +kernel
theorem dX3_signOn_106 : decode cX3_signOn 106 = .ok (.iload_n 3, 1) := by decide +kernel
theorem dX3_signOn_107 : decode cX3_signOn 107 = .ok (.iconst 0, 1) := by decide +kernel
theorem dX3_signOn_108 : decode cX3_signOn 108 = .ok (.bastore, 1) := by decide +kernel
theorem dX3_signOn_109 : decode cX3_signOn 109 = .ok (.aload_n 0, 1) := by decide +kernel
theorem dX3_signOn_110 : decode cX3_signOn 110 = .ok (.getfield 32, 3) := by decide +kernel
theorem dX3_signOn_113 : decode cX3_signOn 113 = .ok (.iload_n 3, 1) := by decide +kernel
theorem dX3_signOn_114 : decode cX3_signOn 114 = .ok (.iconst (-1), 1) := by decide +kernel
theorem dX3_signOn_115 : decode cX3_signOn 115 = .ok (.iastore, 1) := by decide +kernel
theorem dX3_signOn_116 : decode cX3_signOn 116 = .ok (.aload_n 0, 1) := by decide +kernel
theorem dX3_signOn_117 : decode cX3_signOn 117 = .ok (.getfield 38, 3) := by decide +kernel
theorem dX3_signOn_120 : decode cX3_signOn 120 = .ok (.iload_n 3, 1) := by decide +kernel
theorem dX3_signOn_121 : decode cX3_signOn 121 = .ok (.iconst 0, 1) := by decide +kernel
theorem dX3_signOn_122 : decode cX3_signOn 122 = .ok (.iastore, 1) := by decide +kernel
theorem dX3_signOn_123 : decode cX3_signOn 123 = .ok (.aload_n 0, 1) := by decide +kernel
theorem dX3_signOn_124 : decode cX3_signOn 124 = .ok (.getfield 41, 3) := by decide +kernel
theorem dX3_signOn_127 : decode cX3_signOn 127 = .ok (.iload_n 3, 1) := by decide +kernel
theorem dX3_signOn_128 : decode cX3_signOn 128 = .ok (.iconst 0, 1) := by decide +kernel
theorem dX3_signOn_129 : decode cX3_signOn 129 = .ok (.iastore, 1) := by decide +kernel
theorem dX3_signOn_130 : decode cX3_signOn 130 = .ok (.aload_n 0, 1) := by decide +kernel
theorem dX3_signOn_131 : decode cX3_signOn 131 = .ok (.iload_n 3, 1) := by decide +kernel
theorem dX3_signOn_132 : decode cX3_signOn 132 = .ok (.invokevirtual 98, 3) := by decide +kernel
theorem dX3_signOn_135 : decode cX3_signOn 135 = .ok (.aload_n 0, 1) := by decide +kernel
theorem dX3_signOn_136 : decode cX3_signOn 136 = .ok (.dup, 1) := by decide +kernel
theorem dX3_signOn_137 : decode cX3_signOn 137 = .ok (.getfield 95, 3) := by decide +kernel
theorem dX3_signOn_140 : decode cX3_signOn 140 = .ok (.iconst 1, 1) := by decide +kernel
theorem dX3_signOn_141 : decode cX3_signOn 141 = .ok (.iadd, 1) := by decide +kernel
theorem dX3_signOn_142 : decode cX3_signOn 142 = .ok (.putfield 95, 3) := by decide +kernel
theorem dX3_signOn_145 : decode cX3_signOn 145 = .ok (.aload_n 0, 1) := by decide +kernel
theorem dX3_signOn_146 : decode cX3_signOn 146 = .ok (.getfield 95, 3) := by decide +kernel
theorem dX3_signOn_149 : decode cX3_signOn 149 = .ok (.iconst 1, 1) := by decide +kernel
theorem dX3_signOn_150 : decode cX3_signOn 150 = .ok (.isub, 1) := by decide +kernel
theorem dX3_signOn_151 : decode cX3_signOn 151 = .ok (.ireturn, 1) := by decide +kernel
theorem dX3_signOff_0 : decode cX3_signOff 0 = .ok (.aload_n 0, 1) := by decide +kernel
theorem dX3_signOff_1 : decode cX3_signOff 1 = .ok (.iload_n 1, 1) := by decide +kernel
theorem dX3_signOff_2 : decode cX3_signOff 2 = .ok (.invokevirtual 102, 3) := by decide +kernel
theorem dX3_signOff_5 : decode cX3_signOff 5 = .ok (.istore_n 2, 1) := by decide +kernel
theorem dX3_signOff_6 : decode cX3_signOff 6 = .ok (.aload_n 0, 1) := by decide +kernel
theorem dX3_signOff_7 : decode cX3_signOff 7 = .ok (.iload_n 2, 1) := by decide +kernel
theorem dX3_signOff_8 : decode cX3_signOff 8 = .ok (.ifCond .lt 7, 3) := by decide +kernel
theorem dX3_signOff_11 : decode cX3_signOff 11 = .ok (.iconst 1, 1) := by decide +kernel
theorem dX3_signOff_12 : decode cX3_signOff 12 = .ok (.goto 4, 3) := by decide +kernel
theorem dX3_signOff_15 : decode cX3_signOff 15 = .ok (.iconst 0, 1) := by decide +kernel
theorem dX3_signOff_16 : decode cX3_signOff 16 = .ok (.iload_n 2, 1) := by decide +kernel
theorem dX3_signOff_17 : decode cX3_signOff 17 = .ok (.ifCond .lt 17, 3) := by decide +kernel
theorem dX3_signOff_20 : decode cX3_signOff 20 = .ok (.aload_n 0, 1) := by decide +kernel
theorem dX3_signOff_21 : decode cX3_signOff 21 = .ok (.getfield 32, 3) := by decide +kernel
theorem dX3_signOff_24 : decode cX3_signOff 24 = .ok (.iload_n 2, 1) := by decide +kernel
theorem dX3_signOff_25 : decode cX3_signOff 25 = .ok (.iaload, 1) := by decide +kernel
theorem dX3_signOff_26 : decode cX3_signOff 26 = .ok (.iconst (-1), 1) := by decide +kernel
theorem dX3_signOff_27 : decode cX3_signOff 27 = .ok (.if_icmp .ne 7, 3) := by decide +kernel
theorem dX3_signOff_30 : decode cX3_signOff 30 = .ok (.iconst 1, 1) := by decide +kernel
theorem dX3_signOff_31 : decode cX3_signOff 31 = .ok (.goto 4, 3) := by decide +kernel
theorem dX3_signOff_34 : decode cX3_signOff 34 = .ok (.iconst 0, 1) := by decide +kernel
theorem dX3_signOff_35 : decode cX3_signOff 35 = .ok (.iconst 1, 1) := by decide +kernel
theorem dX3_signOff_36 : decode cX3_signOff 36 = .ok (.invokevirtual 91, 3) := by decide +kernel
theorem dX3_signOff_39 : decode cX3_signOff 39 = .ok (.ifCond .ne 5, 3) := by decide +kernel
theorem dX3_signOff_42 : decode cX3_signOff 42 = .ok (.iconst 0, 1) := by decide +kernel
theorem dX3_signOff_43 : decode cX3_signOff 43 = .ok (.ireturn, 1) := by decide +kernel
theorem dX3_signOff_44 : decode cX3_signOff 44 = .ok (.aload_n 0, 1) := by decide +kernel
theorem dX3_signOff_45 : decode cX3_signOff 45 = .ok (.getfield 7, 3) := by decide +kernel
theorem dX3_signOff_48 : decode cX3_signOff 48 = .ok (.iload_n 2, 1) := by decide +kernel
theorem dX3_signOff_49 : decode cX3_signOff 49 = .ok (.iconst (-1), 1) := by decide +kernel
theorem dX3_signOff_50 : decode cX3_signOff 50 = .ok (.iastore, 1) := by decide +kernel
theorem dX3_signOff_51 : decode cX3_signOff 51 = .ok (.aload_n 0, 1) := by decide +kernel
theorem dX3_signOff_52 : decode cX3_signOff 52 = .ok (.getfield 38, 3) := by decide +kernel
theorem dX3_signOff_55 : decode cX3_signOff 55 = .ok (.iload_n 2, 1) := by decide +kernel
theorem dX3_signOff_56 : decode cX3_signOff 56 = .ok (.iaload, 1) := by decide +kernel
theorem dX3_signOff_57 : decode cX3_signOff 57 = .ok (.ireturn, 1) := by decide +kernel
theorem dX3_setSkills_0 : decode cX3_setSkills 0 = .ok (.aload_n 0, 1) := by decide +kernel
theorem dX3_setSkills_1 : decode cX3_setSkills 1 = .ok (.iload_n 1, 1) := by decide +kernel
theorem dX3_setSkills_2 : decode cX3_setSkills 2 = .ok (.invokevirtual 102, 3) := by decide +kernel
theorem dX3_setSkills_5 : decode cX3_setSkills 5 = .ok (.istore_n 3, 1) := by decide +kernel
theorem dX3_setSkills_6 : decode cX3_setSkills 6 = .ok (.aload_n 0, 1) := by decide +kernel
theorem dX3_setSkills_7 : decode cX3_setSkills 7 = .ok (.iload_n 3, 1) := by decide +kernel
theorem dX3_setSkills_8 : decode cX3_setSkills 8 = .ok (.ifCond .lt 7, 3) := by decide +kernel
theorem dX3_setSkills_11 : decode cX3_setSkills 11 = .ok (.iconst 1, 1) := by decide +kernel
theorem dX3_setSkills_12 : decode cX3_setSkills 12 = .ok (.goto 4, 3) := by decide +kernel
theorem dX3_setSkills_15 : decode cX3_setSkills 15 = .ok (.iconst 0, 1) := by decide +kernel
theorem dX3_setSkills_16 : decode cX3_setSkills 16 = .ok (.iload_n 2, 1) := by decide +kernel
theorem dX3_setSkills_17 : decode cX3_setSkills 17 = .ok (.iconst 0, 1) := by decide +kernel
theorem dX3_setSkills_18 : decode cX3_setSkills 18 = .ok (.bipush 31, 2) := by decide +kernel
theorem dX3_setSkills_20 : decode cX3_setSkills 20 = .ok (.invokestatic 72, 3) := by decide +kernel
theorem dX3_setSkills_23 : decode cX3_setSkills 23 = .ok (.iload_n 3, 1) := by decide +kernel
theorem dX3_setSkills_24 : decode cX3_setSkills 24 = .ok (.ifCond .lt 17, 3) := by decide +kernel
theorem dX3_setSkills_27 : decode cX3_setSkills 27 = .ok (.aload_n 0, 1) := by decide +kernel
theorem dX3_setSkills_28 : decode cX3_setSkills 28 = .ok (.getfield 32, 3) := by decide +kernel
theorem dX3_setSkills_31 : decode cX3_setSkills 31 = .ok (.iload_n 3, 1) := by decide +kernel
theorem dX3_setSkills_32 : decode cX3_setSkills 32 = .ok (.iaload, 1) := by decide +kernel
theorem dX3_setSkills_33 : decode cX3_setSkills 33 = .ok (.iconst (-1), 1) := by decide +kernel
theorem dX3_setSkills_34 : decode cX3_setSkills 34 = .ok (.if_icmp .ne 7, 3) := by decide +kernel
theorem dX3_setSkills_37 : decode cX3_setSkills 37 = .ok (.iconst 1, 1) := by decide +kernel
theorem dX3_setSkills_38 : decode cX3_setSkills 38 = .ok (.goto 4, 3) := by decide +kernel
theorem dX3_setSkills_41 : decode cX3_setSkills 41 = .ok (.iconst 0, 1) := by decide +kernel
theorem dX3_setSkills_42 : decode cX3_setSkills 42 = .ok (.invokevirtual 91, 3) := by decide +kernel
theorem dX3_setSkills_45 : decode cX3_setSkills 45 = .ok (.ifCond .ne 5, 3) := by decide +kernel
theorem dX3_setSkills_48 : decode cX3_setSkills 48 = .ok (.iconst 0, 1) := by decide +kernel
theorem dX3_setSkills_49 : decode cX3_setSkills 49 = .ok (.ireturn, 1) := by decide +kernel
theorem dX3_setSkills_50 : decode cX3_setSkills 50 = .ok (.aload_n 0, 1) := by decide +kernel
theorem dX3_setSkills_51 : decode cX3_setSkills 51 = .ok (.getfield 19, 3) := by decide +kernel
theorem dX3_setSkills_54 : decode cX3_setSkills 54 = .ok (.iload_n 3, 1) := by decide +kernel
theorem dX3_setSkills_55 : decode cX3_setSkills 55 = .ok (.iaload, 1) := by decide +kernel
theorem dX3_setSkills_56 : decode cX3_setSkills 56 = .ok (.istore 4, 2) := by decide +kernel
theorem dX3_setSkills_58 : decode cX3_setSkills 58 = .ok (.aload_n 0, 1) := by decide +kernel
theorem dX3_setSkills_59 : decode cX3_setSkills 59 = .ok (.getfield 19, 3) := by decide +kernel
theorem dX3_setSkills_62 : decode cX3_setSkills 62 = .ok (.iload_n 3, 1) := by decide +kernel
theorem dX3_setSkills_63 : decode cX3_setSkills 63 = .ok (.iload_n 2, 1) := by decide +kernel
theorem dX3_setSkills_64 : decode cX3_setSkills 64 = .ok (.iastore, 1) := by decide +kernel
theorem dX3_setSkills_65 : decode cX3_setSkills 65 = .ok (.iload 4, 2) := by decide +kernel
theorem dX3_setSkills_67 : decode cX3_setSkills 67 = .ok (.ireturn, 1) := by decide +kernel
theorem dX3_move_0 : decode cX3_move 0 = .ok (.aload_n 0, 1) := by decide +kernel
theorem dX3_move_1 : decode cX3_move 1 = .ok (.iload_n 1, 1) := by decide +kernel
theorem dX3_move_2 : decode cX3_move 2 = .ok (.invokevirtual 102, 3) := by decide +kernel
theorem dX3_move_5 : decode cX3_move 5 = .ok (.istore_n 3, 1) := by decide +kernel
theorem dX3_move_6 : decode cX3_move 6 = .ok (.aload_n 0, 1) := by decide +kernel
theorem dX3_move_7 : decode cX3_move 7 = .ok (.iload_n 3, 1) := by decide +kernel
theorem dX3_move_8 : decode cX3_move 8 = .ok (.ifCond .lt 7, 3) := by decide +kernel
theorem dX3_move_11 : decode cX3_move 11 = .ok (.iconst 1, 1) := by decide +kernel
theorem dX3_move_12 : decode cX3_move 12 = .ok (.goto 4, 3) := by decide +kernel
theorem dX3_move_15 : decode cX3_move 15 = .ok (.iconst 0, 1) := by decide +kernel
theorem dX3_move_16 : decode cX3_move 16 = .ok (.iload_n 2, 1) := by decide +kernel
theorem dX3_move_17 : decode cX3_move 17 = .ok (.invokestatic 83, 3) := by decide +kernel
theorem dX3_move_20 : decode cX3_move 20 = .ok (.iconst 1, 1) := by decide +kernel
theorem dX3_move_21 : decode cX3_move 21 = .ok (.invokevirtual 91, 3) := by decide +kernel
theorem dX3_move_24 : decode cX3_move 24 = .ok (.ifCond .ne 5, 3) := by decide +kernel
theorem dX3_move_27 : decode cX3_move 27 = .ok (.iconst 0, 1) := by decide +kernel
theorem dX3_move_28 : decode cX3_move 28 = .ok (.ireturn, 1) := by decide +kernel
theorem dX3_move_29 : decode cX3_move 29 = .ok (.aload_n 0, 1) := by decide +kernel
theorem dX3_move_30 : decode cX3_move 30 = .ok (.getfield 13, 3) := by decide +kernel
theorem dX3_move_33 : decode cX3_move 33 = .ok (.iload_n 3, 1) := by decide +kernel
theorem dX3_move_34 : decode cX3_move 34 = .ok (.iaload, 1) := by decide +kernel
theorem dX3_move_35 : decode cX3_move 35 = .ok (.istore 4, 2) := by decide +kernel
theorem dX3_move_37 : decode cX3_move 37 = .ok (.aload_n 0, 1) := by decide +kernel
theorem dX3_move_38 : decode cX3_move 38 = .ok (.getfield 13, 3) := by decide +kernel
theorem dX3_move_41 : decode cX3_move 41 = .ok (.iload_n 3, 1) := by decide +kernel
theorem dX3_move_42 : decode cX3_move 42 = .ok (.iload_n 2, 1) := by decide +kernel
theorem dX3_move_43 : decode cX3_move 43 = .ok (.iastore, 1) := by decide +kernel
theorem dX3_move_44 : decode cX3_move 44 = .ok (.aload_n 0, 1) := by decide +kernel
theorem dX3_move_45 : decode cX3_move 45 = .ok (.iload_n 3, 1) := by decide +kernel
theorem dX3_move_46 : decode cX3_move 46 = .ok (.invokevirtual 98, 3) := by decide +kernel
theorem dX3_move_49 : decode cX3_move 49 = .ok (.iload 4, 2) := by decide +kernel
theorem dX3_move_51 : decode cX3_move 51 = .ok (.ireturn, 1) := by decide +kernel
theorem dX3_setAway_0 : decode cX3_setAway 0 = .ok (.aload_n 0, 1) := by decide +kernel
theorem dX3_setAway_1 : decode cX3_setAway 1 = .ok (.iload_n 1, 1) := by decide +kernel
theorem dX3_setAway_2 : decode cX3_setAway 2 = .ok (.invokevirtual 102, 3) := by decide +kernel
theorem dX3_setAway_5 : decode cX3_setAway 5 = .ok (.istore_n 3, 1) := by decide +kernel
theorem dX3_setAway_6 : decode cX3_setAway 6 = .ok (.aload_n 0, 1) := by decide +kernel
theorem dX3_setAway_7 : decode cX3_setAway 7 = .ok (.iload_n 3, 1) := by decide +kernel
theorem dX3_setAway_8 : decode cX3_setAway 8 = .ok (.ifCond .lt 7, 3) := by decide +kernel
theorem dX3_setAway_11 : decode cX3_setAway 11 = .ok (.iconst 1, 1) := by decide +kernel
theorem dX3_setAway_12 : decode cX3_setAway 12 = .ok (.goto 4, 3) := by decide +kernel
theorem dX3_setAway_15 : decode cX3_setAway 15 = .ok (.iconst 0, 1) := by decide +kernel
theorem dX3_setAway_16 : decode cX3_setAway 16 = .ok (.iconst 1, 1) := by decide +kernel
theorem dX3_setAway_17 : decode cX3_setAway 17 = .ok (.iconst 1, 1) := by decide +kernel
theorem dX3_setAway_18 : decode cX3_setAway 18 = .ok (.invokevirtual 91, 3) := by decide +kernel
theorem dX3_setAway_21 : decode cX3_setAway 21 = .ok (.ifCond .ne 5, 3) := by decide +kernel
theorem dX3_setAway_24 : decode cX3_setAway 24 = .ok (.iconst 0, 1) := by decide +kernel
theorem dX3_setAway_25 : decode cX3_setAway 25 = .ok (.ireturn, 1) := by decide +kernel
theorem dX3_setAway_26 : decode cX3_setAway 26 = .ok (.aload_n 0, 1) := by decide +kernel
theorem dX3_setAway_27 : decode cX3_setAway 27 = .ok (.getfield 22, 3) := by decide +kernel
theorem dX3_setAway_30 : decode cX3_setAway 30 = .ok (.iload_n 3, 1) := by decide +kernel
theorem dX3_setAway_31 : decode cX3_setAway 31 = .ok (.baload, 1) := by decide +kernel
theorem dX3_setAway_32 : decode cX3_setAway 32 = .ok (.istore 4, 2) := by decide +kernel
theorem dX3_setAway_34 : decode cX3_setAway 34 = .ok (.aload_n 0, 1) := by decide +kernel
theorem dX3_setAway_35 : decode cX3_setAway 35 = .ok (.getfield 22, 3) := by decide +kernel
theorem dX3_setAway_38 : decode cX3_setAway 38 = .ok (.iload_n 3, 1) := by decide +kernel
theorem dX3_setAway_39 : decode cX3_setAway 39 = .ok (.iload_n 2, 1) := by decide +kernel
theorem dX3_setAway_40 : decode cX3_setAway 40 = .ok (.bastore, 1) := by decide +kernel
theorem dX3_setAway_41 : decode cX3_setAway 41 = .ok (.iload 4, 2) := by decide +kernel
theorem dX3_setAway_43 : decode cX3_setAway 43 = .ok (.ireturn, 1) := by decide +kernel
theorem dX3_setRefusing_0 : decode cX3_setRefusing 0 = .ok (.aload_n 0, 1) := by decide +kernel
theorem dX3_setRefusing_1 : decode cX3_setRefusing 1 = .ok (.iload_n 1, 1) := by decide +kernel
theorem dX3_setRefusing_2 : decode cX3_setRefusing 2 = .ok (.invokevirtual 102, 3) := by decide +kernel
theorem dX3_setRefusing_5 : decode cX3_setRefusing 5 = .ok (.istore_n 3, 1) := by decide +kernel
theorem dX3_setRefusing_6 : decode cX3_setRefusing 6 = .ok (.aload_n 0, 1) := by decide +kernel
theorem dX3_setRefusing_7 : decode cX3_setRefusing 7 = .ok (.iload_n 3, 1) := by decide +kernel
theorem dX3_setRefusing_8 : decode cX3_setRefusing 8 = .ok (.ifCond .lt 7, 3) := by decide +kernel
theorem dX3_setRefusing_11 : decode cX3_setRefusing 11 = .ok (.iconst 1, 1) := by decide +kernel
theorem dX3_setRefusing_12 : decode cX3_setRefusing 12 = .ok (.goto 4, 3) := by decide +kernel
theorem dX3_setRefusing_15 : decode cX3_setRefusing 15 = .ok (.iconst 0, 1) := by decide +kernel
theorem dX3_setRefusing_16 : decode cX3_setRefusing 16 = .ok (.iconst 1, 1) := by decide +kernel
theorem dX3_setRefusing_17 : decode cX3_setRefusing 17 = .ok (.iconst 1, 1) := by decide +kernel
theorem dX3_setRefusing_18 : decode cX3_setRefusing 18 = .ok (.invokevirtual 91, 3) := by decide +kernel
theorem dX3_setRefusing_21 : decode cX3_setRefusing 21 = .ok (.ifCond .ne 5, 3) := by decide +kernel
theorem dX3_setRefusing_24 : decode cX3_setRefusing 24 = .ok (.iconst 0, 1) := by decide +kernel
theorem dX3_setRefusing_25 : decode cX3_setRefusing 25 = .ok (.ireturn, 1) := by decide +kernel
theorem dX3_setRefusing_26 : decode cX3_setRefusing 26 = .ok (.aload_n 0, 1) := by decide +kernel
theorem dX3_setRefusing_27 : decode cX3_setRefusing 27 = .ok (.getfield 26, 3) := by decide +kernel
theorem dX3_setRefusing_30 : decode cX3_setRefusing 30 = .ok (.iload_n 3, 1) := by decide +kernel
theorem dX3_setRefusing_31 : decode cX3_setRefusing 31 = .ok (.baload, 1) := by decide +kernel
theorem dX3_setRefusing_32 : decode cX3_setRefusing 32 = .ok (.istore 4, 2) := by decide +kernel
theorem dX3_setRefusing_34 : decode cX3_setRefusing 34 = .ok (.aload_n 0, 1) := by decide +kernel
theorem dX3_setRefusing_35 : decode cX3_setRefusing 35 = .ok (.getfield 26, 3) := by decide +kernel
theorem dX3_setRefusing_38 : decode cX3_setRefusing 38 = .ok (.iload_n 3, 1) := by decide +kernel
theorem dX3_setRefusing_39 : decode cX3_setRefusing 39 = .ok (.iload_n 2, 1) := by decide +kernel
theorem dX3_setRefusing_40 : decode cX3_setRefusing 40 = .ok (.bastore, 1) := by decide +kernel
theorem dX3_setRefusing_41 : decode cX3_setRefusing 41 = .ok (.iload 4, 2) := by decide +kernel
theorem dX3_setRefusing_43 : decode cX3_setRefusing 43 = .ok (.ireturn, 1) := by decide +kernel
theorem dX3_setRule_0 : decode cX3_setRule 0 = .ok (.aload_n 0, 1) := by decide +kernel
theorem dX3_setRule_1 : decode cX3_setRule 1 = .ok (.iload_n 1, 1) := by decide +kernel
theorem dX3_setRule_2 : decode cX3_setRule 2 = .ok (.invokestatic 83, 3) := by decide +kernel
theorem dX3_setRule_5 : decode cX3_setRule 5 = .ok (.ifCond .eq 18, 3) := by decide +kernel
theorem dX3_setRule_8 : decode cX3_setRule 8 = .ok (.iload_n 3, 1) := by decide +kernel
theorem dX3_setRule_9 : decode cX3_setRule 9 = .ok (.iconst 0, 1) := by decide +kernel
theorem dX3_setRule_10 : decode cX3_setRule 10 = .ok (.sipush 400, 3) := by decide +kernel
theorem dX3_setRule_13 : decode cX3_setRule 13 = .ok (.invokestatic 72, 3) := by decide +kernel
theorem dX3_setRule_16 : decode cX3_setRule 16 = .ok (.ifCond .eq 7, 3) := by decide +kernel
theorem dX3_setRule_19 : decode cX3_setRule 19 = .ok (.iconst 1, 1) := by decide +kernel
theorem dX3_setRule_20 : decode cX3_setRule 20 = .ok (.goto 4, 3) := by decide +kernel
theorem dX3_setRule_23 : decode cX3_setRule 23 = .ok (.iconst 0, 1) := by decide +kernel
theorem dX3_setRule_24 : decode cX3_setRule 24 = .ok (.iconst 1, 1) := by decide +kernel
theorem dX3_setRule_25 : decode cX3_setRule 25 = .ok (.iconst 1, 1) := by decide +kernel
theorem dX3_setRule_26 : decode cX3_setRule 26 = .ok (.invokevirtual 91, 3) := by decide +kernel
theorem dX3_setRule_29 : decode cX3_setRule 29 = .ok (.ifCond .ne 5, 3) := by decide +kernel
theorem dX3_setRule_32 : decode cX3_setRule 32 = .ok (.iconst 0, 1) := by decide +kernel
theorem dX3_setRule_33 : decode cX3_setRule 33 = .ok (.ireturn, 1) := by decide +kernel
theorem dX3_setRule_34 : decode cX3_setRule 34 = .ok (.aload_n 0, 1) := by decide +kernel
theorem dX3_setRule_35 : decode cX3_setRule 35 = .ok (.getfield 47, 3) := by decide +kernel
theorem dX3_setRule_38 : decode cX3_setRule 38 = .ok (.iload_n 1, 1) := by decide +kernel
theorem dX3_setRule_39 : decode cX3_setRule 39 = .ok (.iaload, 1) := by decide +kernel
theorem dX3_setRule_40 : decode cX3_setRule 40 = .ok (.istore 4, 2) := by decide +kernel
theorem dX3_setRule_42 : decode cX3_setRule 42 = .ok (.aload_n 0, 1) := by decide +kernel
theorem dX3_setRule_43 : decode cX3_setRule 43 = .ok (.getfield 44, 3) := by decide +kernel
theorem dX3_setRule_46 : decode cX3_setRule 46 = .ok (.iload_n 1, 1) := by decide +kernel
theorem dX3_setRule_47 : decode cX3_setRule 47 = .ok (.iload_n 2, 1) := by decide +kernel
theorem dX3_setRule_48 : decode cX3_setRule 48 = .ok (.bastore, 1) := by decide +kernel
theorem dX3_setRule_49 : decode cX3_setRule 49 = .ok (.aload_n 0, 1) := by decide +kernel
theorem dX3_setRule_50 : decode cX3_setRule 50 = .ok (.getfield 47, 3) := by decide +kernel
theorem dX3_setRule_53 : decode cX3_setRule 53 = .ok (.iload_n 1, 1) := by decide +kernel
theorem dX3_setRule_54 : decode cX3_setRule 54 = .ok (.iload_n 3, 1) := by decide +kernel
theorem dX3_setRule_55 : decode cX3_setRule 55 = .ok (.iastore, 1) := by decide +kernel
theorem dX3_setRule_56 : decode cX3_setRule 56 = .ok (.iload 4, 2) := by decide +kernel
theorem dX3_setRule_58 : decode cX3_setRule 58 = .ok (.ireturn, 1) := by decide +kernel
theorem dX3_rank_0 : decode cX3_rank 0 = .ok (.iconst 0, 1) := by decide +kernel
theorem dX3_rank_1 : decode cX3_rank 1 = .ok (.istore_n 2, 1) := by decide +kernel
theorem dX3_rank_2 : decode cX3_rank 2 = .ok (.iconst 0, 1) := by decide +kernel
theorem dX3_rank_3 : decode cX3_rank 3 = .ok (.istore_n 3, 1) := by decide +kernel
theorem dX3_rank_4 : decode cX3_rank 4 = .ok (.iload_n 3, 1) := by decide +kernel
theorem dX3_rank_5 : decode cX3_rank 5 = .ok (.bipush 30, 2) := by decide +kernel
theorem dX3_rank_7 : decode cX3_rank 7 = .ok (.if_icmp .ge 57, 3) := by decide +kernel
theorem dX3_rank_10 : decode cX3_rank 10 = .ok (.iload_n 2, 1) := by decide +kernel
theorem dX3_rank_11 : decode cX3_rank 11 = .ok (.aload_n 0, 1) := by decide +kernel
theorem dX3_rank_12 : decode cX3_rank 12 = .ok (.getfield 7, 3) := by decide +kernel
theorem dX3_rank_15 : decode cX3_rank 15 = .ok (.iload_n 3, 1) := by decide +kernel
theorem dX3_rank_16 : decode cX3_rank 16 = .ok (.iaload, 1) := by decide +kernel
theorem dX3_rank_17 : decode cX3_rank 17 = .ok (.iconst (-1), 1) := by decide +kernel
theorem dX3_rank_18 : decode cX3_rank 18 = .ok (.if_icmp .eq 37, 3) := by decide +kernel
theorem dX3_rank_21 : decode cX3_rank 21 = .ok (.aload_n 0, 1) := by decide +kernel
theorem dX3_rank_22 : decode cX3_rank 22 = .ok (.getfield 13, 3) := by decide +kernel
theorem dX3_rank_25 : decode cX3_rank 25 = .ok (.iload_n 3, 1) := by decide +kernel
theorem dX3_rank_26 : decode cX3_rank 26 = .ok (.iaload, 1) := by decide +kernel
theorem dX3_rank_27 : decode cX3_rank 27 = .ok (.aload_n 0, 1) := by decide +kernel
theorem dX3_rank_28 : decode cX3_rank 28 = .ok (.getfield 13, 3) := by decide +kernel
theorem dX3_rank_31 : decode cX3_rank 31 = .ok (.iload_n 1, 1) := by decide +kernel
theorem dX3_rank_32 : decode cX3_rank 32 = .ok (.iaload, 1) := by decide +kernel
theorem dX3_rank_33 : decode cX3_rank 33 = .ok (.if_icmp .ne 22, 3) := by decide +kernel
theorem dX3_rank_36 : decode cX3_rank 36 = .ok (.aload_n 0, 1) := by decide +kernel
theorem dX3_rank_37 : decode cX3_rank 37 = .ok (.getfield 16, 3) := by decide +kernel
theorem dX3_rank_40 : decode cX3_rank 40 = .ok (.iload_n 3, 1) := by decide +kernel
theorem dX3_rank_41 : decode cX3_rank 41 = .ok (.iaload, 1) := by decide +kernel
theorem dX3_rank_42 : decode cX3_rank 42 = .ok (.aload_n 0, 1) := by decide +kernel
theorem dX3_rank_43 : decode cX3_rank 43 = .ok (.getfield 16, 3) := by decide +kernel
theorem dX3_rank_46 : decode cX3_rank 46 = .ok (.iload_n 1, 1) := by decide +kernel
theorem dX3_rank_47 : decode cX3_rank 47 = .ok (.iaload, 1) := by decide +kernel
theorem dX3_rank_48 : decode cX3_rank 48 = .ok (.if_icmp .ge 7, 3) := by decide +kernel
theorem dX3_rank_51 : decode cX3_rank 51 = .ok (.iconst 1, 1) := by decide +kernel
theorem dX3_rank_52 : decode cX3_rank 52 = .ok (.goto 4, 3) := by decide +kernel
theorem dX3_rank_55 : decode cX3_rank 55 = .ok (.iconst 0, 1) := by decide +kernel
theorem dX3_rank_56 : decode cX3_rank 56 = .ok (.iadd, 1) := by decide +kernel
theorem dX3_rank_57 : decode cX3_rank 57 = .ok (.istore_n 2, 1) := by decide +kernel
theorem dX3_rank_58 : decode cX3_rank 58 = .ok (.iinc 3 1, 3) := by decide +kernel
theorem dX3_rank_61 : decode cX3_rank 61 = .ok (.goto (-57), 3) := by decide +kernel
theorem dX3_rank_64 : decode cX3_rank 64 = .ok (.iload_n 2, 1) := by decide +kernel
theorem dX3_rank_65 : decode cX3_rank 65 = .ok (.ireturn, 1) := by decide +kernel
theorem dX3_equalise_0 : decode cX3_equalise 0 = .ok (.aload_n 0, 1) := by decide +kernel
theorem dX3_equalise_1 : decode cX3_equalise 1 = .ok (.iload_n 1, 1) := by decide +kernel
theorem dX3_equalise_2 : decode cX3_equalise 2 = .ok (.invokestatic 83, 3) := by decide +kernel
theorem dX3_equalise_5 : decode cX3_equalise 5 = .ok (.iconst 1, 1) := by decide +kernel
theorem dX3_equalise_6 : decode cX3_equalise 6 = .ok (.iconst 1, 1) := by decide +kernel
theorem dX3_equalise_7 : decode cX3_equalise 7 = .ok (.invokevirtual 91, 3) := by decide +kernel
theorem dX3_equalise_10 : decode cX3_equalise 10 = .ok (.ifCond .ne 5, 3) := by decide +kernel
theorem dX3_equalise_13 : decode cX3_equalise 13 = .ok (.iconst 0, 1) := by decide +kernel
theorem dX3_equalise_14 : decode cX3_equalise 14 = .ok (.ireturn, 1) := by decide +kernel
theorem dX3_equalise_15 : decode cX3_equalise 15 = .ok (.aload_n 0, 1) := by decide +kernel
theorem dX3_equalise_16 : decode cX3_equalise 16 = .ok (.invokevirtual 106, 3) := by decide +kernel
theorem dX3_equalise_19 : decode cX3_equalise 19 = .ok (.istore_n 2, 1) := by decide +kernel
theorem dX3_equalise_20 : decode cX3_equalise 20 = .ok (.iconst 0, 1) := by decide +kernel
theorem dX3_equalise_21 : decode cX3_equalise 21 = .ok (.istore_n 3, 1) := by decide +kernel
theorem dX3_equalise_22 : decode cX3_equalise 22 = .ok (.iconst 0, 1) := by decide +kernel
theorem dX3_equalise_23 : decode cX3_equalise 23 = .ok (.istore 4, 2) := by decide +kernel
theorem dX3_equalise_25 : decode cX3_equalise 25 = .ok (.iconst 0, 1) := by decide +kernel
theorem dX3_equalise_26 : decode cX3_equalise 26 = .ok (.istore 5, 2) := by decide +kernel
theorem dX3_equalise_28 : decode cX3_equalise 28 = .ok (.iload 5, 2) := by decide +kernel
theorem dX3_equalise_30 : decode cX3_equalise 30 = .ok (.iload_n 2, 1) := by decide +kernel
theorem dX3_equalise_31 : decode cX3_equalise 31 = .ok (.if_icmp .ge 101, 3) := by decide +kernel
theorem dX3_equalise_34 : decode cX3_equalise 34 = .ok (.aload_n 0, 1) := by decide +kernel
theorem dX3_equalise_35 : decode cX3_equalise 35 = .ok (.getfield 13, 3) := by decide +kernel
theorem dX3_equalise_38 : decode cX3_equalise 38 = .ok (.aload_n 0, 1) := by decide +kernel
theorem dX3_equalise_39 : decode cX3_equalise 39 = .ok (.getfield 60, 3) := by decide +kernel
theorem dX3_equalise_42 : decode cX3_equalise 42 = .ok (.iload 5, 2) := by decide +kernel
theorem dX3_equalise_44 : decode cX3_equalise 44 = .ok (.iaload, 1) := by decide +kernel
theorem dX3_equalise_45 : decode cX3_equalise 45 = .ok (.iaload, 1) := by decide +kernel
theorem dX3_equalise_46 : decode cX3_equalise 46 = .ok (.iload_n 1, 1) := by decide +kernel
theorem dX3_equalise_47 : decode cX3_equalise 47 = .ok (.if_icmp .ne 79, 3) := by decide +kernel
theorem dX3_equalise_50 : decode cX3_equalise 50 = .ok (.iload_n 3, 1) := by decide +kernel
theorem dX3_equalise_51 : decode cX3_equalise 51 = .ok (.istore 6, 2) := by decide +kernel
theorem dX3_equalise_53 : decode cX3_equalise 53 = .ok (.iload 6, 2) := by decide +kernel
theorem dX3_equalise_55 : decode cX3_equalise 55 = .ok (.ifCond .le 54, 3) := by decide +kernel
theorem dX3_equalise_58 : decode cX3_equalise 58 = .ok (.aload_n 0, 1) := by decide +kernel
theorem dX3_equalise_59 : decode cX3_equalise 59 = .ok (.getfield 38, 3) := by decide +kernel
theorem dX3_equalise_62 : decode cX3_equalise 62 = .ok (.aload_n 0, 1) := by decide +kernel
theorem dX3_equalise_63 : decode cX3_equalise 63 = .ok (.getfield 60, 3) := by decide +kernel
theorem dX3_equalise_66 : decode cX3_equalise 66 = .ok (.iload 5, 2) := by decide +kernel
theorem dX3_equalise_68 : decode cX3_equalise 68 = .ok (.iaload, 1) := by decide +kernel
theorem dX3_equalise_69 : decode cX3_equalise 69 = .ok (.iaload, 1) := by decide +kernel
theorem dX3_equalise_70 : decode cX3_equalise 70 = .ok (.aload_n 0, 1) := by decide +kernel
theorem dX3_equalise_71 : decode cX3_equalise 71 = .ok (.getfield 38, 3) := by decide +kernel
theorem dX3_equalise_74 : decode cX3_equalise 74 = .ok (.aload_n 0, 1) := by decide +kernel
theorem dX3_equalise_75 : decode cX3_equalise 75 = .ok (.getfield 63, 3) := by decide +kernel
theorem dX3_equalise_78 : decode cX3_equalise 78 = .ok (.iload 6, 2) := by decide +kernel
theorem dX3_equalise_80 : decode cX3_equalise 80 = .ok (.iconst 1, 1) := by decide +kernel
theorem dX3_equalise_81 : decode cX3_equalise 81 = .ok (.isub, 1) := by decide +kernel
theorem dX3_equalise_82 : decode cX3_equalise 82 = .ok (.iaload, 1) := by decide +kernel
theorem dX3_equalise_83 : decode cX3_equalise 83 = .ok (.iaload, 1) := by decide +kernel
theorem dX3_equalise_84 : decode cX3_equalise 84 = .ok (.if_icmp .ge 25, 3) := by decide +kernel
theorem dX3_equalise_87 : decode cX3_equalise 87 = .ok (.aload_n 0, 1) := by decide +kernel
theorem dX3_equalise_88 : decode cX3_equalise 88 = .ok (.getfield 63, 3) := by decide +kernel
theorem dX3_equalise_91 : decode cX3_equalise 91 = .ok (.iload 6, 2) := by decide +kernel
theorem dX3_equalise_93 : decode cX3_equalise 93 = .ok (.aload_n 0, 1) := by decide +kernel
theorem dX3_equalise_94 : decode cX3_equalise 94 = .ok (.getfield 63, 3) := by decide +kernel
theorem dX3_equalise_97 : decode cX3_equalise 97 = .ok (.iload 6, 2) := by decide +kernel
theorem dX3_equalise_99 : decode cX3_equalise 99 = .ok (.iconst 1, 1) := by decide +kernel
theorem dX3_equalise_100 : decode cX3_equalise 100 = .ok (.isub, 1) := by decide +kernel
theorem dX3_equalise_101 : decode cX3_equalise 101 = .ok (.iaload, 1) := by decide +kernel
theorem dX3_equalise_102 : decode cX3_equalise 102 = .ok (.iastore, 1) := by decide +kernel
theorem dX3_equalise_103 : decode cX3_equalise 103 = .ok (.iinc 6 (-1), 3) := by decide +kernel
theorem dX3_equalise_106 : decode cX3_equalise 106 = .ok (.goto (-53), 3) := by decide +kernel
theorem dX3_equalise_109 : decode cX3_equalise 109 = .ok (.aload_n 0, 1) := by decide +kernel
theorem dX3_equalise_110 : decode cX3_equalise 110 = .ok (.getfield 63, 3) := by decide +kernel
theorem dX3_equalise_113 : decode cX3_equalise 113 = .ok (.iload 6, 2) := by decide +kernel
theorem dX3_equalise_115 : decode cX3_equalise 115 = .ok (.aload_n 0, 1) := by decide +kernel
theorem dX3_equalise_116 : decode cX3_equalise 116 = .ok (.getfield 60, 3) := by decide +kernel
theorem dX3_equalise_119 : decode cX3_equalise 119 = .ok (.iload 5, 2) := by decide +kernel
theorem dX3_equalise_121 : decode cX3_equalise 121 = .ok (.iaload, 1) := by decide +kernel
theorem dX3_equalise_122 : decode cX3_equalise 122 = .ok (.iastore, 1) := by decide +kernel
theorem dX3_equalise_123 : decode cX3_equalise 123 = .ok (.iinc 3 1, 3) := by decide +kernel
theorem dX3_equalise_126 : decode cX3_equalise 126 = .ok (.iinc 5 1, 3) := by decide +kernel
theorem dX3_equalise_129 : decode cX3_equalise 129 = .ok (.goto (-101), 3) := by decide +kernel
theorem dX3_equalise_132 : decode cX3_equalise 132 = .ok (.iconst 0, 1) := by decide +kernel
theorem dX3_equalise_133 : decode cX3_equalise 133 = .ok (.istore 5, 2) := by decide +kernel
theorem dX3_equalise_135 : decode cX3_equalise 135 = .ok (.iload 5, 2) := by decide +kernel
theorem dX3_equalise_137 : decode cX3_equalise 137 = .ok (.iload_n 3, 1) := by decide +kernel
theorem dX3_equalise_138 : decode cX3_equalise 138 = .ok (.if_icmp .ge 35, 3) := by decide +kernel
theorem dX3_equalise_141 : decode cX3_equalise 141 = .ok (.iload 4, 2) := by decide +kernel
theorem dX3_equalise_143 : decode cX3_equalise 143 = .ok (.aload_n 0, 1) := by decide +kernel
theorem dX3_equalise_144 : decode cX3_equalise 144 = .ok (.aload_n 0, 1) := by decide +kernel
theorem dX3_equalise_145 : decode cX3_equalise 145 = .ok (.getfield 63, 3) := by decide +kernel
theorem dX3_equalise_148 : decode cX3_equalise 148 = .ok (.iload 5, 2) := by decide +kernel
theorem dX3_equalise_150 : decode cX3_equalise 150 = .ok (.iaload, 1) := by decide +kernel
theorem dX3_equalise_151 : decode cX3_equalise 151 = .ok (.invokevirtual 109, 3) := by decide +kernel
theorem dX3_equalise_154 : decode cX3_equalise 154 = .ok (.iload 5, 2) := by decide +kernel
theorem dX3_equalise_156 : decode cX3_equalise 156 = .ok (.if_icmp .ne 7, 3) := by decide +kernel
theorem dX3_equalise_159 : decode cX3_equalise 159 = .ok (.iconst 0, 1) := by decide +kernel
theorem dX3_equalise_160 : decode cX3_equalise 160 = .ok (.goto 4, 3) := by decide +kernel
theorem dX3_equalise_163 : decode cX3_equalise 163 = .ok (.iconst 1, 1) := by decide +kernel
theorem dX3_equalise_164 : decode cX3_equalise 164 = .ok (.iadd, 1) := by decide +kernel
theorem dX3_equalise_165 : decode cX3_equalise 165 = .ok (.istore 4, 2) := by decide +kernel
theorem dX3_equalise_167 : decode cX3_equalise 167 = .ok (.iinc 5 1, 3) := by decide +kernel
theorem dX3_equalise_170 : decode cX3_equalise 170 = .ok (.goto (-35), 3) := by decide +kernel
theorem dX3_equalise_173 : decode cX3_equalise 173 = .ok (.iconst 0, 1) := by decide +kernel
theorem dX3_equalise_174 : decode cX3_equalise 174 = .ok (.istore 5, 2) := by decide +kernel
theorem dX3_equalise_176 : decode cX3_equalise 176 = .ok (.iload 5, 2) := by decide +kernel
theorem dX3_equalise_178 : decode cX3_equalise 178 = .ok (.iload_n 3, 1) := by decide +kernel
theorem dX3_equalise_179 : decode cX3_equalise 179 = .ok (.if_icmp .ge 20, 3) := by decide +kernel
theorem dX3_equalise_182 : decode cX3_equalise 182 = .ok (.aload_n 0, 1) := by decide +kernel
theorem dX3_equalise_183 : decode cX3_equalise 183 = .ok (.aload_n 0, 1) := by decide +kernel
theorem dX3_equalise_184 : decode cX3_equalise 184 = .ok (.getfield 63, 3) := by decide +kernel
theorem dX3_equalise_187 : decode cX3_equalise 187 = .ok (.iload 5, 2) := by decide +kernel
theorem dX3_equalise_189 : decode cX3_equalise 189 = .ok (.iaload, 1) := by decide +kernel
theorem dX3_equalise_190 : decode cX3_equalise 190 = .ok (.invokevirtual 98, 3) := by decide +kernel
theorem dX3_equalise_193 : decode cX3_equalise 193 = .ok (.iinc 5 1, 3) := by decide +kernel
theorem dX3_equalise_196 : decode cX3_equalise 196 = .ok (.goto (-20), 3) := by decide +kernel
theorem dX3_equalise_199 : decode cX3_equalise 199 = .ok (.iload 4, 2) := by decide +kernel
theorem dX3_equalise_201 : decode cX3_equalise 201 = .ok (.ireturn, 1) := by decide +kernel
theorem dX3_order_0 : decode cX3_order 0 = .ok (.aload_n 0, 1) := by decide +kernel
theorem dX3_order_1 : decode cX3_order 1 = .ok (.iload_n 1, 1) := by decide +kernel
theorem dX3_order_2 : decode cX3_order 2 = .ok (.iconst 0, 1) := by decide +kernel
theorem dX3_order_3 : decode cX3_order 3 = .ok (.iconst 4, 1) := by decide +kernel
theorem dX3_order_4 : decode cX3_order 4 = .ok (.invokestatic 72, 3) := by decide +kernel
theorem dX3_order_7 : decode cX3_order 7 = .ok (.aload_n 0, 1) := by decide +kernel
theorem dX3_order_8 : decode cX3_order 8 = .ok (.getfield 112, 3) := by decide +kernel
theorem dX3_order_11 : decode cX3_order 11 = .ok (.bipush 16, 2) := by decide +kernel
theorem dX3_order_13 : decode cX3_order 13 = .ok (.if_icmp .ge 7, 3) := by decide +kernel
theorem dX3_order_16 : decode cX3_order 16 = .ok (.iconst 1, 1) := by decide +kernel
theorem dX3_order_17 : decode cX3_order 17 = .ok (.goto 4, 3) := by decide +kernel
theorem dX3_order_20 : decode cX3_order 20 = .ok (.iconst 0, 1) := by decide +kernel
theorem dX3_order_21 : decode cX3_order 21 = .ok (.iconst 1, 1) := by decide +kernel
theorem dX3_order_22 : decode cX3_order 22 = .ok (.invokevirtual 91, 3) := by decide +kernel
theorem dX3_order_25 : decode cX3_order 25 = .ok (.ifCond .ne 5, 3) := by decide +kernel
theorem dX3_order_28 : decode cX3_order 28 = .ok (.iconst 0, 1) := by decide +kernel
theorem dX3_order_29 : decode cX3_order 29 = .ok (.ireturn, 1) := by decide +kernel
theorem dX3_order_30 : decode cX3_order 30 = .ok (.aload_n 0, 1) := by decide +kernel
theorem dX3_order_31 : decode cX3_order 31 = .ok (.getfield 50, 3) := by decide +kernel
theorem dX3_order_34 : decode cX3_order 34 = .ok (.aload_n 0, 1) := by decide +kernel
theorem dX3_order_35 : decode cX3_order 35 = .ok (.getfield 112, 3) := by decide +kernel
theorem dX3_order_38 : decode cX3_order 38 = .ok (.iload_n 1, 1) := by decide +kernel
theorem dX3_order_39 : decode cX3_order 39 = .ok (.iastore, 1) := by decide +kernel
theorem dX3_order_40 : decode cX3_order 40 = .ok (.aload_n 0, 1) := by decide +kernel
theorem dX3_order_41 : decode cX3_order 41 = .ok (.getfield 53, 3) := by decide +kernel
theorem dX3_order_44 : decode cX3_order 44 = .ok (.aload_n 0, 1) := by decide +kernel
theorem dX3_order_45 : decode cX3_order 45 = .ok (.getfield 112, 3) := by decide +kernel
theorem dX3_order_48 : decode cX3_order 48 = .ok (.iconst (-1), 1) := by decide +kernel
theorem dX3_order_49 : decode cX3_order 49 = .ok (.iastore, 1) := by decide +kernel
theorem dX3_order_50 : decode cX3_order 50 = .ok (.aload_n 0, 1) := by decide +kernel
theorem dX3_order_51 : decode cX3_order 51 = .ok (.dup, 1) := by decide +kernel
theorem dX3_order_52 : decode cX3_order 52 = .ok (.getfield 112, 3) := by decide +kernel
theorem dX3_order_55 : decode cX3_order 55 = .ok (.iconst 1, 1) := by decide +kernel
theorem dX3_order_56 : decode cX3_order 56 = .ok (.iadd, 1) := by decide +kernel
theorem dX3_order_57 : decode cX3_order 57 = .ok (.putfield 112, 3) := by decide +kernel
theorem dX3_order_60 : decode cX3_order 60 = .ok (.aload_n 0, 1) := by decide +kernel
theorem dX3_order_61 : decode cX3_order 61 = .ok (.getfield 112, 3) := by decide +kernel
theorem dX3_order_64 : decode cX3_order 64 = .ok (.iconst 1, 1) := by decide +kernel
theorem dX3_order_65 : decode cX3_order 65 = .ok (.isub, 1) := by decide +kernel
theorem dX3_order_66 : decode cX3_order 66 = .ok (.ireturn, 1) := by decide +kernel
theorem dX3_countOpen_0 : decode cX3_countOpen 0 = .ok (.iconst 0, 1) := by decide +kernel
theorem dX3_countOpen_1 : decode cX3_countOpen 1 = .ok (.istore_n 1, 1) := by decide +kernel
theorem dX3_countOpen_2 : decode cX3_countOpen 2 = .ok (.iload_n 1, 1) := by decide +kernel
theorem dX3_countOpen_3 : decode cX3_countOpen 3 = .ok (.iconst 5, 1) := by decide +kernel
theorem dX3_countOpen_4 : decode cX3_countOpen 4 = .ok (.if_icmp .ge 16, 3) := by decide +kernel
theorem dX3_countOpen_7 : decode cX3_countOpen 7 = .ok (.aload_n 0, 1) := by decide +kernel
theorem dX3_countOpen_8 : decode cX3_countOpen 8 = .ok (.getfield 66, 3) := by decide +kernel
theorem dX3_countOpen_11 : decode cX3_countOpen 11 = .ok (.iload_n 1, 1) := by decide +kernel
theorem dX3_countOpen_12 : decode cX3_countOpen 12 = .ok (.iconst 0, 1) := by decide +kernel
theorem dX3_countOpen_13 : decode cX3_countOpen 13 = .ok (.iastore, 1) := by decide +kernel
theorem dX3_countOpen_14 : decode cX3_countOpen 14 = .ok (.iinc 1 1, 3) := by decide +kernel
theorem dX3_countOpen_17 : decode cX3_countOpen 17 = .ok (.goto (-15), 3) := by decide +kernel
theorem dX3_countOpen_20 : decode cX3_countOpen 20 = .ok (.iconst 0, 1) := by decide +kernel
theorem dX3_countOpen_21 : decode cX3_countOpen 21 = .ok (.istore_n 1, 1) := by decide +kernel
theorem dX3_countOpen_22 : decode cX3_countOpen 22 = .ok (.iload_n 1, 1) := by decide +kernel
theorem dX3_countOpen_23 : decode cX3_countOpen 23 = .ok (.aload_n 0, 1) := by decide +kernel
theorem dX3_countOpen_24 : decode cX3_countOpen 24 = .ok (.getfield 112, 3) := by decide +kernel
theorem dX3_countOpen_27 : decode cX3_countOpen 27 = .ok (.if_icmp .ge 38, 3) := by decide +kernel
theorem dX3_countOpen_30 : decode cX3_countOpen 30 = .ok (.aload_n 0, 1) := by decide +kernel
theorem dX3_countOpen_31 : decode cX3_countOpen 31 = .ok (.getfield 66, 3) := by decide +kernel
theorem dX3_countOpen_34 : decode cX3_countOpen 34 = .ok (.aload_n 0, 1) := by decide +kernel
theorem dX3_countOpen_35 : decode cX3_countOpen 35 = .ok (.getfield 50, 3) := by decide +kernel
theorem dX3_countOpen_38 : decode cX3_countOpen 38 = .ok (.iload_n 1, 1) := by decide +kernel
theorem dX3_countOpen_39 : decode cX3_countOpen 39 = .ok (.iaload, 1) := by decide +kernel
theorem dX3_countOpen_40 : decode cX3_countOpen 40 = .ok (.dup2, 1) := by decide +kernel
theorem dX3_countOpen_41 : decode cX3_countOpen 41 = .ok (.iaload, 1) := by decide +kernel
theorem dX3_countOpen_42 : decode cX3_countOpen 42 = .ok (.aload_n 0, 1) := by decide +kernel
theorem dX3_countOpen_43 : decode cX3_countOpen 43 = .ok (.getfield 53, 3) := by decide +kernel
theorem dX3_countOpen_46 : decode cX3_countOpen 46 = .ok (.iload_n 1, 1) := by decide +kernel
theorem dX3_countOpen_47 : decode cX3_countOpen 47 = .ok (.iaload, 1) := by decide +kernel
theorem dX3_countOpen_48 : decode cX3_countOpen 48 = .ok (.iconst (-1), 1) := by decide +kernel
theorem dX3_countOpen_49 : decode cX3_countOpen 49 = .ok (.if_icmp .ne 7, 3) := by decide +kernel
theorem dX3_countOpen_52 : decode cX3_countOpen 52 = .ok (.iconst 1, 1) := by decide +kernel
theorem dX3_countOpen_53 : decode cX3_countOpen 53 = .ok (.goto 4, 3) := by decide +kernel
theorem dX3_countOpen_56 : decode cX3_countOpen 56 = .ok (.iconst 0, 1) := by decide +kernel
theorem dX3_countOpen_57 : decode cX3_countOpen 57 = .ok (.iadd, 1) := by decide +kernel
theorem dX3_countOpen_58 : decode cX3_countOpen 58 = .ok (.iastore, 1) := by decide +kernel
theorem dX3_countOpen_59 : decode cX3_countOpen 59 = .ok (.iinc 1 1, 3) := by decide +kernel
theorem dX3_countOpen_62 : decode cX3_countOpen 62 = .ok (.goto (-40), 3) := by decide +kernel
theorem dX3_countOpen_65 : decode cX3_countOpen 65 = .ok (.return_, 1) := by decide +kernel
theorem dX3_canAll_0 : decode cX3_canAll 0 = .ok (.iconst 0, 1) := by decide +kernel
theorem dX3_canAll_1 : decode cX3_canAll 1 = .ok (.istore_n 3, 1) := by decide +kernel
theorem dX3_canAll_2 : decode cX3_canAll 2 = .ok (.iload_n 3, 1) := by decide +kernel
theorem dX3_canAll_3 : decode cX3_canAll 3 = .ok (.bipush 32, 2) := by decide +kernel
theorem dX3_canAll_5 : decode cX3_canAll 5 = .ok (.if_icmp .ge 109, 3) := by decide +kernel
theorem dX3_canAll_8 : decode cX3_canAll 8 = .ok (.iconst 0, 1) := by decide +kernel
theorem dX3_canAll_9 : decode cX3_canAll 9 = .ok (.istore 4, 2) := by decide +kernel
theorem dX3_canAll_11 : decode cX3_canAll 11 = .ok (.iconst 0, 1) := by decide +kernel
theorem dX3_canAll_12 : decode cX3_canAll 12 = .ok (.istore 5, 2) := by decide +kernel
theorem dX3_canAll_14 : decode cX3_canAll 14 = .ok (.iconst 0, 1) := by decide +kernel
theorem dX3_canAll_15 : decode cX3_canAll 15 = .ok (.istore 6, 2) := by decide +kernel
theorem dX3_canAll_17 : decode cX3_canAll 17 = .ok (.iload 6, 2) := by decide +kernel
theorem dX3_canAll_19 : decode cX3_canAll 19 = .ok (.iconst 5, 1) := by decide +kernel
theorem dX3_canAll_20 : decode cX3_canAll 20 = .ok (.if_icmp .ge 35, 3) := by decide +kernel
theorem dX3_canAll_23 : decode cX3_canAll 23 = .ok (.iload 4, 2) := by decide +kernel
theorem dX3_canAll_25 : decode cX3_canAll 25 = .ok (.iload_n 3, 1) := by decide +kernel
theorem dX3_canAll_26 : decode cX3_canAll 26 = .ok (.iload 6, 2) := by decide +kernel
theorem dX3_canAll_28 : decode cX3_canAll 28 = .ok (.ishr, 1) := by decide +kernel
theorem dX3_canAll_29 : decode cX3_canAll 29 = .ok (.iconst 1, 1) := by decide +kernel
theorem dX3_canAll_30 : decode cX3_canAll 30 = .ok (.iand, 1) := by decide +kernel
theorem dX3_canAll_31 : decode cX3_canAll 31 = .ok (.iconst 1, 1) := by decide +kernel
theorem dX3_canAll_32 : decode cX3_canAll 32 = .ok (.if_icmp .ne 13, 3) := by decide +kernel
theorem dX3_canAll_35 : decode cX3_canAll 35 = .ok (.aload_n 0, 1) := by decide +kernel
theorem dX3_canAll_36 : decode cX3_canAll 36 = .ok (.getfield 66, 3) := by decide +kernel
theorem dX3_canAll_39 : decode cX3_canAll 39 = .ok (.iload 6, 2) := by decide +kernel
theorem dX3_canAll_41 : decode cX3_canAll 41 = .ok (.iaload, 1) := by decide +kernel
theorem dX3_canAll_42 : decode cX3_canAll 42 = .ok (.goto 4, 3) := by decide +kernel
theorem dX3_canAll_45 : decode cX3_canAll 45 = .ok (.iconst 0, 1) := by decide +kernel
theorem dX3_canAll_46 : decode cX3_canAll 46 = .ok (.iadd, 1) := by decide +kernel
theorem dX3_canAll_47 : decode cX3_canAll 47 = .ok (.istore 4, 2) := by decide +kernel
theorem dX3_canAll_49 : decode cX3_canAll 49 = .ok (.iinc 6 1, 3) := by decide +kernel
theorem dX3_canAll_52 : decode cX3_canAll 52 = .ok (.goto (-35), 3) := by decide +kernel
theorem dX3_canAll_55 : decode cX3_canAll 55 = .ok (.iload_n 1, 1) := by decide +kernel
theorem dX3_canAll_56 : decode cX3_canAll 56 = .ok (.istore 6, 2) := by decide +kernel
theorem dX3_canAll_58 : decode cX3_canAll 58 = .ok (.iload 6, 2) := by decide +kernel
theorem dX3_canAll_60 : decode cX3_canAll 60 = .ok (.iload_n 2, 1) := by decide +kernel
theorem dX3_canAll_61 : decode cX3_canAll 61 = .ok (.if_icmp .ge 38, 3) := by decide +kernel
theorem dX3_canAll_64 : decode cX3_canAll 64 = .ok (.iload 5, 2) := by decide +kernel
theorem dX3_canAll_66 : decode cX3_canAll 66 = .ok (.aload_n 0, 1) := by decide +kernel
theorem dX3_canAll_67 : decode cX3_canAll 67 = .ok (.getfield 19, 3) := by decide +kernel
theorem dX3_canAll_70 : decode cX3_canAll 70 = .ok (.aload_n 0, 1) := by decide +kernel
theorem dX3_canAll_71 : decode cX3_canAll 71 = .ok (.getfield 63, 3) := by decide +kernel
theorem dX3_canAll_74 : decode cX3_canAll 74 = .ok (.iload 6, 2) := by decide +kernel
theorem dX3_canAll_76 : decode cX3_canAll 76 = .ok (.iaload, 1) := by decide +kernel
theorem dX3_canAll_77 : decode cX3_canAll 77 = .ok (.iaload, 1) := by decide +kernel
theorem dX3_canAll_78 : decode cX3_canAll 78 = .ok (.iload_n 3, 1) := by decide +kernel
theorem dX3_canAll_79 : decode cX3_canAll 79 = .ok (.iconst (-1), 1) := by decide +kernel
theorem dX3_canAll_80 : decode cX3_canAll 80 = .ok (.ixor, 1) := by decide +kernel
theorem dX3_canAll_81 : decode cX3_canAll 81 = .ok (.iand, 1) := by decide +kernel
theorem dX3_canAll_82 : decode cX3_canAll 82 = .ok (.ifCond .ne 7, 3) := by decide +kernel
theorem dX3_canAll_85 : decode cX3_canAll 85 = .ok (.iconst 1, 1) := by decide +kernel
theorem dX3_canAll_86 : decode cX3_canAll 86 = .ok (.goto 4, 3) := by decide +kernel
theorem dX3_canAll_89 : decode cX3_canAll 89 = .ok (.iconst 0, 1) := by decide +kernel
theorem dX3_canAll_90 : decode cX3_canAll 90 = .ok (.iadd, 1) := by decide +kernel
theorem dX3_canAll_91 : decode cX3_canAll 91 = .ok (.istore 5, 2) := by decide +kernel
theorem dX3_canAll_93 : decode cX3_canAll 93 = .ok (.iinc 6 1, 3) := by decide +kernel
theorem dX3_canAll_96 : decode cX3_canAll 96 = .ok (.goto (-38), 3) := by decide +kernel
theorem dX3_canAll_99 : decode cX3_canAll 99 = .ok (.iload 5, 2) := by decide +kernel
theorem dX3_canAll_101 : decode cX3_canAll 101 = .ok (.iload 4, 2) := by decide +kernel
theorem dX3_canAll_103 : decode cX3_canAll 103 = .ok (.if_icmp .le 5, 3) := by decide +kernel
theorem dX3_canAll_106 : decode cX3_canAll 106 = .ok (.iconst 0, 1) := by decide +kernel
theorem dX3_canAll_107 : decode cX3_canAll 107 = .ok (.ireturn, 1) := by decide +kernel
theorem dX3_canAll_108 : decode cX3_canAll 108 = .ok (.iinc 3 1, 3) := by decide +kernel
theorem dX3_canAll_111 : decode cX3_canAll 111 = .ok (.goto (-109), 3) := by decide +kernel
theorem dX3_canAll_114 : decode cX3_canAll 114 = .ok (.iconst 1, 1) := by decide +kernel
theorem dX3_canAll_115 : decode cX3_canAll 115 = .ok (.ireturn, 1) := by decide +kernel
theorem dX3_refuses_0 : decode cX3_refuses 0 = .ok (.aload_n 0, 1) := by decide +kernel
theorem dX3_refuses_1 : decode cX3_refuses 1 = .ok (.getfield 41, 3) := by decide +kernel
theorem dX3_refuses_4 : decode cX3_refuses 4 = .ok (.iload_n 1, 1) := by decide +kernel
theorem dX3_refuses_5 : decode cX3_refuses 5 = .ok (.dup2, 1) := by decide +kernel
theorem dX3_refuses_6 : decode cX3_refuses 6 = .ok (.iaload, 1) := by decide +kernel
theorem dX3_refuses_7 : decode cX3_refuses 7 = .ok (.iconst 1, 1) := by decide +kernel
theorem dX3_refuses_8 : decode cX3_refuses 8 = .ok (.iadd, 1) := by decide +kernel
theorem dX3_refuses_9 : decode cX3_refuses 9 = .ok (.iastore, 1) := by decide +kernel
theorem dX3_refuses_10 : decode cX3_refuses 10 = .ok (.aload_n 0, 1) := by decide +kernel
theorem dX3_refuses_11 : decode cX3_refuses 11 = .ok (.getfield 44, 3) := by decide +kernel
theorem dX3_refuses_14 : decode cX3_refuses 14 = .ok (.aload_n 0, 1) := by decide +kernel
theorem dX3_refuses_15 : decode cX3_refuses 15 = .ok (.getfield 13, 3) := by decide +kernel
theorem dX3_refuses_18 : decode cX3_refuses 18 = .ok (.iload_n 1, 1) := by decide +kernel
theorem dX3_refuses_19 : decode cX3_refuses 19 = .ok (.iaload, 1) := by decide +kernel
theorem dX3_refuses_20 : decode cX3_refuses 20 = .ok (.baload, 1) := by decide +kernel
theorem dX3_refuses_21 : decode cX3_refuses 21 = .ok (.ifCond .eq 8, 3) := by decide +kernel
theorem dX3_refuses_24 : decode cX3_refuses 24 = .ok (.aload_n 0, 1) := by decide +kernel
theorem dX3_refuses_25 : decode cX3_refuses 25 = .ok (.iload_n 1, 1) := by decide +kernel
theorem dX3_refuses_26 : decode cX3_refuses 26 = .ok (.invokevirtual 98, 3) := by decide +kernel
theorem dX3_refuses_29 : decode cX3_refuses 29 = .ok (.return_, 1) := by decide +kernel
theorem dX3_fills_0 : decode cX3_fills 0 = .ok (.aload_n 0, 1) := by decide +kernel
theorem dX3_fills_1 : decode cX3_fills 1 = .ok (.getfield 53, 3) := by decide +kernel
theorem dX3_fills_4 : decode cX3_fills 4 = .ok (.iload_n 2, 1) := by decide +kernel
theorem dX3_fills_5 : decode cX3_fills 5 = .ok (.iload_n 1, 1) := by decide +kernel
theorem dX3_fills_6 : decode cX3_fills 6 = .ok (.iastore, 1) := by decide +kernel
theorem dX3_fills_7 : decode cX3_fills 7 = .ok (.aload_n 0, 1) := by decide +kernel
theorem dX3_fills_8 : decode cX3_fills 8 = .ok (.getfield 32, 3) := by decide +kernel
theorem dX3_fills_11 : decode cX3_fills 11 = .ok (.iload_n 1, 1) := by decide +kernel
theorem dX3_fills_12 : decode cX3_fills 12 = .ok (.iload_n 2, 1) := by decide +kernel
theorem dX3_fills_13 : decode cX3_fills 13 = .ok (.iastore, 1) := by decide +kernel
theorem dX3_fills_14 : decode cX3_fills 14 = .ok (.aload_n 0, 1) := by decide +kernel
theorem dX3_fills_15 : decode cX3_fills 15 = .ok (.getfield 35, 3) := by decide +kernel
theorem dX3_fills_18 : decode cX3_fills 18 = .ok (.iload_n 1, 1) := by decide +kernel
theorem dX3_fills_19 : decode cX3_fills 19 = .ok (.aload_n 0, 1) := by decide +kernel
theorem dX3_fills_20 : decode cX3_fills 20 = .ok (.getfield 115, 3) := by decide +kernel
theorem dX3_fills_23 : decode cX3_fills 23 = .ok (.iastore, 1) := by decide +kernel
theorem dX3_fills_24 : decode cX3_fills 24 = .ok (.aload_n 0, 1) := by decide +kernel
theorem dX3_fills_25 : decode cX3_fills 25 = .ok (.getfield 29, 3) := by decide +kernel
theorem dX3_fills_28 : decode cX3_fills 28 = .ok (.iload_n 1, 1) := by decide +kernel
theorem dX3_fills_29 : decode cX3_fills 29 = .ok (.iconst 1, 1) := by decide +kernel
theorem dX3_fills_30 : decode cX3_fills 30 = .ok (.bastore, 1) := by decide +kernel
theorem dX3_fills_31 : decode cX3_fills 31 = .ok (.aload_n 0, 1) := by decide +kernel
theorem dX3_fills_32 : decode cX3_fills 32 = .ok (.iconst 1, 1) := by decide +kernel
theorem dX3_fills_33 : decode cX3_fills 33 = .ok (.putfield 118, 3) := by decide +kernel
theorem dX3_fills_36 : decode cX3_fills 36 = .ok (.return_, 1) := by decide +kernel
theorem dX3_gives_0 : decode cX3_gives 0 = .ok (.iconst 0, 1) := by decide +kernel
theorem dX3_gives_1 : decode cX3_gives 1 = .ok (.istore_n 2, 1) := by decide +kernel
theorem dX3_gives_2 : decode cX3_gives 2 = .ok (.iload_n 2, 1) := by decide +kernel
theorem dX3_gives_3 : decode cX3_gives 3 = .ok (.iload_n 1, 1) := by decide +kernel
theorem dX3_gives_4 : decode cX3_gives 4 = .ok (.if_icmp .ge 134, 3) := by decide +kernel
theorem dX3_gives_7 : decode cX3_gives 7 = .ok (.iconst 0, 1) := by decide +kernel
theorem dX3_gives_8 : decode cX3_gives 8 = .ok (.istore_n 3, 1) := by decide +kernel
theorem dX3_gives_9 : decode cX3_gives 9 = .ok (.iconst 0, 1) := by decide +kernel
theorem dX3_gives_10 : decode cX3_gives 10 = .ok (.istore 4, 2) := by decide +kernel
theorem dX3_gives_12 : decode cX3_gives 12 = .ok (.iload 4, 2) := by decide +kernel
theorem dX3_gives_14 : decode cX3_gives 14 = .ok (.aload_n 0, 1) := by decide +kernel
theorem dX3_gives_15 : decode cX3_gives 15 = .ok (.getfield 112, 3) := by decide +kernel
theorem dX3_gives_18 : decode cX3_gives 18 = .ok (.if_icmp .ge 114, 3) := by decide +kernel
theorem dX3_gives_21 : decode cX3_gives 21 = .ok (.iload_n 3, 1) := by decide +kernel
theorem dX3_gives_22 : decode cX3_gives 22 = .ok (.ifCond .ne 110, 3) := by decide +kernel
theorem dX3_gives_25 : decode cX3_gives 25 = .ok (.aload_n 0, 1) := by decide +kernel
theorem dX3_gives_26 : decode cX3_gives 26 = .ok (.getfield 53, 3) := by decide +kernel
theorem dX3_gives_29 : decode cX3_gives 29 = .ok (.iload 4, 2) := by decide +kernel
theorem dX3_gives_31 : decode cX3_gives 31 = .ok (.iaload, 1) := by decide +kernel
theorem dX3_gives_32 : decode cX3_gives 32 = .ok (.iconst (-1), 1) := by decide +kernel
theorem dX3_gives_33 : decode cX3_gives 33 = .ok (.if_icmp .ne 93, 3) := by decide +kernel
theorem dX3_gives_36 : decode cX3_gives 36 = .ok (.aload_n 0, 1) := by decide +kernel
theorem dX3_gives_37 : decode cX3_gives 37 = .ok (.getfield 19, 3) := by decide +kernel
theorem dX3_gives_40 : decode cX3_gives 40 = .ok (.aload_n 0, 1) := by decide +kernel
theorem dX3_gives_41 : decode cX3_gives 41 = .ok (.getfield 63, 3) := by decide +kernel
theorem dX3_gives_44 : decode cX3_gives 44 = .ok (.iload_n 2, 1) := by decide +kernel
theorem dX3_gives_45 : decode cX3_gives 45 = .ok (.iaload, 1) := by decide +kernel
theorem dX3_gives_46 : decode cX3_gives 46 = .ok (.iaload, 1) := by decide +kernel
theorem dX3_gives_47 : decode cX3_gives 47 = .ok (.aload_n 0, 1) := by decide +kernel
theorem dX3_gives_48 : decode cX3_gives 48 = .ok (.getfield 50, 3) := by decide +kernel
theorem dX3_gives_51 : decode cX3_gives 51 = .ok (.iload 4, 2) := by decide +kernel
theorem dX3_gives_53 : decode cX3_gives 53 = .ok (.iaload, 1) := by decide +kernel
theorem dX3_gives_54 : decode cX3_gives 54 = .ok (.ishr, 1) := by decide +kernel
theorem dX3_gives_55 : decode cX3_gives 55 = .ok (.iconst 1, 1) := by decide +kernel
theorem dX3_gives_56 : decode cX3_gives 56 = .ok (.iand, 1) := by decide +kernel
theorem dX3_gives_57 : decode cX3_gives 57 = .ok (.iconst 1, 1) := by decide +kernel
theorem dX3_gives_58 : decode cX3_gives 58 = .ok (.if_icmp .ne 68, 3) := by decide +kernel
theorem dX3_gives_61 : decode cX3_gives 61 = .ok (.aload_n 0, 1) := by decide +kernel
theorem dX3_gives_62 : decode cX3_gives 62 = .ok (.getfield 66, 3) := by decide +kernel
theorem dX3_gives_65 : decode cX3_gives 65 = .ok (.aload_n 0, 1) := by decide +kernel
theorem dX3_gives_66 : decode cX3_gives 66 = .ok (.getfield 50, 3) := by decide +kernel
theorem dX3_gives_69 : decode cX3_gives 69 = .ok (.iload 4, 2) := by decide +kernel
theorem dX3_gives_71 : decode cX3_gives 71 = .ok (.iaload, 1) := by decide +kernel
theorem dX3_gives_72 : decode cX3_gives 72 = .ok (.dup2, 1) := by decide +kernel
theorem dX3_gives_73 : decode cX3_gives 73 = .ok (.iaload, 1) := by decide +kernel
theorem dX3_gives_74 : decode cX3_gives 74 = .ok (.iconst 1, 1) := by decide +kernel
theorem dX3_gives_75 : decode cX3_gives 75 = .ok (.isub, 1) := by decide +kernel
theorem dX3_gives_76 : decode cX3_gives 76 = .ok (.iastore, 1) := by decide +kernel
theorem dX3_gives_77 : decode cX3_gives 77 = .ok (.aload_n 0, 1) := by decide +kernel
theorem dX3_gives_78 : decode cX3_gives 78 = .ok (.iload_n 2, 1) := by decide +kernel
theorem dX3_gives_79 : decode cX3_gives 79 = .ok (.iconst 1, 1) := by decide +kernel
theorem dX3_gives_80 : decode cX3_gives 80 = .ok (.iadd, 1) := by decide +kernel
theorem dX3_gives_81 : decode cX3_gives 81 = .ok (.iload_n 1, 1) := by decide +kernel
theorem dX3_gives_82 : decode cX3_gives 82 = .ok (.invokevirtual 122, 3) := by decide +kernel
theorem dX3_gives_85 : decode cX3_gives 85 = .ok (.istore_n 3, 1) := by decide +kernel
theorem dX3_gives_86 : decode cX3_gives 86 = .ok (.aload_n 0, 1) := by decide +kernel
theorem dX3_gives_87 : decode cX3_gives 87 = .ok (.getfield 66, 3) := by decide +kernel
theorem dX3_gives_90 : decode cX3_gives 90 = .ok (.aload_n 0, 1) := by decide +kernel
theorem dX3_gives_91 : decode cX3_gives 91 = .ok (.getfield 50, 3) := by decide +kernel
theorem dX3_gives_94 : decode cX3_gives 94 = .ok (.iload 4, 2) := by decide +kernel
theorem dX3_gives_96 : decode cX3_gives 96 = .ok (.iaload, 1) := by decide +kernel
theorem dX3_gives_97 : decode cX3_gives 97 = .ok (.dup2, 1) := by decide +kernel
theorem dX3_gives_98 : decode cX3_gives 98 = .ok (.iaload, 1) := by decide +kernel
theorem dX3_gives_99 : decode cX3_gives 99 = .ok (.iload_n 3, 1) := by decide +kernel
theorem dX3_gives_100 : decode cX3_gives 100 = .ok (.ifCond .eq 7, 3) := by decide +kernel
theorem dX3_gives_103 : decode cX3_gives 103 = .ok (.iconst 0, 1) := by decide +kernel
theorem dX3_gives_104 : decode cX3_gives 104 = .ok (.goto 4, 3) := by decide +kernel
theorem dX3_gives_107 : decode cX3_gives 107 = .ok (.iconst 1, 1) := by decide +kernel
theorem dX3_gives_108 : decode cX3_gives 108 = .ok (.iadd, 1) := by decide +kernel
theorem dX3_gives_109 : decode cX3_gives 109 = .ok (.iastore, 1) := by decide +kernel
theorem dX3_gives_110 : decode cX3_gives 110 = .ok (.iload_n 3, 1) := by decide +kernel
theorem dX3_gives_111 : decode cX3_gives 111 = .ok (.ifCond .eq 15, 3) := by decide +kernel
theorem dX3_gives_114 : decode cX3_gives 114 = .ok (.aload_n 0, 1) := by decide +kernel
theorem dX3_gives_115 : decode cX3_gives 115 = .ok (.aload_n 0, 1) := by decide +kernel
theorem dX3_gives_116 : decode cX3_gives 116 = .ok (.getfield 63, 3) := by decide +kernel
theorem dX3_gives_119 : decode cX3_gives 119 = .ok (.iload_n 2, 1) := by decide +kernel
theorem dX3_gives_120 : decode cX3_gives 120 = .ok (.iaload, 1) := by decide +kernel
theorem dX3_gives_121 : decode cX3_gives 121 = .ok (.iload 4, 2) := by decide +kernel
theorem dX3_gives_123 : decode cX3_gives 123 = .ok (.invokevirtual 125, 3) := by decide +kernel
theorem dX3_gives_126 : decode cX3_gives 126 = .ok (.iinc 4 1, 3) := by decide +kernel
theorem dX3_gives_129 : decode cX3_gives 129 = .ok (.goto (-117), 3) := by decide +kernel
theorem dX3_gives_132 : decode cX3_gives 132 = .ok (.iinc 2 1, 3) := by decide +kernel
theorem dX3_gives_135 : decode cX3_gives 135 = .ok (.goto (-133), 3) := by decide +kernel
theorem dX3_gives_138 : decode cX3_gives 138 = .ok (.iconst 0, 1) := by decide +kernel
theorem dX3_gives_139 : decode cX3_gives 139 = .ok (.istore_n 2, 1) := by decide +kernel
theorem dX3_gives_140 : decode cX3_gives 140 = .ok (.iload_n 2, 1) := by decide +kernel
theorem dX3_gives_141 : decode cX3_gives 141 = .ok (.iload_n 1, 1) := by decide +kernel
theorem dX3_gives_142 : decode cX3_gives 142 = .ok (.if_icmp .ge 19, 3) := by decide +kernel
theorem dX3_gives_145 : decode cX3_gives 145 = .ok (.aload_n 0, 1) := by decide +kernel
theorem dX3_gives_146 : decode cX3_gives 146 = .ok (.aload_n 0, 1) := by decide +kernel
theorem dX3_gives_147 : decode cX3_gives 147 = .ok (.getfield 63, 3) := by decide +kernel
theorem dX3_gives_150 : decode cX3_gives 150 = .ok (.iload_n 2, 1) := by decide +kernel
theorem dX3_gives_151 : decode cX3_gives 151 = .ok (.iaload, 1) := by decide +kernel
theorem dX3_gives_152 : decode cX3_gives 152 = .ok (.invokevirtual 98, 3) := by decide +kernel
theorem dX3_gives_155 : decode cX3_gives 155 = .ok (.iinc 2 1, 3) := by decide +kernel
theorem dX3_gives_158 : decode cX3_gives 158 = .ok (.goto (-18), 3) := by decide +kernel
theorem dX3_gives_161 : decode cX3_gives 161 = .ok (.return_, 1) := by decide +kernel
theorem dX3_dispatch_0 : decode cX3_dispatch 0 = .ok (.aload_n 0, 1) := by decide +kernel
theorem dX3_dispatch_1 : decode cX3_dispatch 1 = .ok (.iconst 0, 1) := by decide +kernel
theorem dX3_dispatch_2 : decode cX3_dispatch 2 = .ok (.putfield 69, 3) := by decide +kernel
theorem dX3_dispatch_5 : decode cX3_dispatch 5 = .ok (.aload_n 0, 1) := by decide +kernel
theorem dX3_dispatch_6 : decode cX3_dispatch 6 = .ok (.invokevirtual 106, 3) := by decide +kernel
theorem dX3_dispatch_9 : decode cX3_dispatch 9 = .ok (.istore_n 1, 1) := by decide +kernel
theorem dX3_dispatch_10 : decode cX3_dispatch 10 = .ok (.iconst 0, 1) := by decide +kernel
theorem dX3_dispatch_11 : decode cX3_dispatch 11 = .ok (.istore_n 2, 1) := by decide +kernel
theorem dX3_dispatch_12 : decode cX3_dispatch 12 = .ok (.aload_n 0, 1) := by decide +kernel
theorem dX3_dispatch_13 : decode cX3_dispatch 13 = .ok (.invokevirtual 129, 3) := by decide +kernel
theorem dX3_dispatch_16 : decode cX3_dispatch 16 = .ok (.iconst 0, 1) := by decide +kernel
theorem dX3_dispatch_17 : decode cX3_dispatch 17 = .ok (.istore_n 3, 1) := by decide +kernel
theorem dX3_dispatch_18 : decode cX3_dispatch 18 = .ok (.iload_n 3, 1) := by decide +kernel
theorem dX3_dispatch_19 : decode cX3_dispatch 19 = .ok (.iload_n 1, 1) := by decide +kernel
theorem dX3_dispatch_20 : decode cX3_dispatch 20 = .ok (.if_icmp .ge 89, 3) := by decide +kernel
theorem dX3_dispatch_23 : decode cX3_dispatch 23 = .ok (.aload_n 0, 1) := by decide +kernel
theorem dX3_dispatch_24 : decode cX3_dispatch 24 = .ok (.aload_n 0, 1) := by decide +kernel
theorem dX3_dispatch_25 : decode cX3_dispatch 25 = .ok (.getfield 60, 3) := by decide +kernel
theorem dX3_dispatch_28 : decode cX3_dispatch 28 = .ok (.iload_n 3, 1) := by decide +kernel
theorem dX3_dispatch_29 : decode cX3_dispatch 29 = .ok (.iaload, 1) := by decide +kernel
theorem dX3_dispatch_30 : decode cX3_dispatch 30 = .ok (.invokevirtual 132, 3) := by decide +kernel
theorem dX3_dispatch_33 : decode cX3_dispatch 33 = .ok (.ifCond .eq 70, 3) := by decide +kernel
theorem dX3_dispatch_36 : decode cX3_dispatch 36 = .ok (.aload_n 0, 1) := by decide +kernel
theorem dX3_dispatch_37 : decode cX3_dispatch 37 = .ok (.getfield 63, 3) := by decide +kernel
theorem dX3_dispatch_40 : decode cX3_dispatch 40 = .ok (.iload_n 2, 1) := by decide +kernel
theorem dX3_dispatch_41 : decode cX3_dispatch 41 = .ok (.aload_n 0, 1) := by decide +kernel
theorem dX3_dispatch_42 : decode cX3_dispatch 42 = .ok (.getfield 60, 3) := by decide +kernel
theorem dX3_dispatch_45 : decode cX3_dispatch 45 = .ok (.iload_n 3, 1) := by decide +kernel
theorem dX3_dispatch_46 : decode cX3_dispatch 46 = .ok (.iaload, 1) := by decide +kernel
theorem dX3_dispatch_47 : decode cX3_dispatch 47 = .ok (.iastore, 1) := by decide +kernel
theorem dX3_dispatch_48 : decode cX3_dispatch 48 = .ok (.aload_n 0, 1) := by decide +kernel
theorem dX3_dispatch_49 : decode cX3_dispatch 49 = .ok (.iconst 0, 1) := by decide +kernel
theorem dX3_dispatch_50 : decode cX3_dispatch 50 = .ok (.iload_n 2, 1) := by decide +kernel
theorem dX3_dispatch_51 : decode cX3_dispatch 51 = .ok (.iconst 1, 1) := by decide +kernel
theorem dX3_dispatch_52 : decode cX3_dispatch 52 = .ok (.iadd, 1) := by decide +kernel
theorem dX3_dispatch_53 : decode cX3_dispatch 53 = .ok (.invokevirtual 122, 3) := by decide +kernel
theorem dX3_dispatch_56 : decode cX3_dispatch 56 = .ok (.istore 4, 2) := by decide +kernel
end
section
theorem dX3_dispatch_58 : decode cX3_dispatch 58 = .ok (.iload 4, 2) := by decide +kernel
theorem dX3_dispatch_60 : decode cX3_dispatch 60 = .ok (.ifCond .eq 30, 3) := by decide +kernel
theorem dX3_dispatch_63 : decode cX3_dispatch 63 = .ok (.aload_n 0, 1) := by decide +kernel
theorem dX3_dispatch_64 : decode cX3_dispatch 64 = .ok (.getfield 26, 3) := by decide +kernel
theorem dX3_dispatch_67 : decode cX3_dispatch 67 = .ok (.aload_n 0, 1) := by decide +kernel
theorem dX3_dispatch_68 : decode cX3_dispatch 68 = .ok (.getfield 60, 3) := by decide +kernel
theorem dX3_dispatch_71 : decode cX3_dispatch 71 = .ok (.iload_n 3, 1) := by decide +kernel
theorem dX3_dispatch_72 : decode cX3_dispatch 72 = .ok (.iaload, 1) := by decide +kernel
theorem dX3_dispatch_73 : decode cX3_dispatch 73 = .ok (.baload, 1) := by decide +kernel
theorem dX3_dispatch_74 : decode cX3_dispatch 74 = .ok (.ifCond .eq 16, 3) := by decide +kernel
theorem dX3_dispatch_77 : decode cX3_dispatch 77 = .ok (.aload_n 0, 1) := by decide +kernel
theorem dX3_dispatch_78 : decode cX3_dispatch 78 = .ok (.aload_n 0, 1) := by decide +kernel
theorem dX3_dispatch_79 : decode cX3_dispatch 79 = .ok (.getfield 60, 3) := by decide +kernel
theorem dX3_dispatch_82 : decode cX3_dispatch 82 = .ok (.iload_n 3, 1) := by decide +kernel
theorem dX3_dispatch_83 : decode cX3_dispatch 83 = .ok (.iaload, 1) := by decide +kernel
theorem dX3_dispatch_84 : decode cX3_dispatch 84 = .ok (.invokevirtual 135, 3) := by decide +kernel
theorem dX3_dispatch_87 : decode cX3_dispatch 87 = .ok (.goto 16, 3) := by decide +kernel
theorem dX3_dispatch_90 : decode cX3_dispatch 90 = .ok (.iload_n 2, 1) := by decide +kernel
theorem dX3_dispatch_91 : decode cX3_dispatch 91 = .ok (.iload 4, 2) := by decide +kernel
theorem dX3_dispatch_93 : decode cX3_dispatch 93 = .ok (.ifCond .eq 7, 3) := by decide +kernel
theorem dX3_dispatch_96 : decode cX3_dispatch 96 = .ok (.iconst 1, 1) := by decide +kernel
theorem dX3_dispatch_97 : decode cX3_dispatch 97 = .ok (.goto 4, 3) := by decide +kernel
theorem dX3_dispatch_100 : decode cX3_dispatch 100 = .ok (.iconst 0, 1) := by decide +kernel
theorem dX3_dispatch_101 : decode cX3_dispatch 101 = .ok (.iadd, 1) := by decide +kernel
theorem dX3_dispatch_102 : decode cX3_dispatch 102 = .ok (.istore_n 2, 1) := by decide +kernel
theorem dX3_dispatch_103 : decode cX3_dispatch 103 = .ok (.iinc 3 1, 3) := by decide +kernel
theorem dX3_dispatch_106 : decode cX3_dispatch 106 = .ok (.goto (-88), 3) := by decide +kernel
theorem dX3_dispatch_109 : decode cX3_dispatch 109 = .ok (.aload_n 0, 1) := by decide +kernel
theorem dX3_dispatch_110 : decode cX3_dispatch 110 = .ok (.iload_n 2, 1) := by decide +kernel
theorem dX3_dispatch_111 : decode cX3_dispatch 111 = .ok (.invokevirtual 138, 3) := by decide +kernel
theorem dX3_dispatch_114 : decode cX3_dispatch 114 = .ok (.iload_n 2, 1) := by decide +kernel
theorem dX3_dispatch_115 : decode cX3_dispatch 115 = .ok (.ireturn, 1) := by decide +kernel
theorem dX3_setHours_0 : decode cX3_setHours 0 = .ok (.aload_n 0, 1) := by decide +kernel
theorem dX3_setHours_1 : decode cX3_setHours 1 = .ok (.iload_n 1, 1) := by decide +kernel
theorem dX3_setHours_2 : decode cX3_setHours 2 = .ok (.iconst 1, 1) := by decide +kernel
theorem dX3_setHours_3 : decode cX3_setHours 3 = .ok (.bipush 12, 2) := by decide +kernel
theorem dX3_setHours_5 : decode cX3_setHours 5 = .ok (.invokestatic 72, 3) := by decide +kernel
theorem dX3_setHours_8 : decode cX3_setHours 8 = .ok (.aload_n 0, 1) := by decide +kernel
theorem dX3_setHours_9 : decode cX3_setHours 9 = .ok (.getfield 118, 3) := by decide +kernel
theorem dX3_setHours_12 : decode cX3_setHours 12 = .ok (.ifCond .ne 7, 3) := by decide +kernel
theorem dX3_setHours_15 : decode cX3_setHours 15 = .ok (.iconst 1, 1) := by decide +kernel
theorem dX3_setHours_16 : decode cX3_setHours 16 = .ok (.goto 4, 3) := by decide +kernel
theorem dX3_setHours_19 : decode cX3_setHours 19 = .ok (.iconst 0, 1) := by decide +kernel
theorem dX3_setHours_20 : decode cX3_setHours 20 = .ok (.iconst 1, 1) := by decide +kernel
theorem dX3_setHours_21 : decode cX3_setHours 21 = .ok (.invokevirtual 91, 3) := by decide +kernel
theorem dX3_setHours_24 : decode cX3_setHours 24 = .ok (.ifCond .ne 5, 3) := by decide +kernel
theorem dX3_setHours_27 : decode cX3_setHours 27 = .ok (.iconst 0, 1) := by decide +kernel
theorem dX3_setHours_28 : decode cX3_setHours 28 = .ok (.ireturn, 1) := by decide +kernel
theorem dX3_setHours_29 : decode cX3_setHours 29 = .ok (.aload_n 0, 1) := by decide +kernel
theorem dX3_setHours_30 : decode cX3_setHours 30 = .ok (.getfield 56, 3) := by decide +kernel
theorem dX3_setHours_33 : decode cX3_setHours 33 = .ok (.istore_n 2, 1) := by decide +kernel
theorem dX3_setHours_34 : decode cX3_setHours 34 = .ok (.aload_n 0, 1) := by decide +kernel
theorem dX3_setHours_35 : decode cX3_setHours 35 = .ok (.iload_n 1, 1) := by decide +kernel
theorem dX3_setHours_36 : decode cX3_setHours 36 = .ok (.putfield 56, 3) := by decide +kernel
theorem dX3_setHours_39 : decode cX3_setHours 39 = .ok (.iload_n 2, 1) := by decide +kernel
theorem dX3_setHours_40 : decode cX3_setHours 40 = .ok (.ireturn, 1) := by decide +kernel
theorem dX3_works_0 : decode cX3_works 0 = .ok (.aload_n 0, 1) := by decide +kernel
theorem dX3_works_1 : decode cX3_works 1 = .ok (.getfield 38, 3) := by decide +kernel
theorem dX3_works_4 : decode cX3_works 4 = .ok (.iload_n 1, 1) := by decide +kernel
theorem dX3_works_5 : decode cX3_works 5 = .ok (.dup2, 1) := by decide +kernel
theorem dX3_works_6 : decode cX3_works 6 = .ok (.iaload, 1) := by decide +kernel
theorem dX3_works_7 : decode cX3_works 7 = .ok (.iload_n 2, 1) := by decide +kernel
theorem dX3_works_8 : decode cX3_works 8 = .ok (.aload_n 0, 1) := by decide +kernel
theorem dX3_works_9 : decode cX3_works 9 = .ok (.getfield 35, 3) := by decide +kernel
theorem dX3_works_12 : decode cX3_works 12 = .ok (.iload_n 1, 1) := by decide +kernel
theorem dX3_works_13 : decode cX3_works 13 = .ok (.iaload, 1) := by decide +kernel
theorem dX3_works_14 : decode cX3_works 14 = .ok (.isub, 1) := by decide +kernel
theorem dX3_works_15 : decode cX3_works 15 = .ok (.iadd, 1) := by decide +kernel
theorem dX3_works_16 : decode cX3_works 16 = .ok (.iastore, 1) := by decide +kernel
theorem dX3_works_17 : decode cX3_works 17 = .ok (.aload_n 0, 1) := by decide +kernel
theorem dX3_works_18 : decode cX3_works 18 = .ok (.dup, 1) := by decide +kernel
theorem dX3_works_19 : decode cX3_works 19 = .ok (.getfield 141, 3) := by decide +kernel
theorem dX3_works_22 : decode cX3_works 22 = .ok (.iload_n 2, 1) := by decide +kernel
theorem dX3_works_23 : decode cX3_works 23 = .ok (.aload_n 0, 1) := by decide +kernel
theorem dX3_works_24 : decode cX3_works 24 = .ok (.getfield 35, 3) := by decide +kernel
theorem dX3_works_27 : decode cX3_works 27 = .ok (.iload_n 1, 1) := by decide +kernel
theorem dX3_works_28 : decode cX3_works 28 = .ok (.iaload, 1) := by decide +kernel
theorem dX3_works_29 : decode cX3_works 29 = .ok (.isub, 1) := by decide +kernel
theorem dX3_works_30 : decode cX3_works 30 = .ok (.iadd, 1) := by decide +kernel
theorem dX3_works_31 : decode cX3_works 31 = .ok (.putfield 141, 3) := by decide +kernel
theorem dX3_works_34 : decode cX3_works 34 = .ok (.aload_n 0, 1) := by decide +kernel
theorem dX3_works_35 : decode cX3_works 35 = .ok (.getfield 32, 3) := by decide +kernel
theorem dX3_works_38 : decode cX3_works 38 = .ok (.iload_n 1, 1) := by decide +kernel
theorem dX3_works_39 : decode cX3_works 39 = .ok (.iconst (-1), 1) := by decide +kernel
theorem dX3_works_40 : decode cX3_works 40 = .ok (.iastore, 1) := by decide +kernel
theorem dX3_works_41 : decode cX3_works 41 = .ok (.return_, 1) := by decide +kernel
theorem dX3_leave_0 : decode cX3_leave 0 = .ok (.aload_n 0, 1) := by decide +kernel
theorem dX3_leave_1 : decode cX3_leave 1 = .ok (.iload_n 1, 1) := by decide +kernel
theorem dX3_leave_2 : decode cX3_leave 2 = .ok (.invokevirtual 102, 3) := by decide +kernel
theorem dX3_leave_5 : decode cX3_leave 5 = .ok (.istore_n 3, 1) := by decide +kernel
theorem dX3_leave_6 : decode cX3_leave 6 = .ok (.aload_n 0, 1) := by decide +kernel
theorem dX3_leave_7 : decode cX3_leave 7 = .ok (.iload_n 3, 1) := by decide +kernel
theorem dX3_leave_8 : decode cX3_leave 8 = .ok (.ifCond .lt 7, 3) := by decide +kernel
theorem dX3_leave_11 : decode cX3_leave 11 = .ok (.iconst 1, 1) := by decide +kernel
theorem dX3_leave_12 : decode cX3_leave 12 = .ok (.goto 4, 3) := by decide +kernel
theorem dX3_leave_15 : decode cX3_leave 15 = .ok (.iconst 0, 1) := by decide +kernel
theorem dX3_leave_16 : decode cX3_leave 16 = .ok (.iload_n 2, 1) := by decide +kernel
theorem dX3_leave_17 : decode cX3_leave 17 = .ok (.iconst 0, 1) := by decide +kernel
theorem dX3_leave_18 : decode cX3_leave 18 = .ok (.aload_n 0, 1) := by decide +kernel
theorem dX3_leave_19 : decode cX3_leave 19 = .ok (.getfield 56, 3) := by decide +kernel
theorem dX3_leave_22 : decode cX3_leave 22 = .ok (.invokestatic 72, 3) := by decide +kernel
theorem dX3_leave_25 : decode cX3_leave 25 = .ok (.iload_n 3, 1) := by decide +kernel
theorem dX3_leave_26 : decode cX3_leave 26 = .ok (.ifCond .lt 25, 3) := by decide +kernel
theorem dX3_leave_29 : decode cX3_leave 29 = .ok (.aload_n 0, 1) := by decide +kernel
theorem dX3_leave_30 : decode cX3_leave 30 = .ok (.getfield 32, 3) := by decide +kernel
theorem dX3_leave_33 : decode cX3_leave 33 = .ok (.iload_n 3, 1) := by decide +kernel
theorem dX3_leave_34 : decode cX3_leave 34 = .ok (.iaload, 1) := by decide +kernel
theorem dX3_leave_35 : decode cX3_leave 35 = .ok (.iconst (-1), 1) := by decide +kernel
theorem dX3_leave_36 : decode cX3_leave 36 = .ok (.if_icmp .eq 15, 3) := by decide +kernel
theorem dX3_leave_39 : decode cX3_leave 39 = .ok (.iload_n 2, 1) := by decide +kernel
theorem dX3_leave_40 : decode cX3_leave 40 = .ok (.aload_n 0, 1) := by decide +kernel
theorem dX3_leave_41 : decode cX3_leave 41 = .ok (.getfield 115, 3) := by decide +kernel
theorem dX3_leave_44 : decode cX3_leave 44 = .ok (.if_icmp .lt 7, 3) := by decide +kernel
theorem dX3_leave_47 : decode cX3_leave 47 = .ok (.iconst 1, 1) := by decide +kernel
theorem dX3_leave_48 : decode cX3_leave 48 = .ok (.goto 4, 3) := by decide +kernel
theorem dX3_leave_51 : decode cX3_leave 51 = .ok (.iconst 0, 1) := by decide +kernel
theorem dX3_leave_52 : decode cX3_leave 52 = .ok (.invokevirtual 91, 3) := by decide +kernel
theorem dX3_leave_55 : decode cX3_leave 55 = .ok (.ifCond .ne 5, 3) := by decide +kernel
theorem dX3_leave_58 : decode cX3_leave 58 = .ok (.iconst 0, 1) := by decide +kernel
theorem dX3_leave_59 : decode cX3_leave 59 = .ok (.ireturn, 1) := by decide +kernel
theorem dX3_leave_60 : decode cX3_leave 60 = .ok (.aload_n 0, 1) := by decide +kernel
theorem dX3_leave_61 : decode cX3_leave 61 = .ok (.getfield 32, 3) := by decide +kernel
theorem dX3_leave_64 : decode cX3_leave 64 = .ok (.iload_n 3, 1) := by decide +kernel
theorem dX3_leave_65 : decode cX3_leave 65 = .ok (.iaload, 1) := by decide +kernel
theorem dX3_leave_66 : decode cX3_leave 66 = .ok (.istore 4, 2) := by decide +kernel
theorem dX3_leave_68 : decode cX3_leave 68 = .ok (.aload_n 0, 1) := by decide +kernel
theorem dX3_leave_69 : decode cX3_leave 69 = .ok (.iload_n 3, 1) := by decide +kernel
theorem dX3_leave_70 : decode cX3_leave 70 = .ok (.iload_n 2, 1) := by decide +kernel
theorem dX3_leave_71 : decode cX3_leave 71 = .ok (.invokevirtual 144, 3) := by decide +kernel
theorem dX3_leave_74 : decode cX3_leave 74 = .ok (.aload_n 0, 1) := by decide +kernel
theorem dX3_leave_75 : decode cX3_leave 75 = .ok (.getfield 53, 3) := by decide +kernel
theorem dX3_leave_78 : decode cX3_leave 78 = .ok (.iload 4, 2) := by decide +kernel
theorem dX3_leave_80 : decode cX3_leave 80 = .ok (.iconst (-1), 1) := by decide +kernel
theorem dX3_leave_81 : decode cX3_leave 81 = .ok (.iastore, 1) := by decide +kernel
theorem dX3_leave_82 : decode cX3_leave 82 = .ok (.aload_n 0, 1) := by decide +kernel
theorem dX3_leave_83 : decode cX3_leave 83 = .ok (.iload_n 2, 1) := by decide +kernel
theorem dX3_leave_84 : decode cX3_leave 84 = .ok (.putfield 115, 3) := by decide +kernel
theorem dX3_leave_87 : decode cX3_leave 87 = .ok (.iload 4, 2) := by decide +kernel
theorem dX3_leave_89 : decode cX3_leave 89 = .ok (.ireturn, 1) := by decide +kernel
theorem dX3_isPlace_0 : decode cX3_isPlace 0 = .ok (.iload_n 1, 1) := by decide +kernel
theorem dX3_isPlace_1 : decode cX3_isPlace 1 = .ok (.iconst 0, 1) := by decide +kernel
theorem dX3_isPlace_2 : decode cX3_isPlace 2 = .ok (.aload_n 0, 1) := by decide +kernel
theorem dX3_isPlace_3 : decode cX3_isPlace 3 = .ok (.getfield 112, 3) := by decide +kernel
theorem dX3_isPlace_6 : decode cX3_isPlace 6 = .ok (.iconst 1, 1) := by decide +kernel
theorem dX3_isPlace_7 : decode cX3_isPlace 7 = .ok (.isub, 1) := by decide +kernel
theorem dX3_isPlace_8 : decode cX3_isPlace 8 = .ok (.invokestatic 72, 3) := by decide +kernel
theorem dX3_isPlace_11 : decode cX3_isPlace 11 = .ok (.ireturn, 1) := by decide +kernel
theorem dX3_replace_0 : decode cX3_replace 0 = .ok (.aload_n 0, 1) := by decide +kernel
theorem dX3_replace_1 : decode cX3_replace 1 = .ok (.aload_n 0, 1) := by decide +kernel
theorem dX3_replace_2 : decode cX3_replace 2 = .ok (.iload_n 1, 1) := by decide +kernel
theorem dX3_replace_3 : decode cX3_replace 3 = .ok (.invokevirtual 147, 3) := by decide +kernel
theorem dX3_replace_6 : decode cX3_replace 6 = .ok (.aload_n 0, 1) := by decide +kernel
theorem dX3_replace_7 : decode cX3_replace 7 = .ok (.iload_n 1, 1) := by decide +kernel
theorem dX3_replace_8 : decode cX3_replace 8 = .ok (.invokevirtual 147, 3) := by decide +kernel
theorem dX3_replace_11 : decode cX3_replace 11 = .ok (.ifCond .eq 17, 3) := by decide +kernel
theorem dX3_replace_14 : decode cX3_replace 14 = .ok (.aload_n 0, 1) := by decide +kernel
theorem dX3_replace_15 : decode cX3_replace 15 = .ok (.getfield 53, 3) := by decide +kernel
theorem dX3_replace_18 : decode cX3_replace 18 = .ok (.iload_n 1, 1) := by decide +kernel
theorem dX3_replace_19 : decode cX3_replace 19 = .ok (.iaload, 1) := by decide +kernel
theorem dX3_replace_20 : decode cX3_replace 20 = .ok (.iconst (-1), 1) := by decide +kernel
theorem dX3_replace_21 : decode cX3_replace 21 = .ok (.if_icmp .ne 7, 3) := by decide +kernel
theorem dX3_replace_24 : decode cX3_replace 24 = .ok (.iconst 1, 1) := by decide +kernel
theorem dX3_replace_25 : decode cX3_replace 25 = .ok (.goto 4, 3) := by decide +kernel
theorem dX3_replace_28 : decode cX3_replace 28 = .ok (.iconst 0, 1) := by decide +kernel
theorem dX3_replace_29 : decode cX3_replace 29 = .ok (.iconst 1, 1) := by decide +kernel
theorem dX3_replace_30 : decode cX3_replace 30 = .ok (.invokevirtual 91, 3) := by decide +kernel
theorem dX3_replace_33 : decode cX3_replace 33 = .ok (.ifCond .ne 5, 3) := by decide +kernel
theorem dX3_replace_36 : decode cX3_replace 36 = .ok (.iconst 0, 1) := by decide +kernel
theorem dX3_replace_37 : decode cX3_replace 37 = .ok (.ireturn, 1) := by decide +kernel
theorem dX3_replace_38 : decode cX3_replace 38 = .ok (.aload_n 0, 1) := by decide +kernel
theorem dX3_replace_39 : decode cX3_replace 39 = .ok (.invokevirtual 106, 3) := by decide +kernel
theorem dX3_replace_42 : decode cX3_replace 42 = .ok (.istore_n 2, 1) := by decide +kernel
theorem dX3_replace_43 : decode cX3_replace 43 = .ok (.iconst 0, 1) := by decide +kernel
theorem dX3_replace_44 : decode cX3_replace 44 = .ok (.istore_n 3, 1) := by decide +kernel
theorem dX3_replace_45 : decode cX3_replace 45 = .ok (.iload_n 3, 1) := by decide +kernel
theorem dX3_replace_46 : decode cX3_replace 46 = .ok (.iload_n 2, 1) := by decide +kernel
theorem dX3_replace_47 : decode cX3_replace 47 = .ok (.if_icmp .ge 103, 3) := by decide +kernel
theorem dX3_replace_50 : decode cX3_replace 50 = .ok (.aload_n 0, 1) := by decide +kernel
theorem dX3_replace_51 : decode cX3_replace 51 = .ok (.getfield 60, 3) := by decide +kernel
theorem dX3_replace_54 : decode cX3_replace 54 = .ok (.iload_n 3, 1) := by decide +kernel
theorem dX3_replace_55 : decode cX3_replace 55 = .ok (.iaload, 1) := by decide +kernel
theorem dX3_replace_56 : decode cX3_replace 56 = .ok (.istore 4, 2) := by decide +kernel
theorem dX3_replace_58 : decode cX3_replace 58 = .ok (.aload_n 0, 1) := by decide +kernel
theorem dX3_replace_59 : decode cX3_replace 59 = .ok (.iload 4, 2) := by decide +kernel
theorem dX3_replace_61 : decode cX3_replace 61 = .ok (.invokevirtual 132, 3) := by decide +kernel
theorem dX3_replace_64 : decode cX3_replace 64 = .ok (.ifCond .eq 27, 3) := by decide +kernel
theorem dX3_replace_67 : decode cX3_replace 67 = .ok (.aload_n 0, 1) := by decide +kernel
theorem dX3_replace_68 : decode cX3_replace 68 = .ok (.getfield 19, 3) := by decide +kernel
theorem dX3_replace_71 : decode cX3_replace 71 = .ok (.iload 4, 2) := by decide +kernel
theorem dX3_replace_73 : decode cX3_replace 73 = .ok (.iaload, 1) := by decide +kernel
theorem dX3_replace_74 : decode cX3_replace 74 = .ok (.aload_n 0, 1) := by decide +kernel
theorem dX3_replace_75 : decode cX3_replace 75 = .ok (.getfield 50, 3) := by decide +kernel
theorem dX3_replace_78 : decode cX3_replace 78 = .ok (.iload_n 1, 1) := by decide +kernel
theorem dX3_replace_79 : decode cX3_replace 79 = .ok (.iaload, 1) := by decide +kernel
theorem dX3_replace_80 : decode cX3_replace 80 = .ok (.ishr, 1) := by decide +kernel
theorem dX3_replace_81 : decode cX3_replace 81 = .ok (.iconst 1, 1) := by decide +kernel
theorem dX3_replace_82 : decode cX3_replace 82 = .ok (.iand, 1) := by decide +kernel
theorem dX3_replace_83 : decode cX3_replace 83 = .ok (.iconst 1, 1) := by decide +kernel
theorem dX3_replace_84 : decode cX3_replace 84 = .ok (.if_icmp .ne 7, 3) := by decide +kernel
theorem dX3_replace_87 : decode cX3_replace 87 = .ok (.iconst 1, 1) := by decide +kernel
theorem dX3_replace_88 : decode cX3_replace 88 = .ok (.goto 4, 3) := by decide +kernel
theorem dX3_replace_91 : decode cX3_replace 91 = .ok (.iconst 0, 1) := by decide +kernel
theorem dX3_replace_92 : decode cX3_replace 92 = .ok (.istore 5, 2) := by decide +kernel
theorem dX3_replace_94 : decode cX3_replace 94 = .ok (.iload 5, 2) := by decide +kernel
theorem dX3_replace_96 : decode cX3_replace 96 = .ok (.ifCond .eq 22, 3) := by decide +kernel
theorem dX3_replace_99 : decode cX3_replace 99 = .ok (.aload_n 0, 1) := by decide +kernel
theorem dX3_replace_100 : decode cX3_replace 100 = .ok (.getfield 26, 3) := by decide +kernel
theorem dX3_replace_103 : decode cX3_replace 103 = .ok (.iload 4, 2) := by decide +kernel
theorem dX3_replace_105 : decode cX3_replace 105 = .ok (.baload, 1) := by decide +kernel
theorem dX3_replace_106 : decode cX3_replace 106 = .ok (.ifCond .eq 12, 3) := by decide +kernel
theorem dX3_replace_109 : decode cX3_replace 109 = .ok (.aload_n 0, 1) := by decide +kernel
theorem dX3_replace_110 : decode cX3_replace 110 = .ok (.iload 4, 2) := by decide +kernel
theorem dX3_replace_112 : decode cX3_replace 112 = .ok (.invokevirtual 135, 3) := by decide +kernel
theorem dX3_replace_115 : decode cX3_replace 115 = .ok (.goto 29, 3) := by decide +kernel
theorem dX3_replace_118 : decode cX3_replace 118 = .ok (.iload 5, 2) := by decide +kernel
theorem dX3_replace_120 : decode cX3_replace 120 = .ok (.ifCond .eq 24, 3) := by decide +kernel
theorem dX3_replace_123 : decode cX3_replace 123 = .ok (.aload_n 0, 1) := by decide +kernel
theorem dX3_replace_124 : decode cX3_replace 124 = .ok (.iload 4, 2) := by decide +kernel
theorem dX3_replace_126 : decode cX3_replace 126 = .ok (.iload_n 1, 1) := by decide +kernel
theorem dX3_replace_127 : decode cX3_replace 127 = .ok (.invokevirtual 125, 3) := by decide +kernel
theorem dX3_replace_130 : decode cX3_replace 130 = .ok (.aload_n 0, 1) := by decide +kernel
theorem dX3_replace_131 : decode cX3_replace 131 = .ok (.iload 4, 2) := by decide +kernel
theorem dX3_replace_133 : decode cX3_replace 133 = .ok (.invokevirtual 98, 3) := by decide +kernel
theorem dX3_replace_136 : decode cX3_replace 136 = .ok (.aload_n 0, 1) := by decide +kernel
theorem dX3_replace_137 : decode cX3_replace 137 = .ok (.getfield 7, 3) := by decide +kernel
theorem dX3_replace_140 : decode cX3_replace 140 = .ok (.iload 4, 2) := by decide +kernel
theorem dX3_replace_142 : decode cX3_replace 142 = .ok (.iaload, 1) := by decide +kernel
theorem dX3_replace_143 : decode cX3_replace 143 = .ok (.ireturn, 1) := by decide +kernel
theorem dX3_replace_144 : decode cX3_replace 144 = .ok (.iinc 3 1, 3) := by decide +kernel
theorem dX3_replace_147 : decode cX3_replace 147 = .ok (.goto (-102), 3) := by decide +kernel
theorem dX3_replace_150 : decode cX3_replace 150 = .ok (.iconst (-1), 1) := by decide +kernel
theorem dX3_replace_151 : decode cX3_replace 151 = .ok (.ireturn, 1) := by decide +kernel
theorem dX3_endShift_0 : decode cX3_endShift 0 = .ok (.aload_n 0, 1) := by decide +kernel
theorem dX3_endShift_1 : decode cX3_endShift 1 = .ok (.iconst 0, 1) := by decide +kernel
theorem dX3_endShift_2 : decode cX3_endShift 2 = .ok (.putfield 69, 3) := by decide +kernel
theorem dX3_endShift_5 : decode cX3_endShift 5 = .ok (.iconst 0, 1) := by decide +kernel
theorem dX3_endShift_6 : decode cX3_endShift 6 = .ok (.istore_n 1, 1) := by decide +kernel
theorem dX3_endShift_7 : decode cX3_endShift 7 = .ok (.iload_n 1, 1) := by decide +kernel
theorem dX3_endShift_8 : decode cX3_endShift 8 = .ok (.bipush 30, 2) := by decide +kernel
theorem dX3_endShift_10 : decode cX3_endShift 10 = .ok (.if_icmp .ge 52, 3) := by decide +kernel
theorem dX3_endShift_13 : decode cX3_endShift 13 = .ok (.aload_n 0, 1) := by decide +kernel
theorem dX3_endShift_14 : decode cX3_endShift 14 = .ok (.getfield 7, 3) := by decide +kernel
theorem dX3_endShift_17 : decode cX3_endShift 17 = .ok (.iload_n 1, 1) := by decide +kernel
theorem dX3_endShift_18 : decode cX3_endShift 18 = .ok (.iaload, 1) := by decide +kernel
theorem dX3_endShift_19 : decode cX3_endShift 19 = .ok (.iconst (-1), 1) := by decide +kernel
theorem dX3_endShift_20 : decode cX3_endShift 20 = .ok (.if_icmp .eq 22, 3) := by decide +kernel
theorem dX3_endShift_23 : decode cX3_endShift 23 = .ok (.aload_n 0, 1) := by decide +kernel
theorem dX3_endShift_24 : decode cX3_endShift 24 = .ok (.getfield 32, 3) := by decide +kernel
theorem dX3_endShift_27 : decode cX3_endShift 27 = .ok (.iload_n 1, 1) := by decide +kernel
theorem dX3_endShift_28 : decode cX3_endShift 28 = .ok (.iaload, 1) := by decide +kernel
theorem dX3_endShift_29 : decode cX3_endShift 29 = .ok (.iconst (-1), 1) := by decide +kernel
theorem dX3_endShift_30 : decode cX3_endShift 30 = .ok (.if_icmp .eq 12, 3) := by decide +kernel
theorem dX3_endShift_33 : decode cX3_endShift 33 = .ok (.aload_n 0, 1) := by decide +kernel
theorem dX3_endShift_34 : decode cX3_endShift 34 = .ok (.iload_n 1, 1) := by decide +kernel
theorem dX3_endShift_35 : decode cX3_endShift 35 = .ok (.aload_n 0, 1) := by decide +kernel
theorem dX3_endShift_36 : decode cX3_endShift 36 = .ok (.getfield 56, 3) := by decide +kernel
theorem dX3_endShift_39 : decode cX3_endShift 39 = .ok (.invokevirtual 144, 3) := by decide +kernel
theorem dX3_endShift_42 : decode cX3_endShift 42 = .ok (.aload_n 0, 1) := by decide +kernel
theorem dX3_endShift_43 : decode cX3_endShift 43 = .ok (.getfield 29, 3) := by decide +kernel
theorem dX3_endShift_46 : decode cX3_endShift 46 = .ok (.iload_n 1, 1) := by decide +kernel
theorem dX3_endShift_47 : decode cX3_endShift 47 = .ok (.iconst 0, 1) := by decide +kernel
theorem dX3_endShift_48 : decode cX3_endShift 48 = .ok (.bastore, 1) := by decide +kernel
theorem dX3_endShift_49 : decode cX3_endShift 49 = .ok (.aload_n 0, 1) := by decide +kernel
theorem dX3_endShift_50 : decode cX3_endShift 50 = .ok (.getfield 26, 3) := by decide +kernel
theorem dX3_endShift_53 : decode cX3_endShift 53 = .ok (.iload_n 1, 1) := by decide +kernel
theorem dX3_endShift_54 : decode cX3_endShift 54 = .ok (.iconst 0, 1) := by decide +kernel
theorem dX3_endShift_55 : decode cX3_endShift 55 = .ok (.bastore, 1) := by decide +kernel
theorem dX3_endShift_56 : decode cX3_endShift 56 = .ok (.iinc 1 1, 3) := by decide +kernel
theorem dX3_endShift_59 : decode cX3_endShift 59 = .ok (.goto (-52), 3) := by decide +kernel
theorem dX3_endShift_62 : decode cX3_endShift 62 = .ok (.aload_n 0, 1) := by decide +kernel
theorem dX3_endShift_63 : decode cX3_endShift 63 = .ok (.getfield 141, 3) := by decide +kernel
theorem dX3_endShift_66 : decode cX3_endShift 66 = .ok (.istore_n 1, 1) := by decide +kernel
theorem dX3_endShift_67 : decode cX3_endShift 67 = .ok (.aload_n 0, 1) := by decide +kernel
theorem dX3_endShift_68 : decode cX3_endShift 68 = .ok (.iconst 0, 1) := by decide +kernel
theorem dX3_endShift_69 : decode cX3_endShift 69 = .ok (.putfield 112, 3) := by decide +kernel
theorem dX3_endShift_72 : decode cX3_endShift 72 = .ok (.aload_n 0, 1) := by decide +kernel
theorem dX3_endShift_73 : decode cX3_endShift 73 = .ok (.iconst 0, 1) := by decide +kernel
theorem dX3_endShift_74 : decode cX3_endShift 74 = .ok (.putfield 115, 3) := by decide +kernel
theorem dX3_endShift_77 : decode cX3_endShift 77 = .ok (.aload_n 0, 1) := by decide +kernel
theorem dX3_endShift_78 : decode cX3_endShift 78 = .ok (.iconst 0, 1) := by decide +kernel
theorem dX3_endShift_79 : decode cX3_endShift 79 = .ok (.putfield 141, 3) := by decide +kernel
theorem dX3_endShift_82 : decode cX3_endShift 82 = .ok (.aload_n 0, 1) := by decide +kernel
theorem dX3_endShift_83 : decode cX3_endShift 83 = .ok (.iconst 0, 1) := by decide +kernel
theorem dX3_endShift_84 : decode cX3_endShift 84 = .ok (.putfield 118, 3) := by decide +kernel
theorem dX3_endShift_87 : decode cX3_endShift 87 = .ok (.iload_n 1, 1) := by decide +kernel
theorem dX3_endShift_88 : decode cX3_endShift 88 = .ok (.ireturn, 1) := by decide +kernel
theorem dX3_owes_0 : decode cX3_owes 0 = .ok (.aload_n 0, 1) := by decide +kernel
theorem dX3_owes_1 : decode cX3_owes 1 = .ok (.getfield 47, 3) := by decide +kernel
theorem dX3_owes_4 : decode cX3_owes 4 = .ok (.aload_n 0, 1) := by decide +kernel
theorem dX3_owes_5 : decode cX3_owes 5 = .ok (.getfield 13, 3) := by decide +kernel
theorem dX3_owes_8 : decode cX3_owes 8 = .ok (.iload_n 1, 1) := by decide +kernel
theorem dX3_owes_9 : decode cX3_owes 9 = .ok (.iaload, 1) := by decide +kernel
theorem dX3_owes_10 : decode cX3_owes 10 = .ok (.iaload, 1) := by decide +kernel
theorem dX3_owes_11 : decode cX3_owes 11 = .ok (.aload_n 0, 1) := by decide +kernel
theorem dX3_owes_12 : decode cX3_owes 12 = .ok (.getfield 38, 3) := by decide +kernel
theorem dX3_owes_15 : decode cX3_owes 15 = .ok (.iload_n 1, 1) := by decide +kernel
theorem dX3_owes_16 : decode cX3_owes 16 = .ok (.iaload, 1) := by decide +kernel
theorem dX3_owes_17 : decode cX3_owes 17 = .ok (.isub, 1) := by decide +kernel
theorem dX3_owes_18 : decode cX3_owes 18 = .ok (.istore_n 2, 1) := by decide +kernel
theorem dX3_owes_19 : decode cX3_owes 19 = .ok (.aload_n 0, 1) := by decide +kernel
theorem dX3_owes_20 : decode cX3_owes 20 = .ok (.getfield 22, 3) := by decide +kernel
theorem dX3_owes_23 : decode cX3_owes 23 = .ok (.iload_n 1, 1) := by decide +kernel
theorem dX3_owes_24 : decode cX3_owes 24 = .ok (.baload, 1) := by decide +kernel
theorem dX3_owes_25 : decode cX3_owes 25 = .ok (.ifCond .ne 17, 3) := by decide +kernel
theorem dX3_owes_28 : decode cX3_owes 28 = .ok (.aload_n 0, 1) := by decide +kernel
theorem dX3_owes_29 : decode cX3_owes 29 = .ok (.getfield 41, 3) := by decide +kernel
theorem dX3_owes_32 : decode cX3_owes 32 = .ok (.iload_n 1, 1) := by decide +kernel
theorem dX3_owes_33 : decode cX3_owes 33 = .ok (.iaload, 1) := by decide +kernel
theorem dX3_owes_34 : decode cX3_owes 34 = .ok (.iconst 3, 1) := by decide +kernel
theorem dX3_owes_35 : decode cX3_owes 35 = .ok (.if_icmp .ge 7, 3) := by decide +kernel
theorem dX3_owes_38 : decode cX3_owes 38 = .ok (.iload_n 2, 1) := by decide +kernel
theorem dX3_owes_39 : decode cX3_owes 39 = .ok (.ifCond .ge 7, 3) := by decide +kernel
theorem dX3_owes_42 : decode cX3_owes 42 = .ok (.iconst 0, 1) := by decide +kernel
theorem dX3_owes_43 : decode cX3_owes 43 = .ok (.goto 4, 3) := by decide +kernel
theorem dX3_owes_46 : decode cX3_owes 46 = .ok (.iload_n 2, 1) := by decide +kernel
theorem dX3_owes_47 : decode cX3_owes 47 = .ok (.ireturn, 1) := by decide +kernel
theorem dX3_endPeriod_0 : decode cX3_endPeriod 0 = .ok (.aload_n 0, 1) := by decide +kernel
theorem dX3_endPeriod_1 : decode cX3_endPeriod 1 = .ok (.aload_n 0, 1) := by decide +kernel
theorem dX3_endPeriod_2 : decode cX3_endPeriod 2 = .ok (.getfield 118, 3) := by decide +kernel
theorem dX3_endPeriod_5 : decode cX3_endPeriod 5 = .ok (.ifCond .ne 7, 3) := by decide +kernel
theorem dX3_endPeriod_8 : decode cX3_endPeriod 8 = .ok (.iconst 1, 1) := by decide +kernel
theorem dX3_endPeriod_9 : decode cX3_endPeriod 9 = .ok (.goto 4, 3) := by decide +kernel
theorem dX3_endPeriod_12 : decode cX3_endPeriod 12 = .ok (.iconst 0, 1) := by decide +kernel
theorem dX3_endPeriod_13 : decode cX3_endPeriod 13 = .ok (.iconst 1, 1) := by decide +kernel
theorem dX3_endPeriod_14 : decode cX3_endPeriod 14 = .ok (.iconst 1, 1) := by decide +kernel
theorem dX3_endPeriod_15 : decode cX3_endPeriod 15 = .ok (.invokevirtual 91, 3) := by decide +kernel
theorem dX3_endPeriod_18 : decode cX3_endPeriod 18 = .ok (.ifCond .ne 5, 3) := by decide +kernel
theorem dX3_endPeriod_21 : decode cX3_endPeriod 21 = .ok (.iconst 0, 1) := by decide +kernel
theorem dX3_endPeriod_22 : decode cX3_endPeriod 22 = .ok (.ireturn, 1) := by decide +kernel
theorem dX3_endPeriod_23 : decode cX3_endPeriod 23 = .ok (.iconst 0, 1) := by decide +kernel
theorem dX3_endPeriod_24 : decode cX3_endPeriod 24 = .ok (.istore_n 1, 1) := by decide +kernel
theorem dX3_endPeriod_25 : decode cX3_endPeriod 25 = .ok (.iconst 0, 1) := by decide +kernel
theorem dX3_endPeriod_26 : decode cX3_endPeriod 26 = .ok (.istore_n 2, 1) := by decide +kernel
theorem dX3_endPeriod_27 : decode cX3_endPeriod 27 = .ok (.iload_n 2, 1) := by decide +kernel
theorem dX3_endPeriod_28 : decode cX3_endPeriod 28 = .ok (.bipush 30, 2) := by decide +kernel
theorem dX3_endPeriod_30 : decode cX3_endPeriod 30 = .ok (.if_icmp .ge 45, 3) := by decide +kernel
theorem dX3_endPeriod_33 : decode cX3_endPeriod 33 = .ok (.iload_n 1, 1) := by decide +kernel
theorem dX3_endPeriod_34 : decode cX3_endPeriod 34 = .ok (.aload_n 0, 1) := by decide +kernel
theorem dX3_endPeriod_35 : decode cX3_endPeriod 35 = .ok (.getfield 7, 3) := by decide +kernel
theorem dX3_endPeriod_38 : decode cX3_endPeriod 38 = .ok (.iload_n 2, 1) := by decide +kernel
theorem dX3_endPeriod_39 : decode cX3_endPeriod 39 = .ok (.iaload, 1) := by decide +kernel
theorem dX3_endPeriod_40 : decode cX3_endPeriod 40 = .ok (.iconst (-1), 1) := by decide +kernel
theorem dX3_endPeriod_41 : decode cX3_endPeriod 41 = .ok (.if_icmp .eq 11, 3) := by decide +kernel
theorem dX3_endPeriod_44 : decode cX3_endPeriod 44 = .ok (.aload_n 0, 1) := by decide +kernel
theorem dX3_endPeriod_45 : decode cX3_endPeriod 45 = .ok (.iload_n 2, 1) := by decide +kernel
theorem dX3_endPeriod_46 : decode cX3_endPeriod 46 = .ok (.invokevirtual 150, 3) := by decide +kernel
theorem dX3_endPeriod_49 : decode cX3_endPeriod 49 = .ok (.goto 4, 3) := by decide +kernel
theorem dX3_endPeriod_52 : decode cX3_endPeriod 52 = .ok (.iconst 0, 1) := by decide +kernel
theorem dX3_endPeriod_53 : decode cX3_endPeriod 53 = .ok (.iadd, 1) := by decide +kernel
theorem dX3_endPeriod_54 : decode cX3_endPeriod 54 = .ok (.istore_n 1, 1) := by decide +kernel
theorem dX3_endPeriod_55 : decode cX3_endPeriod 55 = .ok (.aload_n 0, 1) := by decide +kernel
theorem dX3_endPeriod_56 : decode cX3_endPeriod 56 = .ok (.getfield 38, 3) := by decide +kernel
theorem dX3_endPeriod_59 : decode cX3_endPeriod 59 = .ok (.iload_n 2, 1) := by decide +kernel
theorem dX3_endPeriod_60 : decode cX3_endPeriod 60 = .ok (.iconst 0, 1) := by decide +kernel
theorem dX3_endPeriod_61 : decode cX3_endPeriod 61 = .ok (.iastore, 1) := by decide +kernel
theorem dX3_endPeriod_62 : decode cX3_endPeriod 62 = .ok (.aload_n 0, 1) := by decide +kernel
theorem dX3_endPeriod_63 : decode cX3_endPeriod 63 = .ok (.getfield 41, 3) := by decide +kernel
theorem dX3_endPeriod_66 : decode cX3_endPeriod 66 = .ok (.iload_n 2, 1) := by decide +kernel
theorem dX3_endPeriod_67 : decode cX3_endPeriod 67 = .ok (.iconst 0, 1) := by decide +kernel
theorem dX3_endPeriod_68 : decode cX3_endPeriod 68 = .ok (.iastore, 1) := by decide +kernel
theorem dX3_endPeriod_69 : decode cX3_endPeriod 69 = .ok (.iinc 2 1, 3) := by decide +kernel
theorem dX3_endPeriod_72 : decode cX3_endPeriod 72 = .ok (.goto (-45), 3) := by decide +kernel
theorem dX3_endPeriod_75 : decode cX3_endPeriod 75 = .ok (.iload_n 1, 1) := by decide +kernel
theorem dX3_endPeriod_76 : decode cX3_endPeriod 76 = .ok (.ireturn, 1) := by decide +kernel
theorem dX3_workers_0 : decode cX3_workers 0 = .ok (.aload_n 0, 1) := by decide +kernel
theorem dX3_workers_1 : decode cX3_workers 1 = .ok (.iconst 0, 1) := by decide +kernel
theorem dX3_workers_2 : decode cX3_workers 2 = .ok (.putfield 69, 3) := by decide +kernel
theorem dX3_workers_5 : decode cX3_workers 5 = .ok (.aload_n 0, 1) := by decide +kernel
theorem dX3_workers_6 : decode cX3_workers 6 = .ok (.invokevirtual 87, 3) := by decide +kernel
theorem dX3_workers_9 : decode cX3_workers 9 = .ok (.ireturn, 1) := by decide +kernel
theorem dX3_boardOf_0 : decode cX3_boardOf 0 = .ok (.aload_n 0, 1) := by decide +kernel
theorem dX3_boardOf_1 : decode cX3_boardOf 1 = .ok (.iload_n 1, 1) := by decide +kernel
theorem dX3_boardOf_2 : decode cX3_boardOf 2 = .ok (.invokevirtual 102, 3) := by decide +kernel
theorem dX3_boardOf_5 : decode cX3_boardOf 5 = .ok (.istore_n 2, 1) := by decide +kernel
theorem dX3_boardOf_6 : decode cX3_boardOf 6 = .ok (.aload_n 0, 1) := by decide +kernel
theorem dX3_boardOf_7 : decode cX3_boardOf 7 = .ok (.iload_n 2, 1) := by decide +kernel
theorem dX3_boardOf_8 : decode cX3_boardOf 8 = .ok (.ifCond .lt 7, 3) := by decide +kernel
theorem dX3_boardOf_11 : decode cX3_boardOf 11 = .ok (.iconst 1, 1) := by decide +kernel
theorem dX3_boardOf_12 : decode cX3_boardOf 12 = .ok (.goto 4, 3) := by decide +kernel
theorem dX3_boardOf_15 : decode cX3_boardOf 15 = .ok (.iconst 0, 1) := by decide +kernel
theorem dX3_boardOf_16 : decode cX3_boardOf 16 = .ok (.iconst 1, 1) := by decide +kernel
theorem dX3_boardOf_17 : decode cX3_boardOf 17 = .ok (.iconst 1, 1) := by decide +kernel
theorem dX3_boardOf_18 : decode cX3_boardOf 18 = .ok (.invokevirtual 91, 3) := by decide +kernel
theorem dX3_boardOf_21 : decode cX3_boardOf 21 = .ok (.ifCond .eq 12, 3) := by decide +kernel
theorem dX3_boardOf_24 : decode cX3_boardOf 24 = .ok (.aload_n 0, 1) := by decide +kernel
theorem dX3_boardOf_25 : decode cX3_boardOf 25 = .ok (.getfield 13, 3) := by decide +kernel
theorem dX3_boardOf_28 : decode cX3_boardOf 28 = .ok (.iload_n 2, 1) := by decide +kernel
theorem dX3_boardOf_29 : decode cX3_boardOf 29 = .ok (.iaload, 1) := by decide +kernel
theorem dX3_boardOf_30 : decode cX3_boardOf 30 = .ok (.goto 4, 3) := by decide +kernel
theorem dX3_boardOf_33 : decode cX3_boardOf 33 = .ok (.iconst 0, 1) := by decide +kernel
theorem dX3_boardOf_34 : decode cX3_boardOf 34 = .ok (.ireturn, 1) := by decide +kernel
theorem dX3_rankOf_0 : decode cX3_rankOf 0 = .ok (.aload_n 0, 1) := by decide +kernel
theorem dX3_rankOf_1 : decode cX3_rankOf 1 = .ok (.iload_n 1, 1) := by decide +kernel
theorem dX3_rankOf_2 : decode cX3_rankOf 2 = .ok (.invokevirtual 102, 3) := by decide +kernel
theorem dX3_rankOf_5 : decode cX3_rankOf 5 = .ok (.istore_n 2, 1) := by decide +kernel
theorem dX3_rankOf_6 : decode cX3_rankOf 6 = .ok (.aload_n 0, 1) := by decide +kernel
theorem dX3_rankOf_7 : decode cX3_rankOf 7 = .ok (.iload_n 2, 1) := by decide +kernel
theorem dX3_rankOf_8 : decode cX3_rankOf 8 = .ok (.ifCond .lt 7, 3) := by decide +kernel
theorem dX3_rankOf_11 : decode cX3_rankOf 11 = .ok (.iconst 1, 1) := by decide +kernel
theorem dX3_rankOf_12 : decode cX3_rankOf 12 = .ok (.goto 4, 3) := by decide +kernel
theorem dX3_rankOf_15 : decode cX3_rankOf 15 = .ok (.iconst 0, 1) := by decide +kernel
theorem dX3_rankOf_16 : decode cX3_rankOf 16 = .ok (.iconst 1, 1) := by decide +kernel
theorem dX3_rankOf_17 : decode cX3_rankOf 17 = .ok (.iconst 1, 1) := by decide +kernel
theorem dX3_rankOf_18 : decode cX3_rankOf 18 = .ok (.invokevirtual 91, 3) := by decide +kernel
theorem dX3_rankOf_21 : decode cX3_rankOf 21 = .ok (.ifCond .eq 11, 3) := by decide +kernel
theorem dX3_rankOf_24 : decode cX3_rankOf 24 = .ok (.aload_n 0, 1) := by decide +kernel
theorem dX3_rankOf_25 : decode cX3_rankOf 25 = .ok (.iload_n 2, 1) := by decide +kernel
theorem dX3_rankOf_26 : decode cX3_rankOf 26 = .ok (.invokevirtual 109, 3) := by decide +kernel
theorem dX3_rankOf_29 : decode cX3_rankOf 29 = .ok (.goto 4, 3) := by decide +kernel
theorem dX3_rankOf_32 : decode cX3_rankOf 32 = .ok (.iconst 0, 1) := by decide +kernel
theorem dX3_rankOf_33 : decode cX3_rankOf 33 = .ok (.ireturn, 1) := by decide +kernel
theorem dX3_hoursOf_0 : decode cX3_hoursOf 0 = .ok (.aload_n 0, 1) := by decide +kernel
theorem dX3_hoursOf_1 : decode cX3_hoursOf 1 = .ok (.iload_n 1, 1) := by decide +kernel
theorem dX3_hoursOf_2 : decode cX3_hoursOf 2 = .ok (.invokevirtual 102, 3) := by decide +kernel
theorem dX3_hoursOf_5 : decode cX3_hoursOf 5 = .ok (.istore_n 2, 1) := by decide +kernel
theorem dX3_hoursOf_6 : decode cX3_hoursOf 6 = .ok (.aload_n 0, 1) := by decide +kernel
theorem dX3_hoursOf_7 : decode cX3_hoursOf 7 = .ok (.iload_n 2, 1) := by decide +kernel
theorem dX3_hoursOf_8 : decode cX3_hoursOf 8 = .ok (.ifCond .lt 7, 3) := by decide +kernel
theorem dX3_hoursOf_11 : decode cX3_hoursOf 11 = .ok (.iconst 1, 1) := by decide +kernel
theorem dX3_hoursOf_12 : decode cX3_hoursOf 12 = .ok (.goto 4, 3) := by decide +kernel
theorem dX3_hoursOf_15 : decode cX3_hoursOf 15 = .ok (.iconst 0, 1) := by decide +kernel
theorem dX3_hoursOf_16 : decode cX3_hoursOf 16 = .ok (.iconst 1, 1) := by decide +kernel
theorem dX3_hoursOf_17 : decode cX3_hoursOf 17 = .ok (.iconst 1, 1) := by decide +kernel
theorem dX3_hoursOf_18 : decode cX3_hoursOf 18 = .ok (.invokevirtual 91, 3) := by decide +kernel
theorem dX3_hoursOf_21 : decode cX3_hoursOf 21 = .ok (.ifCond .eq 12, 3) := by decide +kernel
theorem dX3_hoursOf_24 : decode cX3_hoursOf 24 = .ok (.aload_n 0, 1) := by decide +kernel
theorem dX3_hoursOf_25 : decode cX3_hoursOf 25 = .ok (.getfield 38, 3) := by decide +kernel
theorem dX3_hoursOf_28 : decode cX3_hoursOf 28 = .ok (.iload_n 2, 1) := by decide +kernel
theorem dX3_hoursOf_29 : decode cX3_hoursOf 29 = .ok (.iaload, 1) := by decide +kernel
theorem dX3_hoursOf_30 : decode cX3_hoursOf 30 = .ok (.goto 4, 3) := by decide +kernel
theorem dX3_hoursOf_33 : decode cX3_hoursOf 33 = .ok (.iconst 0, 1) := by decide +kernel
theorem dX3_hoursOf_34 : decode cX3_hoursOf 34 = .ok (.ireturn, 1) := by decide +kernel
theorem dX3_refusalsOf_0 : decode cX3_refusalsOf 0 = .ok (.aload_n 0, 1) := by decide +kernel
theorem dX3_refusalsOf_1 : decode cX3_refusalsOf 1 = .ok (.iload_n 1, 1) := by decide +kernel
theorem dX3_refusalsOf_2 : decode cX3_refusalsOf 2 = .ok (.invokevirtual 102, 3) := by decide +kernel
theorem dX3_refusalsOf_5 : decode cX3_refusalsOf 5 = .ok (.istore_n 2, 1) := by decide +kernel
theorem dX3_refusalsOf_6 : decode cX3_refusalsOf 6 = .ok (.aload_n 0, 1) := by decide +kernel
theorem dX3_refusalsOf_7 : decode cX3_refusalsOf 7 = .ok (.iload_n 2, 1) := by decide +kernel
theorem dX3_refusalsOf_8 : decode cX3_refusalsOf 8 = .ok (.ifCond .lt 7, 3) := by decide +kernel
theorem dX3_refusalsOf_11 : decode cX3_refusalsOf 11 = .ok (.iconst 1, 1) := by decide +kernel
theorem dX3_refusalsOf_12 : decode cX3_refusalsOf 12 = .ok (.goto 4, 3) := by decide +kernel
theorem dX3_refusalsOf_15 : decode cX3_refusalsOf 15 = .ok (.iconst 0, 1) := by decide +kernel
theorem dX3_refusalsOf_16 : decode cX3_refusalsOf 16 = .ok (.iconst 1, 1) := by decide +kernel
theorem dX3_refusalsOf_17 : decode cX3_refusalsOf 17 = .ok (.iconst 1, 1) := by decide +kernel
theorem dX3_refusalsOf_18 : decode cX3_refusalsOf 18 = .ok (.invokevirtual 91, 3) := by decide +kernel
theorem dX3_refusalsOf_21 : decode cX3_refusalsOf 21 = .ok (.ifCond .eq 12, 3) := by decide +kernel
theorem dX3_refusalsOf_24 : decode cX3_refusalsOf 24 = .ok (.aload_n 0, 1) := by decide +kernel
theorem dX3_refusalsOf_25 : decode cX3_refusalsOf 25 = .ok (.getfield 41, 3) := by decide +kernel
theorem dX3_refusalsOf_28 : decode cX3_refusalsOf 28 = .ok (.iload_n 2, 1) := by decide +kernel
theorem dX3_refusalsOf_29 : decode cX3_refusalsOf 29 = .ok (.iaload, 1) := by decide +kernel
theorem dX3_refusalsOf_30 : decode cX3_refusalsOf 30 = .ok (.goto 4, 3) := by decide +kernel
theorem dX3_refusalsOf_33 : decode cX3_refusalsOf 33 = .ok (.iconst 0, 1) := by decide +kernel
theorem dX3_refusalsOf_34 : decode cX3_refusalsOf 34 = .ok (.ireturn, 1) := by decide +kernel
theorem dX3_placeOf_0 : decode cX3_placeOf 0 = .ok (.aload_n 0, 1) := by decide +kernel
theorem dX3_placeOf_1 : decode cX3_placeOf 1 = .ok (.iload_n 1, 1) := by decide +kernel
theorem dX3_placeOf_2 : decode cX3_placeOf 2 = .ok (.invokevirtual 102, 3) := by decide +kernel
theorem dX3_placeOf_5 : decode cX3_placeOf 5 = .ok (.istore_n 2, 1) := by decide +kernel
theorem dX3_placeOf_6 : decode cX3_placeOf 6 = .ok (.aload_n 0, 1) := by decide +kernel
theorem dX3_placeOf_7 : decode cX3_placeOf 7 = .ok (.iload_n 2, 1) := by decide +kernel
theorem dX3_placeOf_8 : decode cX3_placeOf 8 = .ok (.ifCond .lt 7, 3) := by decide +kernel
theorem dX3_placeOf_11 : decode cX3_placeOf 11 = .ok (.iconst 1, 1) := by decide +kernel
theorem dX3_placeOf_12 : decode cX3_placeOf 12 = .ok (.goto 4, 3) := by decide +kernel
theorem dX3_placeOf_15 : decode cX3_placeOf 15 = .ok (.iconst 0, 1) := by decide +kernel
theorem dX3_placeOf_16 : decode cX3_placeOf 16 = .ok (.iconst 1, 1) := by decide +kernel
theorem dX3_placeOf_17 : decode cX3_placeOf 17 = .ok (.iconst 1, 1) := by decide +kernel
theorem dX3_placeOf_18 : decode cX3_placeOf 18 = .ok (.invokevirtual 91, 3) := by decide +kernel
theorem dX3_placeOf_21 : decode cX3_placeOf 21 = .ok (.ifCond .eq 12, 3) := by decide +kernel
theorem dX3_placeOf_24 : decode cX3_placeOf 24 = .ok (.aload_n 0, 1) := by decide +kernel
theorem dX3_placeOf_25 : decode cX3_placeOf 25 = .ok (.getfield 32, 3) := by decide +kernel
theorem dX3_placeOf_28 : decode cX3_placeOf 28 = .ok (.iload_n 2, 1) := by decide +kernel
theorem dX3_placeOf_29 : decode cX3_placeOf 29 = .ok (.iaload, 1) := by decide +kernel
theorem dX3_placeOf_30 : decode cX3_placeOf 30 = .ok (.goto 4, 3) := by decide +kernel
theorem dX3_placeOf_33 : decode cX3_placeOf 33 = .ok (.iconst 0, 1) := by decide +kernel
theorem dX3_placeOf_34 : decode cX3_placeOf 34 = .ok (.ireturn, 1) := by decide +kernel
theorem dX3_owedTo_0 : decode cX3_owedTo 0 = .ok (.aload_n 0, 1) := by decide +kernel
theorem dX3_owedTo_1 : decode cX3_owedTo 1 = .ok (.iload_n 1, 1) := by decide +kernel
theorem dX3_owedTo_2 : decode cX3_owedTo 2 = .ok (.invokevirtual 102, 3) := by decide +kernel
theorem dX3_owedTo_5 : decode cX3_owedTo 5 = .ok (.istore_n 2, 1) := by decide +kernel
theorem dX3_owedTo_6 : decode cX3_owedTo 6 = .ok (.aload_n 0, 1) := by decide +kernel
theorem dX3_owedTo_7 : decode cX3_owedTo 7 = .ok (.iload_n 2, 1) := by decide +kernel
theorem dX3_owedTo_8 : decode cX3_owedTo 8 = .ok (.ifCond .lt 7, 3) := by decide +kernel
theorem dX3_owedTo_11 : decode cX3_owedTo 11 = .ok (.iconst 1, 1) := by decide +kernel
theorem dX3_owedTo_12 : decode cX3_owedTo 12 = .ok (.goto 4, 3) := by decide +kernel
theorem dX3_owedTo_15 : decode cX3_owedTo 15 = .ok (.iconst 0, 1) := by decide +kernel
theorem dX3_owedTo_16 : decode cX3_owedTo 16 = .ok (.iconst 1, 1) := by decide +kernel
theorem dX3_owedTo_17 : decode cX3_owedTo 17 = .ok (.iconst 1, 1) := by decide +kernel
theorem dX3_owedTo_18 : decode cX3_owedTo 18 = .ok (.invokevirtual 91, 3) := by decide +kernel
theorem dX3_owedTo_21 : decode cX3_owedTo 21 = .ok (.ifCond .eq 11, 3) := by decide +kernel
theorem dX3_owedTo_24 : decode cX3_owedTo 24 = .ok (.aload_n 0, 1) := by decide +kernel
theorem dX3_owedTo_25 : decode cX3_owedTo 25 = .ok (.iload_n 2, 1) := by decide +kernel
theorem dX3_owedTo_26 : decode cX3_owedTo 26 = .ok (.invokevirtual 150, 3) := by decide +kernel
theorem dX3_owedTo_29 : decode cX3_owedTo 29 = .ok (.goto 4, 3) := by decide +kernel
theorem dX3_owedTo_32 : decode cX3_owedTo 32 = .ok (.iconst 0, 1) := by decide +kernel
theorem dX3_owedTo_33 : decode cX3_owedTo 33 = .ok (.ireturn, 1) := by decide +kernel
theorem dX3_places_0 : decode cX3_places 0 = .ok (.aload_n 0, 1) := by decide +kernel
theorem dX3_places_1 : decode cX3_places 1 = .ok (.iconst 0, 1) := by decide +kernel
theorem dX3_places_2 : decode cX3_places 2 = .ok (.putfield 69, 3) := by decide +kernel
theorem dX3_places_5 : decode cX3_places 5 = .ok (.aload_n 0, 1) := by decide +kernel
theorem dX3_places_6 : decode cX3_places 6 = .ok (.getfield 112, 3) := by decide +kernel
theorem dX3_places_9 : decode cX3_places 9 = .ok (.ireturn, 1) := by decide +kernel
theorem dX3_workerAt_0 : decode cX3_workerAt 0 = .ok (.aload_n 0, 1) := by decide +kernel
theorem dX3_workerAt_1 : decode cX3_workerAt 1 = .ok (.aload_n 0, 1) := by decide +kernel
theorem dX3_workerAt_2 : decode cX3_workerAt 2 = .ok (.iload_n 1, 1) := by decide +kernel
theorem dX3_workerAt_3 : decode cX3_workerAt 3 = .ok (.invokevirtual 147, 3) := by decide +kernel
theorem dX3_workerAt_6 : decode cX3_workerAt 6 = .ok (.iconst 1, 1) := by decide +kernel
theorem dX3_workerAt_7 : decode cX3_workerAt 7 = .ok (.iconst 1, 1) := by decide +kernel
theorem dX3_workerAt_8 : decode cX3_workerAt 8 = .ok (.invokevirtual 91, 3) := by decide +kernel
theorem dX3_workerAt_11 : decode cX3_workerAt 11 = .ok (.ifCond .ne 7, 3) := by decide +kernel
theorem dX3_workerAt_14 : decode cX3_workerAt 14 = .ok (.iconst 0, 1) := by decide +kernel
theorem dX3_workerAt_15 : decode cX3_workerAt 15 = .ok (.goto 28, 3) := by decide +kernel
theorem dX3_workerAt_18 : decode cX3_workerAt 18 = .ok (.aload_n 0, 1) := by decide +kernel
theorem dX3_workerAt_19 : decode cX3_workerAt 19 = .ok (.getfield 53, 3) := by decide +kernel
theorem dX3_workerAt_22 : decode cX3_workerAt 22 = .ok (.iload_n 1, 1) := by decide +kernel
theorem dX3_workerAt_23 : decode cX3_workerAt 23 = .ok (.iaload, 1) := by decide +kernel
theorem dX3_workerAt_24 : decode cX3_workerAt 24 = .ok (.iconst (-1), 1) := by decide +kernel
theorem dX3_workerAt_25 : decode cX3_workerAt 25 = .ok (.if_icmp .ne 7, 3) := by decide +kernel
theorem dX3_workerAt_28 : decode cX3_workerAt 28 = .ok (.iconst (-1), 1) := by decide +kernel
theorem dX3_workerAt_29 : decode cX3_workerAt 29 = .ok (.goto 14, 3) := by decide +kernel
theorem dX3_workerAt_32 : decode cX3_workerAt 32 = .ok (.aload_n 0, 1) := by decide +kernel
theorem dX3_workerAt_33 : decode cX3_workerAt 33 = .ok (.getfield 7, 3) := by decide +kernel
theorem dX3_workerAt_36 : decode cX3_workerAt 36 = .ok (.aload_n 0, 1) := by decide +kernel
theorem dX3_workerAt_37 : decode cX3_workerAt 37 = .ok (.getfield 53, 3) := by decide +kernel
theorem dX3_workerAt_40 : decode cX3_workerAt 40 = .ok (.iload_n 1, 1) := by decide +kernel
theorem dX3_workerAt_41 : decode cX3_workerAt 41 = .ok (.iaload, 1) := by decide +kernel
theorem dX3_workerAt_42 : decode cX3_workerAt 42 = .ok (.iaload, 1) := by decide +kernel
theorem dX3_workerAt_43 : decode cX3_workerAt 43 = .ok (.ireturn, 1) := by decide +kernel
theorem dX3_nextUp_0 : decode cX3_nextUp 0 = .ok (.aload_n 0, 1) := by decide +kernel
theorem dX3_nextUp_1 : decode cX3_nextUp 1 = .ok (.iload_n 1, 1) := by decide +kernel
theorem dX3_nextUp_2 : decode cX3_nextUp 2 = .ok (.invokestatic 83, 3) := by decide +kernel
theorem dX3_nextUp_5 : decode cX3_nextUp 5 = .ok (.iconst 1, 1) := by decide +kernel
theorem dX3_nextUp_6 : decode cX3_nextUp 6 = .ok (.iconst 1, 1) := by decide +kernel
theorem dX3_nextUp_7 : decode cX3_nextUp 7 = .ok (.invokevirtual 91, 3) := by decide +kernel
theorem dX3_nextUp_10 : decode cX3_nextUp 10 = .ok (.ifCond .ne 5, 3) := by decide +kernel
theorem dX3_nextUp_13 : decode cX3_nextUp 13 = .ok (.iconst 0, 1) := by decide +kernel
theorem dX3_nextUp_14 : decode cX3_nextUp 14 = .ok (.ireturn, 1) := by decide +kernel
theorem dX3_nextUp_15 : decode cX3_nextUp 15 = .ok (.aload_n 0, 1) := by decide +kernel
theorem dX3_nextUp_16 : decode cX3_nextUp 16 = .ok (.invokevirtual 106, 3) := by decide +kernel
theorem dX3_nextUp_19 : decode cX3_nextUp 19 = .ok (.istore_n 2, 1) := by decide +kernel
theorem dX3_nextUp_20 : decode cX3_nextUp 20 = .ok (.iconst 0, 1) := by decide +kernel
theorem dX3_nextUp_21 : decode cX3_nextUp 21 = .ok (.istore_n 3, 1) := by decide +kernel
theorem dX3_nextUp_22 : decode cX3_nextUp 22 = .ok (.iload_n 3, 1) := by decide +kernel
theorem dX3_nextUp_23 : decode cX3_nextUp 23 = .ok (.iload_n 2, 1) := by decide +kernel
theorem dX3_nextUp_24 : decode cX3_nextUp 24 = .ok (.if_icmp .ge 49, 3) := by decide +kernel
theorem dX3_nextUp_27 : decode cX3_nextUp 27 = .ok (.aload_n 0, 1) := by decide +kernel
theorem dX3_nextUp_28 : decode cX3_nextUp 28 = .ok (.getfield 13, 3) := by decide +kernel
theorem dX3_nextUp_31 : decode cX3_nextUp 31 = .ok (.aload_n 0, 1) := by decide +kernel
theorem dX3_nextUp_32 : decode cX3_nextUp 32 = .ok (.getfield 60, 3) := by decide +kernel
theorem dX3_nextUp_35 : decode cX3_nextUp 35 = .ok (.iload_n 3, 1) := by decide +kernel
theorem dX3_nextUp_36 : decode cX3_nextUp 36 = .ok (.iaload, 1) := by decide +kernel
theorem dX3_nextUp_37 : decode cX3_nextUp 37 = .ok (.iaload, 1) := by decide +kernel
theorem dX3_nextUp_38 : decode cX3_nextUp 38 = .ok (.iload_n 1, 1) := by decide +kernel
theorem dX3_nextUp_39 : decode cX3_nextUp 39 = .ok (.if_icmp .ne 28, 3) := by decide +kernel
theorem dX3_nextUp_42 : decode cX3_nextUp 42 = .ok (.aload_n 0, 1) := by decide +kernel
theorem dX3_nextUp_43 : decode cX3_nextUp 43 = .ok (.aload_n 0, 1) := by decide +kernel
theorem dX3_nextUp_44 : decode cX3_nextUp 44 = .ok (.getfield 60, 3) := by decide +kernel
theorem dX3_nextUp_47 : decode cX3_nextUp 47 = .ok (.iload_n 3, 1) := by decide +kernel
theorem dX3_nextUp_48 : decode cX3_nextUp 48 = .ok (.iaload, 1) := by decide +kernel
theorem dX3_nextUp_49 : decode cX3_nextUp 49 = .ok (.invokevirtual 132, 3) := by decide +kernel
theorem dX3_nextUp_52 : decode cX3_nextUp 52 = .ok (.ifCond .eq 15, 3) := by decide +kernel
theorem dX3_nextUp_55 : decode cX3_nextUp 55 = .ok (.aload_n 0, 1) := by decide +kernel
theorem dX3_nextUp_56 : decode cX3_nextUp 56 = .ok (.getfield 7, 3) := by decide +kernel
theorem dX3_nextUp_59 : decode cX3_nextUp 59 = .ok (.aload_n 0, 1) := by decide +kernel
theorem dX3_nextUp_60 : decode cX3_nextUp 60 = .ok (.getfield 60, 3) := by decide +kernel
theorem dX3_nextUp_63 : decode cX3_nextUp 63 = .ok (.iload_n 3, 1) := by decide +kernel
theorem dX3_nextUp_64 : decode cX3_nextUp 64 = .ok (.iaload, 1) := by decide +kernel
theorem dX3_nextUp_65 : decode cX3_nextUp 65 = .ok (.iaload, 1) := by decide +kernel
theorem dX3_nextUp_66 : decode cX3_nextUp 66 = .ok (.ireturn, 1) := by decide +kernel
theorem dX3_nextUp_67 : decode cX3_nextUp 67 = .ok (.iinc 3 1, 3) := by decide +kernel
theorem dX3_nextUp_70 : decode cX3_nextUp 70 = .ok (.goto (-48), 3) := by decide +kernel
theorem dX3_nextUp_73 : decode cX3_nextUp 73 = .ok (.iconst (-1), 1) := by decide +kernel
theorem dX3_nextUp_74 : decode cX3_nextUp 74 = .ok (.ireturn, 1) := by decide +kernel
theorem dX3_fillable_0 : decode cX3_fillable 0 = .ok (.aload_n 0, 1) := by decide +kernel
theorem dX3_fillable_1 : decode cX3_fillable 1 = .ok (.iconst 0, 1) := by decide +kernel
theorem dX3_fillable_2 : decode cX3_fillable 2 = .ok (.putfield 69, 3) := by decide +kernel
theorem dX3_fillable_5 : decode cX3_fillable 5 = .ok (.aload_n 0, 1) := by decide +kernel
theorem dX3_fillable_6 : decode cX3_fillable 6 = .ok (.invokevirtual 106, 3) := by decide +kernel
theorem dX3_fillable_9 : decode cX3_fillable 9 = .ok (.istore_n 1, 1) := by decide +kernel
theorem dX3_fillable_10 : decode cX3_fillable 10 = .ok (.iconst 0, 1) := by decide +kernel
theorem dX3_fillable_11 : decode cX3_fillable 11 = .ok (.istore_n 2, 1) := by decide +kernel
theorem dX3_fillable_12 : decode cX3_fillable 12 = .ok (.aload_n 0, 1) := by decide +kernel
theorem dX3_fillable_13 : decode cX3_fillable 13 = .ok (.invokevirtual 129, 3) := by decide +kernel
theorem dX3_fillable_16 : decode cX3_fillable 16 = .ok (.iconst 0, 1) := by decide +kernel
theorem dX3_fillable_17 : decode cX3_fillable 17 = .ok (.istore_n 3, 1) := by decide +kernel
theorem dX3_fillable_18 : decode cX3_fillable 18 = .ok (.iload_n 3, 1) := by decide +kernel
theorem dX3_fillable_19 : decode cX3_fillable 19 = .ok (.iload_n 1, 1) := by decide +kernel
theorem dX3_fillable_20 : decode cX3_fillable 20 = .ok (.if_icmp .ge 67, 3) := by decide +kernel
theorem dX3_fillable_23 : decode cX3_fillable 23 = .ok (.aload_n 0, 1) := by decide +kernel
theorem dX3_fillable_24 : decode cX3_fillable 24 = .ok (.aload_n 0, 1) := by decide +kernel
theorem dX3_fillable_25 : decode cX3_fillable 25 = .ok (.getfield 60, 3) := by decide +kernel
theorem dX3_fillable_28 : decode cX3_fillable 28 = .ok (.iload_n 3, 1) := by decide +kernel
theorem dX3_fillable_29 : decode cX3_fillable 29 = .ok (.iaload, 1) := by decide +kernel
theorem dX3_fillable_30 : decode cX3_fillable 30 = .ok (.invokevirtual 132, 3) := by decide +kernel
theorem dX3_fillable_33 : decode cX3_fillable 33 = .ok (.ifCond .eq 48, 3) := by decide +kernel
theorem dX3_fillable_36 : decode cX3_fillable 36 = .ok (.aload_n 0, 1) := by decide +kernel
theorem dX3_fillable_37 : decode cX3_fillable 37 = .ok (.getfield 26, 3) := by decide +kernel
theorem dX3_fillable_40 : decode cX3_fillable 40 = .ok (.aload_n 0, 1) := by decide +kernel
theorem dX3_fillable_41 : decode cX3_fillable 41 = .ok (.getfield 60, 3) := by decide +kernel
theorem dX3_fillable_44 : decode cX3_fillable 44 = .ok (.iload_n 3, 1) := by decide +kernel
theorem dX3_fillable_45 : decode cX3_fillable 45 = .ok (.iaload, 1) := by decide +kernel
theorem dX3_fillable_46 : decode cX3_fillable 46 = .ok (.baload, 1) := by decide +kernel
theorem dX3_fillable_47 : decode cX3_fillable 47 = .ok (.ifCond .ne 34, 3) := by decide +kernel
theorem dX3_fillable_50 : decode cX3_fillable 50 = .ok (.aload_n 0, 1) := by decide +kernel
theorem dX3_fillable_51 : decode cX3_fillable 51 = .ok (.getfield 63, 3) := by decide +kernel
theorem dX3_fillable_54 : decode cX3_fillable 54 = .ok (.iload_n 2, 1) := by decide +kernel
theorem dX3_fillable_55 : decode cX3_fillable 55 = .ok (.aload_n 0, 1) := by decide +kernel
theorem dX3_fillable_56 : decode cX3_fillable 56 = .ok (.getfield 60, 3) := by decide +kernel
theorem dX3_fillable_59 : decode cX3_fillable 59 = .ok (.iload_n 3, 1) := by decide +kernel
theorem dX3_fillable_60 : decode cX3_fillable 60 = .ok (.iaload, 1) := by decide +kernel
theorem dX3_fillable_61 : decode cX3_fillable 61 = .ok (.iastore, 1) := by decide +kernel
theorem dX3_fillable_62 : decode cX3_fillable 62 = .ok (.iload_n 2, 1) := by decide +kernel
theorem dX3_fillable_63 : decode cX3_fillable 63 = .ok (.aload_n 0, 1) := by decide +kernel
theorem dX3_fillable_64 : decode cX3_fillable 64 = .ok (.iconst 0, 1) := by decide +kernel
theorem dX3_fillable_65 : decode cX3_fillable 65 = .ok (.iload_n 2, 1) := by decide +kernel
theorem dX3_fillable_66 : decode cX3_fillable 66 = .ok (.iconst 1, 1) := by decide +kernel
theorem dX3_fillable_67 : decode cX3_fillable 67 = .ok (.iadd, 1) := by decide +kernel
theorem dX3_fillable_68 : decode cX3_fillable 68 = .ok (.invokevirtual 122, 3) := by decide +kernel
theorem dX3_fillable_71 : decode cX3_fillable 71 = .ok (.ifCond .eq 7, 3) := by decide +kernel
theorem dX3_fillable_74 : decode cX3_fillable 74 = .ok (.iconst 1, 1) := by decide +kernel
theorem dX3_fillable_75 : decode cX3_fillable 75 = .ok (.goto 4, 3) := by decide +kernel
theorem dX3_fillable_78 : decode cX3_fillable 78 = .ok (.iconst 0, 1) := by decide +kernel
theorem dX3_fillable_79 : decode cX3_fillable 79 = .ok (.iadd, 1) := by decide +kernel
theorem dX3_fillable_80 : decode cX3_fillable 80 = .ok (.istore_n 2, 1) := by decide +kernel
theorem dX3_fillable_81 : decode cX3_fillable 81 = .ok (.iinc 3 1, 3) := by decide +kernel
theorem dX3_fillable_84 : decode cX3_fillable 84 = .ok (.goto (-66), 3) := by decide +kernel
theorem dX3_fillable_87 : decode cX3_fillable 87 = .ok (.iload_n 2, 1) := by decide +kernel
theorem dX3_fillable_88 : decode cX3_fillable 88 = .ok (.ireturn, 1) := by decide +kernel
theorem dJ9_max_7cf53_0 : decode cJ9_max_7cf53 0 = .ok (.iload_n 0, 1) := by decide +kernel
theorem dJ9_max_7cf53_1 : decode cJ9_max_7cf53 1 = .ok (.iload_n 1, 1) := by decide +kernel
theorem dJ9_max_7cf53_2 : decode cJ9_max_7cf53 2 = .ok (.if_icmp .lt 7, 3) := by decide +kernel
theorem dJ9_max_7cf53_5 : decode cJ9_max_7cf53 5 = .ok (.iload_n 0, 1) := by decide +kernel
theorem dJ9_max_7cf53_6 : decode cJ9_max_7cf53 6 = .ok (.goto 4, 3) := by decide +kernel
theorem dJ9_max_7cf53_9 : decode cJ9_max_7cf53 9 = .ok (.iload_n 1, 1) := by decide +kernel
theorem dJ9_max_7cf53_10 : decode cJ9_max_7cf53 10 = .ok (.ireturn, 1) := by decide +kernel
theorem dJ9_min_7cf53_0 : decode cJ9_min_7cf53 0 = .ok (.iload_n 0, 1) := by decide +kernel
theorem dJ9_min_7cf53_1 : decode cJ9_min_7cf53 1 = .ok (.iload_n 1, 1) := by decide +kernel
theorem dJ9_min_7cf53_2 : decode cJ9_min_7cf53 2 = .ok (.if_icmp .gt 7, 3) := by decide +kernel
theorem dJ9_min_7cf53_5 : decode cJ9_min_7cf53 5 = .ok (.iload_n 0, 1) := by decide +kernel
theorem dJ9_min_7cf53_6 : decode cJ9_min_7cf53 6 = .ok (.goto 4, 3) := by decide +kernel
theorem dJ9_min_7cf53_9 : decode cJ9_min_7cf53 9 = .ok (.iload_n 1, 1) := by decide +kernel
theorem dJ9_min_7cf53_10 : decode cJ9_min_7cf53 10 = .ok (.ireturn, 1) := by decide +kernel
theorem dJxa1e45_init_da8c8_0 : decode cJxa1e45_init_da8c8 0 = .ok (.aload_n 0, 1) := by decide +kernel
theorem dJxa1e45_init_da8c8_1 : decode cJxa1e45_init_da8c8 1 = .ok (.invokespecial 1, 3) := by decide +kernel
theorem dJxa1e45_init_da8c8_4 : decode cJxa1e45_init_da8c8 4 = .ok (.return_, 1) := by decide +kernel
theorem dJxc12de_init_da8c8_0 : decode cJxc12de_init_da8c8 0 = .ok (.aload_n 0, 1) := by decide +kernel
theorem dJxc12de_init_da8c8_1 : decode cJxc12de_init_da8c8 1 = .ok (.invokespecial 1, 3) := by decide +kernel
theorem dJxc12de_init_da8c8_4 : decode cJxc12de_init_da8c8 4 = .ok (.aload_n 0, 1) := by decide +kernel
theorem dJxc12de_init_da8c8_5 : decode cJxc12de_init_da8c8 5 = .ok (.iconst 0, 1) := by decide +kernel
theorem dJxc12de_init_da8c8_6 : decode cJxc12de_init_da8c8 6 = .ok (.putfield 7, 3) := by decide +kernel
theorem dJxc12de_init_da8c8_9 : decode cJxc12de_init_da8c8 9 = .ok (.return_, 1) := by decide +kernel
theorem dJx4a65c_init_da8c8_0 : decode cJx4a65c_init_da8c8 0 = .ok (.aload_n 0, 1) := by decide +kernel
theorem dJx4a65c_init_da8c8_1 : decode cJx4a65c_init_da8c8 1 = .ok (.invokespecial 1, 3) := by decide +kernel
theorem dJx4a65c_init_da8c8_4 : decode cJx4a65c_init_da8c8 4 = .ok (.aload_n 0, 1) := by decide +kernel
theorem dJx4a65c_init_da8c8_5 : decode cJx4a65c_init_da8c8 5 = .ok (.getstatic 39, 3) := by decide +kernel
theorem dJx4a65c_init_da8c8_8 : decode cJx4a65c_init_da8c8 8 = .ok (.putfield 9, 3) := by decide +kernel
theorem dJx4a65c_init_da8c8_11 : decode cJx4a65c_init_da8c8 11 = .ok (.return_, 1) := by decide +kernel
theorem dJx4a65c_grow_92f84_0 : decode cJx4a65c_grow_92f84 0 = .ok (.aload_n 0, 1) := by decide +kernel
theorem dJx4a65c_grow_92f84_1 : decode cJx4a65c_grow_92f84 1 = .ok (.getfield 9, 3) := by decide +kernel
theorem dJx4a65c_grow_92f84_4 : decode cJx4a65c_grow_92f84 4 = .ok (.arraylength, 1) := by decide +kernel
theorem dJx4a65c_grow_92f84_5 : decode cJx4a65c_grow_92f84 5 = .ok (.istore_n 2, 1) := by decide +kernel
theorem dJx4a65c_grow_92f84_6 : decode cJx4a65c_grow_92f84 6 = .ok (.iload_n 2, 1) := by decide +kernel
theorem dJx4a65c_grow_92f84_7 : decode cJx4a65c_grow_92f84 7 = .ok (.ifCond .gt 13, 3) := by decide +kernel
theorem dJx4a65c_grow_92f84_10 : decode cJx4a65c_grow_92f84 10 = .ok (.aload_n 0, 1) := by decide +kernel
theorem dJx4a65c_grow_92f84_11 : decode cJx4a65c_grow_92f84 11 = .ok (.getfield 9, 3) := by decide +kernel
theorem dJx4a65c_grow_92f84_14 : decode cJx4a65c_grow_92f84 14 = .ok (.getstatic 39, 3) := by decide +kernel
theorem dJx4a65c_grow_92f84_17 : decode cJx4a65c_grow_92f84 17 = .ok (.if_acmp .eq 28, 3) := by decide +kernel
theorem dJx4a65c_grow_92f84_20 : decode cJx4a65c_grow_92f84 20 = .ok (.iload_n 2, 1) := by decide +kernel
theorem dJx4a65c_grow_92f84_21 : decode cJx4a65c_grow_92f84 21 = .ok (.iload_n 1, 1) := by decide +kernel
theorem dJx4a65c_grow_92f84_22 : decode cJx4a65c_grow_92f84 22 = .ok (.iload_n 2, 1) := by decide +kernel
theorem dJx4a65c_grow_92f84_23 : decode cJx4a65c_grow_92f84 23 = .ok (.isub, 1) := by decide +kernel
theorem dJx4a65c_grow_92f84_24 : decode cJx4a65c_grow_92f84 24 = .ok (.iload_n 2, 1) := by decide +kernel
theorem dJx4a65c_grow_92f84_25 : decode cJx4a65c_grow_92f84 25 = .ok (.iconst 1, 1) := by decide +kernel
theorem dJx4a65c_grow_92f84_26 : decode cJx4a65c_grow_92f84 26 = .ok (.ishr, 1) := by decide +kernel
theorem dJx4a65c_grow_92f84_27 : decode cJx4a65c_grow_92f84 27 = .ok (.invokestatic 73, 3) := by decide +kernel
theorem dJx4a65c_grow_92f84_30 : decode cJx4a65c_grow_92f84 30 = .ok (.istore_n 3, 1) := by decide +kernel
theorem dJx4a65c_grow_92f84_31 : decode cJx4a65c_grow_92f84 31 = .ok (.aload_n 0, 1) := by decide +kernel
theorem dJx4a65c_grow_92f84_32 : decode cJx4a65c_grow_92f84 32 = .ok (.aload_n 0, 1) := by decide +kernel
theorem dJx4a65c_grow_92f84_33 : decode cJx4a65c_grow_92f84 33 = .ok (.getfield 9, 3) := by decide +kernel
theorem dJx4a65c_grow_92f84_36 : decode cJx4a65c_grow_92f84 36 = .ok (.iload_n 3, 1) := by decide +kernel
theorem dJx4a65c_grow_92f84_37 : decode cJx4a65c_grow_92f84 37 = .ok (.invokestatic 66, 3) := by decide +kernel
theorem dJx4a65c_grow_92f84_40 : decode cJx4a65c_grow_92f84 40 = .ok (.dup_x1, 1) := by decide +kernel
theorem dJx4a65c_grow_92f84_41 : decode cJx4a65c_grow_92f84 41 = .ok (.putfield 9, 3) := by decide +kernel
theorem dJx4a65c_grow_92f84_44 : decode cJx4a65c_grow_92f84 44 = .ok (.areturn, 1) := by decide +kernel
theorem dJx4a65c_grow_92f84_45 : decode cJx4a65c_grow_92f84 45 = .ok (.aload_n 0, 1) := by decide +kernel
theorem dJx4a65c_grow_92f84_46 : decode cJx4a65c_grow_92f84 46 = .ok (.bipush 10, 2) := by decide +kernel
theorem dJx4a65c_grow_92f84_48 : decode cJx4a65c_grow_92f84 48 = .ok (.iload_n 1, 1) := by decide +kernel
theorem dJx4a65c_grow_92f84_49 : decode cJx4a65c_grow_92f84 49 = .ok (.invokestatic 79, 3) := by decide +kernel
theorem dJx4a65c_grow_92f84_52 : decode cJx4a65c_grow_92f84 52 = .ok (.anewarray 7, 3) := by decide +kernel
theorem dJx4a65c_grow_92f84_55 : decode cJx4a65c_grow_92f84 55 = .ok (.dup_x1, 1) := by decide +kernel
theorem dJx4a65c_grow_92f84_56 : decode cJx4a65c_grow_92f84 56 = .ok (.putfield 9, 3) := by decide +kernel
theorem dJx4a65c_grow_92f84_59 : decode cJx4a65c_grow_92f84 59 = .ok (.areturn, 1) := by decide +kernel
theorem dJx4a65c_grow_d5877_0 : decode cJx4a65c_grow_d5877 0 = .ok (.aload_n 0, 1) := by decide +kernel
theorem dJx4a65c_grow_d5877_1 : decode cJx4a65c_grow_d5877 1 = .ok (.aload_n 0, 1) := by decide +kernel
theorem dJx4a65c_grow_d5877_2 : decode cJx4a65c_grow_d5877 2 = .ok (.getfield 48, 3) := by decide +kernel
theorem dJx4a65c_grow_d5877_5 : decode cJx4a65c_grow_d5877 5 = .ok (.iconst 1, 1) := by decide +kernel
theorem dJx4a65c_grow_d5877_6 : decode cJx4a65c_grow_d5877 6 = .ok (.iadd, 1) := by decide +kernel
theorem dJx4a65c_grow_d5877_7 : decode cJx4a65c_grow_d5877 7 = .ok (.invokevirtual 69, 3) := by decide +kernel
theorem dJx4a65c_grow_d5877_10 : decode cJx4a65c_grow_d5877 10 = .ok (.areturn, 1) := by decide +kernel
theorem dJx4a65c_size_8abf5_0 : decode cJx4a65c_size_8abf5 0 = .ok (.aload_n 0, 1) := by decide +kernel
theorem dJx4a65c_size_8abf5_1 : decode cJx4a65c_size_8abf5 1 = .ok (.getfield 48, 3) := by decide +kernel
theorem dJx4a65c_size_8abf5_4 : decode cJx4a65c_size_8abf5 4 = .ok (.ireturn, 1) := by decide +kernel
theorem dJx4a65c_elementData_915e3_0 : decode cJx4a65c_elementData_915e3 0 = .ok (.aload_n 0, 1) := by decide +kernel
theorem dJx4a65c_elementData_915e3_1 : decode cJx4a65c_elementData_915e3 1 = .ok (.getfield 9, 3) := by decide +kernel
theorem dJx4a65c_elementData_915e3_4 : decode cJx4a65c_elementData_915e3 4 = .ok (.iload_n 1, 1) := by decide +kernel
theorem dJx4a65c_elementData_915e3_5 : decode cJx4a65c_elementData_915e3 5 = .ok (.aaload, 1) := by decide +kernel
theorem dJx4a65c_elementData_915e3_6 : decode cJx4a65c_elementData_915e3 6 = .ok (.areturn, 1) := by decide +kernel
theorem dJx4a65c_get_915e3_0 : decode cJx4a65c_get_915e3 0 = .ok (.iload_n 1, 1) := by decide +kernel
theorem dJx4a65c_get_915e3_1 : decode cJx4a65c_get_915e3 1 = .ok (.aload_n 0, 1) := by decide +kernel
theorem dJx4a65c_get_915e3_2 : decode cJx4a65c_get_915e3 2 = .ok (.getfield 48, 3) := by decide +kernel
theorem dJx4a65c_get_915e3_5 : decode cJx4a65c_get_915e3 5 = .ok (.invokestatic 118, 3) := by decide +kernel
theorem dJx4a65c_get_915e3_8 : decode cJx4a65c_get_915e3 8 = .ok (.pop, 1) := by decide +kernel
theorem dJx4a65c_get_915e3_9 : decode cJx4a65c_get_915e3 9 = .ok (.aload_n 0, 1) := by decide +kernel
theorem dJx4a65c_get_915e3_10 : decode cJx4a65c_get_915e3 10 = .ok (.iload_n 1, 1) := by decide +kernel
theorem dJx4a65c_get_915e3_11 : decode cJx4a65c_get_915e3 11 = .ok (.invokevirtual 123, 3) := by decide +kernel
theorem dJx4a65c_get_915e3_14 : decode cJx4a65c_get_915e3 14 = .ok (.areturn, 1) := by decide +kernel
theorem dJx4a65c_set_bcc79_0 : decode cJx4a65c_set_bcc79 0 = .ok (.iload_n 1, 1) := by decide +kernel
theorem dJx4a65c_set_bcc79_1 : decode cJx4a65c_set_bcc79 1 = .ok (.aload_n 0, 1) := by decide +kernel
theorem dJx4a65c_set_bcc79_2 : decode cJx4a65c_set_bcc79 2 = .ok (.getfield 48, 3) := by decide +kernel
theorem dJx4a65c_set_bcc79_5 : decode cJx4a65c_set_bcc79 5 = .ok (.invokestatic 118, 3) := by decide +kernel
theorem dJx4a65c_set_bcc79_8 : decode cJx4a65c_set_bcc79 8 = .ok (.pop, 1) := by decide +kernel
theorem dJx4a65c_set_bcc79_9 : decode cJx4a65c_set_bcc79 9 = .ok (.aload_n 0, 1) := by decide +kernel
theorem dJx4a65c_set_bcc79_10 : decode cJx4a65c_set_bcc79 10 = .ok (.iload_n 1, 1) := by decide +kernel
theorem dJx4a65c_set_bcc79_11 : decode cJx4a65c_set_bcc79 11 = .ok (.invokevirtual 123, 3) := by decide +kernel
theorem dJx4a65c_set_bcc79_14 : decode cJx4a65c_set_bcc79 14 = .ok (.astore_n 3, 1) := by decide +kernel
theorem dJx4a65c_set_bcc79_15 : decode cJx4a65c_set_bcc79 15 = .ok (.aload_n 0, 1) := by decide +kernel
theorem dJx4a65c_set_bcc79_16 : decode cJx4a65c_set_bcc79 16 = .ok (.getfield 9, 3) := by decide +kernel
theorem dJx4a65c_set_bcc79_19 : decode cJx4a65c_set_bcc79 19 = .ok (.iload_n 1, 1) := by decide +kernel
theorem dJx4a65c_set_bcc79_20 : decode cJx4a65c_set_bcc79 20 = .ok (.aload_n 2, 1) := by decide +kernel
theorem dJx4a65c_set_bcc79_21 : decode cJx4a65c_set_bcc79 21 = .ok (.aastore, 1) := by decide +kernel
theorem dJx4a65c_set_bcc79_22 : decode cJx4a65c_set_bcc79 22 = .ok (.aload_n 3, 1) := by decide +kernel
theorem dJx4a65c_set_bcc79_23 : decode cJx4a65c_set_bcc79 23 = .ok (.areturn, 1) := by decide +kernel
theorem dJx4a65c_add_72be8_0 : decode cJx4a65c_add_72be8 0 = .ok (.iload_n 3, 1) := by decide +kernel
theorem dJx4a65c_add_72be8_1 : decode cJx4a65c_add_72be8 1 = .ok (.aload_n 2, 1) := by decide +kernel
theorem dJx4a65c_add_72be8_2 : decode cJx4a65c_add_72be8 2 = .ok (.arraylength, 1) := by decide +kernel
theorem dJx4a65c_add_72be8_3 : decode cJx4a65c_add_72be8 3 = .ok (.if_icmp .ne 8, 3) := by decide +kernel
theorem dJx4a65c_add_72be8_6 : decode cJx4a65c_add_72be8 6 = .ok (.aload_n 0, 1) := by decide +kernel
theorem dJx4a65c_add_72be8_7 : decode cJx4a65c_add_72be8 7 = .ok (.invokevirtual 129, 3) := by decide +kernel
theorem dJx4a65c_add_72be8_10 : decode cJx4a65c_add_72be8 10 = .ok (.astore_n 2, 1) := by decide +kernel
theorem dJx4a65c_add_72be8_11 : decode cJx4a65c_add_72be8 11 = .ok (.aload_n 2, 1) := by decide +kernel
theorem dJx4a65c_add_72be8_12 : decode cJx4a65c_add_72be8 12 = .ok (.iload_n 3, 1) := by decide +kernel
theorem dJx4a65c_add_72be8_13 : decode cJx4a65c_add_72be8 13 = .ok (.aload_n 1, 1) := by decide +kernel
theorem dJx4a65c_add_72be8_14 : decode cJx4a65c_add_72be8 14 = .ok (.aastore, 1) := by decide +kernel
theorem dJx4a65c_add_72be8_15 : decode cJx4a65c_add_72be8 15 = .ok (.aload_n 0, 1) := by decide +kernel
theorem dJx4a65c_add_72be8_16 : decode cJx4a65c_add_72be8 16 = .ok (.iload_n 3, 1) := by decide +kernel
theorem dJx4a65c_add_72be8_17 : decode cJx4a65c_add_72be8 17 = .ok (.iconst 1, 1) := by decide +kernel
theorem dJx4a65c_add_72be8_18 : decode cJx4a65c_add_72be8 18 = .ok (.iadd, 1) := by decide +kernel
theorem dJx4a65c_add_72be8_19 : decode cJx4a65c_add_72be8 19 = .ok (.putfield 48, 3) := by decide +kernel
theorem dJx4a65c_add_72be8_22 : decode cJx4a65c_add_72be8 22 = .ok (.return_, 1) := by decide +kernel
theorem dJx4a65c_add_9ea2d_0 : decode cJx4a65c_add_9ea2d 0 = .ok (.aload_n 0, 1) := by decide +kernel
theorem dJx4a65c_add_9ea2d_1 : decode cJx4a65c_add_9ea2d 1 = .ok (.dup, 1) := by decide +kernel
theorem dJx4a65c_add_9ea2d_2 : decode cJx4a65c_add_9ea2d 2 = .ok (.getfield 63, 3) := by decide +kernel
theorem dJx4a65c_add_9ea2d_5 : decode cJx4a65c_add_9ea2d 5 = .ok (.iconst 1, 1) := by decide +kernel
theorem dJx4a65c_add_9ea2d_6 : decode cJx4a65c_add_9ea2d 6 = .ok (.iadd, 1) := by decide +kernel
theorem dJx4a65c_add_9ea2d_7 : decode cJx4a65c_add_9ea2d 7 = .ok (.putfield 63, 3) := by decide +kernel
theorem dJx4a65c_add_9ea2d_10 : decode cJx4a65c_add_9ea2d 10 = .ok (.aload_n 0, 1) := by decide +kernel
theorem dJx4a65c_add_9ea2d_11 : decode cJx4a65c_add_9ea2d 11 = .ok (.aload_n 1, 1) := by decide +kernel
theorem dJx4a65c_add_9ea2d_12 : decode cJx4a65c_add_9ea2d 12 = .ok (.aload_n 0, 1) := by decide +kernel
theorem dJx4a65c_add_9ea2d_13 : decode cJx4a65c_add_9ea2d 13 = .ok (.getfield 9, 3) := by decide +kernel
theorem dJx4a65c_add_9ea2d_16 : decode cJx4a65c_add_9ea2d 16 = .ok (.aload_n 0, 1) := by decide +kernel
theorem dJx4a65c_add_9ea2d_17 : decode cJx4a65c_add_9ea2d 17 = .ok (.getfield 48, 3) := by decide +kernel
theorem dJx4a65c_add_9ea2d_20 : decode cJx4a65c_add_9ea2d 20 = .ok (.invokevirtual 131, 3) := by decide +kernel
theorem dJx4a65c_add_9ea2d_23 : decode cJx4a65c_add_9ea2d 23 = .ok (.iconst 1, 1) := by decide +kernel
theorem dJx4a65c_add_9ea2d_24 : decode cJx4a65c_add_9ea2d 24 = .ok (.ireturn, 1) := by decide +kernel
theorem dJx4a65c_add_7a177_0 : decode cJx4a65c_add_7a177 0 = .ok (.aload_n 0, 1) := by decide +kernel
theorem dJx4a65c_add_7a177_1 : decode cJx4a65c_add_7a177 1 = .ok (.iload_n 1, 1) := by decide +kernel
theorem dJx4a65c_add_7a177_2 : decode cJx4a65c_add_7a177 2 = .ok (.invokevirtual 135, 3) := by decide +kernel
theorem dJx4a65c_add_7a177_5 : decode cJx4a65c_add_7a177 5 = .ok (.aload_n 0, 1) := by decide +kernel
theorem dJx4a65c_add_7a177_6 : decode cJx4a65c_add_7a177 6 = .ok (.dup, 1) := by decide +kernel
theorem dJx4a65c_add_7a177_7 : decode cJx4a65c_add_7a177 7 = .ok (.getfield 63, 3) := by decide +kernel
theorem dJx4a65c_add_7a177_10 : decode cJx4a65c_add_7a177 10 = .ok (.iconst 1, 1) := by decide +kernel
theorem dJx4a65c_add_7a177_11 : decode cJx4a65c_add_7a177 11 = .ok (.iadd, 1) := by decide +kernel
theorem dJx4a65c_add_7a177_12 : decode cJx4a65c_add_7a177 12 = .ok (.putfield 63, 3) := by decide +kernel
theorem dJx4a65c_add_7a177_15 : decode cJx4a65c_add_7a177 15 = .ok (.aload_n 0, 1) := by decide +kernel
theorem dJx4a65c_add_7a177_16 : decode cJx4a65c_add_7a177 16 = .ok (.getfield 48, 3) := by decide +kernel
theorem dJx4a65c_add_7a177_19 : decode cJx4a65c_add_7a177 19 = .ok (.dup, 1) := by decide +kernel
theorem dJx4a65c_add_7a177_20 : decode cJx4a65c_add_7a177 20 = .ok (.istore_n 3, 1) := by decide +kernel
theorem dJx4a65c_add_7a177_21 : decode cJx4a65c_add_7a177 21 = .ok (.aload_n 0, 1) := by decide +kernel
theorem dJx4a65c_add_7a177_22 : decode cJx4a65c_add_7a177 22 = .ok (.getfield 9, 3) := by decide +kernel
theorem dJx4a65c_add_7a177_25 : decode cJx4a65c_add_7a177 25 = .ok (.dup, 1) := by decide +kernel
theorem dJx4a65c_add_7a177_26 : decode cJx4a65c_add_7a177 26 = .ok (.astore 4, 2) := by decide +kernel
theorem dJx4a65c_add_7a177_28 : decode cJx4a65c_add_7a177 28 = .ok (.arraylength, 1) := by decide +kernel
theorem dJx4a65c_add_7a177_29 : decode cJx4a65c_add_7a177 29 = .ok (.if_icmp .ne 9, 3) := by decide +kernel
theorem dJx4a65c_add_7a177_32 : decode cJx4a65c_add_7a177 32 = .ok (.aload_n 0, 1) := by decide +kernel
theorem dJx4a65c_add_7a177_33 : decode cJx4a65c_add_7a177 33 = .ok (.invokevirtual 129, 3) := by decide +kernel
theorem dJx4a65c_add_7a177_36 : decode cJx4a65c_add_7a177 36 = .ok (.astore 4, 2) := by decide +kernel
theorem dJx4a65c_add_7a177_38 : decode cJx4a65c_add_7a177 38 = .ok (.aload 4, 2) := by decide +kernel
theorem dJx4a65c_add_7a177_40 : decode cJx4a65c_add_7a177 40 = .ok (.iload_n 1, 1) := by decide +kernel
theorem dJx4a65c_add_7a177_41 : decode cJx4a65c_add_7a177 41 = .ok (.aload 4, 2) := by decide +kernel
theorem dJx4a65c_add_7a177_43 : decode cJx4a65c_add_7a177 43 = .ok (.iload_n 1, 1) := by decide +kernel
theorem dJx4a65c_add_7a177_44 : decode cJx4a65c_add_7a177 44 = .ok (.iconst 1, 1) := by decide +kernel
theorem dJx4a65c_add_7a177_45 : decode cJx4a65c_add_7a177 45 = .ok (.iadd, 1) := by decide +kernel
theorem dJx4a65c_add_7a177_46 : decode cJx4a65c_add_7a177 46 = .ok (.iload_n 3, 1) := by decide +kernel
theorem dJx4a65c_add_7a177_47 : decode cJx4a65c_add_7a177 47 = .ok (.iload_n 1, 1) := by decide +kernel
theorem dJx4a65c_add_7a177_48 : decode cJx4a65c_add_7a177 48 = .ok (.isub, 1) := by decide +kernel
theorem dJx4a65c_add_7a177_49 : decode cJx4a65c_add_7a177 49 = .ok (.invokestatic 112, 3) := by decide +kernel
theorem dJx4a65c_add_7a177_52 : decode cJx4a65c_add_7a177 52 = .ok (.aload 4, 2) := by decide +kernel
theorem dJx4a65c_add_7a177_54 : decode cJx4a65c_add_7a177 54 = .ok (.iload_n 1, 1) := by decide +kernel
theorem dJx4a65c_add_7a177_55 : decode cJx4a65c_add_7a177 55 = .ok (.aload_n 2, 1) := by decide +kernel
theorem dJx4a65c_add_7a177_56 : decode cJx4a65c_add_7a177 56 = .ok (.aastore, 1) := by decide +kernel
theorem dJx4a65c_add_7a177_57 : decode cJx4a65c_add_7a177 57 = .ok (.aload_n 0, 1) := by decide +kernel
theorem dJx4a65c_add_7a177_58 : decode cJx4a65c_add_7a177 58 = .ok (.iload_n 3, 1) := by decide +kernel
end
section
theorem dJx4a65c_add_7a177_59 : decode cJx4a65c_add_7a177 59 = .ok (.iconst 1, 1) := by decide +kernel
theorem dJx4a65c_add_7a177_60 : decode cJx4a65c_add_7a177 60 = .ok (.iadd, 1) := by decide +kernel
theorem dJx4a65c_add_7a177_61 : decode cJx4a65c_add_7a177 61 = .ok (.putfield 48, 3) := by decide +kernel
theorem dJx4a65c_add_7a177_64 : decode cJx4a65c_add_7a177 64 = .ok (.return_, 1) := by decide +kernel
theorem dJx4a65c_remove_915e3_0 : decode cJx4a65c_remove_915e3 0 = .ok (.iload_n 1, 1) := by decide +kernel
theorem dJx4a65c_remove_915e3_1 : decode cJx4a65c_remove_915e3 1 = .ok (.aload_n 0, 1) := by decide +kernel
theorem dJx4a65c_remove_915e3_2 : decode cJx4a65c_remove_915e3 2 = .ok (.getfield 48, 3) := by decide +kernel
theorem dJx4a65c_remove_915e3_5 : decode cJx4a65c_remove_915e3 5 = .ok (.invokestatic 118, 3) := by decide +kernel
theorem dJx4a65c_remove_915e3_8 : decode cJx4a65c_remove_915e3 8 = .ok (.pop, 1) := by decide +kernel
theorem dJx4a65c_remove_915e3_9 : decode cJx4a65c_remove_915e3 9 = .ok (.aload_n 0, 1) := by decide +kernel
theorem dJx4a65c_remove_915e3_10 : decode cJx4a65c_remove_915e3 10 = .ok (.getfield 9, 3) := by decide +kernel
theorem dJx4a65c_remove_915e3_13 : decode cJx4a65c_remove_915e3 13 = .ok (.astore_n 2, 1) := by decide +kernel
theorem dJx4a65c_remove_915e3_14 : decode cJx4a65c_remove_915e3 14 = .ok (.aload_n 2, 1) := by decide +kernel
theorem dJx4a65c_remove_915e3_15 : decode cJx4a65c_remove_915e3 15 = .ok (.iload_n 1, 1) := by decide +kernel
theorem dJx4a65c_remove_915e3_16 : decode cJx4a65c_remove_915e3 16 = .ok (.aaload, 1) := by decide +kernel
theorem dJx4a65c_remove_915e3_17 : decode cJx4a65c_remove_915e3 17 = .ok (.astore_n 3, 1) := by decide +kernel
theorem dJx4a65c_remove_915e3_18 : decode cJx4a65c_remove_915e3 18 = .ok (.aload_n 0, 1) := by decide +kernel
theorem dJx4a65c_remove_915e3_19 : decode cJx4a65c_remove_915e3 19 = .ok (.aload_n 2, 1) := by decide +kernel
theorem dJx4a65c_remove_915e3_20 : decode cJx4a65c_remove_915e3 20 = .ok (.iload_n 1, 1) := by decide +kernel
theorem dJx4a65c_remove_915e3_21 : decode cJx4a65c_remove_915e3 21 = .ok (.invokevirtual 144, 3) := by decide +kernel
theorem dJx4a65c_remove_915e3_24 : decode cJx4a65c_remove_915e3 24 = .ok (.aload_n 3, 1) := by decide +kernel
theorem dJx4a65c_remove_915e3_25 : decode cJx4a65c_remove_915e3 25 = .ok (.areturn, 1) := by decide +kernel
theorem dJx4a65c_fastRemove_b59b0_0 : decode cJx4a65c_fastRemove_b59b0 0 = .ok (.aload_n 0, 1) := by decide +kernel
theorem dJx4a65c_fastRemove_b59b0_1 : decode cJx4a65c_fastRemove_b59b0 1 = .ok (.dup, 1) := by decide +kernel
theorem dJx4a65c_fastRemove_b59b0_2 : decode cJx4a65c_fastRemove_b59b0 2 = .ok (.getfield 63, 3) := by decide +kernel
theorem dJx4a65c_fastRemove_b59b0_5 : decode cJx4a65c_fastRemove_b59b0 5 = .ok (.iconst 1, 1) := by decide +kernel
theorem dJx4a65c_fastRemove_b59b0_6 : decode cJx4a65c_fastRemove_b59b0 6 = .ok (.iadd, 1) := by decide +kernel
theorem dJx4a65c_fastRemove_b59b0_7 : decode cJx4a65c_fastRemove_b59b0 7 = .ok (.putfield 63, 3) := by decide +kernel
theorem dJx4a65c_fastRemove_b59b0_10 : decode cJx4a65c_fastRemove_b59b0 10 = .ok (.aload_n 0, 1) := by decide +kernel
theorem dJx4a65c_fastRemove_b59b0_11 : decode cJx4a65c_fastRemove_b59b0 11 = .ok (.getfield 48, 3) := by decide +kernel
theorem dJx4a65c_fastRemove_b59b0_14 : decode cJx4a65c_fastRemove_b59b0 14 = .ok (.iconst 1, 1) := by decide +kernel
theorem dJx4a65c_fastRemove_b59b0_15 : decode cJx4a65c_fastRemove_b59b0 15 = .ok (.isub, 1) := by decide +kernel
theorem dJx4a65c_fastRemove_b59b0_16 : decode cJx4a65c_fastRemove_b59b0 16 = .ok (.dup, 1) := by decide +kernel
theorem dJx4a65c_fastRemove_b59b0_17 : decode cJx4a65c_fastRemove_b59b0 17 = .ok (.istore_n 3, 1) := by decide +kernel
theorem dJx4a65c_fastRemove_b59b0_18 : decode cJx4a65c_fastRemove_b59b0 18 = .ok (.iload_n 2, 1) := by decide +kernel
theorem dJx4a65c_fastRemove_b59b0_19 : decode cJx4a65c_fastRemove_b59b0 19 = .ok (.if_icmp .le 15, 3) := by decide +kernel
theorem dJx4a65c_fastRemove_b59b0_22 : decode cJx4a65c_fastRemove_b59b0 22 = .ok (.aload_n 1, 1) := by decide +kernel
theorem dJx4a65c_fastRemove_b59b0_23 : decode cJx4a65c_fastRemove_b59b0 23 = .ok (.iload_n 2, 1) := by decide +kernel
theorem dJx4a65c_fastRemove_b59b0_24 : decode cJx4a65c_fastRemove_b59b0 24 = .ok (.iconst 1, 1) := by decide +kernel
theorem dJx4a65c_fastRemove_b59b0_25 : decode cJx4a65c_fastRemove_b59b0 25 = .ok (.iadd, 1) := by decide +kernel
theorem dJx4a65c_fastRemove_b59b0_26 : decode cJx4a65c_fastRemove_b59b0 26 = .ok (.aload_n 1, 1) := by decide +kernel
theorem dJx4a65c_fastRemove_b59b0_27 : decode cJx4a65c_fastRemove_b59b0 27 = .ok (.iload_n 2, 1) := by decide +kernel
theorem dJx4a65c_fastRemove_b59b0_28 : decode cJx4a65c_fastRemove_b59b0 28 = .ok (.iload_n 3, 1) := by decide +kernel
theorem dJx4a65c_fastRemove_b59b0_29 : decode cJx4a65c_fastRemove_b59b0 29 = .ok (.iload_n 2, 1) := by decide +kernel
theorem dJx4a65c_fastRemove_b59b0_30 : decode cJx4a65c_fastRemove_b59b0 30 = .ok (.isub, 1) := by decide +kernel
theorem dJx4a65c_fastRemove_b59b0_31 : decode cJx4a65c_fastRemove_b59b0 31 = .ok (.invokestatic 112, 3) := by decide +kernel
theorem dJx4a65c_fastRemove_b59b0_34 : decode cJx4a65c_fastRemove_b59b0 34 = .ok (.aload_n 1, 1) := by decide +kernel
theorem dJx4a65c_fastRemove_b59b0_35 : decode cJx4a65c_fastRemove_b59b0 35 = .ok (.aload_n 0, 1) := by decide +kernel
theorem dJx4a65c_fastRemove_b59b0_36 : decode cJx4a65c_fastRemove_b59b0 36 = .ok (.iload_n 3, 1) := by decide +kernel
theorem dJx4a65c_fastRemove_b59b0_37 : decode cJx4a65c_fastRemove_b59b0 37 = .ok (.dup_x1, 1) := by decide +kernel
theorem dJx4a65c_fastRemove_b59b0_38 : decode cJx4a65c_fastRemove_b59b0 38 = .ok (.putfield 48, 3) := by decide +kernel
theorem dJx4a65c_fastRemove_b59b0_41 : decode cJx4a65c_fastRemove_b59b0 41 = .ok (.aconst_null, 1) := by decide +kernel
theorem dJx4a65c_fastRemove_b59b0_42 : decode cJx4a65c_fastRemove_b59b0 42 = .ok (.aastore, 1) := by decide +kernel
theorem dJx4a65c_fastRemove_b59b0_43 : decode cJx4a65c_fastRemove_b59b0 43 = .ok (.return_, 1) := by decide +kernel
theorem dJx4a65c_clear_da8c8_0 : decode cJx4a65c_clear_da8c8 0 = .ok (.aload_n 0, 1) := by decide +kernel
theorem dJx4a65c_clear_da8c8_1 : decode cJx4a65c_clear_da8c8 1 = .ok (.dup, 1) := by decide +kernel
theorem dJx4a65c_clear_da8c8_2 : decode cJx4a65c_clear_da8c8 2 = .ok (.getfield 63, 3) := by decide +kernel
theorem dJx4a65c_clear_da8c8_5 : decode cJx4a65c_clear_da8c8 5 = .ok (.iconst 1, 1) := by decide +kernel
theorem dJx4a65c_clear_da8c8_6 : decode cJx4a65c_clear_da8c8 6 = .ok (.iadd, 1) := by decide +kernel
theorem dJx4a65c_clear_da8c8_7 : decode cJx4a65c_clear_da8c8 7 = .ok (.putfield 63, 3) := by decide +kernel
theorem dJx4a65c_clear_da8c8_10 : decode cJx4a65c_clear_da8c8 10 = .ok (.aload_n 0, 1) := by decide +kernel
theorem dJx4a65c_clear_da8c8_11 : decode cJx4a65c_clear_da8c8 11 = .ok (.getfield 9, 3) := by decide +kernel
theorem dJx4a65c_clear_da8c8_14 : decode cJx4a65c_clear_da8c8 14 = .ok (.astore_n 1, 1) := by decide +kernel
theorem dJx4a65c_clear_da8c8_15 : decode cJx4a65c_clear_da8c8 15 = .ok (.aload_n 0, 1) := by decide +kernel
theorem dJx4a65c_clear_da8c8_16 : decode cJx4a65c_clear_da8c8 16 = .ok (.getfield 48, 3) := by decide +kernel
theorem dJx4a65c_clear_da8c8_19 : decode cJx4a65c_clear_da8c8 19 = .ok (.istore_n 2, 1) := by decide +kernel
theorem dJx4a65c_clear_da8c8_20 : decode cJx4a65c_clear_da8c8 20 = .ok (.aload_n 0, 1) := by decide +kernel
theorem dJx4a65c_clear_da8c8_21 : decode cJx4a65c_clear_da8c8 21 = .ok (.iconst 0, 1) := by decide +kernel
theorem dJx4a65c_clear_da8c8_22 : decode cJx4a65c_clear_da8c8 22 = .ok (.dup_x1, 1) := by decide +kernel
theorem dJx4a65c_clear_da8c8_23 : decode cJx4a65c_clear_da8c8 23 = .ok (.putfield 48, 3) := by decide +kernel
theorem dJx4a65c_clear_da8c8_26 : decode cJx4a65c_clear_da8c8 26 = .ok (.istore_n 3, 1) := by decide +kernel
theorem dJx4a65c_clear_da8c8_27 : decode cJx4a65c_clear_da8c8 27 = .ok (.iload_n 3, 1) := by decide +kernel
theorem dJx4a65c_clear_da8c8_28 : decode cJx4a65c_clear_da8c8 28 = .ok (.iload_n 2, 1) := by decide +kernel
theorem dJx4a65c_clear_da8c8_29 : decode cJx4a65c_clear_da8c8 29 = .ok (.if_icmp .ge 13, 3) := by decide +kernel
theorem dJx4a65c_clear_da8c8_32 : decode cJx4a65c_clear_da8c8 32 = .ok (.aload_n 1, 1) := by decide +kernel
theorem dJx4a65c_clear_da8c8_33 : decode cJx4a65c_clear_da8c8 33 = .ok (.iload_n 3, 1) := by decide +kernel
theorem dJx4a65c_clear_da8c8_34 : decode cJx4a65c_clear_da8c8 34 = .ok (.aconst_null, 1) := by decide +kernel
theorem dJx4a65c_clear_da8c8_35 : decode cJx4a65c_clear_da8c8 35 = .ok (.aastore, 1) := by decide +kernel
theorem dJx4a65c_clear_da8c8_36 : decode cJx4a65c_clear_da8c8 36 = .ok (.iinc 3 1, 3) := by decide +kernel
theorem dJx4a65c_clear_da8c8_39 : decode cJx4a65c_clear_da8c8 39 = .ok (.goto (-12), 3) := by decide +kernel
theorem dJx4a65c_clear_da8c8_42 : decode cJx4a65c_clear_da8c8 42 = .ok (.return_, 1) := by decide +kernel
theorem dJx4a65c_rangeCheckForAdd_d00df_0 : decode cJx4a65c_rangeCheckForAdd_d00df 0 = .ok (.iload_n 1, 1) := by decide +kernel
theorem dJx4a65c_rangeCheckForAdd_d00df_1 : decode cJx4a65c_rangeCheckForAdd_d00df 1 = .ok (.aload_n 0, 1) := by decide +kernel
theorem dJx4a65c_rangeCheckForAdd_d00df_2 : decode cJx4a65c_rangeCheckForAdd_d00df 2 = .ok (.getfield 48, 3) := by decide +kernel
theorem dJx4a65c_rangeCheckForAdd_d00df_5 : decode cJx4a65c_rangeCheckForAdd_d00df 5 = .ok (.if_icmp .gt 7, 3) := by decide +kernel
theorem dJx4a65c_rangeCheckForAdd_d00df_8 : decode cJx4a65c_rangeCheckForAdd_d00df 8 = .ok (.iload_n 1, 1) := by decide +kernel
theorem dJx4a65c_rangeCheckForAdd_d00df_9 : decode cJx4a65c_rangeCheckForAdd_d00df 9 = .ok (.ifCond .ge 16, 3) := by decide +kernel
theorem dJx4a65c_rangeCheckForAdd_d00df_12 : decode cJx4a65c_rangeCheckForAdd_d00df 12 = .ok (.new 187, 3) := by decide +kernel
theorem dJx4a65c_rangeCheckForAdd_d00df_15 : decode cJx4a65c_rangeCheckForAdd_d00df 15 = .ok (.dup, 1) := by decide +kernel
theorem dJx4a65c_rangeCheckForAdd_d00df_16 : decode cJx4a65c_rangeCheckForAdd_d00df 16 = .ok (.aload_n 0, 1) := by decide +kernel
theorem dJx4a65c_rangeCheckForAdd_d00df_17 : decode cJx4a65c_rangeCheckForAdd_d00df 17 = .ok (.iload_n 1, 1) := by decide +kernel
theorem dJx4a65c_rangeCheckForAdd_d00df_18 : decode cJx4a65c_rangeCheckForAdd_d00df 18 = .ok (.invokevirtual 198, 3) := by decide +kernel
theorem dJx4a65c_rangeCheckForAdd_d00df_21 : decode cJx4a65c_rangeCheckForAdd_d00df 21 = .ok (.invokespecial 193, 3) := by decide +kernel
theorem dJx4a65c_rangeCheckForAdd_d00df_24 : decode cJx4a65c_rangeCheckForAdd_d00df 24 = .ok (.athrow, 1) := by decide +kernel
theorem dJx4a65c_rangeCheckForAdd_d00df_25 : decode cJx4a65c_rangeCheckForAdd_d00df 25 = .ok (.return_, 1) := by decide +kernel
theorem dJ7_copyOf_1904c_0 : decode cJ7_copyOf_1904c 0 = .ok (.aload_n 0, 1) := by decide +kernel
theorem dJ7_copyOf_1904c_1 : decode cJ7_copyOf_1904c 1 = .ok (.iload_n 1, 1) := by decide +kernel
theorem dJ7_copyOf_1904c_2 : decode cJ7_copyOf_1904c 2 = .ok (.aload_n 0, 1) := by decide +kernel
theorem dJ7_copyOf_1904c_3 : decode cJ7_copyOf_1904c 3 = .ok (.invokevirtual 86, 3) := by decide +kernel
theorem dJ7_copyOf_1904c_6 : decode cJ7_copyOf_1904c 6 = .ok (.invokestatic 300, 3) := by decide +kernel
theorem dJ7_copyOf_1904c_9 : decode cJ7_copyOf_1904c 9 = .ok (.areturn, 1) := by decide +kernel
theorem dJ7_copyOf_6403c_0 : decode cJ7_copyOf_6403c 0 = .ok (.aload_n 2, 1) := by decide +kernel
theorem dJ7_copyOf_6403c_1 : decode cJ7_copyOf_6403c 1 = .ok (.ldc 110, 2) := by decide +kernel
theorem dJ7_copyOf_6403c_3 : decode cJ7_copyOf_6403c 3 = .ok (.if_acmp .ne 10, 3) := by decide +kernel
theorem dJ7_copyOf_6403c_6 : decode cJ7_copyOf_6403c 6 = .ok (.iload_n 1, 1) := by decide +kernel
theorem dJ7_copyOf_6403c_7 : decode cJ7_copyOf_6403c 7 = .ok (.anewarray 2, 3) := by decide +kernel
theorem dJ7_copyOf_6403c_10 : decode cJ7_copyOf_6403c 10 = .ok (.goto 14, 3) := by decide +kernel
theorem dJ7_copyOf_6403c_13 : decode cJ7_copyOf_6403c 13 = .ok (.aload_n 2, 1) := by decide +kernel
theorem dJ7_copyOf_6403c_14 : decode cJ7_copyOf_6403c 14 = .ok (.invokevirtual 90, 3) := by decide +kernel
theorem dJ7_copyOf_6403c_17 : decode cJ7_copyOf_6403c 17 = .ok (.iload_n 1, 1) := by decide +kernel
theorem dJ7_copyOf_6403c_18 : decode cJ7_copyOf_6403c 18 = .ok (.invokestatic 95, 3) := by decide +kernel
theorem dJ7_copyOf_6403c_21 : decode cJ7_copyOf_6403c 21 = .ok (.checkcast 110, 3) := by decide +kernel
theorem dJ7_copyOf_6403c_24 : decode cJ7_copyOf_6403c 24 = .ok (.astore_n 3, 1) := by decide +kernel
theorem dJ7_copyOf_6403c_25 : decode cJ7_copyOf_6403c 25 = .ok (.aload_n 0, 1) := by decide +kernel
theorem dJ7_copyOf_6403c_26 : decode cJ7_copyOf_6403c 26 = .ok (.iconst 0, 1) := by decide +kernel
theorem dJ7_copyOf_6403c_27 : decode cJ7_copyOf_6403c 27 = .ok (.aload_n 3, 1) := by decide +kernel
theorem dJ7_copyOf_6403c_28 : decode cJ7_copyOf_6403c 28 = .ok (.iconst 0, 1) := by decide +kernel
theorem dJ7_copyOf_6403c_29 : decode cJ7_copyOf_6403c 29 = .ok (.aload_n 0, 1) := by decide +kernel
theorem dJ7_copyOf_6403c_30 : decode cJ7_copyOf_6403c 30 = .ok (.arraylength, 1) := by decide +kernel
theorem dJ7_copyOf_6403c_31 : decode cJ7_copyOf_6403c 31 = .ok (.iload_n 1, 1) := by decide +kernel
theorem dJ7_copyOf_6403c_32 : decode cJ7_copyOf_6403c 32 = .ok (.invokestatic 304, 3) := by decide +kernel
theorem dJ7_copyOf_6403c_35 : decode cJ7_copyOf_6403c 35 = .ok (.invokestatic 150, 3) := by decide +kernel
theorem dJ7_copyOf_6403c_38 : decode cJ7_copyOf_6403c 38 = .ok (.aload_n 3, 1) := by decide +kernel
theorem dJ7_copyOf_6403c_39 : decode cJ7_copyOf_6403c 39 = .ok (.areturn, 1) := by decide +kernel
theorem dJ15_checkIndex_7cf53_0 : decode cJ15_checkIndex_7cf53 0 = .ok (.iload_n 0, 1) := by decide +kernel
theorem dJ15_checkIndex_7cf53_1 : decode cJ15_checkIndex_7cf53 1 = .ok (.iload_n 1, 1) := by decide +kernel
theorem dJ15_checkIndex_7cf53_2 : decode cJ15_checkIndex_7cf53 2 = .ok (.aconst_null, 1) := by decide +kernel
theorem dJ15_checkIndex_7cf53_3 : decode cJ15_checkIndex_7cf53 3 = .ok (.invokestatic 105, 3) := by decide +kernel
theorem dJ15_checkIndex_7cf53_6 : decode cJ15_checkIndex_7cf53 6 = .ok (.ireturn, 1) := by decide +kernel
theorem dJ8_newLength_cabcc_0 : decode cJ8_newLength_cabcc 0 = .ok (.iload_n 0, 1) := by decide +kernel
theorem dJ8_newLength_cabcc_1 : decode cJ8_newLength_cabcc 1 = .ok (.iload_n 1, 1) := by decide +kernel
theorem dJ8_newLength_cabcc_2 : decode cJ8_newLength_cabcc 2 = .ok (.iload_n 2, 1) := by decide +kernel
theorem dJ8_newLength_cabcc_3 : decode cJ8_newLength_cabcc 3 = .ok (.invokestatic 194, 3) := by decide +kernel
theorem dJ8_newLength_cabcc_6 : decode cJ8_newLength_cabcc 6 = .ok (.iadd, 1) := by decide +kernel
theorem dJ8_newLength_cabcc_7 : decode cJ8_newLength_cabcc 7 = .ok (.istore_n 3, 1) := by decide +kernel
theorem dJ8_newLength_cabcc_8 : decode cJ8_newLength_cabcc 8 = .ok (.iconst 0, 1) := by decide +kernel
theorem dJ8_newLength_cabcc_9 : decode cJ8_newLength_cabcc 9 = .ok (.iload_n 3, 1) := by decide +kernel
theorem dJ8_newLength_cabcc_10 : decode cJ8_newLength_cabcc 10 = .ok (.if_icmp .ge 11, 3) := by decide +kernel
theorem dJ8_newLength_cabcc_13 : decode cJ8_newLength_cabcc 13 = .ok (.iload_n 3, 1) := by decide +kernel
theorem dJ8_newLength_cabcc_14 : decode cJ8_newLength_cabcc 14 = .ok (.ldc 200, 2) := by decide +kernel
theorem dJ8_newLength_cabcc_16 : decode cJ8_newLength_cabcc 16 = .ok (.if_icmp .gt 5, 3) := by decide +kernel
theorem dJ8_newLength_cabcc_19 : decode cJ8_newLength_cabcc 19 = .ok (.iload_n 3, 1) := by decide +kernel
theorem dJ8_newLength_cabcc_20 : decode cJ8_newLength_cabcc 20 = .ok (.ireturn, 1) := by decide +kernel
theorem dJ8_newLength_cabcc_21 : decode cJ8_newLength_cabcc 21 = .ok (.iload_n 0, 1) := by decide +kernel
theorem dJ8_newLength_cabcc_22 : decode cJ8_newLength_cabcc 22 = .ok (.iload_n 1, 1) := by decide +kernel
theorem dJ8_newLength_cabcc_23 : decode cJ8_newLength_cabcc 23 = .ok (.invokestatic 201, 3) := by decide +kernel
theorem dJ8_newLength_cabcc_26 : decode cJ8_newLength_cabcc 26 = .ok (.ireturn, 1) := by decide +kernel
theorem dJ8_hugeLength_7cf53_0 : decode cJ8_hugeLength_7cf53 0 = .ok (.iload_n 0, 1) := by decide +kernel
theorem dJ8_hugeLength_7cf53_1 : decode cJ8_hugeLength_7cf53 1 = .ok (.iload_n 1, 1) := by decide +kernel
theorem dJ8_hugeLength_7cf53_2 : decode cJ8_hugeLength_7cf53 2 = .ok (.iadd, 1) := by decide +kernel
theorem dJ8_hugeLength_7cf53_3 : decode cJ8_hugeLength_7cf53 3 = .ok (.istore_n 2, 1) := by decide +kernel
theorem dJ8_hugeLength_7cf53_4 : decode cJ8_hugeLength_7cf53 4 = .ok (.iload_n 2, 1) := by decide +kernel
theorem dJ8_hugeLength_7cf53_5 : decode cJ8_hugeLength_7cf53 5 = .ok (.ifCond .ge 44, 3) := by decide +kernel
theorem dJ8_hugeLength_7cf53_8 : decode cJ8_hugeLength_7cf53 8 = .ok (.new 204, 3) := by decide +kernel
theorem dJ8_hugeLength_7cf53_11 : decode cJ8_hugeLength_7cf53 11 = .ok (.dup, 1) := by decide +kernel
theorem dJ8_hugeLength_7cf53_12 : decode cJ8_hugeLength_7cf53 12 = .ok (.new 89, 3) := by decide +kernel
theorem dJ8_hugeLength_7cf53_15 : decode cJ8_hugeLength_7cf53 15 = .ok (.dup, 1) := by decide +kernel
theorem dJ8_hugeLength_7cf53_16 : decode cJ8_hugeLength_7cf53 16 = .ok (.invokespecial 91, 3) := by decide +kernel
theorem dJ8_hugeLength_7cf53_19 : decode cJ8_hugeLength_7cf53 19 = .ok (.ldc 206, 2) := by decide +kernel
theorem dJ8_hugeLength_7cf53_21 : decode cJ8_hugeLength_7cf53 21 = .ok (.invokevirtual 94, 3) := by decide +kernel
theorem dJ8_hugeLength_7cf53_24 : decode cJ8_hugeLength_7cf53 24 = .ok (.iload_n 0, 1) := by decide +kernel
theorem dJ8_hugeLength_7cf53_25 : decode cJ8_hugeLength_7cf53 25 = .ok (.invokevirtual 98, 3) := by decide +kernel
theorem dJ8_hugeLength_7cf53_28 : decode cJ8_hugeLength_7cf53 28 = .ok (.ldc 208, 2) := by decide +kernel
theorem dJ8_hugeLength_7cf53_30 : decode cJ8_hugeLength_7cf53 30 = .ok (.invokevirtual 94, 3) := by decide +kernel
theorem dJ8_hugeLength_7cf53_33 : decode cJ8_hugeLength_7cf53 33 = .ok (.iload_n 1, 1) := by decide +kernel
theorem dJ8_hugeLength_7cf53_34 : decode cJ8_hugeLength_7cf53 34 = .ok (.invokevirtual 98, 3) := by decide +kernel
theorem dJ8_hugeLength_7cf53_37 : decode cJ8_hugeLength_7cf53 37 = .ok (.ldc 210, 2) := by decide +kernel
theorem dJ8_hugeLength_7cf53_39 : decode cJ8_hugeLength_7cf53 39 = .ok (.invokevirtual 94, 3) := by decide +kernel
theorem dJ8_hugeLength_7cf53_42 : decode cJ8_hugeLength_7cf53 42 = .ok (.invokevirtual 101, 3) := by decide +kernel
theorem dJ8_hugeLength_7cf53_45 : decode cJ8_hugeLength_7cf53 45 = .ok (.invokespecial 212, 3) := by decide +kernel
theorem dJ8_hugeLength_7cf53_48 : decode cJ8_hugeLength_7cf53 48 = .ok (.athrow, 1) := by decide +kernel
theorem dJ8_hugeLength_7cf53_49 : decode cJ8_hugeLength_7cf53 49 = .ok (.iload_n 2, 1) := by decide +kernel
theorem dJ8_hugeLength_7cf53_50 : decode cJ8_hugeLength_7cf53 50 = .ok (.ldc 200, 2) := by decide +kernel
theorem dJ8_hugeLength_7cf53_52 : decode cJ8_hugeLength_7cf53 52 = .ok (.if_icmp .gt 6, 3) := by decide +kernel
theorem dJ8_hugeLength_7cf53_55 : decode cJ8_hugeLength_7cf53 55 = .ok (.ldc 200, 2) := by decide +kernel
theorem dJ8_hugeLength_7cf53_57 : decode cJ8_hugeLength_7cf53 57 = .ok (.ireturn, 1) := by decide +kernel
theorem dJ8_hugeLength_7cf53_58 : decode cJ8_hugeLength_7cf53 58 = .ok (.iload_n 2, 1) := by decide +kernel
theorem dJ8_hugeLength_7cf53_59 : decode cJ8_hugeLength_7cf53 59 = .ok (.ireturn, 1) := by decide +kernel
theorem dJ3_checkIndex_8e157_0 : decode cJ3_checkIndex_8e157 0 = .ok (.iload_n 0, 1) := by decide +kernel
theorem dJ3_checkIndex_8e157_1 : decode cJ3_checkIndex_8e157 1 = .ok (.ifCond .lt 8, 3) := by decide +kernel
theorem dJ3_checkIndex_8e157_4 : decode cJ3_checkIndex_8e157 4 = .ok (.iload_n 0, 1) := by decide +kernel
theorem dJ3_checkIndex_8e157_5 : decode cJ3_checkIndex_8e157 5 = .ok (.iload_n 1, 1) := by decide +kernel
theorem dJ3_checkIndex_8e157_6 : decode cJ3_checkIndex_8e157 6 = .ok (.if_icmp .lt 10, 3) := by decide +kernel
theorem dJ3_checkIndex_8e157_9 : decode cJ3_checkIndex_8e157 9 = .ok (.aload_n 2, 1) := by decide +kernel
theorem dJ3_checkIndex_8e157_10 : decode cJ3_checkIndex_8e157 10 = .ok (.iload_n 0, 1) := by decide +kernel
theorem dJ3_checkIndex_8e157_11 : decode cJ3_checkIndex_8e157 11 = .ok (.iload_n 1, 1) := by decide +kernel
theorem dJ3_checkIndex_8e157_12 : decode cJ3_checkIndex_8e157 12 = .ok (.invokestatic 95, 3) := by decide +kernel
theorem dJ3_checkIndex_8e157_15 : decode cJ3_checkIndex_8e157 15 = .ok (.athrow, 1) := by decide +kernel
theorem dJ3_checkIndex_8e157_16 : decode cJ3_checkIndex_8e157 16 = .ok (.iload_n 0, 1) := by decide +kernel
theorem dJ3_checkIndex_8e157_17 : decode cJ3_checkIndex_8e157 17 = .ok (.ireturn, 1) := by decide +kernel
theorem dL_signOn_0 : decode cL_signOn 0 = .ok (.aload_n 3, 1) := by decide +kernel
theorem dL_signOn_1 : decode cL_signOn 1 = .ok (.iconst 0, 1) := by decide +kernel
theorem dL_signOn_2 : decode cL_signOn 2 = .ok (.aload_n 0, 1) := by decide +kernel
theorem dL_signOn_3 : decode cL_signOn 3 = .ok (.iload_n 1, 1) := by decide +kernel
theorem dL_signOn_4 : decode cL_signOn 4 = .ok (.iload_n 2, 1) := by decide +kernel
theorem dL_signOn_5 : decode cL_signOn 5 = .ok (.invokevirtual 7, 3) := by decide +kernel
theorem dL_signOn_8 : decode cL_signOn 8 = .ok (.i2l, 1) := by decide +kernel
theorem dL_signOn_9 : decode cL_signOn 9 = .ok (.lastore, 1) := by decide +kernel
theorem dL_signOn_10 : decode cL_signOn 10 = .ok (.goto 11, 3) := by decide +kernel
theorem dL_signOn_13 : decode cL_signOn 13 = .ok (.astore 4, 2) := by decide +kernel
theorem dL_signOn_15 : decode cL_signOn 15 = .ok (.iconst 1, 1) := by decide +kernel
theorem dL_signOn_16 : decode cL_signOn 16 = .ok (.ireturn, 1) := by decide +kernel
theorem dL_signOn_17 : decode cL_signOn 17 = .ok (.astore 4, 2) := by decide +kernel
theorem dL_signOn_19 : decode cL_signOn 19 = .ok (.iconst 2, 1) := by decide +kernel
theorem dL_signOn_20 : decode cL_signOn 20 = .ok (.ireturn, 1) := by decide +kernel
theorem dL_signOn_21 : decode cL_signOn 21 = .ok (.iconst 0, 1) := by decide +kernel
theorem dL_signOn_22 : decode cL_signOn 22 = .ok (.ireturn, 1) := by decide +kernel
theorem dL_signOff_0 : decode cL_signOff 0 = .ok (.aload_n 2, 1) := by decide +kernel
theorem dL_signOff_1 : decode cL_signOff 1 = .ok (.iconst 0, 1) := by decide +kernel
theorem dL_signOff_2 : decode cL_signOff 2 = .ok (.aload_n 0, 1) := by decide +kernel
theorem dL_signOff_3 : decode cL_signOff 3 = .ok (.iload_n 1, 1) := by decide +kernel
theorem dL_signOff_4 : decode cL_signOff 4 = .ok (.invokevirtual 17, 3) := by decide +kernel
theorem dL_signOff_7 : decode cL_signOff 7 = .ok (.i2l, 1) := by decide +kernel
theorem dL_signOff_8 : decode cL_signOff 8 = .ok (.lastore, 1) := by decide +kernel
theorem dL_signOff_9 : decode cL_signOff 9 = .ok (.goto 9, 3) := by decide +kernel
theorem dL_signOff_12 : decode cL_signOff 12 = .ok (.astore_n 3, 1) := by decide +kernel
theorem dL_signOff_13 : decode cL_signOff 13 = .ok (.iconst 1, 1) := by decide +kernel
theorem dL_signOff_14 : decode cL_signOff 14 = .ok (.ireturn, 1) := by decide +kernel
theorem dL_signOff_15 : decode cL_signOff 15 = .ok (.astore_n 3, 1) := by decide +kernel
theorem dL_signOff_16 : decode cL_signOff 16 = .ok (.iconst 2, 1) := by decide +kernel
theorem dL_signOff_17 : decode cL_signOff 17 = .ok (.ireturn, 1) := by decide +kernel
theorem dL_signOff_18 : decode cL_signOff 18 = .ok (.iconst 0, 1) := by decide +kernel
theorem dL_signOff_19 : decode cL_signOff 19 = .ok (.ireturn, 1) := by decide +kernel
theorem dL_setSkills_0 : decode cL_setSkills 0 = .ok (.aload_n 3, 1) := by decide +kernel
theorem dL_setSkills_1 : decode cL_setSkills 1 = .ok (.iconst 0, 1) := by decide +kernel
theorem dL_setSkills_2 : decode cL_setSkills 2 = .ok (.aload_n 0, 1) := by decide +kernel
theorem dL_setSkills_3 : decode cL_setSkills 3 = .ok (.iload_n 1, 1) := by decide +kernel
theorem dL_setSkills_4 : decode cL_setSkills 4 = .ok (.iload_n 2, 1) := by decide +kernel
theorem dL_setSkills_5 : decode cL_setSkills 5 = .ok (.invokevirtual 23, 3) := by decide +kernel
theorem dL_setSkills_8 : decode cL_setSkills 8 = .ok (.i2l, 1) := by decide +kernel
theorem dL_setSkills_9 : decode cL_setSkills 9 = .ok (.lastore, 1) := by decide +kernel
theorem dL_setSkills_10 : decode cL_setSkills 10 = .ok (.goto 15, 3) := by decide +kernel
theorem dL_setSkills_13 : decode cL_setSkills 13 = .ok (.astore 4, 2) := by decide +kernel
theorem dL_setSkills_15 : decode cL_setSkills 15 = .ok (.iconst 1, 1) := by decide +kernel
theorem dL_setSkills_16 : decode cL_setSkills 16 = .ok (.ireturn, 1) := by decide +kernel
theorem dL_setSkills_17 : decode cL_setSkills 17 = .ok (.astore 4, 2) := by decide +kernel
theorem dL_setSkills_19 : decode cL_setSkills 19 = .ok (.iconst 2, 1) := by decide +kernel
theorem dL_setSkills_20 : decode cL_setSkills 20 = .ok (.ireturn, 1) := by decide +kernel
theorem dL_setSkills_21 : decode cL_setSkills 21 = .ok (.astore 4, 2) := by decide +kernel
theorem dL_setSkills_23 : decode cL_setSkills 23 = .ok (.iconst 3, 1) := by decide +kernel
theorem dL_setSkills_24 : decode cL_setSkills 24 = .ok (.ireturn, 1) := by decide +kernel
theorem dL_setSkills_25 : decode cL_setSkills 25 = .ok (.iconst 0, 1) := by decide +kernel
theorem dL_setSkills_26 : decode cL_setSkills 26 = .ok (.ireturn, 1) := by decide +kernel
theorem dL_move_0 : decode cL_move 0 = .ok (.aload_n 3, 1) := by decide +kernel
theorem dL_move_1 : decode cL_move 1 = .ok (.iconst 0, 1) := by decide +kernel
theorem dL_move_2 : decode cL_move 2 = .ok (.aload_n 0, 1) := by decide +kernel
theorem dL_move_3 : decode cL_move 3 = .ok (.iload_n 1, 1) := by decide +kernel
theorem dL_move_4 : decode cL_move 4 = .ok (.iload_n 2, 1) := by decide +kernel
theorem dL_move_5 : decode cL_move 5 = .ok (.invokevirtual 26, 3) := by decide +kernel
theorem dL_move_8 : decode cL_move 8 = .ok (.i2l, 1) := by decide +kernel
theorem dL_move_9 : decode cL_move 9 = .ok (.lastore, 1) := by decide +kernel
theorem dL_move_10 : decode cL_move 10 = .ok (.goto 11, 3) := by decide +kernel
theorem dL_move_13 : decode cL_move 13 = .ok (.astore 4, 2) := by decide +kernel
theorem dL_move_15 : decode cL_move 15 = .ok (.iconst 1, 1) := by decide +kernel
theorem dL_move_16 : decode cL_move 16 = .ok (.ireturn, 1) := by decide +kernel
theorem dL_move_17 : decode cL_move 17 = .ok (.astore 4, 2) := by decide +kernel
theorem dL_move_19 : decode cL_move 19 = .ok (.iconst 2, 1) := by decide +kernel
theorem dL_move_20 : decode cL_move 20 = .ok (.ireturn, 1) := by decide +kernel
theorem dL_move_21 : decode cL_move 21 = .ok (.iconst 0, 1) := by decide +kernel
theorem dL_move_22 : decode cL_move 22 = .ok (.ireturn, 1) := by decide +kernel
theorem dL_setAway_0 : decode cL_setAway 0 = .ok (.aload_n 3, 1) := by decide +kernel
theorem dL_setAway_1 : decode cL_setAway 1 = .ok (.iconst 0, 1) := by decide +kernel
theorem dL_setAway_2 : decode cL_setAway 2 = .ok (.aload_n 0, 1) := by decide +kernel
theorem dL_setAway_3 : decode cL_setAway 3 = .ok (.iload_n 1, 1) := by decide +kernel
theorem dL_setAway_4 : decode cL_setAway 4 = .ok (.iload_n 2, 1) := by decide +kernel
theorem dL_setAway_5 : decode cL_setAway 5 = .ok (.invokevirtual 29, 3) := by decide +kernel
theorem dL_setAway_8 : decode cL_setAway 8 = .ok (.ifCond .eq 7, 3) := by decide +kernel
theorem dL_setAway_11 : decode cL_setAway 11 = .ok (.lconst 1, 1) := by decide +kernel
theorem dL_setAway_12 : decode cL_setAway 12 = .ok (.goto 4, 3) := by decide +kernel
theorem dL_setAway_15 : decode cL_setAway 15 = .ok (.lconst 0, 1) := by decide +kernel
theorem dL_setAway_16 : decode cL_setAway 16 = .ok (.lastore, 1) := by decide +kernel
theorem dL_setAway_17 : decode cL_setAway 17 = .ok (.goto 7, 3) := by decide +kernel
theorem dL_setAway_20 : decode cL_setAway 20 = .ok (.astore 4, 2) := by decide +kernel
theorem dL_setAway_22 : decode cL_setAway 22 = .ok (.iconst 1, 1) := by decide +kernel
theorem dL_setAway_23 : decode cL_setAway 23 = .ok (.ireturn, 1) := by decide +kernel
theorem dL_setAway_24 : decode cL_setAway 24 = .ok (.iconst 0, 1) := by decide +kernel
theorem dL_setAway_25 : decode cL_setAway 25 = .ok (.ireturn, 1) := by decide +kernel
theorem dL_setRefusing_0 : decode cL_setRefusing 0 = .ok (.aload_n 3, 1) := by decide +kernel
theorem dL_setRefusing_1 : decode cL_setRefusing 1 = .ok (.iconst 0, 1) := by decide +kernel
theorem dL_setRefusing_2 : decode cL_setRefusing 2 = .ok (.aload_n 0, 1) := by decide +kernel
theorem dL_setRefusing_3 : decode cL_setRefusing 3 = .ok (.iload_n 1, 1) := by decide +kernel
theorem dL_setRefusing_4 : decode cL_setRefusing 4 = .ok (.iload_n 2, 1) := by decide +kernel
theorem dL_setRefusing_5 : decode cL_setRefusing 5 = .ok (.invokevirtual 33, 3) := by decide +kernel
theorem dL_setRefusing_8 : decode cL_setRefusing 8 = .ok (.ifCond .eq 7, 3) := by decide +kernel
theorem dL_setRefusing_11 : decode cL_setRefusing 11 = .ok (.lconst 1, 1) := by decide +kernel
theorem dL_setRefusing_12 : decode cL_setRefusing 12 = .ok (.goto 4, 3) := by decide +kernel
theorem dL_setRefusing_15 : decode cL_setRefusing 15 = .ok (.lconst 0, 1) := by decide +kernel
theorem dL_setRefusing_16 : decode cL_setRefusing 16 = .ok (.lastore, 1) := by decide +kernel
theorem dL_setRefusing_17 : decode cL_setRefusing 17 = .ok (.goto 7, 3) := by decide +kernel
theorem dL_setRefusing_20 : decode cL_setRefusing 20 = .ok (.astore 4, 2) := by decide +kernel
theorem dL_setRefusing_22 : decode cL_setRefusing 22 = .ok (.iconst 1, 1) := by decide +kernel
theorem dL_setRefusing_23 : decode cL_setRefusing 23 = .ok (.ireturn, 1) := by decide +kernel
theorem dL_setRefusing_24 : decode cL_setRefusing 24 = .ok (.iconst 0, 1) := by decide +kernel
theorem dL_setRefusing_25 : decode cL_setRefusing 25 = .ok (.ireturn, 1) := by decide +kernel
theorem dL_setRule_0 : decode cL_setRule 0 = .ok (.aload 4, 2) := by decide +kernel
theorem dL_setRule_2 : decode cL_setRule 2 = .ok (.iconst 0, 1) := by decide +kernel
theorem dL_setRule_3 : decode cL_setRule 3 = .ok (.aload_n 0, 1) := by decide +kernel
theorem dL_setRule_4 : decode cL_setRule 4 = .ok (.iload_n 1, 1) := by decide +kernel
theorem dL_setRule_5 : decode cL_setRule 5 = .ok (.iload_n 2, 1) := by decide +kernel
theorem dL_setRule_6 : decode cL_setRule 6 = .ok (.iload_n 3, 1) := by decide +kernel
theorem dL_setRule_7 : decode cL_setRule 7 = .ok (.invokevirtual 36, 3) := by decide +kernel
theorem dL_setRule_10 : decode cL_setRule 10 = .ok (.i2l, 1) := by decide +kernel
theorem dL_setRule_11 : decode cL_setRule 11 = .ok (.lastore, 1) := by decide +kernel
theorem dL_setRule_12 : decode cL_setRule 12 = .ok (.goto 7, 3) := by decide +kernel
theorem dL_setRule_15 : decode cL_setRule 15 = .ok (.astore 5, 2) := by decide +kernel
theorem dL_setRule_17 : decode cL_setRule 17 = .ok (.iconst 1, 1) := by decide +kernel
theorem dL_setRule_18 : decode cL_setRule 18 = .ok (.ireturn, 1) := by decide +kernel
theorem dL_setRule_19 : decode cL_setRule 19 = .ok (.iconst 0, 1) := by decide +kernel
theorem dL_setRule_20 : decode cL_setRule 20 = .ok (.ireturn, 1) := by decide +kernel
theorem dL_equalise_0 : decode cL_equalise 0 = .ok (.aload_n 2, 1) := by decide +kernel
theorem dL_equalise_1 : decode cL_equalise 1 = .ok (.iconst 0, 1) := by decide +kernel
theorem dL_equalise_2 : decode cL_equalise 2 = .ok (.aload_n 0, 1) := by decide +kernel
theorem dL_equalise_3 : decode cL_equalise 3 = .ok (.iload_n 1, 1) := by decide +kernel
theorem dL_equalise_4 : decode cL_equalise 4 = .ok (.invokevirtual 40, 3) := by decide +kernel
theorem dL_equalise_7 : decode cL_equalise 7 = .ok (.i2l, 1) := by decide +kernel
theorem dL_equalise_8 : decode cL_equalise 8 = .ok (.lastore, 1) := by decide +kernel
theorem dL_equalise_9 : decode cL_equalise 9 = .ok (.goto 6, 3) := by decide +kernel
theorem dL_equalise_12 : decode cL_equalise 12 = .ok (.astore_n 3, 1) := by decide +kernel
theorem dL_equalise_13 : decode cL_equalise 13 = .ok (.iconst 1, 1) := by decide +kernel
theorem dL_equalise_14 : decode cL_equalise 14 = .ok (.ireturn, 1) := by decide +kernel
theorem dL_equalise_15 : decode cL_equalise 15 = .ok (.iconst 0, 1) := by decide +kernel
theorem dL_equalise_16 : decode cL_equalise 16 = .ok (.ireturn, 1) := by decide +kernel
theorem dL_order_0 : decode cL_order 0 = .ok (.aload_n 2, 1) := by decide +kernel
theorem dL_order_1 : decode cL_order 1 = .ok (.iconst 0, 1) := by decide +kernel
theorem dL_order_2 : decode cL_order 2 = .ok (.aload_n 0, 1) := by decide +kernel
theorem dL_order_3 : decode cL_order 3 = .ok (.iload_n 1, 1) := by decide +kernel
theorem dL_order_4 : decode cL_order 4 = .ok (.invokevirtual 43, 3) := by decide +kernel
theorem dL_order_7 : decode cL_order 7 = .ok (.i2l, 1) := by decide +kernel
theorem dL_order_8 : decode cL_order 8 = .ok (.lastore, 1) := by decide +kernel
theorem dL_order_9 : decode cL_order 9 = .ok (.goto 9, 3) := by decide +kernel
theorem dL_order_12 : decode cL_order 12 = .ok (.astore_n 3, 1) := by decide +kernel
theorem dL_order_13 : decode cL_order 13 = .ok (.iconst 1, 1) := by decide +kernel
theorem dL_order_14 : decode cL_order 14 = .ok (.ireturn, 1) := by decide +kernel
theorem dL_order_15 : decode cL_order 15 = .ok (.astore_n 3, 1) := by decide +kernel
theorem dL_order_16 : decode cL_order 16 = .ok (.iconst 2, 1) := by decide +kernel
theorem dL_order_17 : decode cL_order 17 = .ok (.ireturn, 1) := by decide +kernel
theorem dL_order_18 : decode cL_order 18 = .ok (.iconst 0, 1) := by decide +kernel
theorem dL_order_19 : decode cL_order 19 = .ok (.ireturn, 1) := by decide +kernel
theorem dL_setHours_0 : decode cL_setHours 0 = .ok (.aload_n 2, 1) := by decide +kernel
theorem dL_setHours_1 : decode cL_setHours 1 = .ok (.iconst 0, 1) := by decide +kernel
theorem dL_setHours_2 : decode cL_setHours 2 = .ok (.aload_n 0, 1) := by decide +kernel
theorem dL_setHours_3 : decode cL_setHours 3 = .ok (.iload_n 1, 1) := by decide +kernel
theorem dL_setHours_4 : decode cL_setHours 4 = .ok (.invokevirtual 46, 3) := by decide +kernel
theorem dL_setHours_7 : decode cL_setHours 7 = .ok (.i2l, 1) := by decide +kernel
theorem dL_setHours_8 : decode cL_setHours 8 = .ok (.lastore, 1) := by decide +kernel
theorem dL_setHours_9 : decode cL_setHours 9 = .ok (.goto 9, 3) := by decide +kernel
theorem dL_setHours_12 : decode cL_setHours 12 = .ok (.astore_n 3, 1) := by decide +kernel
theorem dL_setHours_13 : decode cL_setHours 13 = .ok (.iconst 1, 1) := by decide +kernel
theorem dL_setHours_14 : decode cL_setHours 14 = .ok (.ireturn, 1) := by decide +kernel
theorem dL_setHours_15 : decode cL_setHours 15 = .ok (.astore_n 3, 1) := by decide +kernel
theorem dL_setHours_16 : decode cL_setHours 16 = .ok (.iconst 2, 1) := by decide +kernel
theorem dL_setHours_17 : decode cL_setHours 17 = .ok (.ireturn, 1) := by decide +kernel
theorem dL_setHours_18 : decode cL_setHours 18 = .ok (.iconst 0, 1) := by decide +kernel
theorem dL_setHours_19 : decode cL_setHours 19 = .ok (.ireturn, 1) := by decide +kernel
theorem dL_leave_0 : decode cL_leave 0 = .ok (.aload_n 3, 1) := by decide +kernel
theorem dL_leave_1 : decode cL_leave 1 = .ok (.iconst 0, 1) := by decide +kernel
theorem dL_leave_2 : decode cL_leave 2 = .ok (.aload_n 0, 1) := by decide +kernel
theorem dL_leave_3 : decode cL_leave 3 = .ok (.iload_n 1, 1) := by decide +kernel
theorem dL_leave_4 : decode cL_leave 4 = .ok (.iload_n 2, 1) := by decide +kernel
theorem dL_leave_5 : decode cL_leave 5 = .ok (.invokevirtual 49, 3) := by decide +kernel
theorem dL_leave_8 : decode cL_leave 8 = .ok (.i2l, 1) := by decide +kernel
theorem dL_leave_9 : decode cL_leave 9 = .ok (.lastore, 1) := by decide +kernel
theorem dL_leave_10 : decode cL_leave 10 = .ok (.goto 15, 3) := by decide +kernel
theorem dL_leave_13 : decode cL_leave 13 = .ok (.astore 4, 2) := by decide +kernel
theorem dL_leave_15 : decode cL_leave 15 = .ok (.iconst 1, 1) := by decide +kernel
theorem dL_leave_16 : decode cL_leave 16 = .ok (.ireturn, 1) := by decide +kernel
theorem dL_leave_17 : decode cL_leave 17 = .ok (.astore 4, 2) := by decide +kernel
theorem dL_leave_19 : decode cL_leave 19 = .ok (.iconst 2, 1) := by decide +kernel
theorem dL_leave_20 : decode cL_leave 20 = .ok (.ireturn, 1) := by decide +kernel
theorem dL_leave_21 : decode cL_leave 21 = .ok (.astore 4, 2) := by decide +kernel
theorem dL_leave_23 : decode cL_leave 23 = .ok (.iconst 3, 1) := by decide +kernel
theorem dL_leave_24 : decode cL_leave 24 = .ok (.ireturn, 1) := by decide +kernel
theorem dL_leave_25 : decode cL_leave 25 = .ok (.iconst 0, 1) := by decide +kernel
theorem dL_leave_26 : decode cL_leave 26 = .ok (.ireturn, 1) := by decide +kernel
theorem dL_replace_0 : decode cL_replace 0 = .ok (.aload_n 2, 1) := by decide +kernel
theorem dL_replace_1 : decode cL_replace 1 = .ok (.iconst 0, 1) := by decide +kernel
theorem dL_replace_2 : decode cL_replace 2 = .ok (.aload_n 0, 1) := by decide +kernel
theorem dL_replace_3 : decode cL_replace 3 = .ok (.iload_n 1, 1) := by decide +kernel
theorem dL_replace_4 : decode cL_replace 4 = .ok (.invokevirtual 52, 3) := by decide +kernel
theorem dL_replace_7 : decode cL_replace 7 = .ok (.i2l, 1) := by decide +kernel
theorem dL_replace_8 : decode cL_replace 8 = .ok (.lastore, 1) := by decide +kernel
theorem dL_replace_9 : decode cL_replace 9 = .ok (.goto 9, 3) := by decide +kernel
theorem dL_replace_12 : decode cL_replace 12 = .ok (.astore_n 3, 1) := by decide +kernel
theorem dL_replace_13 : decode cL_replace 13 = .ok (.iconst 1, 1) := by decide +kernel
theorem dL_replace_14 : decode cL_replace 14 = .ok (.ireturn, 1) := by decide +kernel
theorem dL_replace_15 : decode cL_replace 15 = .ok (.astore_n 3, 1) := by decide +kernel
theorem dL_replace_16 : decode cL_replace 16 = .ok (.iconst 2, 1) := by decide +kernel
theorem dL_replace_17 : decode cL_replace 17 = .ok (.ireturn, 1) := by decide +kernel
theorem dL_replace_18 : decode cL_replace 18 = .ok (.iconst 0, 1) := by decide +kernel
theorem dL_replace_19 : decode cL_replace 19 = .ok (.ireturn, 1) := by decide +kernel
theorem dL_endPeriod_0 : decode cL_endPeriod 0 = .ok (.aload_n 1, 1) := by decide +kernel
theorem dL_endPeriod_1 : decode cL_endPeriod 1 = .ok (.iconst 0, 1) := by decide +kernel
theorem dL_endPeriod_2 : decode cL_endPeriod 2 = .ok (.aload_n 0, 1) := by decide +kernel
theorem dL_endPeriod_3 : decode cL_endPeriod 3 = .ok (.invokevirtual 55, 3) := by decide +kernel
theorem dL_endPeriod_6 : decode cL_endPeriod 6 = .ok (.i2l, 1) := by decide +kernel
theorem dL_endPeriod_7 : decode cL_endPeriod 7 = .ok (.lastore, 1) := by decide +kernel
theorem dL_endPeriod_8 : decode cL_endPeriod 8 = .ok (.goto 6, 3) := by decide +kernel
theorem dL_endPeriod_11 : decode cL_endPeriod 11 = .ok (.astore_n 2, 1) := by decide +kernel
theorem dL_endPeriod_12 : decode cL_endPeriod 12 = .ok (.iconst 1, 1) := by decide +kernel
theorem dL_endPeriod_13 : decode cL_endPeriod 13 = .ok (.ireturn, 1) := by decide +kernel
theorem dL_endPeriod_14 : decode cL_endPeriod 14 = .ok (.iconst 0, 1) := by decide +kernel
theorem dL_endPeriod_15 : decode cL_endPeriod 15 = .ok (.ireturn, 1) := by decide +kernel
theorem dL_boardOf_0 : decode cL_boardOf 0 = .ok (.aload_n 2, 1) := by decide +kernel
theorem dL_boardOf_1 : decode cL_boardOf 1 = .ok (.iconst 0, 1) := by decide +kernel
theorem dL_boardOf_2 : decode cL_boardOf 2 = .ok (.aload_n 0, 1) := by decide +kernel
theorem dL_boardOf_3 : decode cL_boardOf 3 = .ok (.iload_n 1, 1) := by decide +kernel
theorem dL_boardOf_4 : decode cL_boardOf 4 = .ok (.invokevirtual 59, 3) := by decide +kernel
theorem dL_boardOf_7 : decode cL_boardOf 7 = .ok (.i2l, 1) := by decide +kernel
theorem dL_boardOf_8 : decode cL_boardOf 8 = .ok (.lastore, 1) := by decide +kernel
theorem dL_boardOf_9 : decode cL_boardOf 9 = .ok (.goto 6, 3) := by decide +kernel
theorem dL_boardOf_12 : decode cL_boardOf 12 = .ok (.astore_n 3, 1) := by decide +kernel
theorem dL_boardOf_13 : decode cL_boardOf 13 = .ok (.iconst 1, 1) := by decide +kernel
theorem dL_boardOf_14 : decode cL_boardOf 14 = .ok (.ireturn, 1) := by decide +kernel
theorem dL_boardOf_15 : decode cL_boardOf 15 = .ok (.iconst 0, 1) := by decide +kernel
theorem dL_boardOf_16 : decode cL_boardOf 16 = .ok (.ireturn, 1) := by decide +kernel
theorem dL_rankOf_0 : decode cL_rankOf 0 = .ok (.aload_n 2, 1) := by decide +kernel
theorem dL_rankOf_1 : decode cL_rankOf 1 = .ok (.iconst 0, 1) := by decide +kernel
theorem dL_rankOf_2 : decode cL_rankOf 2 = .ok (.aload_n 0, 1) := by decide +kernel
theorem dL_rankOf_3 : decode cL_rankOf 3 = .ok (.iload_n 1, 1) := by decide +kernel
theorem dL_rankOf_4 : decode cL_rankOf 4 = .ok (.invokevirtual 62, 3) := by decide +kernel
theorem dL_rankOf_7 : decode cL_rankOf 7 = .ok (.i2l, 1) := by decide +kernel
theorem dL_rankOf_8 : decode cL_rankOf 8 = .ok (.lastore, 1) := by decide +kernel
theorem dL_rankOf_9 : decode cL_rankOf 9 = .ok (.goto 6, 3) := by decide +kernel
theorem dL_rankOf_12 : decode cL_rankOf 12 = .ok (.astore_n 3, 1) := by decide +kernel
theorem dL_rankOf_13 : decode cL_rankOf 13 = .ok (.iconst 1, 1) := by decide +kernel
theorem dL_rankOf_14 : decode cL_rankOf 14 = .ok (.ireturn, 1) := by decide +kernel
theorem dL_rankOf_15 : decode cL_rankOf 15 = .ok (.iconst 0, 1) := by decide +kernel
theorem dL_rankOf_16 : decode cL_rankOf 16 = .ok (.ireturn, 1) := by decide +kernel
theorem dL_hoursOf_0 : decode cL_hoursOf 0 = .ok (.aload_n 2, 1) := by decide +kernel
theorem dL_hoursOf_1 : decode cL_hoursOf 1 = .ok (.iconst 0, 1) := by decide +kernel
theorem dL_hoursOf_2 : decode cL_hoursOf 2 = .ok (.aload_n 0, 1) := by decide +kernel
theorem dL_hoursOf_3 : decode cL_hoursOf 3 = .ok (.iload_n 1, 1) := by decide +kernel
theorem dL_hoursOf_4 : decode cL_hoursOf 4 = .ok (.invokevirtual 65, 3) := by decide +kernel
theorem dL_hoursOf_7 : decode cL_hoursOf 7 = .ok (.i2l, 1) := by decide +kernel
theorem dL_hoursOf_8 : decode cL_hoursOf 8 = .ok (.lastore, 1) := by decide +kernel
theorem dL_hoursOf_9 : decode cL_hoursOf 9 = .ok (.goto 6, 3) := by decide +kernel
theorem dL_hoursOf_12 : decode cL_hoursOf 12 = .ok (.astore_n 3, 1) := by decide +kernel
theorem dL_hoursOf_13 : decode cL_hoursOf 13 = .ok (.iconst 1, 1) := by decide +kernel
theorem dL_hoursOf_14 : decode cL_hoursOf 14 = .ok (.ireturn, 1) := by decide +kernel
theorem dL_hoursOf_15 : decode cL_hoursOf 15 = .ok (.iconst 0, 1) := by decide +kernel
theorem dL_hoursOf_16 : decode cL_hoursOf 16 = .ok (.ireturn, 1) := by decide +kernel
theorem dL_refusalsOf_0 : decode cL_refusalsOf 0 = .ok (.aload_n 2, 1) := by decide +kernel
theorem dL_refusalsOf_1 : decode cL_refusalsOf 1 = .ok (.iconst 0, 1) := by decide +kernel
theorem dL_refusalsOf_2 : decode cL_refusalsOf 2 = .ok (.aload_n 0, 1) := by decide +kernel
theorem dL_refusalsOf_3 : decode cL_refusalsOf 3 = .ok (.iload_n 1, 1) := by decide +kernel
theorem dL_refusalsOf_4 : decode cL_refusalsOf 4 = .ok (.invokevirtual 68, 3) := by decide +kernel
theorem dL_refusalsOf_7 : decode cL_refusalsOf 7 = .ok (.i2l, 1) := by decide +kernel
theorem dL_refusalsOf_8 : decode cL_refusalsOf 8 = .ok (.lastore, 1) := by decide +kernel
theorem dL_refusalsOf_9 : decode cL_refusalsOf 9 = .ok (.goto 6, 3) := by decide +kernel
theorem dL_refusalsOf_12 : decode cL_refusalsOf 12 = .ok (.astore_n 3, 1) := by decide +kernel
theorem dL_refusalsOf_13 : decode cL_refusalsOf 13 = .ok (.iconst 1, 1) := by decide +kernel
theorem dL_refusalsOf_14 : decode cL_refusalsOf 14 = .ok (.ireturn, 1) := by decide +kernel
theorem dL_refusalsOf_15 : decode cL_refusalsOf 15 = .ok (.iconst 0, 1) := by decide +kernel
theorem dL_refusalsOf_16 : decode cL_refusalsOf 16 = .ok (.ireturn, 1) := by decide +kernel
theorem dL_placeOf_0 : decode cL_placeOf 0 = .ok (.aload_n 2, 1) := by decide +kernel
theorem dL_placeOf_1 : decode cL_placeOf 1 = .ok (.iconst 0, 1) := by decide +kernel
theorem dL_placeOf_2 : decode cL_placeOf 2 = .ok (.aload_n 0, 1) := by decide +kernel
theorem dL_placeOf_3 : decode cL_placeOf 3 = .ok (.iload_n 1, 1) := by decide +kernel
theorem dL_placeOf_4 : decode cL_placeOf 4 = .ok (.invokevirtual 71, 3) := by decide +kernel
theorem dL_placeOf_7 : decode cL_placeOf 7 = .ok (.i2l, 1) := by decide +kernel
theorem dL_placeOf_8 : decode cL_placeOf 8 = .ok (.lastore, 1) := by decide +kernel
theorem dL_placeOf_9 : decode cL_placeOf 9 = .ok (.goto 6, 3) := by decide +kernel
theorem dL_placeOf_12 : decode cL_placeOf 12 = .ok (.astore_n 3, 1) := by decide +kernel
theorem dL_placeOf_13 : decode cL_placeOf 13 = .ok (.iconst 1, 1) := by decide +kernel
theorem dL_placeOf_14 : decode cL_placeOf 14 = .ok (.ireturn, 1) := by decide +kernel
theorem dL_placeOf_15 : decode cL_placeOf 15 = .ok (.iconst 0, 1) := by decide +kernel
theorem dL_placeOf_16 : decode cL_placeOf 16 = .ok (.ireturn, 1) := by decide +kernel
theorem dL_owedTo_0 : decode cL_owedTo 0 = .ok (.aload_n 2, 1) := by decide +kernel
theorem dL_owedTo_1 : decode cL_owedTo 1 = .ok (.iconst 0, 1) := by decide +kernel
theorem dL_owedTo_2 : decode cL_owedTo 2 = .ok (.aload_n 0, 1) := by decide +kernel
theorem dL_owedTo_3 : decode cL_owedTo 3 = .ok (.iload_n 1, 1) := by decide +kernel
theorem dL_owedTo_4 : decode cL_owedTo 4 = .ok (.invokevirtual 74, 3) := by decide +kernel
theorem dL_owedTo_7 : decode cL_owedTo 7 = .ok (.i2l, 1) := by decide +kernel
theorem dL_owedTo_8 : decode cL_owedTo 8 = .ok (.lastore, 1) := by decide +kernel
theorem dL_owedTo_9 : decode cL_owedTo 9 = .ok (.goto 6, 3) := by decide +kernel
theorem dL_owedTo_12 : decode cL_owedTo 12 = .ok (.astore_n 3, 1) := by decide +kernel
theorem dL_owedTo_13 : decode cL_owedTo 13 = .ok (.iconst 1, 1) := by decide +kernel
theorem dL_owedTo_14 : decode cL_owedTo 14 = .ok (.ireturn, 1) := by decide +kernel
theorem dL_owedTo_15 : decode cL_owedTo 15 = .ok (.iconst 0, 1) := by decide +kernel
theorem dL_owedTo_16 : decode cL_owedTo 16 = .ok (.ireturn, 1) := by decide +kernel
theorem dL_workerAt_0 : decode cL_workerAt 0 = .ok (.aload_n 2, 1) := by decide +kernel
theorem dL_workerAt_1 : decode cL_workerAt 1 = .ok (.iconst 0, 1) := by decide +kernel
theorem dL_workerAt_2 : decode cL_workerAt 2 = .ok (.aload_n 0, 1) := by decide +kernel
theorem dL_workerAt_3 : decode cL_workerAt 3 = .ok (.iload_n 1, 1) := by decide +kernel
theorem dL_workerAt_4 : decode cL_workerAt 4 = .ok (.invokevirtual 77, 3) := by decide +kernel
theorem dL_workerAt_7 : decode cL_workerAt 7 = .ok (.i2l, 1) := by decide +kernel
theorem dL_workerAt_8 : decode cL_workerAt 8 = .ok (.lastore, 1) := by decide +kernel
theorem dL_workerAt_9 : decode cL_workerAt 9 = .ok (.goto 6, 3) := by decide +kernel
theorem dL_workerAt_12 : decode cL_workerAt 12 = .ok (.astore_n 3, 1) := by decide +kernel
theorem dL_workerAt_13 : decode cL_workerAt 13 = .ok (.iconst 1, 1) := by decide +kernel
theorem dL_workerAt_14 : decode cL_workerAt 14 = .ok (.ireturn, 1) := by decide +kernel
theorem dL_workerAt_15 : decode cL_workerAt 15 = .ok (.iconst 0, 1) := by decide +kernel
theorem dL_workerAt_16 : decode cL_workerAt 16 = .ok (.ireturn, 1) := by decide +kernel
theorem dL_nextUp_0 : decode cL_nextUp 0 = .ok (.aload_n 2, 1) := by decide +kernel
theorem dL_nextUp_1 : decode cL_nextUp 1 = .ok (.iconst 0, 1) := by decide +kernel
theorem dL_nextUp_2 : decode cL_nextUp 2 = .ok (.aload_n 0, 1) := by decide +kernel
theorem dL_nextUp_3 : decode cL_nextUp 3 = .ok (.iload_n 1, 1) := by decide +kernel
theorem dL_nextUp_4 : decode cL_nextUp 4 = .ok (.invokevirtual 80, 3) := by decide +kernel
theorem dL_nextUp_7 : decode cL_nextUp 7 = .ok (.i2l, 1) := by decide +kernel
theorem dL_nextUp_8 : decode cL_nextUp 8 = .ok (.lastore, 1) := by decide +kernel
theorem dL_nextUp_9 : decode cL_nextUp 9 = .ok (.goto 6, 3) := by decide +kernel
theorem dL_nextUp_12 : decode cL_nextUp 12 = .ok (.astore_n 3, 1) := by decide +kernel
theorem dL_nextUp_13 : decode cL_nextUp 13 = .ok (.iconst 1, 1) := by decide +kernel
theorem dL_nextUp_14 : decode cL_nextUp 14 = .ok (.ireturn, 1) := by decide +kernel
theorem dL_nextUp_15 : decode cL_nextUp 15 = .ok (.iconst 0, 1) := by decide +kernel
theorem dL_nextUp_16 : decode cL_nextUp 16 = .ok (.ireturn, 1) := by decide +kernel
theorem dL_law_0 : decode cL_law 0 = .ok (.new 8, 3) := by decide +kernel
theorem dL_law_3 : decode cL_law 3 = .ok (.dup, 1) := by decide +kernel
theorem dL_law_4 : decode cL_law 4 = .ok (.invokespecial 83, 3) := by decide +kernel
theorem dL_law_7 : decode cL_law 7 = .ok (.astore_n 1, 1) := by decide +kernel
theorem dL_law_8 : decode cL_law 8 = .ok (.new 84, 3) := by decide +kernel
theorem dL_law_11 : decode cL_law 11 = .ok (.dup, 1) := by decide +kernel
theorem dL_law_12 : decode cL_law 12 = .ok (.invokespecial 86, 3) := by decide +kernel
theorem dL_law_15 : decode cL_law 15 = .ok (.astore_n 2, 1) := by decide +kernel
theorem dL_law_16 : decode cL_law 16 = .ok (.iconst 1, 1) := by decide +kernel
theorem dL_law_17 : decode cL_law 17 = .ok (.newarray .long, 2) := by decide +kernel
theorem dL_law_19 : decode cL_law 19 = .ok (.astore_n 3, 1) := by decide +kernel
theorem dL_law_20 : decode cL_law 20 = .ok (.iconst 0, 1) := by decide +kernel
theorem dL_law_21 : decode cL_law 21 = .ok (.istore 4, 2) := by decide +kernel
theorem dL_law_23 : decode cL_law 23 = .ok (.iload 4, 2) := by decide +kernel
theorem dL_law_25 : decode cL_law 25 = .ok (.aload_n 0, 1) := by decide +kernel
theorem dL_law_26 : decode cL_law 26 = .ok (.arraylength, 1) := by decide +kernel
theorem dL_law_27 : decode cL_law 27 = .ok (.iconst 4, 1) := by decide +kernel
theorem dL_law_28 : decode cL_law 28 = .ok (.isub, 1) := by decide +kernel
theorem dL_law_29 : decode cL_law 29 = .ok (.if_icmp .gt 1520, 3) := by decide +kernel
theorem dL_law_32 : decode cL_law 32 = .ok (.aload_n 0, 1) := by decide +kernel
theorem dL_law_33 : decode cL_law 33 = .ok (.iload 4, 2) := by decide +kernel
theorem dL_law_35 : decode cL_law 35 = .ok (.iaload, 1) := by decide +kernel
theorem dL_law_36 : decode cL_law 36 = .ok (.bipush 31, 2) := by decide +kernel
theorem dL_law_38 : decode cL_law 38 = .ok (.iand, 1) := by decide +kernel
theorem dL_law_39 : decode cL_law 39 = .ok (.tableswitch 1504 0 25 #[117, 185, 241, 309, 377, 468, 559, 655, 711, 767, 780, 836, 904, 960, 973, 1017, 1030, 1086, 1142, 1198, 1254, 1310, 1366, 1379, 1435, 1491], 117) := by decide +kernel
theorem dL_law_156 : decode cL_law 156 = .ok (.aload_n 1, 1) := by decide +kernel
theorem dL_law_157 : decode cL_law 157 = .ok (.aload_n 0, 1) := by decide +kernel
theorem dL_law_158 : decode cL_law 158 = .ok (.iload 4, 2) := by decide +kernel
theorem dL_law_160 : decode cL_law 160 = .ok (.iconst 1, 1) := by decide +kernel
theorem dL_law_161 : decode cL_law 161 = .ok (.iadd, 1) := by decide +kernel
theorem dL_law_162 : decode cL_law 162 = .ok (.iaload, 1) := by decide +kernel
theorem dL_law_163 : decode cL_law 163 = .ok (.aload_n 0, 1) := by decide +kernel
theorem dL_law_164 : decode cL_law 164 = .ok (.iload 4, 2) := by decide +kernel
theorem dL_law_166 : decode cL_law 166 = .ok (.iconst 2, 1) := by decide +kernel
theorem dL_law_167 : decode cL_law 167 = .ok (.iadd, 1) := by decide +kernel
theorem dL_law_168 : decode cL_law 168 = .ok (.iaload, 1) := by decide +kernel
theorem dL_law_169 : decode cL_law 169 = .ok (.aload_n 3, 1) := by decide +kernel
theorem dL_law_170 : decode cL_law 170 = .ok (.invokestatic 87, 3) := by decide +kernel
theorem dL_law_173 : decode cL_law 173 = .ok (.istore 5, 2) := by decide +kernel
theorem dL_law_175 : decode cL_law 175 = .ok (.aload_n 2, 1) := by decide +kernel
theorem dL_law_176 : decode cL_law 176 = .ok (.aload_n 0, 1) := by decide +kernel
theorem dL_law_177 : decode cL_law 177 = .ok (.iload 4, 2) := by decide +kernel
theorem dL_law_179 : decode cL_law 179 = .ok (.iconst 1, 1) := by decide +kernel
theorem dL_law_180 : decode cL_law 180 = .ok (.iadd, 1) := by decide +kernel
theorem dL_law_181 : decode cL_law 181 = .ok (.iaload, 1) := by decide +kernel
theorem dL_law_182 : decode cL_law 182 = .ok (.aload_n 0, 1) := by decide +kernel
theorem dL_law_183 : decode cL_law 183 = .ok (.iload 4, 2) := by decide +kernel
theorem dL_law_185 : decode cL_law 185 = .ok (.iconst 2, 1) := by decide +kernel
theorem dL_law_186 : decode cL_law 186 = .ok (.iadd, 1) := by decide +kernel
theorem dL_law_187 : decode cL_law 187 = .ok (.iaload, 1) := by decide +kernel
theorem dL_law_188 : decode cL_law 188 = .ok (.invokevirtual 92, 3) := by decide +kernel
theorem dL_law_191 : decode cL_law 191 = .ok (.istore 6, 2) := by decide +kernel
theorem dL_law_193 : decode cL_law 193 = .ok (.aload_n 2, 1) := by decide +kernel
theorem dL_law_194 : decode cL_law 194 = .ok (.invokevirtual 93, 3) := by decide +kernel
theorem dL_law_197 : decode cL_law 197 = .ok (.iload 5, 2) := by decide +kernel
theorem dL_law_199 : decode cL_law 199 = .ok (.if_icmp .eq 5, 3) := by decide +kernel
theorem dL_law_202 : decode cL_law 202 = .ok (.iconst 0, 1) := by decide +kernel
theorem dL_law_203 : decode cL_law 203 = .ok (.ireturn, 1) := by decide +kernel
theorem dL_law_204 : decode cL_law 204 = .ok (.iload 5, 2) := by decide +kernel
theorem dL_law_206 : decode cL_law 206 = .ok (.ifCond .ne 15, 3) := by decide +kernel
theorem dL_law_209 : decode cL_law 209 = .ok (.aload_n 3, 1) := by decide +kernel
theorem dL_law_210 : decode cL_law 210 = .ok (.iconst 0, 1) := by decide +kernel
theorem dL_law_211 : decode cL_law 211 = .ok (.laload, 1) := by decide +kernel
theorem dL_law_212 : decode cL_law 212 = .ok (.iload 6, 2) := by decide +kernel
theorem dL_law_214 : decode cL_law 214 = .ok (.i2l, 1) := by decide +kernel
theorem dL_law_215 : decode cL_law 215 = .ok (.lcmp, 1) := by decide +kernel
theorem dL_law_216 : decode cL_law 216 = .ok (.ifCond .eq 5, 3) := by decide +kernel
theorem dL_law_219 : decode cL_law 219 = .ok (.iconst 0, 1) := by decide +kernel
theorem dL_law_220 : decode cL_law 220 = .ok (.ireturn, 1) := by decide +kernel
theorem dL_law_221 : decode cL_law 221 = .ok (.goto 1322, 3) := by decide +kernel
theorem dL_law_224 : decode cL_law 224 = .ok (.aload_n 1, 1) := by decide +kernel
theorem dL_law_225 : decode cL_law 225 = .ok (.aload_n 0, 1) := by decide +kernel
theorem dL_law_226 : decode cL_law 226 = .ok (.iload 4, 2) := by decide +kernel
theorem dL_law_228 : decode cL_law 228 = .ok (.iconst 1, 1) := by decide +kernel
theorem dL_law_229 : decode cL_law 229 = .ok (.iadd, 1) := by decide +kernel
theorem dL_law_230 : decode cL_law 230 = .ok (.iaload, 1) := by decide +kernel
theorem dL_law_231 : decode cL_law 231 = .ok (.aload_n 3, 1) := by decide +kernel
theorem dL_law_232 : decode cL_law 232 = .ok (.invokestatic 96, 3) := by decide +kernel
theorem dL_law_235 : decode cL_law 235 = .ok (.istore 5, 2) := by decide +kernel
theorem dL_law_237 : decode cL_law 237 = .ok (.aload_n 2, 1) := by decide +kernel
theorem dL_law_238 : decode cL_law 238 = .ok (.aload_n 0, 1) := by decide +kernel
theorem dL_law_239 : decode cL_law 239 = .ok (.iload 4, 2) := by decide +kernel
theorem dL_law_241 : decode cL_law 241 = .ok (.iconst 1, 1) := by decide +kernel
theorem dL_law_242 : decode cL_law 242 = .ok (.iadd, 1) := by decide +kernel
theorem dL_law_243 : decode cL_law 243 = .ok (.iaload, 1) := by decide +kernel
theorem dL_law_244 : decode cL_law 244 = .ok (.invokevirtual 99, 3) := by decide +kernel
theorem dL_law_247 : decode cL_law 247 = .ok (.istore 6, 2) := by decide +kernel
theorem dL_law_249 : decode cL_law 249 = .ok (.aload_n 2, 1) := by decide +kernel
theorem dL_law_250 : decode cL_law 250 = .ok (.invokevirtual 93, 3) := by decide +kernel
theorem dL_law_253 : decode cL_law 253 = .ok (.iload 5, 2) := by decide +kernel
theorem dL_law_255 : decode cL_law 255 = .ok (.if_icmp .eq 5, 3) := by decide +kernel
theorem dL_law_258 : decode cL_law 258 = .ok (.iconst 0, 1) := by decide +kernel
theorem dL_law_259 : decode cL_law 259 = .ok (.ireturn, 1) := by decide +kernel
theorem dL_law_260 : decode cL_law 260 = .ok (.iload 5, 2) := by decide +kernel
theorem dL_law_262 : decode cL_law 262 = .ok (.ifCond .ne 15, 3) := by decide +kernel
theorem dL_law_265 : decode cL_law 265 = .ok (.aload_n 3, 1) := by decide +kernel
theorem dL_law_266 : decode cL_law 266 = .ok (.iconst 0, 1) := by decide +kernel
theorem dL_law_267 : decode cL_law 267 = .ok (.laload, 1) := by decide +kernel
theorem dL_law_268 : decode cL_law 268 = .ok (.iload 6, 2) := by decide +kernel
theorem dL_law_270 : decode cL_law 270 = .ok (.i2l, 1) := by decide +kernel
theorem dL_law_271 : decode cL_law 271 = .ok (.lcmp, 1) := by decide +kernel
theorem dL_law_272 : decode cL_law 272 = .ok (.ifCond .eq 5, 3) := by decide +kernel
theorem dL_law_275 : decode cL_law 275 = .ok (.iconst 0, 1) := by decide +kernel
theorem dL_law_276 : decode cL_law 276 = .ok (.ireturn, 1) := by decide +kernel
theorem dL_law_277 : decode cL_law 277 = .ok (.goto 1266, 3) := by decide +kernel
theorem dL_law_280 : decode cL_law 280 = .ok (.aload_n 1, 1) := by decide +kernel
theorem dL_law_281 : decode cL_law 281 = .ok (.aload_n 0, 1) := by decide +kernel
theorem dL_law_282 : decode cL_law 282 = .ok (.iload 4, 2) := by decide +kernel
theorem dL_law_284 : decode cL_law 284 = .ok (.iconst 1, 1) := by decide +kernel
theorem dL_law_285 : decode cL_law 285 = .ok (.iadd, 1) := by decide +kernel
theorem dL_law_286 : decode cL_law 286 = .ok (.iaload, 1) := by decide +kernel
theorem dL_law_287 : decode cL_law 287 = .ok (.aload_n 0, 1) := by decide +kernel
theorem dL_law_288 : decode cL_law 288 = .ok (.iload 4, 2) := by decide +kernel
theorem dL_law_290 : decode cL_law 290 = .ok (.iconst 2, 1) := by decide +kernel
theorem dL_law_291 : decode cL_law 291 = .ok (.iadd, 1) := by decide +kernel
theorem dL_law_292 : decode cL_law 292 = .ok (.iaload, 1) := by decide +kernel
theorem dL_law_293 : decode cL_law 293 = .ok (.aload_n 3, 1) := by decide +kernel
theorem dL_law_294 : decode cL_law 294 = .ok (.invokestatic 100, 3) := by decide +kernel
theorem dL_law_297 : decode cL_law 297 = .ok (.istore 5, 2) := by decide +kernel
theorem dL_law_299 : decode cL_law 299 = .ok (.aload_n 2, 1) := by decide +kernel
theorem dL_law_300 : decode cL_law 300 = .ok (.aload_n 0, 1) := by decide +kernel
theorem dL_law_301 : decode cL_law 301 = .ok (.iload 4, 2) := by decide +kernel
theorem dL_law_303 : decode cL_law 303 = .ok (.iconst 1, 1) := by decide +kernel
theorem dL_law_304 : decode cL_law 304 = .ok (.iadd, 1) := by decide +kernel
theorem dL_law_305 : decode cL_law 305 = .ok (.iaload, 1) := by decide +kernel
theorem dL_law_306 : decode cL_law 306 = .ok (.aload_n 0, 1) := by decide +kernel
theorem dL_law_307 : decode cL_law 307 = .ok (.iload 4, 2) := by decide +kernel
theorem dL_law_309 : decode cL_law 309 = .ok (.iconst 2, 1) := by decide +kernel
theorem dL_law_310 : decode cL_law 310 = .ok (.iadd, 1) := by decide +kernel
theorem dL_law_311 : decode cL_law 311 = .ok (.iaload, 1) := by decide +kernel
theorem dL_law_312 : decode cL_law 312 = .ok (.invokevirtual 102, 3) := by decide +kernel
theorem dL_law_315 : decode cL_law 315 = .ok (.istore 6, 2) := by decide +kernel
theorem dL_law_317 : decode cL_law 317 = .ok (.aload_n 2, 1) := by decide +kernel
theorem dL_law_318 : decode cL_law 318 = .ok (.invokevirtual 93, 3) := by decide +kernel
theorem dL_law_321 : decode cL_law 321 = .ok (.iload 5, 2) := by decide +kernel
theorem dL_law_323 : decode cL_law 323 = .ok (.if_icmp .eq 5, 3) := by decide +kernel
theorem dL_law_326 : decode cL_law 326 = .ok (.iconst 0, 1) := by decide +kernel
theorem dL_law_327 : decode cL_law 327 = .ok (.ireturn, 1) := by decide +kernel
theorem dL_law_328 : decode cL_law 328 = .ok (.iload 5, 2) := by decide +kernel
theorem dL_law_330 : decode cL_law 330 = .ok (.ifCond .ne 15, 3) := by decide +kernel
theorem dL_law_333 : decode cL_law 333 = .ok (.aload_n 3, 1) := by decide +kernel
theorem dL_law_334 : decode cL_law 334 = .ok (.iconst 0, 1) := by decide +kernel
theorem dL_law_335 : decode cL_law 335 = .ok (.laload, 1) := by decide +kernel
theorem dL_law_336 : decode cL_law 336 = .ok (.iload 6, 2) := by decide +kernel
theorem dL_law_338 : decode cL_law 338 = .ok (.i2l, 1) := by decide +kernel
theorem dL_law_339 : decode cL_law 339 = .ok (.lcmp, 1) := by decide +kernel
theorem dL_law_340 : decode cL_law 340 = .ok (.ifCond .eq 5, 3) := by decide +kernel
theorem dL_law_343 : decode cL_law 343 = .ok (.iconst 0, 1) := by decide +kernel
theorem dL_law_344 : decode cL_law 344 = .ok (.ireturn, 1) := by decide +kernel
theorem dL_law_345 : decode cL_law 345 = .ok (.goto 1198, 3) := by decide +kernel
theorem dL_law_348 : decode cL_law 348 = .ok (.aload_n 1, 1) := by decide +kernel
theorem dL_law_349 : decode cL_law 349 = .ok (.aload_n 0, 1) := by decide +kernel
theorem dL_law_350 : decode cL_law 350 = .ok (.iload 4, 2) := by decide +kernel
theorem dL_law_352 : decode cL_law 352 = .ok (.iconst 1, 1) := by decide +kernel
theorem dL_law_353 : decode cL_law 353 = .ok (.iadd, 1) := by decide +kernel
theorem dL_law_354 : decode cL_law 354 = .ok (.iaload, 1) := by decide +kernel
theorem dL_law_355 : decode cL_law 355 = .ok (.aload_n 0, 1) := by decide +kernel
theorem dL_law_356 : decode cL_law 356 = .ok (.iload 4, 2) := by decide +kernel
theorem dL_law_358 : decode cL_law 358 = .ok (.iconst 2, 1) := by decide +kernel
theorem dL_law_359 : decode cL_law 359 = .ok (.iadd, 1) := by decide +kernel
theorem dL_law_360 : decode cL_law 360 = .ok (.iaload, 1) := by decide +kernel
theorem dL_law_361 : decode cL_law 361 = .ok (.aload_n 3, 1) := by decide +kernel
theorem dL_law_362 : decode cL_law 362 = .ok (.invokestatic 103, 3) := by decide +kernel
theorem dL_law_365 : decode cL_law 365 = .ok (.istore 5, 2) := by decide +kernel
theorem dL_law_367 : decode cL_law 367 = .ok (.aload_n 2, 1) := by decide +kernel
theorem dL_law_368 : decode cL_law 368 = .ok (.aload_n 0, 1) := by decide +kernel
theorem dL_law_369 : decode cL_law 369 = .ok (.iload 4, 2) := by decide +kernel
theorem dL_law_371 : decode cL_law 371 = .ok (.iconst 1, 1) := by decide +kernel
theorem dL_law_372 : decode cL_law 372 = .ok (.iadd, 1) := by decide +kernel
theorem dL_law_373 : decode cL_law 373 = .ok (.iaload, 1) := by decide +kernel
theorem dL_law_374 : decode cL_law 374 = .ok (.aload_n 0, 1) := by decide +kernel
theorem dL_law_375 : decode cL_law 375 = .ok (.iload 4, 2) := by decide +kernel
theorem dL_law_377 : decode cL_law 377 = .ok (.iconst 2, 1) := by decide +kernel
theorem dL_law_378 : decode cL_law 378 = .ok (.iadd, 1) := by decide +kernel
theorem dL_law_379 : decode cL_law 379 = .ok (.iaload, 1) := by decide +kernel
theorem dL_law_380 : decode cL_law 380 = .ok (.invokevirtual 105, 3) := by decide +kernel
theorem dL_law_383 : decode cL_law 383 = .ok (.istore 6, 2) := by decide +kernel
theorem dL_law_385 : decode cL_law 385 = .ok (.aload_n 2, 1) := by decide +kernel
theorem dL_law_386 : decode cL_law 386 = .ok (.invokevirtual 93, 3) := by decide +kernel
theorem dL_law_389 : decode cL_law 389 = .ok (.iload 5, 2) := by decide +kernel
theorem dL_law_391 : decode cL_law 391 = .ok (.if_icmp .eq 5, 3) := by decide +kernel
theorem dL_law_394 : decode cL_law 394 = .ok (.iconst 0, 1) := by decide +kernel
theorem dL_law_395 : decode cL_law 395 = .ok (.ireturn, 1) := by decide +kernel
theorem dL_law_396 : decode cL_law 396 = .ok (.iload 5, 2) := by decide +kernel
theorem dL_law_398 : decode cL_law 398 = .ok (.ifCond .ne 15, 3) := by decide +kernel
theorem dL_law_401 : decode cL_law 401 = .ok (.aload_n 3, 1) := by decide +kernel
theorem dL_law_402 : decode cL_law 402 = .ok (.iconst 0, 1) := by decide +kernel
theorem dL_law_403 : decode cL_law 403 = .ok (.laload, 1) := by decide +kernel
theorem dL_law_404 : decode cL_law 404 = .ok (.iload 6, 2) := by decide +kernel
theorem dL_law_406 : decode cL_law 406 = .ok (.i2l, 1) := by decide +kernel
theorem dL_law_407 : decode cL_law 407 = .ok (.lcmp, 1) := by decide +kernel
theorem dL_law_408 : decode cL_law 408 = .ok (.ifCond .eq 5, 3) := by decide +kernel
theorem dL_law_411 : decode cL_law 411 = .ok (.iconst 0, 1) := by decide +kernel
theorem dL_law_412 : decode cL_law 412 = .ok (.ireturn, 1) := by decide +kernel
theorem dL_law_413 : decode cL_law 413 = .ok (.goto 1130, 3) := by decide +kernel
theorem dL_law_416 : decode cL_law 416 = .ok (.aload_n 1, 1) := by decide +kernel
theorem dL_law_417 : decode cL_law 417 = .ok (.aload_n 0, 1) := by decide +kernel
theorem dL_law_418 : decode cL_law 418 = .ok (.iload 4, 2) := by decide +kernel
theorem dL_law_420 : decode cL_law 420 = .ok (.iconst 1, 1) := by decide +kernel
theorem dL_law_421 : decode cL_law 421 = .ok (.iadd, 1) := by decide +kernel
theorem dL_law_422 : decode cL_law 422 = .ok (.iaload, 1) := by decide +kernel
theorem dL_law_423 : decode cL_law 423 = .ok (.aload_n 0, 1) := by decide +kernel
theorem dL_law_424 : decode cL_law 424 = .ok (.iload 4, 2) := by decide +kernel
theorem dL_law_426 : decode cL_law 426 = .ok (.iconst 2, 1) := by decide +kernel
theorem dL_law_427 : decode cL_law 427 = .ok (.iadd, 1) := by decide +kernel
theorem dL_law_428 : decode cL_law 428 = .ok (.iaload, 1) := by decide +kernel
theorem dL_law_429 : decode cL_law 429 = .ok (.ifCond .eq 7, 3) := by decide +kernel
theorem dL_law_432 : decode cL_law 432 = .ok (.iconst 1, 1) := by decide +kernel
theorem dL_law_433 : decode cL_law 433 = .ok (.goto 4, 3) := by decide +kernel
theorem dL_law_436 : decode cL_law 436 = .ok (.iconst 0, 1) := by decide +kernel
theorem dL_law_437 : decode cL_law 437 = .ok (.aload_n 3, 1) := by decide +kernel
theorem dL_law_438 : decode cL_law 438 = .ok (.invokestatic 106, 3) := by decide +kernel
theorem dL_law_441 : decode cL_law 441 = .ok (.istore 5, 2) := by decide +kernel
theorem dL_law_443 : decode cL_law 443 = .ok (.aload_n 2, 1) := by decide +kernel
theorem dL_law_444 : decode cL_law 444 = .ok (.aload_n 0, 1) := by decide +kernel
theorem dL_law_445 : decode cL_law 445 = .ok (.iload 4, 2) := by decide +kernel
theorem dL_law_447 : decode cL_law 447 = .ok (.iconst 1, 1) := by decide +kernel
theorem dL_law_448 : decode cL_law 448 = .ok (.iadd, 1) := by decide +kernel
theorem dL_law_449 : decode cL_law 449 = .ok (.iaload, 1) := by decide +kernel
theorem dL_law_450 : decode cL_law 450 = .ok (.aload_n 0, 1) := by decide +kernel
theorem dL_law_451 : decode cL_law 451 = .ok (.iload 4, 2) := by decide +kernel
theorem dL_law_453 : decode cL_law 453 = .ok (.iconst 2, 1) := by decide +kernel
theorem dL_law_454 : decode cL_law 454 = .ok (.iadd, 1) := by decide +kernel
theorem dL_law_455 : decode cL_law 455 = .ok (.iaload, 1) := by decide +kernel
theorem dL_law_456 : decode cL_law 456 = .ok (.ifCond .eq 7, 3) := by decide +kernel
theorem dL_law_459 : decode cL_law 459 = .ok (.iconst 1, 1) := by decide +kernel
theorem dL_law_460 : decode cL_law 460 = .ok (.goto 4, 3) := by decide +kernel
theorem dL_law_463 : decode cL_law 463 = .ok (.iconst 0, 1) := by decide +kernel
theorem dL_law_464 : decode cL_law 464 = .ok (.invokevirtual 109, 3) := by decide +kernel
theorem dL_law_467 : decode cL_law 467 = .ok (.istore 6, 2) := by decide +kernel
theorem dL_law_469 : decode cL_law 469 = .ok (.aload_n 2, 1) := by decide +kernel
theorem dL_law_470 : decode cL_law 470 = .ok (.invokevirtual 93, 3) := by decide +kernel
theorem dL_law_473 : decode cL_law 473 = .ok (.iload 5, 2) := by decide +kernel
theorem dL_law_475 : decode cL_law 475 = .ok (.if_icmp .eq 5, 3) := by decide +kernel
theorem dL_law_478 : decode cL_law 478 = .ok (.iconst 0, 1) := by decide +kernel
theorem dL_law_479 : decode cL_law 479 = .ok (.ireturn, 1) := by decide +kernel
theorem dL_law_480 : decode cL_law 480 = .ok (.iload 5, 2) := by decide +kernel
theorem dL_law_482 : decode cL_law 482 = .ok (.ifCond .ne 22, 3) := by decide +kernel
theorem dL_law_485 : decode cL_law 485 = .ok (.aload_n 3, 1) := by decide +kernel
theorem dL_law_486 : decode cL_law 486 = .ok (.iconst 0, 1) := by decide +kernel
theorem dL_law_487 : decode cL_law 487 = .ok (.laload, 1) := by decide +kernel
theorem dL_law_488 : decode cL_law 488 = .ok (.iload 6, 2) := by decide +kernel
theorem dL_law_490 : decode cL_law 490 = .ok (.ifCond .eq 7, 3) := by decide +kernel
theorem dL_law_493 : decode cL_law 493 = .ok (.lconst 1, 1) := by decide +kernel
theorem dL_law_494 : decode cL_law 494 = .ok (.goto 4, 3) := by decide +kernel
theorem dL_law_497 : decode cL_law 497 = .ok (.lconst 0, 1) := by decide +kernel
theorem dL_law_498 : decode cL_law 498 = .ok (.lcmp, 1) := by decide +kernel
theorem dL_law_499 : decode cL_law 499 = .ok (.ifCond .eq 5, 3) := by decide +kernel
theorem dL_law_502 : decode cL_law 502 = .ok (.iconst 0, 1) := by decide +kernel
theorem dL_law_503 : decode cL_law 503 = .ok (.ireturn, 1) := by decide +kernel
theorem dL_law_504 : decode cL_law 504 = .ok (.goto 1039, 3) := by decide +kernel
theorem dL_law_507 : decode cL_law 507 = .ok (.aload_n 1, 1) := by decide +kernel
theorem dL_law_508 : decode cL_law 508 = .ok (.aload_n 0, 1) := by decide +kernel
theorem dL_law_509 : decode cL_law 509 = .ok (.iload 4, 2) := by decide +kernel
theorem dL_law_511 : decode cL_law 511 = .ok (.iconst 1, 1) := by decide +kernel
theorem dL_law_512 : decode cL_law 512 = .ok (.iadd, 1) := by decide +kernel
theorem dL_law_513 : decode cL_law 513 = .ok (.iaload, 1) := by decide +kernel
theorem dL_law_514 : decode cL_law 514 = .ok (.aload_n 0, 1) := by decide +kernel
theorem dL_law_515 : decode cL_law 515 = .ok (.iload 4, 2) := by decide +kernel
theorem dL_law_517 : decode cL_law 517 = .ok (.iconst 2, 1) := by decide +kernel
theorem dL_law_518 : decode cL_law 518 = .ok (.iadd, 1) := by decide +kernel
theorem dL_law_519 : decode cL_law 519 = .ok (.iaload, 1) := by decide +kernel
theorem dL_law_520 : decode cL_law 520 = .ok (.ifCond .eq 7, 3) := by decide +kernel
theorem dL_law_523 : decode cL_law 523 = .ok (.iconst 1, 1) := by decide +kernel
theorem dL_law_524 : decode cL_law 524 = .ok (.goto 4, 3) := by decide +kernel
theorem dL_law_527 : decode cL_law 527 = .ok (.iconst 0, 1) := by decide +kernel
theorem dL_law_528 : decode cL_law 528 = .ok (.aload_n 3, 1) := by decide +kernel
theorem dL_law_529 : decode cL_law 529 = .ok (.invokestatic 110, 3) := by decide +kernel
theorem dL_law_532 : decode cL_law 532 = .ok (.istore 5, 2) := by decide +kernel
theorem dL_law_534 : decode cL_law 534 = .ok (.aload_n 2, 1) := by decide +kernel
theorem dL_law_535 : decode cL_law 535 = .ok (.aload_n 0, 1) := by decide +kernel
theorem dL_law_536 : decode cL_law 536 = .ok (.iload 4, 2) := by decide +kernel
theorem dL_law_538 : decode cL_law 538 = .ok (.iconst 1, 1) := by decide +kernel
theorem dL_law_539 : decode cL_law 539 = .ok (.iadd, 1) := by decide +kernel
theorem dL_law_540 : decode cL_law 540 = .ok (.iaload, 1) := by decide +kernel
theorem dL_law_541 : decode cL_law 541 = .ok (.aload_n 0, 1) := by decide +kernel
theorem dL_law_542 : decode cL_law 542 = .ok (.iload 4, 2) := by decide +kernel
theorem dL_law_544 : decode cL_law 544 = .ok (.iconst 2, 1) := by decide +kernel
theorem dL_law_545 : decode cL_law 545 = .ok (.iadd, 1) := by decide +kernel
theorem dL_law_546 : decode cL_law 546 = .ok (.iaload, 1) := by decide +kernel
theorem dL_law_547 : decode cL_law 547 = .ok (.ifCond .eq 7, 3) := by decide +kernel
theorem dL_law_550 : decode cL_law 550 = .ok (.iconst 1, 1) := by decide +kernel
theorem dL_law_551 : decode cL_law 551 = .ok (.goto 4, 3) := by decide +kernel
theorem dL_law_554 : decode cL_law 554 = .ok (.iconst 0, 1) := by decide +kernel
theorem dL_law_555 : decode cL_law 555 = .ok (.invokevirtual 112, 3) := by decide +kernel
theorem dL_law_558 : decode cL_law 558 = .ok (.istore 6, 2) := by decide +kernel
theorem dL_law_560 : decode cL_law 560 = .ok (.aload_n 2, 1) := by decide +kernel
theorem dL_law_561 : decode cL_law 561 = .ok (.invokevirtual 93, 3) := by decide +kernel
theorem dL_law_564 : decode cL_law 564 = .ok (.iload 5, 2) := by decide +kernel
theorem dL_law_566 : decode cL_law 566 = .ok (.if_icmp .eq 5, 3) := by decide +kernel
theorem dL_law_569 : decode cL_law 569 = .ok (.iconst 0, 1) := by decide +kernel
theorem dL_law_570 : decode cL_law 570 = .ok (.ireturn, 1) := by decide +kernel
theorem dL_law_571 : decode cL_law 571 = .ok (.iload 5, 2) := by decide +kernel
theorem dL_law_573 : decode cL_law 573 = .ok (.ifCond .ne 22, 3) := by decide +kernel
end
section
theorem dL_law_576 : decode cL_law 576 = .ok (.aload_n 3, 1) := by decide +kernel
theorem dL_law_577 : decode cL_law 577 = .ok (.iconst 0, 1) := by decide +kernel
theorem dL_law_578 : decode cL_law 578 = .ok (.laload, 1) := by decide +kernel
theorem dL_law_579 : decode cL_law 579 = .ok (.iload 6, 2) := by decide +kernel
theorem dL_law_581 : decode cL_law 581 = .ok (.ifCond .eq 7, 3) := by decide +kernel
theorem dL_law_584 : decode cL_law 584 = .ok (.lconst 1, 1) := by decide +kernel
theorem dL_law_585 : decode cL_law 585 = .ok (.goto 4, 3) := by decide +kernel
theorem dL_law_588 : decode cL_law 588 = .ok (.lconst 0, 1) := by decide +kernel
theorem dL_law_589 : decode cL_law 589 = .ok (.lcmp, 1) := by decide +kernel
theorem dL_law_590 : decode cL_law 590 = .ok (.ifCond .eq 5, 3) := by decide +kernel
theorem dL_law_593 : decode cL_law 593 = .ok (.iconst 0, 1) := by decide +kernel
theorem dL_law_594 : decode cL_law 594 = .ok (.ireturn, 1) := by decide +kernel
theorem dL_law_595 : decode cL_law 595 = .ok (.goto 948, 3) := by decide +kernel
theorem dL_law_598 : decode cL_law 598 = .ok (.aload_n 1, 1) := by decide +kernel
theorem dL_law_599 : decode cL_law 599 = .ok (.aload_n 0, 1) := by decide +kernel
theorem dL_law_600 : decode cL_law 600 = .ok (.iload 4, 2) := by decide +kernel
theorem dL_law_602 : decode cL_law 602 = .ok (.iconst 1, 1) := by decide +kernel
theorem dL_law_603 : decode cL_law 603 = .ok (.iadd, 1) := by decide +kernel
theorem dL_law_604 : decode cL_law 604 = .ok (.iaload, 1) := by decide +kernel
theorem dL_law_605 : decode cL_law 605 = .ok (.aload_n 0, 1) := by decide +kernel
theorem dL_law_606 : decode cL_law 606 = .ok (.iload 4, 2) := by decide +kernel
theorem dL_law_608 : decode cL_law 608 = .ok (.iconst 2, 1) := by decide +kernel
theorem dL_law_609 : decode cL_law 609 = .ok (.iadd, 1) := by decide +kernel
theorem dL_law_610 : decode cL_law 610 = .ok (.iaload, 1) := by decide +kernel
theorem dL_law_611 : decode cL_law 611 = .ok (.ifCond .eq 7, 3) := by decide +kernel
theorem dL_law_614 : decode cL_law 614 = .ok (.iconst 1, 1) := by decide +kernel
theorem dL_law_615 : decode cL_law 615 = .ok (.goto 4, 3) := by decide +kernel
theorem dL_law_618 : decode cL_law 618 = .ok (.iconst 0, 1) := by decide +kernel
theorem dL_law_619 : decode cL_law 619 = .ok (.aload_n 0, 1) := by decide +kernel
theorem dL_law_620 : decode cL_law 620 = .ok (.iload 4, 2) := by decide +kernel
theorem dL_law_622 : decode cL_law 622 = .ok (.iconst 3, 1) := by decide +kernel
theorem dL_law_623 : decode cL_law 623 = .ok (.iadd, 1) := by decide +kernel
theorem dL_law_624 : decode cL_law 624 = .ok (.iaload, 1) := by decide +kernel
theorem dL_law_625 : decode cL_law 625 = .ok (.aload_n 3, 1) := by decide +kernel
theorem dL_law_626 : decode cL_law 626 = .ok (.invokestatic 113, 3) := by decide +kernel
theorem dL_law_629 : decode cL_law 629 = .ok (.istore 5, 2) := by decide +kernel
theorem dL_law_631 : decode cL_law 631 = .ok (.aload_n 2, 1) := by decide +kernel
theorem dL_law_632 : decode cL_law 632 = .ok (.aload_n 0, 1) := by decide +kernel
theorem dL_law_633 : decode cL_law 633 = .ok (.iload 4, 2) := by decide +kernel
theorem dL_law_635 : decode cL_law 635 = .ok (.iconst 1, 1) := by decide +kernel
theorem dL_law_636 : decode cL_law 636 = .ok (.iadd, 1) := by decide +kernel
theorem dL_law_637 : decode cL_law 637 = .ok (.iaload, 1) := by decide +kernel
theorem dL_law_638 : decode cL_law 638 = .ok (.aload_n 0, 1) := by decide +kernel
theorem dL_law_639 : decode cL_law 639 = .ok (.iload 4, 2) := by decide +kernel
theorem dL_law_641 : decode cL_law 641 = .ok (.iconst 2, 1) := by decide +kernel
theorem dL_law_642 : decode cL_law 642 = .ok (.iadd, 1) := by decide +kernel
theorem dL_law_643 : decode cL_law 643 = .ok (.iaload, 1) := by decide +kernel
theorem dL_law_644 : decode cL_law 644 = .ok (.ifCond .eq 7, 3) := by decide +kernel
theorem dL_law_647 : decode cL_law 647 = .ok (.iconst 1, 1) := by decide +kernel
theorem dL_law_648 : decode cL_law 648 = .ok (.goto 4, 3) := by decide +kernel
theorem dL_law_651 : decode cL_law 651 = .ok (.iconst 0, 1) := by decide +kernel
theorem dL_law_652 : decode cL_law 652 = .ok (.aload_n 0, 1) := by decide +kernel
theorem dL_law_653 : decode cL_law 653 = .ok (.iload 4, 2) := by decide +kernel
theorem dL_law_655 : decode cL_law 655 = .ok (.iconst 3, 1) := by decide +kernel
theorem dL_law_656 : decode cL_law 656 = .ok (.iadd, 1) := by decide +kernel
theorem dL_law_657 : decode cL_law 657 = .ok (.iaload, 1) := by decide +kernel
theorem dL_law_658 : decode cL_law 658 = .ok (.invokevirtual 116, 3) := by decide +kernel
theorem dL_law_661 : decode cL_law 661 = .ok (.istore 6, 2) := by decide +kernel
theorem dL_law_663 : decode cL_law 663 = .ok (.aload_n 2, 1) := by decide +kernel
theorem dL_law_664 : decode cL_law 664 = .ok (.invokevirtual 93, 3) := by decide +kernel
theorem dL_law_667 : decode cL_law 667 = .ok (.iload 5, 2) := by decide +kernel
theorem dL_law_669 : decode cL_law 669 = .ok (.if_icmp .eq 5, 3) := by decide +kernel
theorem dL_law_672 : decode cL_law 672 = .ok (.iconst 0, 1) := by decide +kernel
theorem dL_law_673 : decode cL_law 673 = .ok (.ireturn, 1) := by decide +kernel
theorem dL_law_674 : decode cL_law 674 = .ok (.iload 5, 2) := by decide +kernel
theorem dL_law_676 : decode cL_law 676 = .ok (.ifCond .ne 15, 3) := by decide +kernel
theorem dL_law_679 : decode cL_law 679 = .ok (.aload_n 3, 1) := by decide +kernel
theorem dL_law_680 : decode cL_law 680 = .ok (.iconst 0, 1) := by decide +kernel
theorem dL_law_681 : decode cL_law 681 = .ok (.laload, 1) := by decide +kernel
theorem dL_law_682 : decode cL_law 682 = .ok (.iload 6, 2) := by decide +kernel
theorem dL_law_684 : decode cL_law 684 = .ok (.i2l, 1) := by decide +kernel
theorem dL_law_685 : decode cL_law 685 = .ok (.lcmp, 1) := by decide +kernel
theorem dL_law_686 : decode cL_law 686 = .ok (.ifCond .eq 5, 3) := by decide +kernel
theorem dL_law_689 : decode cL_law 689 = .ok (.iconst 0, 1) := by decide +kernel
theorem dL_law_690 : decode cL_law 690 = .ok (.ireturn, 1) := by decide +kernel
theorem dL_law_691 : decode cL_law 691 = .ok (.goto 852, 3) := by decide +kernel
theorem dL_law_694 : decode cL_law 694 = .ok (.aload_n 1, 1) := by decide +kernel
theorem dL_law_695 : decode cL_law 695 = .ok (.aload_n 0, 1) := by decide +kernel
theorem dL_law_696 : decode cL_law 696 = .ok (.iload 4, 2) := by decide +kernel
theorem dL_law_698 : decode cL_law 698 = .ok (.iconst 1, 1) := by decide +kernel
theorem dL_law_699 : decode cL_law 699 = .ok (.iadd, 1) := by decide +kernel
theorem dL_law_700 : decode cL_law 700 = .ok (.iaload, 1) := by decide +kernel
theorem dL_law_701 : decode cL_law 701 = .ok (.aload_n 3, 1) := by decide +kernel
theorem dL_law_702 : decode cL_law 702 = .ok (.invokestatic 117, 3) := by decide +kernel
theorem dL_law_705 : decode cL_law 705 = .ok (.istore 5, 2) := by decide +kernel
theorem dL_law_707 : decode cL_law 707 = .ok (.aload_n 2, 1) := by decide +kernel
theorem dL_law_708 : decode cL_law 708 = .ok (.aload_n 0, 1) := by decide +kernel
theorem dL_law_709 : decode cL_law 709 = .ok (.iload 4, 2) := by decide +kernel
theorem dL_law_711 : decode cL_law 711 = .ok (.iconst 1, 1) := by decide +kernel
theorem dL_law_712 : decode cL_law 712 = .ok (.iadd, 1) := by decide +kernel
theorem dL_law_713 : decode cL_law 713 = .ok (.iaload, 1) := by decide +kernel
theorem dL_law_714 : decode cL_law 714 = .ok (.invokevirtual 119, 3) := by decide +kernel
theorem dL_law_717 : decode cL_law 717 = .ok (.istore 6, 2) := by decide +kernel
theorem dL_law_719 : decode cL_law 719 = .ok (.aload_n 2, 1) := by decide +kernel
theorem dL_law_720 : decode cL_law 720 = .ok (.invokevirtual 93, 3) := by decide +kernel
theorem dL_law_723 : decode cL_law 723 = .ok (.iload 5, 2) := by decide +kernel
theorem dL_law_725 : decode cL_law 725 = .ok (.if_icmp .eq 5, 3) := by decide +kernel
theorem dL_law_728 : decode cL_law 728 = .ok (.iconst 0, 1) := by decide +kernel
theorem dL_law_729 : decode cL_law 729 = .ok (.ireturn, 1) := by decide +kernel
theorem dL_law_730 : decode cL_law 730 = .ok (.iload 5, 2) := by decide +kernel
theorem dL_law_732 : decode cL_law 732 = .ok (.ifCond .ne 15, 3) := by decide +kernel
theorem dL_law_735 : decode cL_law 735 = .ok (.aload_n 3, 1) := by decide +kernel
theorem dL_law_736 : decode cL_law 736 = .ok (.iconst 0, 1) := by decide +kernel
theorem dL_law_737 : decode cL_law 737 = .ok (.laload, 1) := by decide +kernel
theorem dL_law_738 : decode cL_law 738 = .ok (.iload 6, 2) := by decide +kernel
theorem dL_law_740 : decode cL_law 740 = .ok (.i2l, 1) := by decide +kernel
theorem dL_law_741 : decode cL_law 741 = .ok (.lcmp, 1) := by decide +kernel
theorem dL_law_742 : decode cL_law 742 = .ok (.ifCond .eq 5, 3) := by decide +kernel
theorem dL_law_745 : decode cL_law 745 = .ok (.iconst 0, 1) := by decide +kernel
theorem dL_law_746 : decode cL_law 746 = .ok (.ireturn, 1) := by decide +kernel
theorem dL_law_747 : decode cL_law 747 = .ok (.goto 796, 3) := by decide +kernel
theorem dL_law_750 : decode cL_law 750 = .ok (.aload_n 1, 1) := by decide +kernel
theorem dL_law_751 : decode cL_law 751 = .ok (.aload_n 0, 1) := by decide +kernel
theorem dL_law_752 : decode cL_law 752 = .ok (.iload 4, 2) := by decide +kernel
theorem dL_law_754 : decode cL_law 754 = .ok (.iconst 1, 1) := by decide +kernel
theorem dL_law_755 : decode cL_law 755 = .ok (.iadd, 1) := by decide +kernel
theorem dL_law_756 : decode cL_law 756 = .ok (.iaload, 1) := by decide +kernel
theorem dL_law_757 : decode cL_law 757 = .ok (.aload_n 3, 1) := by decide +kernel
theorem dL_law_758 : decode cL_law 758 = .ok (.invokestatic 120, 3) := by decide +kernel
theorem dL_law_761 : decode cL_law 761 = .ok (.istore 5, 2) := by decide +kernel
theorem dL_law_763 : decode cL_law 763 = .ok (.aload_n 2, 1) := by decide +kernel
theorem dL_law_764 : decode cL_law 764 = .ok (.aload_n 0, 1) := by decide +kernel
theorem dL_law_765 : decode cL_law 765 = .ok (.iload 4, 2) := by decide +kernel
theorem dL_law_767 : decode cL_law 767 = .ok (.iconst 1, 1) := by decide +kernel
theorem dL_law_768 : decode cL_law 768 = .ok (.iadd, 1) := by decide +kernel
theorem dL_law_769 : decode cL_law 769 = .ok (.iaload, 1) := by decide +kernel
theorem dL_law_770 : decode cL_law 770 = .ok (.invokevirtual 122, 3) := by decide +kernel
theorem dL_law_773 : decode cL_law 773 = .ok (.istore 6, 2) := by decide +kernel
theorem dL_law_775 : decode cL_law 775 = .ok (.aload_n 2, 1) := by decide +kernel
theorem dL_law_776 : decode cL_law 776 = .ok (.invokevirtual 93, 3) := by decide +kernel
theorem dL_law_779 : decode cL_law 779 = .ok (.iload 5, 2) := by decide +kernel
theorem dL_law_781 : decode cL_law 781 = .ok (.if_icmp .eq 5, 3) := by decide +kernel
theorem dL_law_784 : decode cL_law 784 = .ok (.iconst 0, 1) := by decide +kernel
theorem dL_law_785 : decode cL_law 785 = .ok (.ireturn, 1) := by decide +kernel
theorem dL_law_786 : decode cL_law 786 = .ok (.iload 5, 2) := by decide +kernel
theorem dL_law_788 : decode cL_law 788 = .ok (.ifCond .ne 15, 3) := by decide +kernel
theorem dL_law_791 : decode cL_law 791 = .ok (.aload_n 3, 1) := by decide +kernel
theorem dL_law_792 : decode cL_law 792 = .ok (.iconst 0, 1) := by decide +kernel
theorem dL_law_793 : decode cL_law 793 = .ok (.laload, 1) := by decide +kernel
theorem dL_law_794 : decode cL_law 794 = .ok (.iload 6, 2) := by decide +kernel
theorem dL_law_796 : decode cL_law 796 = .ok (.i2l, 1) := by decide +kernel
theorem dL_law_797 : decode cL_law 797 = .ok (.lcmp, 1) := by decide +kernel
theorem dL_law_798 : decode cL_law 798 = .ok (.ifCond .eq 5, 3) := by decide +kernel
theorem dL_law_801 : decode cL_law 801 = .ok (.iconst 0, 1) := by decide +kernel
theorem dL_law_802 : decode cL_law 802 = .ok (.ireturn, 1) := by decide +kernel
theorem dL_law_803 : decode cL_law 803 = .ok (.goto 740, 3) := by decide +kernel
theorem dL_law_806 : decode cL_law 806 = .ok (.aload_n 1, 1) := by decide +kernel
theorem dL_law_807 : decode cL_law 807 = .ok (.invokevirtual 123, 3) := by decide +kernel
theorem dL_law_810 : decode cL_law 810 = .ok (.aload_n 2, 1) := by decide +kernel
theorem dL_law_811 : decode cL_law 811 = .ok (.invokevirtual 126, 3) := by decide +kernel
theorem dL_law_814 : decode cL_law 814 = .ok (.if_icmp .eq 729, 3) := by decide +kernel
theorem dL_law_817 : decode cL_law 817 = .ok (.iconst 0, 1) := by decide +kernel
theorem dL_law_818 : decode cL_law 818 = .ok (.ireturn, 1) := by decide +kernel
theorem dL_law_819 : decode cL_law 819 = .ok (.aload_n 1, 1) := by decide +kernel
theorem dL_law_820 : decode cL_law 820 = .ok (.aload_n 0, 1) := by decide +kernel
theorem dL_law_821 : decode cL_law 821 = .ok (.iload 4, 2) := by decide +kernel
theorem dL_law_823 : decode cL_law 823 = .ok (.iconst 1, 1) := by decide +kernel
theorem dL_law_824 : decode cL_law 824 = .ok (.iadd, 1) := by decide +kernel
theorem dL_law_825 : decode cL_law 825 = .ok (.iaload, 1) := by decide +kernel
theorem dL_law_826 : decode cL_law 826 = .ok (.aload_n 3, 1) := by decide +kernel
theorem dL_law_827 : decode cL_law 827 = .ok (.invokestatic 127, 3) := by decide +kernel
theorem dL_law_830 : decode cL_law 830 = .ok (.istore 5, 2) := by decide +kernel
theorem dL_law_832 : decode cL_law 832 = .ok (.aload_n 2, 1) := by decide +kernel
theorem dL_law_833 : decode cL_law 833 = .ok (.aload_n 0, 1) := by decide +kernel
theorem dL_law_834 : decode cL_law 834 = .ok (.iload 4, 2) := by decide +kernel
theorem dL_law_836 : decode cL_law 836 = .ok (.iconst 1, 1) := by decide +kernel
theorem dL_law_837 : decode cL_law 837 = .ok (.iadd, 1) := by decide +kernel
theorem dL_law_838 : decode cL_law 838 = .ok (.iaload, 1) := by decide +kernel
theorem dL_law_839 : decode cL_law 839 = .ok (.invokevirtual 129, 3) := by decide +kernel
theorem dL_law_842 : decode cL_law 842 = .ok (.istore 6, 2) := by decide +kernel
theorem dL_law_844 : decode cL_law 844 = .ok (.aload_n 2, 1) := by decide +kernel
theorem dL_law_845 : decode cL_law 845 = .ok (.invokevirtual 93, 3) := by decide +kernel
theorem dL_law_848 : decode cL_law 848 = .ok (.iload 5, 2) := by decide +kernel
theorem dL_law_850 : decode cL_law 850 = .ok (.if_icmp .eq 5, 3) := by decide +kernel
theorem dL_law_853 : decode cL_law 853 = .ok (.iconst 0, 1) := by decide +kernel
theorem dL_law_854 : decode cL_law 854 = .ok (.ireturn, 1) := by decide +kernel
theorem dL_law_855 : decode cL_law 855 = .ok (.iload 5, 2) := by decide +kernel
theorem dL_law_857 : decode cL_law 857 = .ok (.ifCond .ne 15, 3) := by decide +kernel
theorem dL_law_860 : decode cL_law 860 = .ok (.aload_n 3, 1) := by decide +kernel
theorem dL_law_861 : decode cL_law 861 = .ok (.iconst 0, 1) := by decide +kernel
theorem dL_law_862 : decode cL_law 862 = .ok (.laload, 1) := by decide +kernel
theorem dL_law_863 : decode cL_law 863 = .ok (.iload 6, 2) := by decide +kernel
theorem dL_law_865 : decode cL_law 865 = .ok (.i2l, 1) := by decide +kernel
theorem dL_law_866 : decode cL_law 866 = .ok (.lcmp, 1) := by decide +kernel
theorem dL_law_867 : decode cL_law 867 = .ok (.ifCond .eq 5, 3) := by decide +kernel
theorem dL_law_870 : decode cL_law 870 = .ok (.iconst 0, 1) := by decide +kernel
theorem dL_law_871 : decode cL_law 871 = .ok (.ireturn, 1) := by decide +kernel
theorem dL_law_872 : decode cL_law 872 = .ok (.goto 671, 3) := by decide +kernel
theorem dL_law_875 : decode cL_law 875 = .ok (.aload_n 1, 1) := by decide +kernel
theorem dL_law_876 : decode cL_law 876 = .ok (.aload_n 0, 1) := by decide +kernel
theorem dL_law_877 : decode cL_law 877 = .ok (.iload 4, 2) := by decide +kernel
theorem dL_law_879 : decode cL_law 879 = .ok (.iconst 1, 1) := by decide +kernel
theorem dL_law_880 : decode cL_law 880 = .ok (.iadd, 1) := by decide +kernel
theorem dL_law_881 : decode cL_law 881 = .ok (.iaload, 1) := by decide +kernel
theorem dL_law_882 : decode cL_law 882 = .ok (.aload_n 0, 1) := by decide +kernel
theorem dL_law_883 : decode cL_law 883 = .ok (.iload 4, 2) := by decide +kernel
theorem dL_law_885 : decode cL_law 885 = .ok (.iconst 2, 1) := by decide +kernel
theorem dL_law_886 : decode cL_law 886 = .ok (.iadd, 1) := by decide +kernel
theorem dL_law_887 : decode cL_law 887 = .ok (.iaload, 1) := by decide +kernel
theorem dL_law_888 : decode cL_law 888 = .ok (.aload_n 3, 1) := by decide +kernel
theorem dL_law_889 : decode cL_law 889 = .ok (.invokestatic 130, 3) := by decide +kernel
theorem dL_law_892 : decode cL_law 892 = .ok (.istore 5, 2) := by decide +kernel
theorem dL_law_894 : decode cL_law 894 = .ok (.aload_n 2, 1) := by decide +kernel
theorem dL_law_895 : decode cL_law 895 = .ok (.aload_n 0, 1) := by decide +kernel
theorem dL_law_896 : decode cL_law 896 = .ok (.iload 4, 2) := by decide +kernel
theorem dL_law_898 : decode cL_law 898 = .ok (.iconst 1, 1) := by decide +kernel
theorem dL_law_899 : decode cL_law 899 = .ok (.iadd, 1) := by decide +kernel
theorem dL_law_900 : decode cL_law 900 = .ok (.iaload, 1) := by decide +kernel
theorem dL_law_901 : decode cL_law 901 = .ok (.aload_n 0, 1) := by decide +kernel
theorem dL_law_902 : decode cL_law 902 = .ok (.iload 4, 2) := by decide +kernel
theorem dL_law_904 : decode cL_law 904 = .ok (.iconst 2, 1) := by decide +kernel
theorem dL_law_905 : decode cL_law 905 = .ok (.iadd, 1) := by decide +kernel
theorem dL_law_906 : decode cL_law 906 = .ok (.iaload, 1) := by decide +kernel
theorem dL_law_907 : decode cL_law 907 = .ok (.invokevirtual 132, 3) := by decide +kernel
theorem dL_law_910 : decode cL_law 910 = .ok (.istore 6, 2) := by decide +kernel
theorem dL_law_912 : decode cL_law 912 = .ok (.aload_n 2, 1) := by decide +kernel
theorem dL_law_913 : decode cL_law 913 = .ok (.invokevirtual 93, 3) := by decide +kernel
theorem dL_law_916 : decode cL_law 916 = .ok (.iload 5, 2) := by decide +kernel
theorem dL_law_918 : decode cL_law 918 = .ok (.if_icmp .eq 5, 3) := by decide +kernel
theorem dL_law_921 : decode cL_law 921 = .ok (.iconst 0, 1) := by decide +kernel
theorem dL_law_922 : decode cL_law 922 = .ok (.ireturn, 1) := by decide +kernel
theorem dL_law_923 : decode cL_law 923 = .ok (.iload 5, 2) := by decide +kernel
theorem dL_law_925 : decode cL_law 925 = .ok (.ifCond .ne 15, 3) := by decide +kernel
theorem dL_law_928 : decode cL_law 928 = .ok (.aload_n 3, 1) := by decide +kernel
theorem dL_law_929 : decode cL_law 929 = .ok (.iconst 0, 1) := by decide +kernel
theorem dL_law_930 : decode cL_law 930 = .ok (.laload, 1) := by decide +kernel
theorem dL_law_931 : decode cL_law 931 = .ok (.iload 6, 2) := by decide +kernel
theorem dL_law_933 : decode cL_law 933 = .ok (.i2l, 1) := by decide +kernel
theorem dL_law_934 : decode cL_law 934 = .ok (.lcmp, 1) := by decide +kernel
theorem dL_law_935 : decode cL_law 935 = .ok (.ifCond .eq 5, 3) := by decide +kernel
theorem dL_law_938 : decode cL_law 938 = .ok (.iconst 0, 1) := by decide +kernel
theorem dL_law_939 : decode cL_law 939 = .ok (.ireturn, 1) := by decide +kernel
theorem dL_law_940 : decode cL_law 940 = .ok (.goto 603, 3) := by decide +kernel
theorem dL_law_943 : decode cL_law 943 = .ok (.aload_n 1, 1) := by decide +kernel
theorem dL_law_944 : decode cL_law 944 = .ok (.aload_n 0, 1) := by decide +kernel
theorem dL_law_945 : decode cL_law 945 = .ok (.iload 4, 2) := by decide +kernel
theorem dL_law_947 : decode cL_law 947 = .ok (.iconst 1, 1) := by decide +kernel
theorem dL_law_948 : decode cL_law 948 = .ok (.iadd, 1) := by decide +kernel
theorem dL_law_949 : decode cL_law 949 = .ok (.iaload, 1) := by decide +kernel
theorem dL_law_950 : decode cL_law 950 = .ok (.aload_n 3, 1) := by decide +kernel
theorem dL_law_951 : decode cL_law 951 = .ok (.invokestatic 133, 3) := by decide +kernel
theorem dL_law_954 : decode cL_law 954 = .ok (.istore 5, 2) := by decide +kernel
theorem dL_law_956 : decode cL_law 956 = .ok (.aload_n 2, 1) := by decide +kernel
theorem dL_law_957 : decode cL_law 957 = .ok (.aload_n 0, 1) := by decide +kernel
theorem dL_law_958 : decode cL_law 958 = .ok (.iload 4, 2) := by decide +kernel
theorem dL_law_960 : decode cL_law 960 = .ok (.iconst 1, 1) := by decide +kernel
theorem dL_law_961 : decode cL_law 961 = .ok (.iadd, 1) := by decide +kernel
theorem dL_law_962 : decode cL_law 962 = .ok (.iaload, 1) := by decide +kernel
theorem dL_law_963 : decode cL_law 963 = .ok (.invokevirtual 135, 3) := by decide +kernel
theorem dL_law_966 : decode cL_law 966 = .ok (.istore 6, 2) := by decide +kernel
theorem dL_law_968 : decode cL_law 968 = .ok (.aload_n 2, 1) := by decide +kernel
theorem dL_law_969 : decode cL_law 969 = .ok (.invokevirtual 93, 3) := by decide +kernel
theorem dL_law_972 : decode cL_law 972 = .ok (.iload 5, 2) := by decide +kernel
theorem dL_law_974 : decode cL_law 974 = .ok (.if_icmp .eq 5, 3) := by decide +kernel
theorem dL_law_977 : decode cL_law 977 = .ok (.iconst 0, 1) := by decide +kernel
theorem dL_law_978 : decode cL_law 978 = .ok (.ireturn, 1) := by decide +kernel
theorem dL_law_979 : decode cL_law 979 = .ok (.iload 5, 2) := by decide +kernel
theorem dL_law_981 : decode cL_law 981 = .ok (.ifCond .ne 15, 3) := by decide +kernel
theorem dL_law_984 : decode cL_law 984 = .ok (.aload_n 3, 1) := by decide +kernel
theorem dL_law_985 : decode cL_law 985 = .ok (.iconst 0, 1) := by decide +kernel
theorem dL_law_986 : decode cL_law 986 = .ok (.laload, 1) := by decide +kernel
theorem dL_law_987 : decode cL_law 987 = .ok (.iload 6, 2) := by decide +kernel
theorem dL_law_989 : decode cL_law 989 = .ok (.i2l, 1) := by decide +kernel
theorem dL_law_990 : decode cL_law 990 = .ok (.lcmp, 1) := by decide +kernel
theorem dL_law_991 : decode cL_law 991 = .ok (.ifCond .eq 5, 3) := by decide +kernel
theorem dL_law_994 : decode cL_law 994 = .ok (.iconst 0, 1) := by decide +kernel
theorem dL_law_995 : decode cL_law 995 = .ok (.ireturn, 1) := by decide +kernel
theorem dL_law_996 : decode cL_law 996 = .ok (.goto 547, 3) := by decide +kernel
theorem dL_law_999 : decode cL_law 999 = .ok (.aload_n 1, 1) := by decide +kernel
theorem dL_law_1000 : decode cL_law 1000 = .ok (.invokevirtual 136, 3) := by decide +kernel
theorem dL_law_1003 : decode cL_law 1003 = .ok (.aload_n 2, 1) := by decide +kernel
theorem dL_law_1004 : decode cL_law 1004 = .ok (.invokevirtual 139, 3) := by decide +kernel
theorem dL_law_1007 : decode cL_law 1007 = .ok (.if_icmp .eq 536, 3) := by decide +kernel
theorem dL_law_1010 : decode cL_law 1010 = .ok (.iconst 0, 1) := by decide +kernel
theorem dL_law_1011 : decode cL_law 1011 = .ok (.ireturn, 1) := by decide +kernel
theorem dL_law_1012 : decode cL_law 1012 = .ok (.aload_n 1, 1) := by decide +kernel
theorem dL_law_1013 : decode cL_law 1013 = .ok (.aload_n 3, 1) := by decide +kernel
theorem dL_law_1014 : decode cL_law 1014 = .ok (.invokestatic 140, 3) := by decide +kernel
theorem dL_law_1017 : decode cL_law 1017 = .ok (.istore 5, 2) := by decide +kernel
theorem dL_law_1019 : decode cL_law 1019 = .ok (.aload_n 2, 1) := by decide +kernel
theorem dL_law_1020 : decode cL_law 1020 = .ok (.invokevirtual 143, 3) := by decide +kernel
theorem dL_law_1023 : decode cL_law 1023 = .ok (.istore 6, 2) := by decide +kernel
theorem dL_law_1025 : decode cL_law 1025 = .ok (.aload_n 2, 1) := by decide +kernel
theorem dL_law_1026 : decode cL_law 1026 = .ok (.invokevirtual 93, 3) := by decide +kernel
theorem dL_law_1029 : decode cL_law 1029 = .ok (.iload 5, 2) := by decide +kernel
theorem dL_law_1031 : decode cL_law 1031 = .ok (.if_icmp .eq 5, 3) := by decide +kernel
theorem dL_law_1034 : decode cL_law 1034 = .ok (.iconst 0, 1) := by decide +kernel
theorem dL_law_1035 : decode cL_law 1035 = .ok (.ireturn, 1) := by decide +kernel
theorem dL_law_1036 : decode cL_law 1036 = .ok (.iload 5, 2) := by decide +kernel
theorem dL_law_1038 : decode cL_law 1038 = .ok (.ifCond .ne 15, 3) := by decide +kernel
theorem dL_law_1041 : decode cL_law 1041 = .ok (.aload_n 3, 1) := by decide +kernel
theorem dL_law_1042 : decode cL_law 1042 = .ok (.iconst 0, 1) := by decide +kernel
theorem dL_law_1043 : decode cL_law 1043 = .ok (.laload, 1) := by decide +kernel
theorem dL_law_1044 : decode cL_law 1044 = .ok (.iload 6, 2) := by decide +kernel
theorem dL_law_1046 : decode cL_law 1046 = .ok (.i2l, 1) := by decide +kernel
theorem dL_law_1047 : decode cL_law 1047 = .ok (.lcmp, 1) := by decide +kernel
theorem dL_law_1048 : decode cL_law 1048 = .ok (.ifCond .eq 5, 3) := by decide +kernel
theorem dL_law_1051 : decode cL_law 1051 = .ok (.iconst 0, 1) := by decide +kernel
theorem dL_law_1052 : decode cL_law 1052 = .ok (.ireturn, 1) := by decide +kernel
theorem dL_law_1053 : decode cL_law 1053 = .ok (.goto 490, 3) := by decide +kernel
theorem dL_law_1056 : decode cL_law 1056 = .ok (.aload_n 1, 1) := by decide +kernel
theorem dL_law_1057 : decode cL_law 1057 = .ok (.invokevirtual 144, 3) := by decide +kernel
theorem dL_law_1060 : decode cL_law 1060 = .ok (.aload_n 2, 1) := by decide +kernel
theorem dL_law_1061 : decode cL_law 1061 = .ok (.invokevirtual 147, 3) := by decide +kernel
theorem dL_law_1064 : decode cL_law 1064 = .ok (.if_icmp .eq 479, 3) := by decide +kernel
theorem dL_law_1067 : decode cL_law 1067 = .ok (.iconst 0, 1) := by decide +kernel
theorem dL_law_1068 : decode cL_law 1068 = .ok (.ireturn, 1) := by decide +kernel
theorem dL_law_1069 : decode cL_law 1069 = .ok (.aload_n 1, 1) := by decide +kernel
theorem dL_law_1070 : decode cL_law 1070 = .ok (.aload_n 0, 1) := by decide +kernel
theorem dL_law_1071 : decode cL_law 1071 = .ok (.iload 4, 2) := by decide +kernel
theorem dL_law_1073 : decode cL_law 1073 = .ok (.iconst 1, 1) := by decide +kernel
theorem dL_law_1074 : decode cL_law 1074 = .ok (.iadd, 1) := by decide +kernel
theorem dL_law_1075 : decode cL_law 1075 = .ok (.iaload, 1) := by decide +kernel
theorem dL_law_1076 : decode cL_law 1076 = .ok (.aload_n 3, 1) := by decide +kernel
theorem dL_law_1077 : decode cL_law 1077 = .ok (.invokestatic 148, 3) := by decide +kernel
theorem dL_law_1080 : decode cL_law 1080 = .ok (.istore 5, 2) := by decide +kernel
theorem dL_law_1082 : decode cL_law 1082 = .ok (.aload_n 2, 1) := by decide +kernel
theorem dL_law_1083 : decode cL_law 1083 = .ok (.aload_n 0, 1) := by decide +kernel
theorem dL_law_1084 : decode cL_law 1084 = .ok (.iload 4, 2) := by decide +kernel
theorem dL_law_1086 : decode cL_law 1086 = .ok (.iconst 1, 1) := by decide +kernel
theorem dL_law_1087 : decode cL_law 1087 = .ok (.iadd, 1) := by decide +kernel
theorem dL_law_1088 : decode cL_law 1088 = .ok (.iaload, 1) := by decide +kernel
theorem dL_law_1089 : decode cL_law 1089 = .ok (.invokevirtual 150, 3) := by decide +kernel
theorem dL_law_1092 : decode cL_law 1092 = .ok (.istore 6, 2) := by decide +kernel
theorem dL_law_1094 : decode cL_law 1094 = .ok (.aload_n 2, 1) := by decide +kernel
theorem dL_law_1095 : decode cL_law 1095 = .ok (.invokevirtual 93, 3) := by decide +kernel
theorem dL_law_1098 : decode cL_law 1098 = .ok (.iload 5, 2) := by decide +kernel
theorem dL_law_1100 : decode cL_law 1100 = .ok (.if_icmp .eq 5, 3) := by decide +kernel
theorem dL_law_1103 : decode cL_law 1103 = .ok (.iconst 0, 1) := by decide +kernel
theorem dL_law_1104 : decode cL_law 1104 = .ok (.ireturn, 1) := by decide +kernel
theorem dL_law_1105 : decode cL_law 1105 = .ok (.iload 5, 2) := by decide +kernel
theorem dL_law_1107 : decode cL_law 1107 = .ok (.ifCond .ne 15, 3) := by decide +kernel
theorem dL_law_1110 : decode cL_law 1110 = .ok (.aload_n 3, 1) := by decide +kernel
theorem dL_law_1111 : decode cL_law 1111 = .ok (.iconst 0, 1) := by decide +kernel
theorem dL_law_1112 : decode cL_law 1112 = .ok (.laload, 1) := by decide +kernel
theorem dL_law_1113 : decode cL_law 1113 = .ok (.iload 6, 2) := by decide +kernel
theorem dL_law_1115 : decode cL_law 1115 = .ok (.i2l, 1) := by decide +kernel
theorem dL_law_1116 : decode cL_law 1116 = .ok (.lcmp, 1) := by decide +kernel
theorem dL_law_1117 : decode cL_law 1117 = .ok (.ifCond .eq 5, 3) := by decide +kernel
theorem dL_law_1120 : decode cL_law 1120 = .ok (.iconst 0, 1) := by decide +kernel
theorem dL_law_1121 : decode cL_law 1121 = .ok (.ireturn, 1) := by decide +kernel
theorem dL_law_1122 : decode cL_law 1122 = .ok (.goto 421, 3) := by decide +kernel
theorem dL_law_1125 : decode cL_law 1125 = .ok (.aload_n 1, 1) := by decide +kernel
theorem dL_law_1126 : decode cL_law 1126 = .ok (.aload_n 0, 1) := by decide +kernel
theorem dL_law_1127 : decode cL_law 1127 = .ok (.iload 4, 2) := by decide +kernel
theorem dL_law_1129 : decode cL_law 1129 = .ok (.iconst 1, 1) := by decide +kernel
theorem dL_law_1130 : decode cL_law 1130 = .ok (.iadd, 1) := by decide +kernel
theorem dL_law_1131 : decode cL_law 1131 = .ok (.iaload, 1) := by decide +kernel
theorem dL_law_1132 : decode cL_law 1132 = .ok (.aload_n 3, 1) := by decide +kernel
theorem dL_law_1133 : decode cL_law 1133 = .ok (.invokestatic 151, 3) := by decide +kernel
theorem dL_law_1136 : decode cL_law 1136 = .ok (.istore 5, 2) := by decide +kernel
theorem dL_law_1138 : decode cL_law 1138 = .ok (.aload_n 2, 1) := by decide +kernel
theorem dL_law_1139 : decode cL_law 1139 = .ok (.aload_n 0, 1) := by decide +kernel
theorem dL_law_1140 : decode cL_law 1140 = .ok (.iload 4, 2) := by decide +kernel
theorem dL_law_1142 : decode cL_law 1142 = .ok (.iconst 1, 1) := by decide +kernel
theorem dL_law_1143 : decode cL_law 1143 = .ok (.iadd, 1) := by decide +kernel
theorem dL_law_1144 : decode cL_law 1144 = .ok (.iaload, 1) := by decide +kernel
theorem dL_law_1145 : decode cL_law 1145 = .ok (.invokevirtual 153, 3) := by decide +kernel
theorem dL_law_1148 : decode cL_law 1148 = .ok (.istore 6, 2) := by decide +kernel
theorem dL_law_1150 : decode cL_law 1150 = .ok (.aload_n 2, 1) := by decide +kernel
theorem dL_law_1151 : decode cL_law 1151 = .ok (.invokevirtual 93, 3) := by decide +kernel
theorem dL_law_1154 : decode cL_law 1154 = .ok (.iload 5, 2) := by decide +kernel
theorem dL_law_1156 : decode cL_law 1156 = .ok (.if_icmp .eq 5, 3) := by decide +kernel
theorem dL_law_1159 : decode cL_law 1159 = .ok (.iconst 0, 1) := by decide +kernel
theorem dL_law_1160 : decode cL_law 1160 = .ok (.ireturn, 1) := by decide +kernel
theorem dL_law_1161 : decode cL_law 1161 = .ok (.iload 5, 2) := by decide +kernel
theorem dL_law_1163 : decode cL_law 1163 = .ok (.ifCond .ne 15, 3) := by decide +kernel
theorem dL_law_1166 : decode cL_law 1166 = .ok (.aload_n 3, 1) := by decide +kernel
theorem dL_law_1167 : decode cL_law 1167 = .ok (.iconst 0, 1) := by decide +kernel
theorem dL_law_1168 : decode cL_law 1168 = .ok (.laload, 1) := by decide +kernel
theorem dL_law_1169 : decode cL_law 1169 = .ok (.iload 6, 2) := by decide +kernel
theorem dL_law_1171 : decode cL_law 1171 = .ok (.i2l, 1) := by decide +kernel
theorem dL_law_1172 : decode cL_law 1172 = .ok (.lcmp, 1) := by decide +kernel
theorem dL_law_1173 : decode cL_law 1173 = .ok (.ifCond .eq 5, 3) := by decide +kernel
theorem dL_law_1176 : decode cL_law 1176 = .ok (.iconst 0, 1) := by decide +kernel
theorem dL_law_1177 : decode cL_law 1177 = .ok (.ireturn, 1) := by decide +kernel
theorem dL_law_1178 : decode cL_law 1178 = .ok (.goto 365, 3) := by decide +kernel
theorem dL_law_1181 : decode cL_law 1181 = .ok (.aload_n 1, 1) := by decide +kernel
theorem dL_law_1182 : decode cL_law 1182 = .ok (.aload_n 0, 1) := by decide +kernel
theorem dL_law_1183 : decode cL_law 1183 = .ok (.iload 4, 2) := by decide +kernel
theorem dL_law_1185 : decode cL_law 1185 = .ok (.iconst 1, 1) := by decide +kernel
theorem dL_law_1186 : decode cL_law 1186 = .ok (.iadd, 1) := by decide +kernel
theorem dL_law_1187 : decode cL_law 1187 = .ok (.iaload, 1) := by decide +kernel
theorem dL_law_1188 : decode cL_law 1188 = .ok (.aload_n 3, 1) := by decide +kernel
theorem dL_law_1189 : decode cL_law 1189 = .ok (.invokestatic 154, 3) := by decide +kernel
theorem dL_law_1192 : decode cL_law 1192 = .ok (.istore 5, 2) := by decide +kernel
theorem dL_law_1194 : decode cL_law 1194 = .ok (.aload_n 2, 1) := by decide +kernel
theorem dL_law_1195 : decode cL_law 1195 = .ok (.aload_n 0, 1) := by decide +kernel
theorem dL_law_1196 : decode cL_law 1196 = .ok (.iload 4, 2) := by decide +kernel
theorem dL_law_1198 : decode cL_law 1198 = .ok (.iconst 1, 1) := by decide +kernel
theorem dL_law_1199 : decode cL_law 1199 = .ok (.iadd, 1) := by decide +kernel
theorem dL_law_1200 : decode cL_law 1200 = .ok (.iaload, 1) := by decide +kernel
theorem dL_law_1201 : decode cL_law 1201 = .ok (.invokevirtual 156, 3) := by decide +kernel
theorem dL_law_1204 : decode cL_law 1204 = .ok (.istore 6, 2) := by decide +kernel
theorem dL_law_1206 : decode cL_law 1206 = .ok (.aload_n 2, 1) := by decide +kernel
theorem dL_law_1207 : decode cL_law 1207 = .ok (.invokevirtual 93, 3) := by decide +kernel
theorem dL_law_1210 : decode cL_law 1210 = .ok (.iload 5, 2) := by decide +kernel
theorem dL_law_1212 : decode cL_law 1212 = .ok (.if_icmp .eq 5, 3) := by decide +kernel
theorem dL_law_1215 : decode cL_law 1215 = .ok (.iconst 0, 1) := by decide +kernel
theorem dL_law_1216 : decode cL_law 1216 = .ok (.ireturn, 1) := by decide +kernel
theorem dL_law_1217 : decode cL_law 1217 = .ok (.iload 5, 2) := by decide +kernel
theorem dL_law_1219 : decode cL_law 1219 = .ok (.ifCond .ne 15, 3) := by decide +kernel
theorem dL_law_1222 : decode cL_law 1222 = .ok (.aload_n 3, 1) := by decide +kernel
theorem dL_law_1223 : decode cL_law 1223 = .ok (.iconst 0, 1) := by decide +kernel
theorem dL_law_1224 : decode cL_law 1224 = .ok (.laload, 1) := by decide +kernel
theorem dL_law_1225 : decode cL_law 1225 = .ok (.iload 6, 2) := by decide +kernel
theorem dL_law_1227 : decode cL_law 1227 = .ok (.i2l, 1) := by decide +kernel
theorem dL_law_1228 : decode cL_law 1228 = .ok (.lcmp, 1) := by decide +kernel
theorem dL_law_1229 : decode cL_law 1229 = .ok (.ifCond .eq 5, 3) := by decide +kernel
theorem dL_law_1232 : decode cL_law 1232 = .ok (.iconst 0, 1) := by decide +kernel
theorem dL_law_1233 : decode cL_law 1233 = .ok (.ireturn, 1) := by decide +kernel
theorem dL_law_1234 : decode cL_law 1234 = .ok (.goto 309, 3) := by decide +kernel
theorem dL_law_1237 : decode cL_law 1237 = .ok (.aload_n 1, 1) := by decide +kernel
theorem dL_law_1238 : decode cL_law 1238 = .ok (.aload_n 0, 1) := by decide +kernel
theorem dL_law_1239 : decode cL_law 1239 = .ok (.iload 4, 2) := by decide +kernel
theorem dL_law_1241 : decode cL_law 1241 = .ok (.iconst 1, 1) := by decide +kernel
theorem dL_law_1242 : decode cL_law 1242 = .ok (.iadd, 1) := by decide +kernel
theorem dL_law_1243 : decode cL_law 1243 = .ok (.iaload, 1) := by decide +kernel
theorem dL_law_1244 : decode cL_law 1244 = .ok (.aload_n 3, 1) := by decide +kernel
theorem dL_law_1245 : decode cL_law 1245 = .ok (.invokestatic 157, 3) := by decide +kernel
theorem dL_law_1248 : decode cL_law 1248 = .ok (.istore 5, 2) := by decide +kernel
theorem dL_law_1250 : decode cL_law 1250 = .ok (.aload_n 2, 1) := by decide +kernel
theorem dL_law_1251 : decode cL_law 1251 = .ok (.aload_n 0, 1) := by decide +kernel
theorem dL_law_1252 : decode cL_law 1252 = .ok (.iload 4, 2) := by decide +kernel
theorem dL_law_1254 : decode cL_law 1254 = .ok (.iconst 1, 1) := by decide +kernel
theorem dL_law_1255 : decode cL_law 1255 = .ok (.iadd, 1) := by decide +kernel
theorem dL_law_1256 : decode cL_law 1256 = .ok (.iaload, 1) := by decide +kernel
theorem dL_law_1257 : decode cL_law 1257 = .ok (.invokevirtual 159, 3) := by decide +kernel
theorem dL_law_1260 : decode cL_law 1260 = .ok (.istore 6, 2) := by decide +kernel
theorem dL_law_1262 : decode cL_law 1262 = .ok (.aload_n 2, 1) := by decide +kernel
theorem dL_law_1263 : decode cL_law 1263 = .ok (.invokevirtual 93, 3) := by decide +kernel
theorem dL_law_1266 : decode cL_law 1266 = .ok (.iload 5, 2) := by decide +kernel
theorem dL_law_1268 : decode cL_law 1268 = .ok (.if_icmp .eq 5, 3) := by decide +kernel
theorem dL_law_1271 : decode cL_law 1271 = .ok (.iconst 0, 1) := by decide +kernel
theorem dL_law_1272 : decode cL_law 1272 = .ok (.ireturn, 1) := by decide +kernel
theorem dL_law_1273 : decode cL_law 1273 = .ok (.iload 5, 2) := by decide +kernel
theorem dL_law_1275 : decode cL_law 1275 = .ok (.ifCond .ne 15, 3) := by decide +kernel
theorem dL_law_1278 : decode cL_law 1278 = .ok (.aload_n 3, 1) := by decide +kernel
theorem dL_law_1279 : decode cL_law 1279 = .ok (.iconst 0, 1) := by decide +kernel
theorem dL_law_1280 : decode cL_law 1280 = .ok (.laload, 1) := by decide +kernel
theorem dL_law_1281 : decode cL_law 1281 = .ok (.iload 6, 2) := by decide +kernel
theorem dL_law_1283 : decode cL_law 1283 = .ok (.i2l, 1) := by decide +kernel
theorem dL_law_1284 : decode cL_law 1284 = .ok (.lcmp, 1) := by decide +kernel
theorem dL_law_1285 : decode cL_law 1285 = .ok (.ifCond .eq 5, 3) := by decide +kernel
theorem dL_law_1288 : decode cL_law 1288 = .ok (.iconst 0, 1) := by decide +kernel
theorem dL_law_1289 : decode cL_law 1289 = .ok (.ireturn, 1) := by decide +kernel
theorem dL_law_1290 : decode cL_law 1290 = .ok (.goto 253, 3) := by decide +kernel
theorem dL_law_1293 : decode cL_law 1293 = .ok (.aload_n 1, 1) := by decide +kernel
theorem dL_law_1294 : decode cL_law 1294 = .ok (.aload_n 0, 1) := by decide +kernel
theorem dL_law_1295 : decode cL_law 1295 = .ok (.iload 4, 2) := by decide +kernel
theorem dL_law_1297 : decode cL_law 1297 = .ok (.iconst 1, 1) := by decide +kernel
theorem dL_law_1298 : decode cL_law 1298 = .ok (.iadd, 1) := by decide +kernel
theorem dL_law_1299 : decode cL_law 1299 = .ok (.iaload, 1) := by decide +kernel
theorem dL_law_1300 : decode cL_law 1300 = .ok (.aload_n 3, 1) := by decide +kernel
theorem dL_law_1301 : decode cL_law 1301 = .ok (.invokestatic 160, 3) := by decide +kernel
theorem dL_law_1304 : decode cL_law 1304 = .ok (.istore 5, 2) := by decide +kernel
theorem dL_law_1306 : decode cL_law 1306 = .ok (.aload_n 2, 1) := by decide +kernel
theorem dL_law_1307 : decode cL_law 1307 = .ok (.aload_n 0, 1) := by decide +kernel
theorem dL_law_1308 : decode cL_law 1308 = .ok (.iload 4, 2) := by decide +kernel
theorem dL_law_1310 : decode cL_law 1310 = .ok (.iconst 1, 1) := by decide +kernel
theorem dL_law_1311 : decode cL_law 1311 = .ok (.iadd, 1) := by decide +kernel
theorem dL_law_1312 : decode cL_law 1312 = .ok (.iaload, 1) := by decide +kernel
theorem dL_law_1313 : decode cL_law 1313 = .ok (.invokevirtual 162, 3) := by decide +kernel
theorem dL_law_1316 : decode cL_law 1316 = .ok (.istore 6, 2) := by decide +kernel
theorem dL_law_1318 : decode cL_law 1318 = .ok (.aload_n 2, 1) := by decide +kernel
theorem dL_law_1319 : decode cL_law 1319 = .ok (.invokevirtual 93, 3) := by decide +kernel
theorem dL_law_1322 : decode cL_law 1322 = .ok (.iload 5, 2) := by decide +kernel
theorem dL_law_1324 : decode cL_law 1324 = .ok (.if_icmp .eq 5, 3) := by decide +kernel
theorem dL_law_1327 : decode cL_law 1327 = .ok (.iconst 0, 1) := by decide +kernel
theorem dL_law_1328 : decode cL_law 1328 = .ok (.ireturn, 1) := by decide +kernel
theorem dL_law_1329 : decode cL_law 1329 = .ok (.iload 5, 2) := by decide +kernel
theorem dL_law_1331 : decode cL_law 1331 = .ok (.ifCond .ne 15, 3) := by decide +kernel
theorem dL_law_1334 : decode cL_law 1334 = .ok (.aload_n 3, 1) := by decide +kernel
theorem dL_law_1335 : decode cL_law 1335 = .ok (.iconst 0, 1) := by decide +kernel
theorem dL_law_1336 : decode cL_law 1336 = .ok (.laload, 1) := by decide +kernel
theorem dL_law_1337 : decode cL_law 1337 = .ok (.iload 6, 2) := by decide +kernel
theorem dL_law_1339 : decode cL_law 1339 = .ok (.i2l, 1) := by decide +kernel
theorem dL_law_1340 : decode cL_law 1340 = .ok (.lcmp, 1) := by decide +kernel
theorem dL_law_1341 : decode cL_law 1341 = .ok (.ifCond .eq 5, 3) := by decide +kernel
theorem dL_law_1344 : decode cL_law 1344 = .ok (.iconst 0, 1) := by decide +kernel
theorem dL_law_1345 : decode cL_law 1345 = .ok (.ireturn, 1) := by decide +kernel
theorem dL_law_1346 : decode cL_law 1346 = .ok (.goto 197, 3) := by decide +kernel
theorem dL_law_1349 : decode cL_law 1349 = .ok (.aload_n 1, 1) := by decide +kernel
theorem dL_law_1350 : decode cL_law 1350 = .ok (.aload_n 0, 1) := by decide +kernel
theorem dL_law_1351 : decode cL_law 1351 = .ok (.iload 4, 2) := by decide +kernel
theorem dL_law_1353 : decode cL_law 1353 = .ok (.iconst 1, 1) := by decide +kernel
theorem dL_law_1354 : decode cL_law 1354 = .ok (.iadd, 1) := by decide +kernel
theorem dL_law_1355 : decode cL_law 1355 = .ok (.iaload, 1) := by decide +kernel
theorem dL_law_1356 : decode cL_law 1356 = .ok (.aload_n 3, 1) := by decide +kernel
theorem dL_law_1357 : decode cL_law 1357 = .ok (.invokestatic 163, 3) := by decide +kernel
theorem dL_law_1360 : decode cL_law 1360 = .ok (.istore 5, 2) := by decide +kernel
theorem dL_law_1362 : decode cL_law 1362 = .ok (.aload_n 2, 1) := by decide +kernel
theorem dL_law_1363 : decode cL_law 1363 = .ok (.aload_n 0, 1) := by decide +kernel
theorem dL_law_1364 : decode cL_law 1364 = .ok (.iload 4, 2) := by decide +kernel
theorem dL_law_1366 : decode cL_law 1366 = .ok (.iconst 1, 1) := by decide +kernel
theorem dL_law_1367 : decode cL_law 1367 = .ok (.iadd, 1) := by decide +kernel
theorem dL_law_1368 : decode cL_law 1368 = .ok (.iaload, 1) := by decide +kernel
theorem dL_law_1369 : decode cL_law 1369 = .ok (.invokevirtual 165, 3) := by decide +kernel
theorem dL_law_1372 : decode cL_law 1372 = .ok (.istore 6, 2) := by decide +kernel
theorem dL_law_1374 : decode cL_law 1374 = .ok (.aload_n 2, 1) := by decide +kernel
theorem dL_law_1375 : decode cL_law 1375 = .ok (.invokevirtual 93, 3) := by decide +kernel
theorem dL_law_1378 : decode cL_law 1378 = .ok (.iload 5, 2) := by decide +kernel
theorem dL_law_1380 : decode cL_law 1380 = .ok (.if_icmp .eq 5, 3) := by decide +kernel
theorem dL_law_1383 : decode cL_law 1383 = .ok (.iconst 0, 1) := by decide +kernel
theorem dL_law_1384 : decode cL_law 1384 = .ok (.ireturn, 1) := by decide +kernel
theorem dL_law_1385 : decode cL_law 1385 = .ok (.iload 5, 2) := by decide +kernel
theorem dL_law_1387 : decode cL_law 1387 = .ok (.ifCond .ne 15, 3) := by decide +kernel
theorem dL_law_1390 : decode cL_law 1390 = .ok (.aload_n 3, 1) := by decide +kernel
theorem dL_law_1391 : decode cL_law 1391 = .ok (.iconst 0, 1) := by decide +kernel
theorem dL_law_1392 : decode cL_law 1392 = .ok (.laload, 1) := by decide +kernel
theorem dL_law_1393 : decode cL_law 1393 = .ok (.iload 6, 2) := by decide +kernel
theorem dL_law_1395 : decode cL_law 1395 = .ok (.i2l, 1) := by decide +kernel
theorem dL_law_1396 : decode cL_law 1396 = .ok (.lcmp, 1) := by decide +kernel
theorem dL_law_1397 : decode cL_law 1397 = .ok (.ifCond .eq 5, 3) := by decide +kernel
theorem dL_law_1400 : decode cL_law 1400 = .ok (.iconst 0, 1) := by decide +kernel
theorem dL_law_1401 : decode cL_law 1401 = .ok (.ireturn, 1) := by decide +kernel
theorem dL_law_1402 : decode cL_law 1402 = .ok (.goto 141, 3) := by decide +kernel
theorem dL_law_1405 : decode cL_law 1405 = .ok (.aload_n 1, 1) := by decide +kernel
theorem dL_law_1406 : decode cL_law 1406 = .ok (.invokevirtual 166, 3) := by decide +kernel
theorem dL_law_1409 : decode cL_law 1409 = .ok (.aload_n 2, 1) := by decide +kernel
theorem dL_law_1410 : decode cL_law 1410 = .ok (.invokevirtual 169, 3) := by decide +kernel
theorem dL_law_1413 : decode cL_law 1413 = .ok (.if_icmp .eq 130, 3) := by decide +kernel
theorem dL_law_1416 : decode cL_law 1416 = .ok (.iconst 0, 1) := by decide +kernel
theorem dL_law_1417 : decode cL_law 1417 = .ok (.ireturn, 1) := by decide +kernel
theorem dL_law_1418 : decode cL_law 1418 = .ok (.aload_n 1, 1) := by decide +kernel
theorem dL_law_1419 : decode cL_law 1419 = .ok (.aload_n 0, 1) := by decide +kernel
theorem dL_law_1420 : decode cL_law 1420 = .ok (.iload 4, 2) := by decide +kernel
theorem dL_law_1422 : decode cL_law 1422 = .ok (.iconst 1, 1) := by decide +kernel
theorem dL_law_1423 : decode cL_law 1423 = .ok (.iadd, 1) := by decide +kernel
theorem dL_law_1424 : decode cL_law 1424 = .ok (.iaload, 1) := by decide +kernel
theorem dL_law_1425 : decode cL_law 1425 = .ok (.aload_n 3, 1) := by decide +kernel
theorem dL_law_1426 : decode cL_law 1426 = .ok (.invokestatic 170, 3) := by decide +kernel
theorem dL_law_1429 : decode cL_law 1429 = .ok (.istore 5, 2) := by decide +kernel
theorem dL_law_1431 : decode cL_law 1431 = .ok (.aload_n 2, 1) := by decide +kernel
theorem dL_law_1432 : decode cL_law 1432 = .ok (.aload_n 0, 1) := by decide +kernel
theorem dL_law_1433 : decode cL_law 1433 = .ok (.iload 4, 2) := by decide +kernel
theorem dL_law_1435 : decode cL_law 1435 = .ok (.iconst 1, 1) := by decide +kernel
theorem dL_law_1436 : decode cL_law 1436 = .ok (.iadd, 1) := by decide +kernel
theorem dL_law_1437 : decode cL_law 1437 = .ok (.iaload, 1) := by decide +kernel
theorem dL_law_1438 : decode cL_law 1438 = .ok (.invokevirtual 172, 3) := by decide +kernel
theorem dL_law_1441 : decode cL_law 1441 = .ok (.istore 6, 2) := by decide +kernel
theorem dL_law_1443 : decode cL_law 1443 = .ok (.aload_n 2, 1) := by decide +kernel
theorem dL_law_1444 : decode cL_law 1444 = .ok (.invokevirtual 93, 3) := by decide +kernel
theorem dL_law_1447 : decode cL_law 1447 = .ok (.iload 5, 2) := by decide +kernel
theorem dL_law_1449 : decode cL_law 1449 = .ok (.if_icmp .eq 5, 3) := by decide +kernel
theorem dL_law_1452 : decode cL_law 1452 = .ok (.iconst 0, 1) := by decide +kernel
theorem dL_law_1453 : decode cL_law 1453 = .ok (.ireturn, 1) := by decide +kernel
theorem dL_law_1454 : decode cL_law 1454 = .ok (.iload 5, 2) := by decide +kernel
theorem dL_law_1456 : decode cL_law 1456 = .ok (.ifCond .ne 15, 3) := by decide +kernel
theorem dL_law_1459 : decode cL_law 1459 = .ok (.aload_n 3, 1) := by decide +kernel
theorem dL_law_1460 : decode cL_law 1460 = .ok (.iconst 0, 1) := by decide +kernel
theorem dL_law_1461 : decode cL_law 1461 = .ok (.laload, 1) := by decide +kernel
theorem dL_law_1462 : decode cL_law 1462 = .ok (.iload 6, 2) := by decide +kernel
theorem dL_law_1464 : decode cL_law 1464 = .ok (.i2l, 1) := by decide +kernel
theorem dL_law_1465 : decode cL_law 1465 = .ok (.lcmp, 1) := by decide +kernel
theorem dL_law_1466 : decode cL_law 1466 = .ok (.ifCond .eq 5, 3) := by decide +kernel
theorem dL_law_1469 : decode cL_law 1469 = .ok (.iconst 0, 1) := by decide +kernel
theorem dL_law_1470 : decode cL_law 1470 = .ok (.ireturn, 1) := by decide +kernel
theorem dL_law_1471 : decode cL_law 1471 = .ok (.goto 72, 3) := by decide +kernel
theorem dL_law_1474 : decode cL_law 1474 = .ok (.aload_n 1, 1) := by decide +kernel
theorem dL_law_1475 : decode cL_law 1475 = .ok (.aload_n 0, 1) := by decide +kernel
theorem dL_law_1476 : decode cL_law 1476 = .ok (.iload 4, 2) := by decide +kernel
theorem dL_law_1478 : decode cL_law 1478 = .ok (.iconst 1, 1) := by decide +kernel
theorem dL_law_1479 : decode cL_law 1479 = .ok (.iadd, 1) := by decide +kernel
theorem dL_law_1480 : decode cL_law 1480 = .ok (.iaload, 1) := by decide +kernel
theorem dL_law_1481 : decode cL_law 1481 = .ok (.aload_n 3, 1) := by decide +kernel
theorem dL_law_1482 : decode cL_law 1482 = .ok (.invokestatic 173, 3) := by decide +kernel
theorem dL_law_1485 : decode cL_law 1485 = .ok (.istore 5, 2) := by decide +kernel
theorem dL_law_1487 : decode cL_law 1487 = .ok (.aload_n 2, 1) := by decide +kernel
theorem dL_law_1488 : decode cL_law 1488 = .ok (.aload_n 0, 1) := by decide +kernel
theorem dL_law_1489 : decode cL_law 1489 = .ok (.iload 4, 2) := by decide +kernel
theorem dL_law_1491 : decode cL_law 1491 = .ok (.iconst 1, 1) := by decide +kernel
theorem dL_law_1492 : decode cL_law 1492 = .ok (.iadd, 1) := by decide +kernel
theorem dL_law_1493 : decode cL_law 1493 = .ok (.iaload, 1) := by decide +kernel
theorem dL_law_1494 : decode cL_law 1494 = .ok (.invokevirtual 175, 3) := by decide +kernel
theorem dL_law_1497 : decode cL_law 1497 = .ok (.istore 6, 2) := by decide +kernel
theorem dL_law_1499 : decode cL_law 1499 = .ok (.aload_n 2, 1) := by decide +kernel
theorem dL_law_1500 : decode cL_law 1500 = .ok (.invokevirtual 93, 3) := by decide +kernel
theorem dL_law_1503 : decode cL_law 1503 = .ok (.iload 5, 2) := by decide +kernel
theorem dL_law_1505 : decode cL_law 1505 = .ok (.if_icmp .eq 5, 3) := by decide +kernel
theorem dL_law_1508 : decode cL_law 1508 = .ok (.iconst 0, 1) := by decide +kernel
theorem dL_law_1509 : decode cL_law 1509 = .ok (.ireturn, 1) := by decide +kernel
theorem dL_law_1510 : decode cL_law 1510 = .ok (.iload 5, 2) := by decide +kernel
theorem dL_law_1512 : decode cL_law 1512 = .ok (.ifCond .ne 15, 3) := by decide +kernel
theorem dL_law_1515 : decode cL_law 1515 = .ok (.aload_n 3, 1) := by decide +kernel
theorem dL_law_1516 : decode cL_law 1516 = .ok (.iconst 0, 1) := by decide +kernel
theorem dL_law_1517 : decode cL_law 1517 = .ok (.laload, 1) := by decide +kernel
theorem dL_law_1518 : decode cL_law 1518 = .ok (.iload 6, 2) := by decide +kernel
theorem dL_law_1520 : decode cL_law 1520 = .ok (.i2l, 1) := by decide +kernel
theorem dL_law_1521 : decode cL_law 1521 = .ok (.lcmp, 1) := by decide +kernel
theorem dL_law_1522 : decode cL_law 1522 = .ok (.ifCond .eq 5, 3) := by decide +kernel
theorem dL_law_1525 : decode cL_law 1525 = .ok (.iconst 0, 1) := by decide +kernel
theorem dL_law_1526 : decode cL_law 1526 = .ok (.ireturn, 1) := by decide +kernel
theorem dL_law_1527 : decode cL_law 1527 = .ok (.goto 16, 3) := by decide +kernel
theorem dL_law_1530 : decode cL_law 1530 = .ok (.aload_n 1, 1) := by decide +kernel
theorem dL_law_1531 : decode cL_law 1531 = .ok (.invokevirtual 176, 3) := by decide +kernel
theorem dL_law_1534 : decode cL_law 1534 = .ok (.aload_n 2, 1) := by decide +kernel
theorem dL_law_1535 : decode cL_law 1535 = .ok (.invokevirtual 179, 3) := by decide +kernel
theorem dL_law_1538 : decode cL_law 1538 = .ok (.if_icmp .eq 5, 3) := by decide +kernel
theorem dL_law_1541 : decode cL_law 1541 = .ok (.iconst 0, 1) := by decide +kernel
theorem dL_law_1542 : decode cL_law 1542 = .ok (.ireturn, 1) := by decide +kernel
theorem dL_law_1543 : decode cL_law 1543 = .ok (.iinc 4 4, 3) := by decide +kernel
theorem dL_law_1546 : decode cL_law 1546 = .ok (.goto (-1523), 3) := by decide +kernel
theorem dL_law_1549 : decode cL_law 1549 = .ok (.iconst 1, 1) := by decide +kernel
theorem dL_law_1550 : decode cL_law 1550 = .ok (.ireturn, 1) := by decide +kernel
end
section
/-! THE JUDGEMENT OF A METHOD'S BODY over a world that is told by handles: w k = some (address, what lies there). A world is never cut: a contract says what the world is behind it. -/
abbrev zE : Type := Nat × va_E
abbrev zW : Type := Nat → Option zE
/-- where new cells begin; classes and slots; the array classes (int, boolean, Object, long); the shared empty row of lists; the mirror of Object[] -/
abbrev zT : Type := Nat × va_G × (Nat → ClassId) × Nat × Nat
abbrev zMI : Type := MethodName × ByteArray × Nat × Option FieldType
def lwG : List Cond := lw_tbl.filter goodWord
theorem lwG_in {w : Cond} (h : w ∈ lw_tbl) (g : goodWord w = true) : w ∈ lwG := List.mem_filter.mpr ⟨h, g⟩
theorem lwG_good {w : Cond} (h : w ∈ lwG) : goodWord w = true := (List.mem_filter.mp h).2
theorem lwG_tbl {w : Cond} (h : w ∈ lwG) : w ∈ lw_tbl := (List.mem_filter.mp h).1
theorem lwG_sub {w : Cond} (hw : w ∈ lwG) : GoodIn lwG (w :: lwG) := fun v h => (List.mem_cons.mp h).elim (fun e => by rw [e]; exact ⟨hw, good_of_word (lwG_good hw)⟩) (fun h => ⟨h, good_of_word (lwG_good h)⟩)
def zA (z : zT) : Nat → Prop := fun q => z.1 ≤ q
def zTy (z : zT) : List (ClassId × FieldType) := [(z.2.2.1 0, .int), (z.2.2.1 1, .boolean), (z.2.2.1 2, .object "java/lang/Object"), (z.2.2.1 3, .long)]
def zCast : List (String × String) := [("HiringHall$Worker", "java/lang/Object"), ("java/lang/IllegalArgumentException", "java/lang/IllegalArgumentException"), ("java/lang/IllegalStateException", "java/lang/IllegalStateException"), ("java/util/NoSuchElementException", "java/util/NoSuchElementException")]
def zNot : List (String × String) := [("java/lang/IllegalArgumentException", "java/lang/IllegalStateException"), ("java/lang/IllegalArgumentException", "java/util/NoSuchElementException"), ("java/lang/IllegalStateException", "java/lang/IllegalArgumentException"), ("java/lang/IllegalStateException", "java/util/NoSuchElementException"), ("java/util/NoSuchElementException", "java/lang/IllegalArgumentException"), ("java/util/NoSuchElementException", "java/lang/IllegalStateException")]
def zStr : List (String × Nat × String) := [("HiringHall", 217, "boards are 0 to 3"), ("HiringHall", 219, "a set of skills is 0 to 31"), ("HiringHall", 73, "30 workers are signed on"), ("HiringHall", 212, "there is no such worker"), ("HiringHall", 221, "the worker is at work"), ("HiringHall", 117, "guaranteed hours are 0 to 400"), ("HiringHall", 133, "skills are 0 to 4"), ("HiringHall", 135, "there are 16 places"), ("HiringHall", 149, "a shift has 1 to 12 hours"), ("HiringHall", 223, "somebody is or has been at work in this shift"), ("HiringHall", 154, "the shift has no such hour"), ("HiringHall", 160, "the worker is not at work, or the hour is past"), ("HiringHall", 215, "there is no such place"), ("HiringHall", 176, "the place is filled")]
def zNest : Cond := .methodLinkNest "HiringHall" 24 ⟨"HiringHall$Matching", "<init>", "()V"⟩ "HiringHall"
def zDec : List MethodName := [⟨"java/lang/RuntimeException", "<init>", "(Ljava/lang/String;)V"⟩, ⟨"java/lang/Exception", "<init>", "(Ljava/lang/String;)V"⟩, ⟨"java/lang/Throwable", "<init>", "(Ljava/lang/String;)V"⟩]
/-- what every method of the run finds: classes, static fields that nobody writes, texts -/
def ZX (z : zT) (U : State) (H : Heap) : Prop :=
  va_K z.2.1 vwCl (zTy z) U ∧ vx_Zq Bundle.tN "UNASSIGNED_STACK" Bundle.steD (zA z) U H ∧ vx_Zq Bundle.tN "SUPPRESSED_SENTINEL" Bundle.listD (zA z) U H ∧
  va_Z "java/util/ArrayList" "DEFAULTCAPACITY_EMPTY_ELEMENTDATA" "[Ljava/lang/Object;" (.ref z.2.2.2.1) (zA z) U H ∧ (∃ fv, va_T (.object "java/lang/Object") z.2.2.2.1 0 fv (zA z) U H) ∧ va_Mi "[Ljava/lang/Object;" z.2.2.2.2 U ∧
  (∀ q ∈ zCast, va_Nw (.castable q.1 q.2) U) ∧ (∀ q ∈ zNot, va_Nc q.1 q.2 U) ∧ (∀ q ∈ zStr, ∃ sa, vk_R q.1 q.2.1 q.2.2 sa U) ∧ va_AO "java/lang/Object" U ∧ va_Dc U ∧ va_Nw zNest U ∧ ∀ x ∈ zDec, va_Nw (.declares x) U
theorem ZX.next {z : zT} {s U : State} {H : Heap} {locs : List Loc} (h : ZX z s s.heap) (hS : va_S (zA z) s.heap H locs) (hU : U.heap = H) (hW : s.WarmedH U.vm) : ZX z U U.heap := by
  subst hU
  have hq : ∀ a : Nat, a < s.heap.size → ¬ zA z a → U.heap[a]? = s.heap[a]? := hS.2.1
  obtain ⟨h1, h2, h3, h4, ⟨fv, h5⟩, h6, h7, h8, h9, h10, h11, h12, h13⟩ := h
  exact ⟨h1.moved hW.alike, (h2.kept hq).moved hW.alike, (h3.kept hq).moved hW.alike, (h4.kept hq).moved hW.alike, ⟨fv, (h5.kept hq).moved hW.alike⟩, h6.moved hW.alike, fun q m => (h7 q m).warmC hW, fun q m => (h8 q m).moved hW.alike, fun q m => by obtain ⟨sa, k⟩ := h9 q m; exact ⟨sa, k.warm hW⟩, h10.moved hW.alike, h11.moved hW.alike, va_Nw.warmM hW h12, fun x m => (h13 x m).warmD hW⟩
theorem ZX.calling {z : zT} {U : State} {H : Heap} {g : JFrame} {mk : MethodId} {a : Array Value} (h : ZX z U H) : ZX z (U.calling g mk a) H := by
  have hA : U.vm.Alike (U.calling g mk a).vm := Vm.Alike.refl U.vm
  obtain ⟨h1, h2, h3, h4, ⟨fv, h5⟩, h6, h7, h8, h9, h10, h11, h12, h13⟩ := h
  exact ⟨h1.moved hA, h2.moved hA, h3.moved hA, h4.moved hA, ⟨fv, h5.moved hA⟩, h6.moved hA, fun q m => va_Nw.same rfl rfl (h7 q m), fun q m => (h8 q m).moved hA, fun q m => by obtain ⟨sa, k⟩ := h9 q m; exact ⟨sa, vk_R.same rfl k⟩, h10.moved hA, h11.moved hA, va_Nw.same rfl rfl h12, fun x m => va_Nw.same rfl rfl (h13 x m)⟩
/-- the heap holds the world w -/
def ZR (z : zT) (w : zW) (H : Heap) : Prop := ∃ ws : va_W, va_P z.2.1 vwCl ws H ∧ va_D (zA z) ws ∧ (∀ (k : Nat) (q : zE), w k = some q → ∃ i : Nat, ws[i]? = some q) ∧ ∀ (j k : Nat) (p q : zE), w j = some p → w k = some q → p.1 = q.1 → j = k
theorem ZR.put {z : zT} {w : zW} {ws : va_W} {H1 : Heap} {i k a : Nat} {e0 e : va_E} (hP : va_P z.2.1 vwCl (ws.set i (a, e)) H1) (hD : va_D (zA z) (ws.set i (a, e))) (hin : ∀ (k : Nat) (q : zE), w k = some q → ∃ i : Nat, ws[i]? = some q) (hinj : ∀ (j k : Nat) (p q : zE), w j = some p → w k = some q → p.1 = q.1 → j = k) (hi : ws[i]? = some (a, e0)) (hk : w k = some (a, e0)) : ZR z (va_up w k (some (a, e))) H1 := by
  have hl := (List.getElem?_eq_some_iff.mp hi).1
  refine ⟨_, hP, hD, fun j q hj => ?_, fun j j' p q hp hq hpq => ?_⟩
  · by_cases ej : j = k
    · subst ej
      rw [va_up_self] at hj
      cases hj
      exact ⟨i, List.getElem?_set_self hl⟩
    · rw [va_up_ne _ _ ej] at hj
      obtain ⟨i', hi'⟩ := hin j q hj
      have hne : i ≠ i' := by
        intro h
        subst h
        rw [hi] at hi'
        cases hi'
        exact ej (hinj j k _ _ hj hk rfl)
      exact ⟨i', by rw [List.getElem?_set_ne hne]; exact hi'⟩
  · have key : ∀ (j : Nat) (q : zE), va_up w k (some (a, e)) j = some q → ∃ q0 : zE, w j = some q0 ∧ q0.1 = q.1 := by
      intro j q hj
      by_cases ej : j = k
      · subst ej
        rw [va_up_self] at hj
        cases hj
        exact ⟨_, hk, rfl⟩
      · rw [va_up_ne _ _ ej] at hj
        exact ⟨q, hj, rfl⟩
    obtain ⟨p0, h1, h2⟩ := key j p hp
    obtain ⟨q0, h3, h4⟩ := key j' q hq
    exact hinj j j' p0 q0 h1 h3 (h2.trans (hpq.trans h4.symm))
theorem ZR.push {z : zT} {w : zW} {ws : va_W} {H1 : Heap} {a : Nat} {e : va_E} (k : Nat) (hP : va_P z.2.1 vwCl (ws ++ [(a, e)]) H1) (hD : va_D (zA z) (ws ++ [(a, e)])) (hin : ∀ (k : Nat) (q : zE), w k = some q → ∃ i : Nat, ws[i]? = some q) (hinj : ∀ (j k : Nat) (p q : zE), w j = some p → w k = some q → p.1 = q.1 → j = k) : (∀ (j : Nat) (q : zE), w j = some q → q.1 ≠ a) ∧ ZR z (va_up w k (some (a, e))) H1 := by
  have hz : (ws ++ [(a, e)])[ws.length]? = some (a, e) := by rw [List.getElem?_append_right (Nat.le_refl _), Nat.sub_self]; rfl
  have hold : ∀ (j : Nat) (q : zE), w j = some q → ∃ i : Nat, i < ws.length ∧ (ws ++ [(a, e)])[i]? = some q := by
    intro j q hj
    obtain ⟨i, hi⟩ := hin j q hj
    have hl := (List.getElem?_eq_some_iff.mp hi).1
    exact ⟨i, hl, by rw [List.getElem?_append_left hl]; exact hi⟩
  have hfr : ∀ (j : Nat) (q : zE), w j = some q → q.1 ≠ a := by
    intro j q hj he
    obtain ⟨i, hl, hi⟩ := hold j q hj
    have := hD.1 i ws.length q (a, e) hi hz he
    omega
  refine ⟨hfr, _, hP, hD, fun j q hj => ?_, fun j j' p q hp hq hpq => ?_⟩
  · by_cases ej : j = k
    · subst ej
      rw [va_up_self] at hj
      cases hj
      exact ⟨_, hz⟩
    · rw [va_up_ne _ _ ej] at hj
      obtain ⟨i, -, hi⟩ := hold j q hj
      exact ⟨i, hi⟩
  · by_cases ej : j = k <;> by_cases ej' : j' = k
    · rw [ej, ej']
    · subst ej
      rw [va_up_self] at hp
      rw [va_up_ne _ _ ej'] at hq
      cases hp
      exact absurd hpq.symm (hfr j' q hq)
    · subst ej'
      rw [va_up_self] at hq
      rw [va_up_ne _ _ ej] at hp
      cases hq
      exact absurd hpq (hfr j p hp)
    · rw [va_up_ne _ _ ej] at hp
      rw [va_up_ne _ _ ej'] at hq
      exact hinj j j' p q hp hq hpq
/-- fewer cells, or other handles -/
theorem ZR.sub {z : zT} {w w' : zW} {H : Heap} (h : ZR z w H) (g : Nat → Nat) (hg : ∀ (k : Nat) (q : zE), w' k = some q → w (g k) = some q) (hi : ∀ (j k : Nat) (p q : zE), w' j = some p → w' k = some q → g j = g k → j = k) : ZR z w' H := by
  obtain ⟨ws, h1, h2, h3, h4⟩ := h
  exact ⟨ws, h1, h2, fun k q hk => h3 _ q (hg k q hk), fun j k p q hj hk he => hi j k p q hj hk (h4 _ _ p q (hg j p hj) (hg k q hk) he)⟩
/-- what the places of a frame hold: none where nothing is known -/
def zL (ls : Array Slot) (L : List (Option Value)) : Prop := ls.size = L.length ∧ lv_wf ls ∧ ∀ (i : Nat) (v : Value), L[i]? = some (some v) → ls[i]? = some (.val v) ∧ v.category = 1
def zlv (L : List (Option Value)) : List (Nat × Value) := (List.range L.length).filterMap (fun i => (L[i]?.bind id).map (fun v => (i, v)))
theorem zlv_mem {L : List (Option Value)} {i : Nat} {v : Value} : (i, v) ∈ zlv L ↔ L[i]? = some (some v) := by
  constructor
  · intro h
    obtain ⟨j, hj, hh⟩ := List.mem_filterMap.mp h
    cases hL : L[j]? with
    | none => rw [hL] at hh; cases hh
    | some o =>
      rw [hL] at hh
      cases o with
      | none => cases hh
      | some x =>
        cases hh
        exact hL
  · intro h
    exact List.mem_filterMap.mpr ⟨i, List.mem_range.mpr (List.getElem?_eq_some_iff.mp h).1, by rw [h]; rfl⟩
theorem zL.has {ls : Array Slot} {L : List (Option Value)} (h : zL ls L) : lv_has ls L.length (zlv L) := ⟨h.1, h.2.1, fun q hq => (h.2.2 q.1 q.2 (zlv_mem.mp hq)).1⟩
theorem zL.set {ls ls' : Array Slot} {L : List (Option Value)} {i : Nat} {v : Value} {lv' : List (Nat × Value)} (h : zL ls L) (hv : v.category = 1) (hh : lv_has ls' L.length lv') (h0 : (i, v) ∈ lv') (h1 : ∀ (j : Nat) (x : Value), j ≠ i → x.category = 1 → L[j]? = some (some x) → (j, x) ∈ lv') : zL ls' (L.set i (some v)) := by
  refine ⟨by rw [hh.1, List.length_set], hh.2.1, fun j x hj => ?_⟩
  rw [List.getElem?_set] at hj
  by_cases e : i = j
  · rw [if_pos e] at hj
    split at hj
    · cases hj
      subst e
      exact ⟨hh.2.2 _ h0, hv⟩
    · cases hj
  · rw [if_neg e] at hj
    have h2 := (h.2.2 j x hj).2
    exact ⟨hh.2.2 _ (h1 j x (Ne.symm e) h2 hj), h2⟩
theorem zL.st {L : List (Option Value)} {i : Nat} {v : Value} (j : Nat) (x : Value) (e : j ≠ i) (hc : x.category = 1) (hj : L[j]? = some (some x)) : (j, x) ∈ (i, v) :: (zlv L).filter (fun q => !(q.1 == i) && !(q.1 + 1 == i && q.2.category == 2)) := by
  refine List.mem_cons_of_mem _ (List.mem_filter.mpr ⟨zlv_mem.mpr hj, ?_⟩)
  simp [hc, e]
theorem zL.args {vs : List Value} {n : Nat} (hc : ∀ v ∈ vs, v.category = 1) (hn : vs.length ≤ n) : ∀ {ls : Array Slot}, ls = (lg_sl vs ++ List.replicate (n - (lg_sl vs).length) Slot.unset).toArray → zL ls (vs.map some ++ List.replicate (n - vs.length) none) := by
  intro ls hls
  have hlen : (lg_sl vs).length = vs.length := by
    clear hn hls
    induction vs with
    | nil => rfl
    | cons v vs ih =>
      have h2 := ih (fun x hx => hc x (List.mem_cons_of_mem _ hx))
      have h1 := hc v List.mem_cons_self
      simp only [lg_sl, List.flatMap_cons, List.length_append, List.length_cons] at h2 ⊢
      rw [h2]
      simp [h1]
      omega
  have h := lv_entry vs (n := n) (by rw [hlen]; exact hn)
  rw [← hls] at h
  have hmem : ∀ (vs : List Value) (k i : Nat) (v : Value), (∀ v ∈ vs, v.category = 1) → vs[i]? = some v → (k + i, v) ∈ lv_args k vs := by
    intro vs
    induction vs with
    | nil => intro k i v _ h; simp at h
    | cons x vs ih =>
      intro k i v hc h
      have hx := hc x List.mem_cons_self
      cases i with
      | zero =>
        simp at h
        subst h
        simp [lv_args]
      | succ i =>
        simp at h
        have := ih (k + 1) i v (fun y hy => hc y (List.mem_cons_of_mem _ hy)) h
        simp only [lv_args, hx]
        rw [if_neg (by decide)]
        refine List.mem_cons_of_mem _ ?_
        rw [show k + (i + 1) = k + 1 + i by omega]
        exact this
  refine ⟨?_, h.2.1, fun i v hi => ?_⟩
  · rw [h.1]
    simp
    omega
  · have hi2 : vs[i]? = some v := by
      by_cases hl : i < vs.length
      · rw [List.getElem?_append_left (by simpa using hl), List.getElem?_map] at hi
        cases hv : vs[i]? with
        | none => rw [hv] at hi; cases hi
        | some y => rw [hv] at hi; cases hi; rfl
      · rw [List.getElem?_append_right (by simpa using hl), List.getElem?_replicate] at hi
        split at hi <;> cases hi
    have := hmem vs 0 i v hc hi2
    rw [Nat.zero_add] at this
    exact ⟨h.2.2 _ this, hc v (List.mem_of_getElem? hi2)⟩
end
section
/-! ROWS: an instruction each, over the judgement ZJ -/
section ZROWS
variable {p : Program} {l : Launch} {e : Env} {R : Room} {s : State} {m : MethodId} {args : Array Value} {below : List Frame} {meth : Method} {c : Code} {cells slots : Nat} {Q : State → Prop}
variable {z : zT} {cc : ByteArray} {own : String} {nL : Nat} {pc : Nat} {L : List (Option Value)} {st : List Value} {w : zW}
def ZJ (z : zT) (p : Program) (l : Launch) (e : Env) (R : Room) (s : State) (m : MethodId) (args : Array Value) (below : List Frame) (meth : Method) (c : Code) (Q : State → Prop) (cells slots pc : Nat) (L : List (Option Value)) (st : List Value) (w : zW) : Prop :=
  ∀ (H : Heap) (locs : List Loc) (ls : Array Slot), ZR z w H → va_S (zA z) s.heap H locs → zL ls L → W p l e R s m args below meth c H locs cells slots Q (F0 m pc ls st)
/-- a thrown object of the kind E is over the frame at pc -/
def ZXJ (z : zT) (p : Program) (l : Launch) (e : Env) (R : Room) (s : State) (m : MethodId) (args : Array Value) (below : List Frame) (meth : Method) (c : Code) (Q : State → Prop) (cells slots pc : Nat) (L : List (Option Value)) (st : List Value) (w : zW) (E : String) : Prop :=
  ∀ (H : Heap) (locs : List Loc) (ls : Array Slot) (ce : Cell) (q9 : Addr), ZR z w H → va_S (zA z) s.heap H locs → zL ls L → H[q9]? = some ce → ce.vm = .none → s.vm.findClass E = some ce.cls → vx_W p l e R s m args below meth c H locs cells slots Q (F0 m pc ls st) q9
/-- the fixed things of a body -/
def zC (z : zT) (p : Program) (l : Launch) (s : State) (m : MethodId) (args : Array Value) (meth : Method) (c : Code) (cc : ByteArray) (own : String) (nL : Nat) : Prop :=
  p.tables.exec = Jvm.exec ∧ c.code = cc ∧ s.vm.findClass own = some m.cls ∧ (∀ w ∈ lwG, w.before args s = true) ∧ ZX z s s.heap ∧ z.1 ≤ s.heap.size ∧ meth.locks = false ∧ l.stackTraces = false ∧ c.maxLocals = nL
theorem zC.ex (C : zC z p l s m args meth c cc own nL) : p.tables.exec = Jvm.exec := C.1
theorem zC.cd (C : zC z p l s m args meth c cc own nL) : c.code = cc := C.2.1
theorem zC.ow (C : zC z p l s m args meth c cc own nL) : s.vm.findClass own = some m.cls := C.2.2.1
theorem zC.ts (C : zC z p l s m args meth c cc own nL) : ∀ w ∈ lwG, w.before args s = true := C.2.2.2.1
theorem zC.X (C : zC z p l s m args meth c cc own nL) : ZX z s s.heap := C.2.2.2.2.1
theorem zC.K (C : zC z p l s m args meth c cc own nL) : va_K z.2.1 vwCl (zTy z) s := C.2.2.2.2.1.1
theorem zC.sz (C : zC z p l s m args meth c cc own nL) : z.1 ≤ s.heap.size := C.2.2.2.2.2.1
theorem zC.lk (C : zC z p l s m args meth c cc own nL) : meth.locks = false := C.2.2.2.2.2.2.1
theorem zC.tr (C : zC z p l s m args meth c cc own nL) : l.stackTraces = false := C.2.2.2.2.2.2.2.1
theorem zC.ml (C : zC z p l s m args meth c cc own nL) : c.maxLocals = nL := C.2.2.2.2.2.2.2.2
theorem zC.A (C : zC z p l s m args meth c cc own nL) : ∀ q : Nat, s.heap.size ≤ q → zA z q := fun q h => Nat.le_trans C.sz h
theorem z_iconst (C : zC z p l s m args meth c cc own nL) {n : Int} (v : Int32) (hdg : decode cc pc = .ok (.iconst n, 1)) (hv : Int32.ofInt n = v) (kk : ZJ z p l e R s m args below meth c Q cells slots (pc + 1) L (.int v :: st) w) : ZJ z p l e R s m args below meth c Q cells slots pc L st w := fun H locs ls hR hS hL => lv_iconst C.ex C.cd hdg hv (kk H locs ls hR hS hL)
theorem z_bipush (C : zC z p l s m args meth c cc own nL) {n : Int} (v : Int32) (hdg : decode cc pc = .ok (.bipush n, 2)) (hv : (Int8.ofInt n).toInt32 = v) (kk : ZJ z p l e R s m args below meth c Q cells slots (pc + 2) L (.int v :: st) w) : ZJ z p l e R s m args below meth c Q cells slots pc L st w := fun H locs ls hR hS hL => lv_bipush C.ex C.cd hdg hv (kk H locs ls hR hS hL)
theorem z_sipush (C : zC z p l s m args meth c cc own nL) {n : Int} (v : Int32) (hdg : decode cc pc = .ok (.sipush n, 3)) (hv : (Int16.ofInt n).toInt32 = v) (kk : ZJ z p l e R s m args below meth c Q cells slots (pc + 3) L (.int v :: st) w) : ZJ z p l e R s m args below meth c Q cells slots pc L st w := fun H locs ls hR hS hL => lv_sipush C.ex C.cd hdg hv (kk H locs ls hR hS hL)
theorem z_lconst (C : zC z p l s m args meth c cc own nL) {n : Fin 2} (v : Int64) (hdg : decode cc pc = .ok (.lconst n, 1)) (hv : Int64.ofNat (n : Nat) = v) (kk : ZJ z p l e R s m args below meth c Q cells slots (pc + 1) L (.long v :: st) w) : ZJ z p l e R s m args below meth c Q cells slots pc L st w := fun H locs ls hR hS hL => lv_lconst C.ex C.cd hdg hv (kk H locs ls hR hS hL)
theorem z_null (C : zC z p l s m args meth c cc own nL)  (hdg : decode cc pc = .ok (.aconst_null, 1))  (kk : ZJ z p l e R s m args below meth c Q cells slots (pc + 1) L (.null :: st) w) : ZJ z p l e R s m args below meth c Q cells slots pc L st w := fun H locs ls hR hS hL => lv_null C.ex C.cd hdg (kk H locs ls hR hS hL)
theorem z_ldc (C : zC z p l s m args meth c cc own nL) {index : Nat} (v : Int32) (hdg : decode cc pc = .ok (.ldc index, 2)) (hw : Cond.constant own index v ∈ lwG) (kk : ZJ z p l e R s m args below meth c Q cells slots (pc + 2) L (.int v :: st) w) : ZJ z p l e R s m args below meth c Q cells slots pc L st w := fun H locs ls hR hS hL => lv_ldc C.ex C.cd C.ow (C.ts _ hw) hdg (kk H locs ls hR hS hL)
theorem z_ldcM (C : zC z p l s m args meth c cc own nL) {index : Nat} (hdg : decode cc pc = .ok (.ldc index, 2)) (hw : Cond.classLink own index "[Ljava/lang/Object;" ∈ lwG) (kk : ZJ z p l e R s m args below meth c Q cells slots (pc + 2) L (.ref z.2.2.2.2 :: st) w) : ZJ z p l e R s m args below meth c Q cells slots pc L st w := fun H locs ls hR hS hL => va_ldcM C.ex C.cd C.ow (C.ts _ hw) C.X.2.2.2.2.2.1 hdg (kk H locs ls hR hS hL)
theorem z_iload_n (C : zC z p l s m args meth c cc own nL) {k : Fin 4} {x : Int32} (hdg : decode cc pc = .ok (.iload_n k, 1)) (hl : L[(k : Nat)]? = some (some (.int x))) (kk : ZJ z p l e R s m args below meth c Q cells slots (pc + 1) L (.int x :: st) w) : ZJ z p l e R s m args below meth c Q cells slots pc L st w := fun H locs ls hR hS hL => lv_iload_n C.ex C.cd hdg rfl (hL.2.2 _ _ hl).1 (kk H locs ls hR hS hL)
theorem z_iload (C : zC z p l s m args meth c cc own nL) {i : Nat} {x : Int32} (hdg : decode cc pc = .ok (.iload i, 2)) (hl : L[i]? = some (some (.int x))) (kk : ZJ z p l e R s m args below meth c Q cells slots (pc + 2) L (.int x :: st) w) : ZJ z p l e R s m args below meth c Q cells slots pc L st w := fun H locs ls hR hS hL => lv_iload C.ex C.cd hdg (hL.2.2 _ _ hl).1 (kk H locs ls hR hS hL)
theorem z_aload_n (C : zC z p l s m args meth c cc own nL) {k : Fin 4} {x : Nat} (hdg : decode cc pc = .ok (.aload_n k, 1)) (hl : L[(k : Nat)]? = some (some (.ref x))) (kk : ZJ z p l e R s m args below meth c Q cells slots (pc + 1) L (.ref x :: st) w) : ZJ z p l e R s m args below meth c Q cells slots pc L st w := fun H locs ls hR hS hL => lv_aload_n C.ex C.cd hdg rfl (hL.2.2 _ _ hl).1 (kk H locs ls hR hS hL)
theorem z_aload (C : zC z p l s m args meth c cc own nL) {i : Nat} {x : Nat} (hdg : decode cc pc = .ok (.aload i, 2)) (hl : L[i]? = some (some (.ref x))) (kk : ZJ z p l e R s m args below meth c Q cells slots (pc + 2) L (.ref x :: st) w) : ZJ z p l e R s m args below meth c Q cells slots pc L st w := fun H locs ls hR hS hL => lv_aload C.ex C.cd hdg (hL.2.2 _ _ hl).1 (kk H locs ls hR hS hL)
theorem z_istore_n (C : zC z p l s m args meth c cc own nL) {k : Fin 4} {x : Int32} {L1 : List (Option Value)} (hdg : decode cc pc = .ok (.istore_n k, 1)) (hk : (k : Nat) < L.length) (hset : L.set k (some (.int x)) = L1) (kk : ZJ z p l e R s m args below meth c Q cells slots (pc + 1) L1 st w) : ZJ z p l e R s m args below meth c Q cells slots pc L (.int x :: st) w := fun H locs ls hR hS hL => lv_istore_n C.ex C.cd hdg rfl hL.has hk rfl (fun ls2 hh => kk H locs ls2 hR hS (hset ▸ hL.set rfl hh List.mem_cons_self zL.st))
theorem z_istore (C : zC z p l s m args meth c cc own nL) {k : Nat} {x : Int32} {L1 : List (Option Value)} (hdg : decode cc pc = .ok (.istore k, 2)) (hk : k < L.length) (hset : L.set k (some (.int x)) = L1) (kk : ZJ z p l e R s m args below meth c Q cells slots (pc + 2) L1 st w) : ZJ z p l e R s m args below meth c Q cells slots pc L (.int x :: st) w := fun H locs ls hR hS hL => lv_istore C.ex C.cd hdg hL.has hk rfl (fun ls2 hh => kk H locs ls2 hR hS (hset ▸ hL.set rfl hh List.mem_cons_self zL.st))
theorem z_astore_n (C : zC z p l s m args meth c cc own nL) {k : Fin 4} {x : Nat} {L1 : List (Option Value)} (hdg : decode cc pc = .ok (.astore_n k, 1)) (hk : (k : Nat) < L.length) (hset : L.set k (some (.ref x)) = L1) (kk : ZJ z p l e R s m args below meth c Q cells slots (pc + 1) L1 st w) : ZJ z p l e R s m args below meth c Q cells slots pc L (.ref x :: st) w := fun H locs ls hR hS hL => lv_astore_n C.ex C.cd hdg rfl hL.has hk rfl (fun ls2 hh => kk H locs ls2 hR hS (hset ▸ hL.set rfl hh List.mem_cons_self zL.st))
theorem z_astore (C : zC z p l s m args meth c cc own nL) {k : Nat} {x : Nat} {L1 : List (Option Value)} (hdg : decode cc pc = .ok (.astore k, 2)) (hk : k < L.length) (hset : L.set k (some (.ref x)) = L1) (kk : ZJ z p l e R s m args below meth c Q cells slots (pc + 2) L1 st w) : ZJ z p l e R s m args below meth c Q cells slots pc L (.ref x :: st) w := fun H locs ls hR hS hL => lv_astore C.ex C.cd hdg hL.has hk rfl (fun ls2 hh => kk H locs ls2 hR hS (hset ▸ hL.set rfl hh List.mem_cons_self zL.st))
theorem z_iinc (C : zC z p l s m args meth c cc own nL) {i : Nat} {n : Int} {x : Int32} (v : Int32) {L1 : List (Option Value)} (hdg : decode cc pc = .ok (.iinc i n, 3)) (hl : L[i]? = some (some (.int x))) (hv : x + Int32.ofInt n = v) (hset : L.set i (some (.int v)) = L1) (kk : ZJ z p l e R s m args below meth c Q cells slots (pc + 3) L1 st w) : ZJ z p l e R s m args below meth c Q cells slots pc L st w := fun H locs ls hR hS hL => lv_iinc (lv := (i, .int x) :: zlv L) C.ex C.cd hdg ⟨hL.1, hL.2.1, fun q hq => (List.mem_cons.mp hq).elim (fun h => by rw [h]; exact (hL.2.2 _ _ hl).1) (fun h => hL.has.2.2 q h)⟩ (k := 0) rfl hv (List.getElem?_eq_some_iff.mp hl).1 rfl (fun ls2 hh => kk H locs ls2 hR hS (hset ▸ hL.set rfl hh List.mem_cons_self (fun j y e hc hj => List.mem_cons_of_mem _ (List.mem_filter.mpr ⟨List.mem_cons_of_mem _ (zlv_mem.mpr hj), by simp [hc, e]⟩))))
theorem z_iadd (C : zC z p l s m args meth c cc own nL) {x y : Int32} (hdg : decode cc pc = .ok (.iadd, 1))  (kk : ZJ z p l e R s m args below meth c Q cells slots (pc + 1) L (.int (x + y) :: st) w) : ZJ z p l e R s m args below meth c Q cells slots pc L (.int y :: .int x :: st) w := fun H locs ls hR hS hL => lv_iadd C.ex C.cd hdg (kk H locs ls hR hS hL)
theorem z_isub (C : zC z p l s m args meth c cc own nL) {x y : Int32} (hdg : decode cc pc = .ok (.isub, 1))  (kk : ZJ z p l e R s m args below meth c Q cells slots (pc + 1) L (.int (x - y) :: st) w) : ZJ z p l e R s m args below meth c Q cells slots pc L (.int y :: .int x :: st) w := fun H locs ls hR hS hL => lv_isub C.ex C.cd hdg (kk H locs ls hR hS hL)
theorem z_iand (C : zC z p l s m args meth c cc own nL) {x y : Int32} (hdg : decode cc pc = .ok (.iand, 1))  (kk : ZJ z p l e R s m args below meth c Q cells slots (pc + 1) L (.int (x &&& y) :: st) w) : ZJ z p l e R s m args below meth c Q cells slots pc L (.int y :: .int x :: st) w := fun H locs ls hR hS hL => lv_iand C.ex C.cd hdg (kk H locs ls hR hS hL)
theorem z_ixor (C : zC z p l s m args meth c cc own nL) {x y : Int32} (hdg : decode cc pc = .ok (.ixor, 1))  (kk : ZJ z p l e R s m args below meth c Q cells slots (pc + 1) L (.int (x ^^^ y) :: st) w) : ZJ z p l e R s m args below meth c Q cells slots pc L (.int y :: .int x :: st) w := fun H locs ls hR hS hL => lv_ixor C.ex C.cd hdg (kk H locs ls hR hS hL)
theorem z_ishl (C : zC z p l s m args meth c cc own nL) {x y : Int32} (hdg : decode cc pc = .ok (.ishl, 1))  (kk : ZJ z p l e R s m args below meth c Q cells slots (pc + 1) L (.int (x <<< (y &&& 31)) :: st) w) : ZJ z p l e R s m args below meth c Q cells slots pc L (.int y :: .int x :: st) w := fun H locs ls hR hS hL => lv_ishl C.ex C.cd hdg (kk H locs ls hR hS hL)
theorem z_ishr (C : zC z p l s m args meth c cc own nL) {x y : Int32} (hdg : decode cc pc = .ok (.ishr, 1))  (kk : ZJ z p l e R s m args below meth c Q cells slots (pc + 1) L (.int (x >>> (y &&& 31)) :: st) w) : ZJ z p l e R s m args below meth c Q cells slots pc L (.int y :: .int x :: st) w := fun H locs ls hR hS hL => lv_ishr C.ex C.cd hdg (kk H locs ls hR hS hL)
theorem z_i2l (C : zC z p l s m args meth c cc own nL) {x : Int32} (hdg : decode cc pc = .ok (.i2l, 1))  (kk : ZJ z p l e R s m args below meth c Q cells slots (pc + 1) L (.long x.toInt64 :: st) w) : ZJ z p l e R s m args below meth c Q cells slots pc L (.int x :: st) w := fun H locs ls hR hS hL => lv_i2l C.ex C.cd hdg rfl (kk H locs ls hR hS hL)
theorem z_dup (C : zC z p l s m args meth c cc own nL) {va : Value} (hdg : decode cc pc = .ok (.dup, 1)) (hva : va.category = 1) (kk : ZJ z p l e R s m args below meth c Q cells slots (pc + 1) L (va :: va :: st) w) : ZJ z p l e R s m args below meth c Q cells slots pc L (va :: st) w := fun H locs ls hR hS hL => lv_dup C.ex C.cd hdg hva (kk H locs ls hR hS hL)
theorem z_pop (C : zC z p l s m args meth c cc own nL) {va : Value} (hdg : decode cc pc = .ok (.pop, 1)) (hva : va.category = 1) (kk : ZJ z p l e R s m args below meth c Q cells slots (pc + 1) L st w) : ZJ z p l e R s m args below meth c Q cells slots pc L (va :: st) w := fun H locs ls hR hS hL => lv_pop C.ex C.cd hdg hva (kk H locs ls hR hS hL)
theorem z_dup2 (C : zC z p l s m args meth c cc own nL) {va vb : Value} (hdg : decode cc pc = .ok (.dup2, 1)) (hva : va.category = 1) (hvb : vb.category = 1) (kk : ZJ z p l e R s m args below meth c Q cells slots (pc + 1) L (va :: vb :: va :: vb :: st) w) : ZJ z p l e R s m args below meth c Q cells slots pc L (va :: vb :: st) w := fun H locs ls hR hS hL => lv_dup2_11 C.ex C.cd hdg hva hvb (kk H locs ls hR hS hL)
theorem z_dup_x1 (C : zC z p l s m args meth c cc own nL) {va vb : Value} (hdg : decode cc pc = .ok (.dup_x1, 1)) (hva : va.category = 1) (hvb : vb.category = 1) (kk : ZJ z p l e R s m args below meth c Q cells slots (pc + 1) L (va :: vb :: va :: st) w) : ZJ z p l e R s m args below meth c Q cells slots pc L (va :: vb :: st) w := fun H locs ls hR hS hL => lv_dup_x1 C.ex C.cd hdg hva hvb (kk H locs ls hR hS hL)
theorem z_goto (C : zC z p l s m args meth c cc own nL) {off : Int} (tgt : Nat) (hdg : decode cc pc = .ok (.goto off, 3)) (ht : (pc : Int) + off = (tgt : Int)) (kk : ZJ z p l e R s m args below meth c Q cells slots tgt L st w) : ZJ z p l e R s m args below meth c Q cells slots pc L st w := fun H locs ls hR hS hL => lv_goto C.ex C.cd hdg ht (kk H locs ls hR hS hL)
theorem z_if_eq (C : zC z p l s m args meth c cc own nL) {x : Int32} {off : Int} (tgt : Nat) (hdg : decode cc pc = .ok (.ifCond .eq off, 3)) (ht : (pc : Int) + off = (tgt : Int)) (kt : x = 0 → ZJ z p l e R s m args below meth c Q cells slots tgt L st w) (kf : ¬ x = 0 → ZJ z p l e R s m args below meth c Q cells slots (pc + 3) L st w) : ZJ z p l e R s m args below meth c Q cells slots pc L (.int x :: st) w := fun H locs ls hR hS hL => lv_if_eq C.ex C.cd hdg ht (fun q => kt q H locs ls hR hS hL) (fun q => kf q H locs ls hR hS hL)
theorem z_if_ne (C : zC z p l s m args meth c cc own nL) {x : Int32} {off : Int} (tgt : Nat) (hdg : decode cc pc = .ok (.ifCond .ne off, 3)) (ht : (pc : Int) + off = (tgt : Int)) (kt : ¬ x = 0 → ZJ z p l e R s m args below meth c Q cells slots tgt L st w) (kf : x = 0 → ZJ z p l e R s m args below meth c Q cells slots (pc + 3) L st w) : ZJ z p l e R s m args below meth c Q cells slots pc L (.int x :: st) w := fun H locs ls hR hS hL => lv_if_ne C.ex C.cd hdg ht (fun q => kt q H locs ls hR hS hL) (fun q => kf q H locs ls hR hS hL)
theorem z_if_lt (C : zC z p l s m args meth c cc own nL) {x : Int32} {off : Int} (tgt : Nat) (hdg : decode cc pc = .ok (.ifCond .lt off, 3)) (ht : (pc : Int) + off = (tgt : Int)) (kt : x < 0 → ZJ z p l e R s m args below meth c Q cells slots tgt L st w) (kf : ¬ x < 0 → ZJ z p l e R s m args below meth c Q cells slots (pc + 3) L st w) : ZJ z p l e R s m args below meth c Q cells slots pc L (.int x :: st) w := fun H locs ls hR hS hL => lv_if_lt C.ex C.cd hdg ht (fun q => kt q H locs ls hR hS hL) (fun q => kf q H locs ls hR hS hL)
theorem z_if_ge (C : zC z p l s m args meth c cc own nL) {x : Int32} {off : Int} (tgt : Nat) (hdg : decode cc pc = .ok (.ifCond .ge off, 3)) (ht : (pc : Int) + off = (tgt : Int)) (kt : 0 ≤ x → ZJ z p l e R s m args below meth c Q cells slots tgt L st w) (kf : ¬ 0 ≤ x → ZJ z p l e R s m args below meth c Q cells slots (pc + 3) L st w) : ZJ z p l e R s m args below meth c Q cells slots pc L (.int x :: st) w := fun H locs ls hR hS hL => lv_if_ge C.ex C.cd hdg ht (fun q => kt q H locs ls hR hS hL) (fun q => kf q H locs ls hR hS hL)
theorem z_if_gt (C : zC z p l s m args meth c cc own nL) {x : Int32} {off : Int} (tgt : Nat) (hdg : decode cc pc = .ok (.ifCond .gt off, 3)) (ht : (pc : Int) + off = (tgt : Int)) (kt : 0 < x → ZJ z p l e R s m args below meth c Q cells slots tgt L st w) (kf : ¬ 0 < x → ZJ z p l e R s m args below meth c Q cells slots (pc + 3) L st w) : ZJ z p l e R s m args below meth c Q cells slots pc L (.int x :: st) w := fun H locs ls hR hS hL => lv_if_gt C.ex C.cd hdg ht (fun q => kt q H locs ls hR hS hL) (fun q => kf q H locs ls hR hS hL)
theorem z_if_le (C : zC z p l s m args meth c cc own nL) {x : Int32} {off : Int} (tgt : Nat) (hdg : decode cc pc = .ok (.ifCond .le off, 3)) (ht : (pc : Int) + off = (tgt : Int)) (kt : x ≤ 0 → ZJ z p l e R s m args below meth c Q cells slots tgt L st w) (kf : ¬ x ≤ 0 → ZJ z p l e R s m args below meth c Q cells slots (pc + 3) L st w) : ZJ z p l e R s m args below meth c Q cells slots pc L (.int x :: st) w := fun H locs ls hR hS hL => lv_if_le C.ex C.cd hdg ht (fun q => kt q H locs ls hR hS hL) (fun q => kf q H locs ls hR hS hL)
theorem z_icmp_eq (C : zC z p l s m args meth c cc own nL) {x y : Int32} {off : Int} (tgt : Nat) (hdg : decode cc pc = .ok (.if_icmp .eq off, 3)) (ht : (pc : Int) + off = (tgt : Int)) (kt : x = y → ZJ z p l e R s m args below meth c Q cells slots tgt L st w) (kf : ¬ x = y → ZJ z p l e R s m args below meth c Q cells slots (pc + 3) L st w) : ZJ z p l e R s m args below meth c Q cells slots pc L (.int y :: .int x :: st) w := fun H locs ls hR hS hL => lv_icmp_eq C.ex C.cd hdg ht (fun q => kt q H locs ls hR hS hL) (fun q => kf q H locs ls hR hS hL)
theorem z_icmp_ne (C : zC z p l s m args meth c cc own nL) {x y : Int32} {off : Int} (tgt : Nat) (hdg : decode cc pc = .ok (.if_icmp .ne off, 3)) (ht : (pc : Int) + off = (tgt : Int)) (kt : ¬ x = y → ZJ z p l e R s m args below meth c Q cells slots tgt L st w) (kf : x = y → ZJ z p l e R s m args below meth c Q cells slots (pc + 3) L st w) : ZJ z p l e R s m args below meth c Q cells slots pc L (.int y :: .int x :: st) w := fun H locs ls hR hS hL => lv_icmp_ne C.ex C.cd hdg ht (fun q => kt q H locs ls hR hS hL) (fun q => kf q H locs ls hR hS hL)
theorem z_icmp_lt (C : zC z p l s m args meth c cc own nL) {x y : Int32} {off : Int} (tgt : Nat) (hdg : decode cc pc = .ok (.if_icmp .lt off, 3)) (ht : (pc : Int) + off = (tgt : Int)) (kt : x < y → ZJ z p l e R s m args below meth c Q cells slots tgt L st w) (kf : ¬ x < y → ZJ z p l e R s m args below meth c Q cells slots (pc + 3) L st w) : ZJ z p l e R s m args below meth c Q cells slots pc L (.int y :: .int x :: st) w := fun H locs ls hR hS hL => lv_icmp_lt C.ex C.cd hdg ht (fun q => kt q H locs ls hR hS hL) (fun q => kf q H locs ls hR hS hL)
theorem z_icmp_ge (C : zC z p l s m args meth c cc own nL) {x y : Int32} {off : Int} (tgt : Nat) (hdg : decode cc pc = .ok (.if_icmp .ge off, 3)) (ht : (pc : Int) + off = (tgt : Int)) (kt : y ≤ x → ZJ z p l e R s m args below meth c Q cells slots tgt L st w) (kf : ¬ y ≤ x → ZJ z p l e R s m args below meth c Q cells slots (pc + 3) L st w) : ZJ z p l e R s m args below meth c Q cells slots pc L (.int y :: .int x :: st) w := fun H locs ls hR hS hL => lv_icmp_ge C.ex C.cd hdg ht (fun q => kt q H locs ls hR hS hL) (fun q => kf q H locs ls hR hS hL)
theorem z_icmp_gt (C : zC z p l s m args meth c cc own nL) {x y : Int32} {off : Int} (tgt : Nat) (hdg : decode cc pc = .ok (.if_icmp .gt off, 3)) (ht : (pc : Int) + off = (tgt : Int)) (kt : y < x → ZJ z p l e R s m args below meth c Q cells slots tgt L st w) (kf : ¬ y < x → ZJ z p l e R s m args below meth c Q cells slots (pc + 3) L st w) : ZJ z p l e R s m args below meth c Q cells slots pc L (.int y :: .int x :: st) w := fun H locs ls hR hS hL => lv_icmp_gt C.ex C.cd hdg ht (fun q => kt q H locs ls hR hS hL) (fun q => kf q H locs ls hR hS hL)
theorem z_icmp_le (C : zC z p l s m args meth c cc own nL) {x y : Int32} {off : Int} (tgt : Nat) (hdg : decode cc pc = .ok (.if_icmp .le off, 3)) (ht : (pc : Int) + off = (tgt : Int)) (kt : x ≤ y → ZJ z p l e R s m args below meth c Q cells slots tgt L st w) (kf : ¬ x ≤ y → ZJ z p l e R s m args below meth c Q cells slots (pc + 3) L st w) : ZJ z p l e R s m args below meth c Q cells slots pc L (.int y :: .int x :: st) w := fun H locs ls hR hS hL => lv_icmp_le C.ex C.cd hdg ht (fun q => kt q H locs ls hR hS hL) (fun q => kf q H locs ls hR hS hL)
theorem z_acmp_eq (C : zC z p l s m args meth c cc own nL) {x y : Nat} {off : Int} (tgt : Nat) (hdg : decode cc pc = .ok (.if_acmp .eq off, 3)) (ht : (pc : Int) + off = (tgt : Int)) (kt : x = y → ZJ z p l e R s m args below meth c Q cells slots tgt L st w) (kf : ¬ x = y → ZJ z p l e R s m args below meth c Q cells slots (pc + 3) L st w) : ZJ z p l e R s m args below meth c Q cells slots pc L (.ref y :: .ref x :: st) w := fun H locs ls hR hS hL => lv_acmp_eq (rx := some x) (ry := some y) C.ex C.cd hdg ht (fun q => kt (Option.some.inj q) H locs ls hR hS hL) (fun q => kf (fun h => q (by rw [h])) H locs ls hR hS hL)
theorem z_acmp_ne (C : zC z p l s m args meth c cc own nL) {x y : Nat} {off : Int} (tgt : Nat) (hdg : decode cc pc = .ok (.if_acmp .ne off, 3)) (ht : (pc : Int) + off = (tgt : Int)) (kt : ¬ x = y → ZJ z p l e R s m args below meth c Q cells slots tgt L st w) (kf : x = y → ZJ z p l e R s m args below meth c Q cells slots (pc + 3) L st w) : ZJ z p l e R s m args below meth c Q cells slots pc L (.ref y :: .ref x :: st) w := fun H locs ls hR hS hL => lv_acmp_ne (rx := some x) (ry := some y) C.ex C.cd hdg ht (fun q => kt (fun h => q (by rw [h])) H locs ls hR hS hL) (fun q => kf (Option.some.inj q) H locs ls hR hS hL)
theorem z_lcmp (C : zC z p l s m args meth c cc own nL) {x y : Int64} (hdg : decode cc pc = .ok (.lcmp, 1)) (kk : ZJ z p l e R s m args below meth c Q cells slots (pc + 1) L (.int (lg_cmp x y) :: st) w) : ZJ z p l e R s m args below meth c Q cells slots pc L (.long y :: .long x :: st) w := fun H locs ls hR hS hL => W.lcmp C.ex C.cd hdg (kk H locs ls hR hS hL)
theorem z_widen {c2 s2 : Nat} (h1 : cells ≤ c2) (h2 : slots ≤ s2) (kk : ZJ z p l e R s m args below meth c Q c2 s2 pc L st w) : ZJ z p l e R s m args below meth c Q cells slots pc L st w := fun H locs ls hR hS hL => W.widen h1 h2 (kk H locs ls hR hS hL)
theorem z_inj (kk : (∀ (j k : Nat) (p q : zE), w j = some p → w k = some q → p.1 = q.1 → j = k) → ZJ z p l e R s m args below meth c Q cells slots pc L st w) : ZJ z p l e R s m args below meth c Q cells slots pc L st w := fun H locs ls hR hS hL => kk hR.choose_spec.2.2.2 H locs ls hR hS hL
theorem z_sub {w2 : zW} (g : Nat → Nat) (hg : ∀ (k : Nat) (q : zE), w2 k = some q → w (g k) = some q) (hi : ∀ (j k : Nat) (p q : zE), w2 j = some p → w2 k = some q → g j = g k → j = k) (kk : ZJ z p l e R s m args below meth c Q cells slots pc L st w2) : ZJ z p l e R s m args below meth c Q cells slots pc L st w := fun H locs ls hR hS hL => kk H locs ls (hR.sub g hg hi) hS hL
/-- cells at other addresses than the shared empty row, and all are new -/
theorem z_new {k : Nat} {q : zE} (hk : w k = some q) (kk : z.1 ≤ q.1 → ZJ z p l e R s m args below meth c Q cells slots pc L st w) : ZJ z p l e R s m args below meth c Q cells slots pc L st w := fun H locs ls hR hS hL => by
  refine kk ?_ H locs ls hR hS hL
  obtain ⟨ws, hP, hD, hin, hinj⟩ := hR
  obtain ⟨i, hi⟩ := hin _ _ hk
  exact hD.2 i _ hi
/-- a field, by the place of its name in the pool of constants -/
def zFL (own : String) (index : Nat) (ref : String) (ci k : Nat) (Cn : String) (T : u_T) (N : Nat) : Prop := vwCl[ci]? = some (Cn, T, N) ∧ k < N ∧ (∀ w ∈ u_ws Cn T N, w ∈ lwG) ∧ Cond.fieldLink own index ref (T k).2.1 (T k).2.2.1 ∈ lwG ∧ ((T k).1 = ref ∨ Cond.sameField ref (T k).1 (T k).2.1 (T k).2.2.1 ∈ lwG)
theorem zFL.same {index ci k N : Nat} {ref Cn : String} {T : u_T} (F : zFL own index ref ci k Cn T N) (ht : ∀ w ∈ lwG, w.before args s = true) : ∀ x, s.fieldFound? (T k).1 (T k).2.1 (T k).2.2.1 = some x → s.fieldFound? ref (T k).2.1 (T k).2.2.1 = some x := by
  intro x hx
  rcases F.2.2.2.2 with h | h
  · rw [← h]; exact hx
  · exact u_same (ht _ h) x hx
/-- .. that may be written -/
def zFP (own : String) (index : Nat) (ref : String) (ci k : Nat) (Cn : String) (T : u_T) (N : Nat) (ty : FieldType) (fin : Bool) : Prop := zFL own index ref ci k Cn T N ∧ (∃ ty0 : Nat → FieldType, ∀ k, k < N → parseFieldDescriptor (T k).2.2.1 = some (ty0 k)) ∧ (∀ a, a < N → ∀ b, b < N → a ≠ b → (T a).2.1 ≠ (T b).2.1) ∧ (T k).2.2.2 = fin ∧ parseFieldDescriptor (T k).2.2.1 = some ty
theorem z_getf (C : zC z p l s m args meth c cc own nL) {index ci k N k0 a : Nat} {ref Cn : String} {T : u_T} {fs : List Value} {v : Value} (F : zFL own index ref ci k Cn T N) (hdg : decode cc pc = .ok (.getfield index, 3)) (hk : w k0 = some (a, .inr (ci, fs))) (hv : fs[k]? = some v) (kk : ZJ z p l e R s m args below meth c Q cells slots (pc + 3) L (v :: st) w) : ZJ z p l e R s m args below meth c Q cells slots pc L (.ref a :: st) w := by
  intro H locs ls hR hS hL
  obtain ⟨ws, hP, hD, hin, hinj⟩ := id hR
  obtain ⟨i, hi⟩ := hin _ _ hk
  exact va_get (T := T) (N := N) C.ex C.cd C.ts F.2.2.1 C.ow C.K hP i hi F.1 k F.2.1 (C.ts _ F.2.2.2.1) (F.same C.ts) hv hdg (kk H locs ls hR hS hL)
theorem z_putf (C : zC z p l s m args meth c cc own nL) {index ci k N k0 a : Nat} {ref Cn : String} {T : u_T} {ty : FieldType} {fs fs1 : List Value} {v : Value} (F : zFP own index ref ci k Cn T N ty false) (hdg : decode cc pc = .ok (.putfield index, 3)) (hk : w k0 = some (a, .inr (ci, fs))) (hn : narrow ty v = v) (hfit : fits ty v = true) (hl : k < fs.length) (hset : fs.set k v = fs1) (kk : ZJ z p l e R s m args below meth c Q cells slots (pc + 3) L st (va_up w k0 (some (a, .inr (ci, fs1))))) : ZJ z p l e R s m args below meth c Q cells slots pc L (v :: .ref a :: st) w := by
  intro H locs ls hR hS hL
  subst hset
  obtain ⟨ws, hP, hD, hin, hinj⟩ := hR
  obtain ⟨i, hi⟩ := hin _ _ hk
  obtain ⟨F1, ⟨ty0, hty⟩, hnm, hfin, hd⟩ := F
  exact va_put (T := T) (N := N) C.ex C.cd C.ts F1.2.2.1 ty0 hty hnm C.ow C.K hP hD hS i hi F1.1 k F1.2.1 (C.ts _ F1.2.2.2.1) (F1.same C.ts) hfin hd hn hfit hl hdg (fun H1 locs1 hP1 hD1 hS1 => kk H1 locs1 ls (ZR.put hP1 hD1 hin hinj hi hk) hS1 hL)
theorem z_putF (C : zC z p l s m args meth c cc own nL) {index ci k N k0 a : Nat} {ref Cn : String} {T : u_T} {ty : FieldType} {fs fs1 : List Value} {v : Value} (F : zFP own index ref ci k Cn T N ty true) (hin2 : meth.name = "<init>") (hdecl : (T k).1 = own) (hdg : decode cc pc = .ok (.putfield index, 3)) (hk : w k0 = some (a, .inr (ci, fs))) (hn : narrow ty v = v) (hfit : fits ty v = true) (hl : k < fs.length) (hset : fs.set k v = fs1) (kk : ZJ z p l e R s m args below meth c Q cells slots (pc + 3) L st (va_up w k0 (some (a, .inr (ci, fs1))))) : ZJ z p l e R s m args below meth c Q cells slots pc L (v :: .ref a :: st) w := by
  intro H locs ls hR hS hL
  subst hset
  obtain ⟨ws, hP, hD, hin, hinj⟩ := hR
  obtain ⟨i, hi⟩ := hin _ _ hk
  obtain ⟨F1, ⟨ty0, hty⟩, hnm, hfin, hd⟩ := F
  exact va_putF (T := T) (N := N) C.ex C.cd C.ts F1.2.2.1 ty0 hty hnm C.ow C.K hP hD hS i hi F1.1 k F1.2.1 (C.ts _ F1.2.2.2.1) (F1.same C.ts) hfin hin2 hdecl hd hn hfit hl hdg (fun H1 locs1 hP1 hD1 hS1 => kk H1 locs1 ls (ZR.put hP1 hD1 hin hinj hi hk) hS1 hL)
theorem z_iald (C : zC z p l s m args meth c cc own nL) {k0 a n j : Nat} {x : Int32} {f : Nat →  Int32} (hdg : decode cc pc = .ok (.iaload, 1)) (hk : w k0 = some (a, .inl (z.2.2.1 0, n, .inl f))) (hx : x = nI j) (hj : j < n) (hn : n < 2 ^ 31) (kk : ZJ z p l e R s m args below meth c Q cells slots (pc + 1) L (.int (f j) :: st) w) : ZJ z p l e R s m args below meth c Q cells slots pc L (.int x :: .ref a :: st) w := by
  intro H locs ls hR hS hL
  subst hx
  obtain ⟨ws, hP, hD, hin, hinj⟩ := id hR
  obtain ⟨i, hi⟩ := hin _ _ hk
  refine va_iald C.ex C.cd C.K hP i 0 hi rfl (vp_in_nI hj hn) hdg ?_
  rw [nI_clamp (Nat.lt_trans hj hn)]
  exact kk H locs ls hR hS hL
theorem z_zald (C : zC z p l s m args meth c cc own nL) {k0 a n j : Nat} {x : Int32} {f : Nat →  Int32} (hdg : decode cc pc = .ok (.baload, 1)) (hk : w k0 = some (a, .inl (z.2.2.1 1, n, .inl f))) (hx : x = nI j) (hj : j < n) (hn : n < 2 ^ 31) (kk : ZJ z p l e R s m args below meth c Q cells slots (pc + 1) L (.int (f j) :: st) w) : ZJ z p l e R s m args below meth c Q cells slots pc L (.int x :: .ref a :: st) w := by
  intro H locs ls hR hS hL
  subst hx
  obtain ⟨ws, hP, hD, hin, hinj⟩ := id hR
  obtain ⟨i, hi⟩ := hin _ _ hk
  refine va_zald C.ex C.cd C.K hP i 1 hi rfl (vp_in_nI hj hn) hdg ?_
  rw [nI_clamp (Nat.lt_trans hj hn)]
  exact kk H locs ls hR hS hL
theorem z_lald (C : zC z p l s m args meth c cc own nL) {k0 a n j : Nat} {x : Int32} {f : Nat →  Int64} (hdg : decode cc pc = .ok (.laload, 1)) (hk : w k0 = some (a, .inl (z.2.2.1 3, n, .inr (.inl f)))) (hx : x = nI j) (hj : j < n) (hn : n < 2 ^ 31) (kk : ZJ z p l e R s m args below meth c Q cells slots (pc + 1) L (.long (f j) :: st) w) : ZJ z p l e R s m args below meth c Q cells slots pc L (.int x :: .ref a :: st) w := by
  intro H locs ls hR hS hL
  subst hx
  obtain ⟨ws, hP, hD, hin, hinj⟩ := id hR
  obtain ⟨i, hi⟩ := hin _ _ hk
  refine va_lald C.ex C.cd C.K hP i 3 hi rfl (vp_in_nI hj hn) hdg ?_
  rw [nI_clamp (Nat.lt_trans hj hn)]
  exact kk H locs ls hR hS hL
theorem z_aald (C : zC z p l s m args meth c cc own nL) {k0 a n j : Nat} {x : Int32} {f : Nat →  Option Nat} (hdg : decode cc pc = .ok (.aaload, 1)) (hk : w k0 = some (a, .inl (z.2.2.1 2, n, .inr (.inr (.inr (.inr f)))))) (hx : x = nI j) (hj : j < n) (hn : n < 2 ^ 31) (kk : ZJ z p l e R s m args below meth c Q cells slots (pc + 1) L (va_rf (f j) :: st) w) : ZJ z p l e R s m args below meth c Q cells slots pc L (.int x :: .ref a :: st) w := by
  intro H locs ls hR hS hL
  subst hx
  obtain ⟨ws, hP, hD, hin, hinj⟩ := id hR
  obtain ⟨i, hi⟩ := hin _ _ hk
  refine va_aldq C.ex C.cd C.K hP i 2 hi rfl (vp_in_nI hj hn) hdg ?_
  rw [nI_clamp (Nat.lt_trans hj hn)]
  exact kk H locs ls hR hS hL
theorem z_iast (C : zC z p l s m args meth c cc own nL) {k0 a n j : Nat} {x : Int32} {v : Int32} {f : Nat → Int32} (hdg : decode cc pc = .ok (.iastore, 1)) (hk : w k0 = some (a, .inl (z.2.2.1 0, n, .inl f))) (hx : x = nI j) (hj : j < n) (hn : n < 2 ^ 31)  (kk : ZJ z p l e R s m args below meth c Q cells slots (pc + 1) L st (va_up w k0 (some (a, .inl (z.2.2.1 0, n, .inl (va_up f j v)))))) : ZJ z p l e R s m args below meth c Q cells slots pc L (.int v :: .int x :: .ref a :: st) w := by
  intro H locs ls hR hS hL
  subst hx
  obtain ⟨ws, hP, hD, hin, hinj⟩ := hR
  obtain ⟨i, hi⟩ := hin _ _ hk
  refine va_iast C.ex C.cd C.K hP hD hS i 0 hi rfl (vp_in_nI hj hn) hdg (fun H1 locs1 hP1 hD1 hS1 => ?_)
  rw [nI_clamp (Nat.lt_trans hj hn)] at hP1 hD1
  exact kk H1 locs1 ls (ZR.put hP1 hD1 hin hinj hi hk) hS1 hL
theorem z_zast (C : zC z p l s m args meth c cc own nL) {k0 a n j : Nat} {x : Int32} {v : Int32} {f : Nat → Int32} (hdg : decode cc pc = .ok (.bastore, 1)) (hk : w k0 = some (a, .inl (z.2.2.1 1, n, .inl f))) (hx : x = nI j) (hj : j < n) (hn : n < 2 ^ 31) (hb : vp_nar .boolean v = v) (kk : ZJ z p l e R s m args below meth c Q cells slots (pc + 1) L st (va_up w k0 (some (a, .inl (z.2.2.1 1, n, .inl (va_up f j v)))))) : ZJ z p l e R s m args below meth c Q cells slots pc L (.int v :: .int x :: .ref a :: st) w := by
  intro H locs ls hR hS hL
  subst hx
  obtain ⟨ws, hP, hD, hin, hinj⟩ := hR
  obtain ⟨i, hi⟩ := hin _ _ hk
  refine va_zast C.ex C.cd C.K hP hD hS i 1 hi rfl (vp_in_nI hj hn) hdg (fun H1 locs1 hP1 hD1 hS1 => ?_)
  rw [nI_clamp (Nat.lt_trans hj hn), hb] at hP1 hD1
  exact kk H1 locs1 ls (ZR.put hP1 hD1 hin hinj hi hk) hS1 hL
theorem z_last (C : zC z p l s m args meth c cc own nL) {k0 a n j : Nat} {x : Int32} {v : Int64} {f : Nat → Int64} (hdg : decode cc pc = .ok (.lastore, 1)) (hk : w k0 = some (a, .inl (z.2.2.1 3, n, .inr (.inl f)))) (hx : x = nI j) (hj : j < n) (hn : n < 2 ^ 31)  (kk : ZJ z p l e R s m args below meth c Q cells slots (pc + 1) L st (va_up w k0 (some (a, .inl (z.2.2.1 3, n, .inr (.inl (va_up f j v))))))) : ZJ z p l e R s m args below meth c Q cells slots pc L (.long v :: .int x :: .ref a :: st) w := by
  intro H locs ls hR hS hL
  subst hx
  obtain ⟨ws, hP, hD, hin, hinj⟩ := hR
  obtain ⟨i, hi⟩ := hin _ _ hk
  refine va_last C.ex C.cd C.K hP hD hS i 3 hi rfl (vp_in_nI hj hn) hdg (fun H1 locs1 hP1 hD1 hS1 => ?_)
  rw [nI_clamp (Nat.lt_trans hj hn)] at hP1 hD1
  exact kk H1 locs1 ls (ZR.put hP1 hD1 hin hinj hi hk) hS1 hL
theorem z_aast (C : zC z p l s m args meth c cc own nL) {k0 k1 a n j b : Nat} {x : Int32} {vs : List Value} {f : Nat → Option Nat} (hdg : decode cc pc = .ok (.aastore, 1)) (hk : w k0 = some (a, .inl (z.2.2.1 2, n, .inr (.inr (.inr (.inr f)))))) (hv : w k1 = some (b, .inr (2, vs))) (hx : x = nI j) (hj : j < n) (hn : n < 2 ^ 31) (kk : ZJ z p l e R s m args below meth c Q cells slots (pc + 1) L st (va_up w k0 (some (a, .inl (z.2.2.1 2, n, .inr (.inr (.inr (.inr (va_up f j (some b)))))))))) : ZJ z p l e R s m args below meth c Q cells slots pc L (.ref b :: .int x :: .ref a :: st) w := by
  intro H locs ls hR hS hL
  subst hx
  obtain ⟨ws, hP, hD, hin, hinj⟩ := hR
  obtain ⟨i, hi⟩ := hin _ _ hk
  obtain ⟨i2, hi2⟩ := hin _ _ hv
  refine va_astqO (E := "java/lang/Object") (r := (RX1, TX1, 10)) C.ex C.cd C.K hP hD hS i 2 i2 2 hi rfl (C.X.2.2.2.2.2.2.1 (RX1, "java/lang/Object") (by decide +kernel)) hi2 rfl (vp_in_nI hj hn) hdg (fun H1 locs1 hP1 hD1 hS1 => ?_)
  rw [nI_clamp (Nat.lt_trans hj hn)] at hP1 hD1
  exact kk H1 locs1 ls (ZR.put hP1 hD1 hin hinj hi hk) hS1 hL
theorem z_aastN (C : zC z p l s m args meth c cc own nL) {k0 a n j : Nat} {x : Int32} {f : Nat → Option Nat} (hdg : decode cc pc = .ok (.aastore, 1)) (hk : w k0 = some (a, .inl (z.2.2.1 2, n, .inr (.inr (.inr (.inr f)))))) (hx : x = nI j) (hj : j < n) (hn : n < 2 ^ 31) (kk : ZJ z p l e R s m args below meth c Q cells slots (pc + 1) L st (va_up w k0 (some (a, .inl (z.2.2.1 2, n, .inr (.inr (.inr (.inr (va_up f j none))))))))) : ZJ z p l e R s m args below meth c Q cells slots pc L (.null :: .int x :: .ref a :: st) w := by
  intro H locs ls hR hS hL
  subst hx
  obtain ⟨ws, hP, hD, hin, hinj⟩ := hR
  obtain ⟨i, hi⟩ := hin _ _ hk
  refine va_astqN (C := "java/lang/Object") C.ex C.cd C.K hP hD hS i 2 hi rfl (vp_in_nI hj hn) hdg (fun H1 locs1 hP1 hD1 hS1 => ?_)
  rw [nI_clamp (Nat.lt_trans hj hn)] at hP1 hD1
  exact kk H1 locs1 ls (ZR.put hP1 hD1 hin hinj hi hk) hS1 hL
theorem z_alen (C : zC z p l s m args meth c cc own nL) {k0 a t : Nat} {x : vp_A} (hdg : decode cc pc = .ok (.arraylength, 1)) (hk : w k0 = some (a, .inl (z.2.2.1 t, x))) (ht : t < 4) (kk : ZJ z p l e R s m args below meth c Q cells slots (pc + 1) L (.int (nI x.1) :: st) w) : ZJ z p l e R s m args below meth c Q cells slots pc L (.ref a :: st) w := by
  intro H locs ls hR hS hL
  obtain ⟨ws, hP, hD, hin, hinj⟩ := id hR
  obtain ⟨i, hi⟩ := hin _ _ hk
  rcases (show t = 0 ∨ t = 1 ∨ t = 2 ∨ t = 3 by omega) with rfl | rfl | rfl | rfl
  · exact va_alen (ty := .int) C.ex C.cd C.K hP i 0 hi rfl rfl hdg (kk H locs ls hR hS hL)
  · exact va_alen (ty := .boolean) C.ex C.cd C.K hP i 1 hi rfl rfl hdg (kk H locs ls hR hS hL)
  · exact va_alen (ty := .object "java/lang/Object") C.ex C.cd C.K hP i 2 hi rfl rfl hdg (kk H locs ls hR hS hL)
  · exact va_alen (ty := .long) C.ex C.cd C.K hP i 3 hi rfl rfl hdg (kk H locs ls hR hS hL)
/-- the length of the shared empty row -/
theorem z_alen0 (C : zC z p l s m args meth c cc own nL) (hdg : decode cc pc = .ok (.arraylength, 1)) (kk : ZJ z p l e R s m args below meth c Q cells slots (pc + 1) L (.int (nI 0) :: st) w) : ZJ z p l e R s m args below meth c Q cells slots pc L (.ref z.2.2.2.1 :: st) w := by
  intro H locs ls hR hS hL
  obtain ⟨fv, h5⟩ := C.X.2.2.2.2.1
  exact va_tlen C.ex C.cd h5 hS rfl hdg (kk H locs ls hR hS hL)
theorem z_gets (C : zC z p l s m args meth c cc own nL) {index : Nat} (hw : Cond.fieldLink own index "java/util/ArrayList" "DEFAULTCAPACITY_EMPTY_ELEMENTDATA" "[Ljava/lang/Object;" ∈ lwG) (hdg : decode cc pc = .ok (.getstatic index, 3)) (kk : ZJ z p l e R s m args below meth c Q cells slots (pc + 3) L (.ref z.2.2.2.1 :: st) w) : ZJ z p l e R s m args below meth c Q cells slots pc L st w := fun H locs ls hR hS hL => va_gets C.ex C.cd C.X.2.2.2.1 hS C.ow (C.ts _ hw) (fun _ h => h) hdg (kk H locs ls hR hS hL)
def zNW (own : String) (index ci : Nat) (Cn : String) (T : u_T) (N : Nat) (ty : Nat → FieldType) : Prop := vwCl[ci]? = some (Cn, T, N) ∧ (∀ w ∈ u_ws Cn T N, w ∈ lwG) ∧ (∀ k, k < N → parseFieldDescriptor (T k).2.2.1 = some (ty k)) ∧ Cond.classLink own index Cn ∈ lwG ∧ Cond.instantiable Cn N ∈ lwG ∧ Cond.initialized Cn ∈ lwG
theorem z_newo (C : zC z p l s m args meth c cc own nL) {index ci N : Nat} {Cn : String} {T : u_T} {ty : Nat → FieldType} (F : zNW own index ci Cn T N ty) (hd : Nat) {fs : List Value} (hfs : ∀ j, j < N → defaultValue (ty j) = vp_V fs j) (hdg : decode cc pc = .ok (.new index, 3)) (hcells : cells + 1 ≤ R.cells) (hslots : slots + N ≤ R.slots) (kk : ∀ q : Nat, (∀ (j : Nat) (x : zE), w j = some x → x.1 ≠ q) → ZJ z p l e R s m args below meth c Q (cells + 1) (slots + N) (pc + 3) L (.ref q :: st) (va_up w hd (some (q, .inr (ci, fs))))) : ZJ z p l e R s m args below meth c Q cells slots pc L st w := by
  intro H locs ls hR hS hL
  obtain ⟨ws, hP, hD, hin, hinj⟩ := hR
  refine va_new (T := T) (N := N) C.ex C.cd C.ts F.2.1 ty F.2.2.1 C.ow (C.ts _ F.2.2.2.1) (C.ts _ F.2.2.2.2.1) (C.ts _ F.2.2.2.2.2) C.K hP hD hS C.A F.1 hfs hcells hslots hdg (fun q H1 hP1 hD1 hS1 => ?_)
  obtain ⟨h1, h2⟩ := ZR.push hd hP1 hD1 hin hinj
  exact kk q h1 H1 locs ls h2 hS1 hL
theorem z_newI (C : zC z p l s m args meth c cc own nL) (hd : Nat) {n : Nat} {x : Int32} (hx : x = nI n) (hn : n ≤ 1000) (hw : Cond.arrayClass .int ∈ lwG) (hdg : decode cc pc = .ok (.newarray .int, 2)) (hcells : cells + 1 ≤ R.cells) (hslots : slots + n ≤ R.slots) (kk : ∀ q : Nat, (∀ (j : Nat) (y : zE), w j = some y → y.1 ≠ q) → ZJ z p l e R s m args below meth c Q (cells + 1) (slots + n) (pc + 2) L (.ref q :: st) (va_up w hd (some (q, .inl (z.2.2.1 0, n, .inl (fun _ => 0)))))) : ZJ z p l e R s m args below meth c Q cells slots pc L (.int x :: st) w := by
  intro H locs ls hR hS hL
  subst hx
  obtain ⟨ws, hP, hD, hin, hinj⟩ := hR
  refine va_newa (atype := .int) (ty := .int) (a0 := (n, .inl (fun _ => 0))) C.ex C.cd (C.ts _ hw) rfl C.K hP hD hS C.A (fun cA => ?_) (nI_pos (by omega)) (nI_clamp (by omega)) ?_ hcells hslots hdg (fun q cA H1 hK1 hP1 hD1 hS1 => ?_)
  · first | (rw [vp_cell_i]; rfl) | (rw [vp_cell_l]; rfl) | rfl
  · show n * _ ≤ _
    refine Nat.le_trans (Nat.mul_le_mul_right _ hn) (by decide)
  · have e1 := (hK1.2 4 _ rfl).2
    have e2 := (hK1.2 0 _ rfl).2
    have e3 : cA = z.2.2.1 0 := Option.some.inj (e1.symm.trans e2)
    subst e3
    obtain ⟨h1, h2⟩ := ZR.push hd hP1 hD1 hin hinj
    exact kk q h1 H1 locs ls h2 hS1 hL
theorem z_newZ (C : zC z p l s m args meth c cc own nL) (hd : Nat) {n : Nat} {x : Int32} (hx : x = nI n) (hn : n ≤ 1000) (hw : Cond.arrayClass .boolean ∈ lwG) (hdg : decode cc pc = .ok (.newarray .boolean, 2)) (hcells : cells + 1 ≤ R.cells) (hslots : slots + n ≤ R.slots) (kk : ∀ q : Nat, (∀ (j : Nat) (y : zE), w j = some y → y.1 ≠ q) → ZJ z p l e R s m args below meth c Q (cells + 1) (slots + n) (pc + 2) L (.ref q :: st) (va_up w hd (some (q, .inl (z.2.2.1 1, n, .inl (fun _ => 0)))))) : ZJ z p l e R s m args below meth c Q cells slots pc L (.int x :: st) w := by
  intro H locs ls hR hS hL
  subst hx
  obtain ⟨ws, hP, hD, hin, hinj⟩ := hR
  refine va_newa (atype := .boolean) (ty := .boolean) (a0 := (n, .inl (fun _ => 0))) C.ex C.cd (C.ts _ hw) rfl C.K hP hD hS C.A (fun cA => ?_) (nI_pos (by omega)) (nI_clamp (by omega)) ?_ hcells hslots hdg (fun q cA H1 hK1 hP1 hD1 hS1 => ?_)
  · first | (rw [vp_cell_i]; rfl) | (rw [vp_cell_l]; rfl) | rfl
  · show n * _ ≤ _
    refine Nat.le_trans (Nat.mul_le_mul_right _ hn) (by decide)
  · have e1 := (hK1.2 4 _ rfl).2
    have e2 := (hK1.2 1 _ rfl).2
    have e3 : cA = z.2.2.1 1 := Option.some.inj (e1.symm.trans e2)
    subst e3
    obtain ⟨h1, h2⟩ := ZR.push hd hP1 hD1 hin hinj
    exact kk q h1 H1 locs ls h2 hS1 hL
theorem z_newL (C : zC z p l s m args meth c cc own nL) (hd : Nat) {n : Nat} {x : Int32} (hx : x = nI n) (hn : n ≤ 1000) (hw : Cond.arrayClass .long ∈ lwG) (hdg : decode cc pc = .ok (.newarray .long, 2)) (hcells : cells + 1 ≤ R.cells) (hslots : slots + n ≤ R.slots) (kk : ∀ q : Nat, (∀ (j : Nat) (y : zE), w j = some y → y.1 ≠ q) → ZJ z p l e R s m args below meth c Q (cells + 1) (slots + n) (pc + 2) L (.ref q :: st) (va_up w hd (some (q, .inl (z.2.2.1 3, n, .inr (.inl (fun _ => 0))))))) : ZJ z p l e R s m args below meth c Q cells slots pc L (.int x :: st) w := by
  intro H locs ls hR hS hL
  subst hx
  obtain ⟨ws, hP, hD, hin, hinj⟩ := hR
  refine va_newa (atype := .long) (ty := .long) (a0 := (n, .inr (.inl (fun _ => 0)))) C.ex C.cd (C.ts _ hw) rfl C.K hP hD hS C.A (fun cA => ?_) (nI_pos (by omega)) (nI_clamp (by omega)) ?_ hcells hslots hdg (fun q cA H1 hK1 hP1 hD1 hS1 => ?_)
  · first | (rw [vp_cell_i]; rfl) | (rw [vp_cell_l]; rfl) | rfl
  · show n * _ ≤ _
    refine Nat.le_trans (Nat.mul_le_mul_right _ hn) (by decide)
  · have e1 := (hK1.2 4 _ rfl).2
    have e2 := (hK1.2 3 _ rfl).2
    have e3 : cA = z.2.2.1 3 := Option.some.inj (e1.symm.trans e2)
    subst e3
    obtain ⟨h1, h2⟩ := ZR.push hd hP1 hD1 hin hinj
    exact kk q h1 H1 locs ls h2 hS1 hL
theorem z_newq (C : zC z p l s m args meth c cc own nL) (hd : Nat) {n index : Nat} {x : Int32} (hx : x = nI n) (hn : n ≤ 1000) (hw : Cond.classLink own index "java/lang/Object" ∈ lwG) (hdg : decode cc pc = .ok (.anewarray index, 3)) (hcells : cells + 1 ≤ R.cells) (hslots : slots + n ≤ R.slots) (kk : ∀ q : Nat, (∀ (j : Nat) (y : zE), w j = some y → y.1 ≠ q) → ZJ z p l e R s m args below meth c Q (cells + 1) (slots + n) (pc + 3) L (.ref q :: st) (va_up w hd (some (q, .inl (z.2.2.1 2, n, .inr (.inr (.inr (.inr (fun _ => none))))))))) : ZJ z p l e R s m args below meth c Q cells slots pc L (.int x :: st) w := by
  intro H locs ls hR hS hL
  subst hx
  obtain ⟨ws, hP, hD, hin, hinj⟩ := hR
  refine va_newq C.ex C.cd C.ow (C.ts _ hw) C.X.2.2.2.2.2.2.2.2.2.1 C.K hP hD hS C.A (nI_pos (by omega)) (nI_clamp (by omega)) (by omega) hcells hslots hdg (fun q cA H1 hK1 hP1 hD1 hS1 => ?_)
  obtain ⟨k1, c1, -, -, -, e1⟩ := (hK1.2 4 _ rfl).2
  obtain ⟨k2, c2, -, -, -, e2⟩ := (hK1.2 2 _ rfl).2
  have e3 : cA = z.2.2.1 2 := Option.some.inj (e1.symm.trans e2)
  subst e3
  obtain ⟨h1, h2⟩ := ZR.push hd hP1 hD1 hin hinj
  exact kk q h1 H1 locs ls h2 hS1 hL
theorem z_castW (C : zC z p l s m args meth c cc own nL) {index k0 a : Nat} {fs : List Value} (hw : Cond.classLink own index "HiringHall$Worker" ∈ lwG) (hdg : decode cc pc = .ok (.checkcast index, 3)) (hk : w k0 = some (a, .inr (2, fs))) (kk : ZJ z p l e R s m args below meth c Q cells slots (pc + 3) L (.ref a :: st) w) : ZJ z p l e R s m args below meth c Q cells slots pc L (.ref a :: st) w := by
  intro H locs ls hR hS hL
  obtain ⟨ws, hP, hD, hin, hinj⟩ := id hR
  obtain ⟨i, hi⟩ := hin _ _ hk
  have hKn := C.K.1 2 _ rfl
  exact va_castS (nm := RX1) C.ex C.cd C.ow (C.ts _ hw) ⟨hKn.2.1, hKn.2.2⟩ (va_recv C.K hP rfl hi) hdg (kk H locs ls hR hS hL)
end ZROWS
end
section
/-! CALLS, ENDS, THROWS over the judgement; the contract ZM of a method -/
section ZCALL
variable {p : Program} {l : Launch} {e : Env} {R : Room} {s : State} {m : MethodId} {args : Array Value} {below : List Frame} {meth : Method} {c : Code} {cells slots : Nat} {Q : State → Prop}
variable {z : zT} {cc : ByteArray} {own : String} {nL : Nat} {pc : Nat} {L : List (Option Value)} {st : List Value} {w : zW}
def zrm (k mc ms : Nat) : Room := { frames := k, cells := mc, slots := ms, locals := 26 * k }
def zPc (z : zT) (As : List Value) (w : zW) : Array Value → State → Prop := fun v U => v = As.toArray ∧ ZX z U U.heap ∧ z.1 ≤ U.heap.size ∧ ZR z w U.heap
def zQc (z : zT) (Qr : Option Value → zW → Prop) : Array Value → State → Outcome → State → Prop := fun _ st o t => (∃ (r : Option Value) (w1 : zW), o = .returned r ∧ Qr r w1 ∧ ZR z w1 t.heap) ∧ va_F (zA z) st t
def zXC (z : zT) (Qx : String → zW → Prop) : String → State → State → Prop := fun E st t => (∃ w1 : zW, Qx E w1 ∧ ZR z w1 t.heap) ∧ va_F (zA z) st t
def zNo : String → zW → Prop := fun _ _ => False
/-- the contract of the method M at the level k: from the world w and the arguments As it returns with Qr, or throws with Qx -/
def ZM (l : Launch) (z : zT) (M : zMI) (k mc ms : Nat) (As : List Value) (w : zW) (Qr : Option Value → zW → Prop) (Qx : String → zW → Prop) : Prop :=
  vx_Met l M.1 (Cond.code M.1 M.2.1 M.2.2.1 M.2.2.2 :: lwG) (zrm k mc ms) (zPc z As w) (zQc z Qr) (zXC z Qx) mc ms (zA z)
theorem zPc.blind {As : List Value} : FrameBlind (zPc z As w) := fun _ _ _ _ h => ⟨h.1, h.2.1.calling, h.2.2.1, h.2.2.2⟩
theorem ZR.kept {H H1 : Heap} (h : ZR z w H) (hq : ∀ q : Nat, q < H.size → H1[q]? = H[q]?) : ZR z w H1 := by
  obtain ⟨ws, h1, h2, h3, h4⟩ := h
  exact ⟨ws, h1.kept (fun k q hk => hq q.1 (h1 k q hk).lt), h2, h3, h4⟩
theorem zbody {M : zMI} {k mc ms : Nat} {As : List Value} {L0 : List (Option Value)} {Qr : Option Value → zW → Prop} {Qx : String → zW → Prop} (hl : l.stackTraces = false) (hc : ∀ v ∈ As, v.category = 1) (hn : As.length ≤ M.2.2.1) (hy : plainName M.1.cls = true) (hL0 : As.map some ++ List.replicate (M.2.2.1 - As.length) none = L0)
    (body : ∀ (p : Program) (e : Env) (s : State) (m : MethodId) (args : Array Value) (below : List Frame) (meth : Method) (c : Code), zC z p l s m args meth c M.2.1 M.1.cls M.2.2.1 → (∀ x ∈ c.exceptionTable.toList, False) → meth.name = M.1.name → meth.sig.returnType = M.2.2.2 →
      ZJ z p l e (zrm k mc ms) s m args below meth c (vx_MQ below (zQc z Qr) (zXC z Qx) args s mc ms (zA z)) 0 0 0 L0 [] w) : ZM l z M k mc ms As w Qr Qx := by
  subst hL0
  refine vx_ofW hy rfl ?_
  intro p e s m args below meth c s₁ B hml hX hv
  obtain ⟨rfl, hZX, hsz, hZR⟩ := hv
  have hts := atoms_spec (ws := Cond.code M.1 M.2.1 M.2.2.1 M.2.2.2 :: lwG) B.pre
  have hC : zC z p l s m As.toArray meth c M.2.1 M.1.cls M.2.2.1 := ⟨B.exec, B.bytes, findClass_of_methodNamed B.named, fun w h => hts w (List.mem_cons_of_mem _ h), hZX, hsz, B.notSynchronized, hl, hml⟩
  have h := body p e s m As.toArray below meth c hC hX (name_of_methodNamed B.named B.method).1 B.returns s.heap [] _ hZR va_S.rf (zL.args hc hn rfl)
  rw [lg_entry_eq]
  exact h
def zpu : Option Value → List Value → List Value
  | some v, st => v :: st
  | none, st => st
theorem z_of_run {mc ms : Nat} {a : Array Value} {st0 : List Value} {Qy : Option Value → zW → Prop} {Xy : String → zW → Prop}
    (hr : ∀ (H : Heap) (locs : List Loc) (ls : Array Slot), ZR z w H → va_S (zA z) s.heap H locs → zL ls L → vx_Run p l e R s m args below meth c H locs cells slots mc ms (F0 m pc ls st0) st (zQc z Qy a) (zXC z Xy) (zA z))
    (kx : ∀ (E : String) (w1 : zW), Xy E w1 → ZXJ z p l e R s m args below meth c Q (cells + mc) (slots + ms) pc L st w1 E)
    (kk : ∀ (r : Option Value) (w1 : zW), Qy r w1 → ZJ z p l e R s m args below meth c Q (cells + mc) (slots + ms) (pc + 3) L (zpu r st) w1) : ZJ z p l e R s m args below meth c Q cells slots pc L st0 w := by
  intro H locs ls hR hS hL T hT X
  rcases hr H locs ls hR hS hL T hT X with ⟨v, st₀, t, T', L2, h0, X', hL2, e1, e2, ⟨⟨r, w1, hv, hp, hb⟩, hF⟩, go⟩ | ⟨q, st₀, t, T', L2, E, ce, h0, X', hL2, e1, e2, ⟨⟨w1, hp, hb⟩, hF⟩, hce, hcv, hcl, go⟩
  · cases hv
    obtain ⟨k1, k2, k3⟩ := vx_keep h0 e1 hS (fun _ _ h => h) (fun _ h => h) hL2 hF
    obtain ⟨t2, a1, b1⟩ := kk v w1 hp T'.heap (locs ++ L2) ls (by rw [e1]; exact hb) k3 hL T' rfl X'
    exact ⟨t2, go t2 (by cases v <;> exact a1), b1⟩
  · obtain ⟨k1, k2, k3⟩ := vx_keep h0 e1 hS (fun _ _ h => h) (fun _ h => h) hL2 hF
    obtain ⟨t2, a1, b1⟩ := kx E w1 hp T'.heap (locs ++ L2) ls ce q (by rw [e1]; exact hb) k3 hL (by rw [e1]; exact hce) hcv hcl T' rfl X'
    exact ⟨t2, go.trans a1, b1⟩
/-- what the tables say of a method -/
def zMF (M : zMI) (n : Nat) : Prop := Cond.code M.1 M.2.1 M.2.2.1 M.2.2.2 ∈ lwG ∧ Cond.initialized M.1.cls ∈ lwG ∧ M.1.cls ≠ "java/lang/invoke/MethodHandle" ∧ M.1.cls ≠ "java/lang/invoke/VarHandle" ∧ (parseMethodDescriptor M.1.desc).map (fun d => d.parameters.length) = some n
def zMV (M : zMI) (n : Nat) : Prop := zMF M n ∧ Cond.instanceMethod M.1 ∈ lwG ∧ Cond.selects M.1.cls M.1 M.1 ∈ lwG
def zMS (M : zMI) (n : Nat) : Prop := zMF M n ∧ Cond.static M.1 ∈ lwG
def zMC (M : zMI) (n : Nat) : Prop := zMF M n ∧ Cond.instanceMethod M.1 ∈ lwG ∧ M.1.name = "<init>" ∧ M.2.2.2 = none
theorem z_callB {M : zMI} {n index k mc ms : Nat} (C : zC z p l s m args meth c cc own nL) (F : zMF M n) (hl : Cond.methodLink own index M.1 ∈ lwG) (hR : k + 1 ≤ R.frames ∧ 8 + (M.2.2.1 + 11) + 26 * k ≤ R.locals) :
    CallB R s args own index M.1 M.2.1 M.2.2.1 M.2.2.2 (Cond.code M.1 M.2.1 M.2.2.1 M.2.2.2 :: lwG) (zrm k mc ms) mc ms n := callB_of n C.ts (lwG_sub F.1) rfl rfl rfl (C.ts _ F.2.1) (C.ts _ hl) F.2.2 hR
theorem z_callV (C : zC z p l s m args meth c cc own nL) {M : zMI} {n index k mc ms : Nat} {b k0 ci N : Nat} {T : u_T} {fs As st0 : List Value} {Qy : Option Value → zW → Prop} {Xy : String → zW → Prop} (V : zMV M n) (hl : Cond.methodLink own index M.1 ∈ lwG) (hM : ZM l z M k mc ms (.ref b :: As) w Qy Xy)
    (hdg : decode cc pc = .ok (.invokevirtual index, 3)) (hk : w k0 = some (b, .inr (ci, fs))) (hc : vwCl[ci]? = some (M.1.cls, T, N)) (hn : As.length = n) (hst : st0 = As.reverse ++ .ref b :: st) (hW : (st.map fun v => v.category).sum ≤ 8) (hLn : L.length = nL) (hR : k + 1 ≤ R.frames ∧ 8 + (M.2.2.1 + 11) + 26 * k ≤ R.locals) (hf : cells + mc ≤ R.cells ∧ slots + ms ≤ R.slots)
    (kx : ∀ (E : String) (w1 : zW), Xy E w1 → ZXJ z p l e R s m args below meth c Q (cells + mc) (slots + ms) pc L st w1 E)
    (kk : ∀ (r : Option Value) (w1 : zW), Qy r w1 → ZJ z p l e R s m args below meth c Q (cells + mc) (slots + ms) (pc + 3) L (zpu r st) w1) : ZJ z p l e R s m args below meth c Q cells slots pc L st0 w := by
  refine z_of_run (a := (Value.ref b :: As).toArray) (fun H locs ls hZ hS hL => ?_) kx kk
  obtain ⟨ws, hP, hD, hin, hinj⟩ := id hZ
  obtain ⟨i, hi⟩ := hin _ _ hk
  exact vx_runV (cc := cc) (nL := nL) (own := own) (Ts := lwG) (C := M.1.cls) (index := index) (n := n) (bytes := M.2.1) (maxL := M.2.2.1) (ret := M.2.2.2) ⟨C.ex, C.cd, C.ml, C.ow, C.ts⟩ hM ⟨z_callB C V.1 hl hR, C.ts _ V.2.1, C.ts _ V.2.2⟩
    ⟨zPc.blind, va_recv C.K hP hc hi, fun U hU hW2 => ⟨rfl, C.X.next hS hU hW2, by rw [hU]; exact Nat.le_trans C.sz hS.1, by rw [hU]; exact hZ⟩⟩ rfl hn (hL.1.trans hLn) hst (lv_room hW) hdg hf
theorem z_callS (C : zC z p l s m args meth c cc own nL) {M : zMI} {n index k mc ms : Nat} {As st0 : List Value} {Qy : Option Value → zW → Prop} {Xy : String → zW → Prop} (V : zMS M n) (hl : Cond.methodLink own index M.1 ∈ lwG) (hM : ZM l z M k mc ms As w Qy Xy)
    (hdg : decode cc pc = .ok (.invokestatic index, 3)) (hn : As.length = n) (hst : st0 = As.reverse ++ st) (hW : (st.map fun v => v.category).sum ≤ 8) (hLn : L.length = nL) (hR : k + 1 ≤ R.frames ∧ 8 + (M.2.2.1 + 11) + 26 * k ≤ R.locals) (hf : cells + mc ≤ R.cells ∧ slots + ms ≤ R.slots)
    (kx : ∀ (E : String) (w1 : zW), Xy E w1 → ZXJ z p l e R s m args below meth c Q (cells + mc) (slots + ms) pc L st w1 E)
    (kk : ∀ (r : Option Value) (w1 : zW), Qy r w1 → ZJ z p l e R s m args below meth c Q (cells + mc) (slots + ms) (pc + 3) L (zpu r st) w1) : ZJ z p l e R s m args below meth c Q cells slots pc L st0 w := by
  refine z_of_run (a := As.toArray) (fun H locs ls hZ hS hL => ?_) kx kk
  exact vx_runS (cc := cc) (nL := nL) (own := own) (Ts := lwG) (index := index) (n := n) (bytes := M.2.1) (maxL := M.2.2.1) (ret := M.2.2.2) ⟨C.ex, C.cd, C.ml, C.ow, C.ts⟩ hM ⟨z_callB C V.1 hl hR, C.ts _ V.2⟩
    ⟨zPc.blind, fun U hU hW2 => ⟨rfl, C.X.next hS hU hW2, by rw [hU]; exact Nat.le_trans C.sz hS.1, by rw [hU]; exact hZ⟩⟩ rfl hn (hL.1.trans hLn) hst (lv_room hW) hdg hf
theorem z_callI (C : zC z p l s m args meth c cc own nL) {y : MethodName} {cb : ByteArray} {ml : Nat} {n index k mc ms b : Nat} {As st0 : List Value} {Qy : Option Value → zW → Prop} {Xy : String → zW → Prop} (V : zMC (y, cb, ml, none) n) (hl : Cond.methodLink own index y ∈ lwG) (hM : ZM l z (y, cb, ml, none) k mc ms (.ref b :: As) w Qy Xy)
    (hdg : decode cc pc = .ok (.invokespecial index, 3)) (hn : As.length = n) (hst : st0 = As.reverse ++ .ref b :: st) (hW : (st.map fun v => v.category).sum ≤ 8) (hLn : L.length = nL) (hR : k + 1 ≤ R.frames ∧ 8 + (ml + 11) + 26 * k ≤ R.locals) (hf : cells + mc ≤ R.cells ∧ slots + ms ≤ R.slots)
    (kx : ∀ (E : String) (w1 : zW), Xy E w1 → ZXJ z p l e R s m args below meth c Q (cells + mc) (slots + ms) pc L st w1 E)
    (kk : ∀ (r : Option Value) (w1 : zW), Qy r w1 → ZJ z p l e R s m args below meth c Q (cells + mc) (slots + ms) (pc + 3) L (zpu r st) w1) : ZJ z p l e R s m args below meth c Q cells slots pc L st0 w := by
  refine z_of_run (a := (Value.ref b :: As).toArray) (fun H locs ls hZ hS hL => ?_) kx kk
  exact vx_runI (cc := cc) (nL := nL) (own := own) (Ts := lwG) (index := index) (n := n) (bytes := cb) (maxL := ml) ⟨C.ex, C.cd, C.ml, C.ow, C.ts⟩ hM ⟨z_callB C V.1 hl hR, V.2.2.1, C.ts _ V.2.1⟩
    ⟨zPc.blind, fun U hU hW2 => ⟨rfl, C.X.next hS hU hW2, by rw [hU]; exact Nat.le_trans C.sz hS.1, by rw [hU]; exact hZ⟩⟩ rfl hn (hL.1.trans hLn) hst (lv_room hW) hdg hf
/-- a nest mate's own constructor -/
theorem z_callIN (C : zC z p l s m args meth c cc "HiringHall" nL) {cb : ByteArray} {ml : Nat} {k mc ms b : Nat} {st0 : List Value} {Qy : Option Value → zW → Prop} {Xy : String → zW → Prop} (V : zMC ((⟨"HiringHall$Matching", "<init>", "()V"⟩ : MethodName), cb, ml, none) 0) (hM : ZM l z ((⟨"HiringHall$Matching", "<init>", "()V"⟩ : MethodName), cb, ml, none) k mc ms [.ref b] w Qy Xy)
    (hdg : decode cc pc = .ok (.invokespecial 24, 3)) (hst : st0 = .ref b :: st) (hW : (st.map fun v => v.category).sum ≤ 8) (hLn : L.length = nL) (hR : k + 1 ≤ R.frames ∧ 8 + (ml + 11) + 26 * k ≤ R.locals) (hf : cells + mc ≤ R.cells ∧ slots + ms ≤ R.slots)
    (kx : ∀ (E : String) (w1 : zW), Xy E w1 → ZXJ z p l e R s m args below meth c Q (cells + mc) (slots + ms) pc L st w1 E)
    (kk : ∀ (r : Option Value) (w1 : zW), Qy r w1 → ZJ z p l e R s m args below meth c Q (cells + mc) (slots + ms) (pc + 3) L (zpu r st) w1) : ZJ z p l e R s m args below meth c Q cells slots pc L st0 w := by
  refine z_of_run (a := (Value.ref b :: []).toArray) (fun H locs ls hZ hS hL => ?_) kx kk
  exact vx_runIN (cc := cc) (nL := nL) (own := "HiringHall") (Ts := lwG) (index := 24) (n := 0) (bytes := cb) (maxL := ml) (host := "HiringHall") ⟨C.ex, C.cd, C.ml, C.ow, C.ts⟩ hM ⟨va_cnB 0 C.ts (lwG_sub V.1.1) rfl rfl rfl C.X.2.2.2.2.2.2.2.2.2.2.2.1 (C.ts _ V.1.2.1) V.1.2.2 hR, V.2.2.1, C.ts _ V.2.1⟩
    ⟨zPc.blind, fun U hU hW2 => ⟨rfl, C.X.next hS hU hW2, by rw [hU]; exact Nat.le_trans C.sz hS.1, by rw [hU]; exact hZ⟩⟩ rfl rfl (hL.1.trans hLn) hst (lv_room hW) hdg hf
/-- Object.<init> -/
theorem z_obj (C : zC z p l s m args meth c cc own nL) {index b : Nat} (hl : Cond.methodLink own index Lib.objectInit ∈ lwG) (hi : Cond.instanceMethod Lib.objectInit ∈ lwG) (hw : Cond.code Lib.objectInit ⟨#[0xb1]⟩ 1 none ∈ lwG) (hdg : decode cc pc = .ok (.invokespecial index, 3)) (hLn : L.length = nL) (hR : 1 ≤ R.frames) (hR2 : (st.map fun v => v.category).sum + 12 ≤ R.locals)
    (kk : ZJ z p l e R s m args below meth c Q cells slots (pc + 3) L st w) : ZJ z p l e R s m args below meth c Q cells slots pc L (.ref b :: st) w := fun H locs ls hZ hS hL =>
  W.objInit C.ex C.cd C.ow (C.ts _ hl) (C.ts _ hi) (C.ts _ hw) rfl (by rw [C.ml]; exact hL.1.trans hLn) rfl hdg hR (by show 2 * 0 + _ + 12 ≤ _; omega) (kk H locs ls hZ hS hL)
variable {mc ms : Nat} {Qr : Option Value → zW → Prop} {Qx : String → zW → Prop}
theorem z_xno {E : String} (h : zNo E w) : ZXJ z p l e R s m args below meth c Q cells slots pc L st w E := h.elim
theorem z_xout (C : zC z p l s m args meth c cc own nL) {E : String} (hX : ∀ x ∈ c.exceptionTable.toList, False) (hq : Qx E w) (h1 : cells ≤ mc) (h2 : slots ≤ ms) : ZXJ z p l e R s m args below meth c (vx_MQ below (zQc z Qr) (zXC z Qx) args s mc ms (zA z)) cells slots pc L st w E := fun _ _ _ _ _ hZ hS _ hce hcv hcl =>
  vx_out (fun x hx => (hX x hx).elim) C.lk hce hcv hcl (fun t ht _ => ⟨⟨w, hq, by rw [ht]; exact hZ⟩, hS.F ht⟩) hS.2.2 h1 h2
theorem z_iret (C : zC z p l s m args meth c cc own nL) {v : Int32} (hr : meth.sig.returnType = some .int) (hdg : decode cc pc = .ok (.ireturn, 1)) (h1 : cells ≤ mc) (h2 : slots ≤ ms) (hq : Qr (some (.int v)) w) : ZJ z p l e R s m args below meth c (vx_MQ below (zQc z Qr) (zXC z Qx) args s mc ms (zA z)) cells slots pc L [.int v] w := fun _ _ _ hZ hS _ =>
  vx_ret (W.widen h1 h2 (W.iret C.ex C.cd hr (fun t ht _ => ⟨⟨_, w, rfl, hq, by rw [ht]; exact hZ⟩, hS.F ht⟩) hS.2.2 hdg C.lk))
theorem z_zret (C : zC z p l s m args meth c cc own nL) {v : Int32} (hr : meth.sig.returnType = some .boolean) (hdg : decode cc pc = .ok (.ireturn, 1)) (hn : narrow .boolean (.int v) = .int v) (h1 : cells ≤ mc) (h2 : slots ≤ ms) (hq : Qr (some (.int v)) w) : ZJ z p l e R s m args below meth c (vx_MQ below (zQc z Qr) (zXC z Qx) args s mc ms (zA z)) cells slots pc L [.int v] w := fun _ _ _ hZ hS _ =>
  vx_ret (W.widen h1 h2 (W.zret C.ex C.cd hr hn (fun t ht _ => ⟨⟨_, w, rfl, hq, by rw [ht]; exact hZ⟩, hS.F ht⟩) hS.2.2 hdg C.lk))
theorem z_aret (C : zC z p l s m args meth c cc own nL) {v : Value} {rt : FieldType} (hr : meth.sig.returnType = some rt) (hrt : (∃ n, rt = .object n) ∨ ∃ t, rt = .array t) (hv : v = .null ∨ ∃ a, v = .ref a) (hdg : decode cc pc = .ok (.areturn, 1)) (h1 : cells ≤ mc) (h2 : slots ≤ ms) (hq : Qr (some v) w) : ZJ z p l e R s m args below meth c (vx_MQ below (zQc z Qr) (zXC z Qx) args s mc ms (zA z)) cells slots pc L [v] w := fun _ _ _ hZ hS _ =>
  vx_ret (W.widen h1 h2 (W.aret C.ex C.cd hr hrt hv (fun t ht _ => ⟨⟨_, w, rfl, hq, by rw [ht]; exact hZ⟩, hS.F ht⟩) hS.2.2 hdg C.lk))
theorem z_vret (C : zC z p l s m args meth c cc own nL) (hr : meth.sig.returnType = none) (hdg : decode cc pc = .ok (.return_, 1)) (h1 : cells ≤ mc) (h2 : slots ≤ ms) (hq : Qr none w) : ZJ z p l e R s m args below meth c (vx_MQ below (zQc z Qr) (zXC z Qx) args s mc ms (zA z)) cells slots pc L [] w := fun _ _ _ hZ hS _ =>
  vx_ret (W.widen h1 h2 (W.vret C.ex C.cd hr (fun t ht _ => ⟨⟨_, w, rfl, hq, by rw [ht]; exact hZ⟩, hS.F ht⟩) hS.2.2 hdg C.lk))
abbrev zEN : List String := ["java/lang/RuntimeException", "java/lang/Exception"]
def zTS (own : String) (ik is ic : Nat) (cls text : String) : Prop := Bundle.fit cls = true ∧ Cond.classLink own ik cls ∈ lwG ∧ Cond.initialized cls ∈ lwG ∧ (own, is, text) ∈ zStr ∧ (∀ w ∈ (vx_atS own ic cls zEN).filter goodWord, w ∈ lwG) ∧ (∀ w ∈ (vx_atS own ic cls zEN).filter (fun w => !goodWord w), w ∈ Cond.castable cls cls :: zDec.map Cond.declares) ∧ (cls, cls) ∈ zCast ∧ (∀ w ∈ Cond.classLink own ik cls :: Cond.initialized cls :: vx_atS own ic cls zEN, vx_ot w = true)
theorem z_throw (C : zC z p l s m args meth c cc own nL) {ik is ic : Nat} {cls text : String} (F : zTS own ik is ic cls text) (hX : ∀ x ∈ c.exceptionTable.toList, False)
    (d0 : decode cc pc = .ok (.new ik, 3)) (d3 : decode cc (pc + 3) = .ok (.dup, 1)) (d4 : decode cc (pc + 4) = .ok (.ldc is, 2)) (d6 : decode cc (pc + 6) = .ok (.invokespecial ic, 3)) (d9 : decode cc (pc + 9) = .ok (.athrow, 1))
    (hLn : L.length = nL) (hRf : 5 < R.frames) (hRl : 82 ≤ R.locals) (hRc : cells + 1 ≤ R.cells) (hRs : slots + 6 ≤ R.slots) (h1 : cells + 1 ≤ mc) (h2 : slots + 6 ≤ ms) (hq : Qx cls w) :
    ZJ z p l e R s m args below meth c (vx_MQ below (zQc z Qr) (zXC z Qx) args s mc ms (zA z)) cells slots pc L [] w := by
  intro H locs ls hZ hS hL
  obtain ⟨f1, f2, f3, f4, f5, f6, f7, f8⟩ := F
  obtain ⟨sa, hsa⟩ := C.X.2.2.2.2.2.2.2.2.1 _ f4
  exact vx_throwS C.ex C.cd C.tr (names := zEN) C.ow f1 (by decide +kernel) (C.ts _ f2) (C.ts _ f3) hsa (vx_hat (fun w h => C.ts w (f5 w h)) f6 (vx_c (va_Nw.use rfl (C.X.2.2.2.2.2.2.1 _ f7)) (fun w h => by obtain ⟨x, hx, e⟩ := List.mem_map.mp h; rw [← e]; exact va_Nw.use rfl (C.X.2.2.2.2.2.2.2.2.2.2.2.2 x hx)))) f8 C.X.2.1 C.X.2.2.1 hS (by rw [C.ml]; exact hL.1.trans hLn) d0 d3 d4 d6 d9 (fun x hx => (hX x hx).elim) (by show 2 + 3 < _; exact hRf) (by show 0 + (13 * (2 + 1) + 43) ≤ _; omega) hRc hRs C.lk
    (fun t _ hz hk => ⟨⟨w, hq, hZ.kept hk⟩, Nat.le_trans hS.1 hz, fun q q1 q2 => (hk q (Nat.lt_of_lt_of_le q1 hS.1)).trans (hS.2.1 q q1 q2)⟩) hS.2.2 h1 h2
end ZCALL
end
section
/-! what the tables say, by places (laid by program out of the Statement and the printed names) -/
abbrev mX2_init : zMI := (yX2_init, cX2_init, 1, none)
theorem zc_X2_init : Cond.code yX2_init cX2_init 1 none ∈ lwG := lwG_in (List.mem_of_getElem? (i := 64) (by decide +kernel)) rfl
theorem zi_RX2 : Cond.initialized RX2 ∈ lwG := lwG_in (List.mem_of_getElem? (i := 41) (by decide +kernel)) rfl
theorem zmf_X2_init : zMF mX2_init 0 := ⟨zc_X2_init, zi_RX2, by decide +kernel, by decide +kernel, by decide +kernel⟩
theorem zn_X2_init : Cond.instanceMethod yX2_init ∈ lwG := lwG_in (List.mem_of_getElem? (i := 63) (by decide +kernel)) rfl
theorem zm_X2_init : zMC mX2_init 0 := ⟨zmf_X2_init, zn_X2_init, rfl, rfl⟩
abbrev mJx4a65c_init_da8c8 : zMI := (yJx4a65c_init_da8c8, cJx4a65c_init_da8c8, 1, none)
theorem zc_Jx4a65c_init_da8c8 : Cond.code yJx4a65c_init_da8c8 cJx4a65c_init_da8c8 1 none ∈ lwG := lwG_in (List.mem_of_getElem? (i := 72) (by decide +kernel)) rfl
theorem zi_RJx4a65c : Cond.initialized RJx4a65c ∈ lwG := lwG_in (List.mem_of_getElem? (i := 44) (by decide +kernel)) rfl
theorem zmf_Jx4a65c_init_da8c8 : zMF mJx4a65c_init_da8c8 0 := ⟨zc_Jx4a65c_init_da8c8, zi_RJx4a65c, by decide +kernel, by decide +kernel, by decide +kernel⟩
theorem zn_Jx4a65c_init_da8c8 : Cond.instanceMethod yJx4a65c_init_da8c8 ∈ lwG := lwG_in (List.mem_of_getElem? (i := 71) (by decide +kernel)) rfl
theorem zm_Jx4a65c_init_da8c8 : zMC mJx4a65c_init_da8c8 0 := ⟨zmf_Jx4a65c_init_da8c8, zn_Jx4a65c_init_da8c8, rfl, rfl⟩
abbrev mJxc12de_init_da8c8 : zMI := (yJxc12de_init_da8c8, cJxc12de_init_da8c8, 1, none)
theorem zc_Jxc12de_init_da8c8 : Cond.code yJxc12de_init_da8c8 cJxc12de_init_da8c8 1 none ∈ lwG := lwG_in (List.mem_of_getElem? (i := 75) (by decide +kernel)) rfl
theorem zi_RJxc12de : Cond.initialized RJxc12de ∈ lwG := lwG_in (List.mem_of_getElem? (i := 43) (by decide +kernel)) rfl
theorem zmf_Jxc12de_init_da8c8 : zMF mJxc12de_init_da8c8 0 := ⟨zc_Jxc12de_init_da8c8, zi_RJxc12de, by decide +kernel, by decide +kernel, by decide +kernel⟩
theorem zn_Jxc12de_init_da8c8 : Cond.instanceMethod yJxc12de_init_da8c8 ∈ lwG := lwG_in (List.mem_of_getElem? (i := 74) (by decide +kernel)) rfl
theorem zm_Jxc12de_init_da8c8 : zMC mJxc12de_init_da8c8 0 := ⟨zmf_Jxc12de_init_da8c8, zn_Jxc12de_init_da8c8, rfl, rfl⟩
abbrev mJxa1e45_init_da8c8 : zMI := (yJxa1e45_init_da8c8, cJxa1e45_init_da8c8, 1, none)
theorem zc_Jxa1e45_init_da8c8 : Cond.code yJxa1e45_init_da8c8 cJxa1e45_init_da8c8 1 none ∈ lwG := lwG_in (List.mem_of_getElem? (i := 78) (by decide +kernel)) rfl
theorem zi_RJxa1e45 : Cond.initialized RJxa1e45 ∈ lwG := lwG_in (List.mem_of_getElem? (i := 42) (by decide +kernel)) rfl
theorem zmf_Jxa1e45_init_da8c8 : zMF mJxa1e45_init_da8c8 0 := ⟨zc_Jxa1e45_init_da8c8, zi_RJxa1e45, by decide +kernel, by decide +kernel, by decide +kernel⟩
theorem zn_Jxa1e45_init_da8c8 : Cond.instanceMethod yJxa1e45_init_da8c8 ∈ lwG := lwG_in (List.mem_of_getElem? (i := 77) (by decide +kernel)) rfl
theorem zm_Jxa1e45_init_da8c8 : zMC mJxa1e45_init_da8c8 0 := ⟨zmf_Jxa1e45_init_da8c8, zn_Jxa1e45_init_da8c8, rfl, rfl⟩
abbrev mX0_init : zMI := (yX0_init, cX0_init, 1, none)
theorem zc_X0_init : Cond.code yX0_init cX0_init 1 none ∈ lwG := lwG_in (List.mem_of_getElem? (i := 98) (by decide +kernel)) rfl
theorem zi_RX0 : Cond.initialized RX0 ∈ lwG := lwG_in (List.mem_of_getElem? (i := 45) (by decide +kernel)) rfl
theorem zmf_X0_init : zMF mX0_init 0 := ⟨zc_X0_init, zi_RX0, by decide +kernel, by decide +kernel, by decide +kernel⟩
theorem zn_X0_init : Cond.instanceMethod yX0_init ∈ lwG := lwG_in (List.mem_of_getElem? (i := 97) (by decide +kernel)) rfl
theorem zm_X0_init : zMC mX0_init 0 := ⟨zmf_X0_init, zn_X0_init, rfl, rfl⟩
abbrev mX2_dispatch : zMI := (yX2_dispatch, cX2_dispatch, 1, (some .int))
theorem zc_X2_dispatch : Cond.code yX2_dispatch cX2_dispatch 1 (some .int) ∈ lwG := lwG_in (List.mem_of_getElem? (i := 152) (by decide +kernel)) rfl
theorem zmf_X2_dispatch : zMF mX2_dispatch 0 := ⟨zc_X2_dispatch, zi_RX2, by decide +kernel, by decide +kernel, by decide +kernel⟩
theorem zn_X2_dispatch : Cond.instanceMethod yX2_dispatch ∈ lwG := lwG_in (List.mem_of_getElem? (i := 150) (by decide +kernel)) rfl
theorem ze_X2_dispatch : Cond.selects RX2 yX2_dispatch yX2_dispatch ∈ lwG := lwG_in (List.mem_of_getElem? (i := 151) (by decide +kernel)) rfl
theorem zm_X2_dispatch : zMV mX2_dispatch 0 := ⟨zmf_X2_dispatch, zn_X2_dispatch, ze_X2_dispatch⟩
abbrev mX0_clear : zMI := (yX0_clear, cX0_clear, 2, none)
theorem zc_X0_clear : Cond.code yX0_clear cX0_clear 2 none ∈ lwG := lwG_in (List.mem_of_getElem? (i := 156) (by decide +kernel)) rfl
theorem zmf_X0_clear : zMF mX0_clear 0 := ⟨zc_X0_clear, zi_RX0, by decide +kernel, by decide +kernel, by decide +kernel⟩
theorem zn_X0_clear : Cond.instanceMethod yX0_clear ∈ lwG := lwG_in (List.mem_of_getElem? (i := 154) (by decide +kernel)) rfl
theorem ze_X0_clear : Cond.selects RX0 yX0_clear yX0_clear ∈ lwG := lwG_in (List.mem_of_getElem? (i := 155) (by decide +kernel)) rfl
theorem zm_X0_clear : zMV mX0_clear 0 := ⟨zmf_X0_clear, zn_X0_clear, ze_X0_clear⟩
abbrev mX2_matchOpenPlaces : zMI := (yX2_matchOpenPlaces, cX2_matchOpenPlaces, 2, none)
theorem zc_X2_matchOpenPlaces : Cond.code yX2_matchOpenPlaces cX2_matchOpenPlaces 2 none ∈ lwG := lwG_in (List.mem_of_getElem? (i := 160) (by decide +kernel)) rfl
theorem zmf_X2_matchOpenPlaces : zMF mX2_matchOpenPlaces 0 := ⟨zc_X2_matchOpenPlaces, zi_RX2, by decide +kernel, by decide +kernel, by decide +kernel⟩
theorem zn_X2_matchOpenPlaces : Cond.instanceMethod yX2_matchOpenPlaces ∈ lwG := lwG_in (List.mem_of_getElem? (i := 159) (by decide +kernel)) rfl
theorem ze_X2_matchOpenPlaces : Cond.selects RX2 yX2_matchOpenPlaces yX2_matchOpenPlaces ∈ lwG := lwG_in (List.mem_of_getElem? (i := 0) (by decide +kernel)) rfl
theorem zm_X2_matchOpenPlaces : zMV mX2_matchOpenPlaces 0 := ⟨zmf_X2_matchOpenPlaces, zn_X2_matchOpenPlaces, ze_X2_matchOpenPlaces⟩
abbrev mX2_isOpen : zMI := (yX2_isOpen, cX2_isOpen, 2, (some .boolean))
theorem zc_X2_isOpen : Cond.code yX2_isOpen cX2_isOpen 2 (some .boolean) ∈ lwG := lwG_in (List.mem_of_getElem? (i := 164) (by decide +kernel)) rfl
theorem zmf_X2_isOpen : zMF mX2_isOpen 1 := ⟨zc_X2_isOpen, zi_RX2, by decide +kernel, by decide +kernel, by decide +kernel⟩
theorem zn_X2_isOpen : Cond.instanceMethod yX2_isOpen ∈ lwG := lwG_in (List.mem_of_getElem? (i := 163) (by decide +kernel)) rfl
theorem ze_X2_isOpen : Cond.selects RX2 yX2_isOpen yX2_isOpen ∈ lwG := lwG_in (List.mem_of_getElem? (i := 1) (by decide +kernel)) rfl
theorem zm_X2_isOpen : zMV mX2_isOpen 1 := ⟨zmf_X2_isOpen, zn_X2_isOpen, ze_X2_isOpen⟩
abbrev mX2_holderOf : zMI := (yX2_holderOf, cX2_holderOf, 3, (some .int))
theorem zc_X2_holderOf : Cond.code yX2_holderOf cX2_holderOf 3 (some .int) ∈ lwG := lwG_in (List.mem_of_getElem? (i := 168) (by decide +kernel)) rfl
theorem zmf_X2_holderOf : zMF mX2_holderOf 1 := ⟨zc_X2_holderOf, zi_RX2, by decide +kernel, by decide +kernel, by decide +kernel⟩
theorem zn_X2_holderOf : Cond.instanceMethod yX2_holderOf ∈ lwG := lwG_in (List.mem_of_getElem? (i := 167) (by decide +kernel)) rfl
theorem ze_X2_holderOf : Cond.selects RX2 yX2_holderOf yX2_holderOf ∈ lwG := lwG_in (List.mem_of_getElem? (i := 2) (by decide +kernel)) rfl
theorem zm_X2_holderOf : zMV mX2_holderOf 1 := ⟨zmf_X2_holderOf, zn_X2_holderOf, ze_X2_holderOf⟩
abbrev mJx4a65c_size_8abf5 : zMI := (yJx4a65c_size_8abf5, cJx4a65c_size_8abf5, 1, (some .int))
theorem zc_Jx4a65c_size_8abf5 : Cond.code yJx4a65c_size_8abf5 cJx4a65c_size_8abf5 1 (some .int) ∈ lwG := lwG_in (List.mem_of_getElem? (i := 172) (by decide +kernel)) rfl
theorem zmf_Jx4a65c_size_8abf5 : zMF mJx4a65c_size_8abf5 0 := ⟨zc_Jx4a65c_size_8abf5, zi_RJx4a65c, by decide +kernel, by decide +kernel, by decide +kernel⟩
theorem zn_Jx4a65c_size_8abf5 : Cond.instanceMethod yJx4a65c_size_8abf5 ∈ lwG := lwG_in (List.mem_of_getElem? (i := 170) (by decide +kernel)) rfl
theorem ze_Jx4a65c_size_8abf5 : Cond.selects RJx4a65c yJx4a65c_size_8abf5 yJx4a65c_size_8abf5 ∈ lwG := lwG_in (List.mem_of_getElem? (i := 171) (by decide +kernel)) rfl
theorem zm_Jx4a65c_size_8abf5 : zMV mJx4a65c_size_8abf5 0 := ⟨zmf_Jx4a65c_size_8abf5, zn_Jx4a65c_size_8abf5, ze_Jx4a65c_size_8abf5⟩
abbrev mJx4a65c_get_915e3 : zMI := (yJx4a65c_get_915e3, cJx4a65c_get_915e3, 2, (some (.object "java/lang/Object")))
theorem zc_Jx4a65c_get_915e3 : Cond.code yJx4a65c_get_915e3 cJx4a65c_get_915e3 2 (some (.object "java/lang/Object")) ∈ lwG := lwG_in (List.mem_of_getElem? (i := 176) (by decide +kernel)) rfl
theorem zmf_Jx4a65c_get_915e3 : zMF mJx4a65c_get_915e3 1 := ⟨zc_Jx4a65c_get_915e3, zi_RJx4a65c, by decide +kernel, by decide +kernel, by decide +kernel⟩
theorem zn_Jx4a65c_get_915e3 : Cond.instanceMethod yJx4a65c_get_915e3 ∈ lwG := lwG_in (List.mem_of_getElem? (i := 174) (by decide +kernel)) rfl
theorem ze_Jx4a65c_get_915e3 : Cond.selects RJx4a65c yJx4a65c_get_915e3 yJx4a65c_get_915e3 ∈ lwG := lwG_in (List.mem_of_getElem? (i := 175) (by decide +kernel)) rfl
theorem zm_Jx4a65c_get_915e3 : zMV mJx4a65c_get_915e3 1 := ⟨zmf_Jx4a65c_get_915e3, zn_Jx4a65c_get_915e3, ze_Jx4a65c_get_915e3⟩
abbrev mJ15_checkIndex_7cf53 : zMI := (yJ15_checkIndex_7cf53, cJ15_checkIndex_7cf53, 2, (some .int))
theorem zc_J15_checkIndex_7cf53 : Cond.code yJ15_checkIndex_7cf53 cJ15_checkIndex_7cf53 2 (some .int) ∈ lwG := lwG_in (List.mem_of_getElem? (i := 179) (by decide +kernel)) rfl
theorem zi_RJ15 : Cond.initialized RJ15 ∈ lwG := lwG_in (List.mem_of_getElem? (i := 53) (by decide +kernel)) rfl
theorem zmf_J15_checkIndex_7cf53 : zMF mJ15_checkIndex_7cf53 2 := ⟨zc_J15_checkIndex_7cf53, zi_RJ15, by decide +kernel, by decide +kernel, by decide +kernel⟩
theorem zs_J15_checkIndex_7cf53 : Cond.static yJ15_checkIndex_7cf53 ∈ lwG := lwG_in (List.mem_of_getElem? (i := 178) (by decide +kernel)) rfl
theorem zm_J15_checkIndex_7cf53 : zMS mJ15_checkIndex_7cf53 2 := ⟨zmf_J15_checkIndex_7cf53, zs_J15_checkIndex_7cf53⟩
abbrev mJ3_checkIndex_8e157 : zMI := (yJ3_checkIndex_8e157, cJ3_checkIndex_8e157, 3, (some .int))
theorem zc_J3_checkIndex_8e157 : Cond.code yJ3_checkIndex_8e157 cJ3_checkIndex_8e157 3 (some .int) ∈ lwG := lwG_in (List.mem_of_getElem? (i := 182) (by decide +kernel)) rfl
theorem zi_RJ3 : Cond.initialized RJ3 ∈ lwG := lwG_in (List.mem_of_getElem? (i := 54) (by decide +kernel)) rfl
theorem zmf_J3_checkIndex_8e157 : zMF mJ3_checkIndex_8e157 3 := ⟨zc_J3_checkIndex_8e157, zi_RJ3, by decide +kernel, by decide +kernel, by decide +kernel⟩
theorem zs_J3_checkIndex_8e157 : Cond.static yJ3_checkIndex_8e157 ∈ lwG := lwG_in (List.mem_of_getElem? (i := 181) (by decide +kernel)) rfl
theorem zm_J3_checkIndex_8e157 : zMS mJ3_checkIndex_8e157 3 := ⟨zmf_J3_checkIndex_8e157, zs_J3_checkIndex_8e157⟩
abbrev mJx4a65c_elementData_915e3 : zMI := (yJx4a65c_elementData_915e3, cJx4a65c_elementData_915e3, 2, (some (.object "java/lang/Object")))
theorem zc_Jx4a65c_elementData_915e3 : Cond.code yJx4a65c_elementData_915e3 cJx4a65c_elementData_915e3 2 (some (.object "java/lang/Object")) ∈ lwG := lwG_in (List.mem_of_getElem? (i := 186) (by decide +kernel)) rfl
theorem zmf_Jx4a65c_elementData_915e3 : zMF mJx4a65c_elementData_915e3 1 := ⟨zc_Jx4a65c_elementData_915e3, zi_RJx4a65c, by decide +kernel, by decide +kernel, by decide +kernel⟩
theorem zn_Jx4a65c_elementData_915e3 : Cond.instanceMethod yJx4a65c_elementData_915e3 ∈ lwG := lwG_in (List.mem_of_getElem? (i := 184) (by decide +kernel)) rfl
theorem ze_Jx4a65c_elementData_915e3 : Cond.selects RJx4a65c yJx4a65c_elementData_915e3 yJx4a65c_elementData_915e3 ∈ lwG := lwG_in (List.mem_of_getElem? (i := 185) (by decide +kernel)) rfl
theorem zm_Jx4a65c_elementData_915e3 : zMV mJx4a65c_elementData_915e3 1 := ⟨zmf_Jx4a65c_elementData_915e3, zn_Jx4a65c_elementData_915e3, ze_Jx4a65c_elementData_915e3⟩
abbrev mX0_addPlace : zMI := (yX0_addPlace, cX0_addPlace, 3, none)
theorem zc_X0_addPlace : Cond.code yX0_addPlace cX0_addPlace 3 none ∈ lwG := lwG_in (List.mem_of_getElem? (i := 191) (by decide +kernel)) rfl
theorem zmf_X0_addPlace : zMF mX0_addPlace 1 := ⟨zc_X0_addPlace, zi_RX0, by decide +kernel, by decide +kernel, by decide +kernel⟩
theorem zn_X0_addPlace : Cond.instanceMethod yX0_addPlace ∈ lwG := lwG_in (List.mem_of_getElem? (i := 189) (by decide +kernel)) rfl
theorem ze_X0_addPlace : Cond.selects RX0 yX0_addPlace yX0_addPlace ∈ lwG := lwG_in (List.mem_of_getElem? (i := 190) (by decide +kernel)) rfl
theorem zm_X0_addPlace : zMV mX0_addPlace 1 := ⟨zmf_X0_addPlace, zn_X0_addPlace, ze_X0_addPlace⟩
abbrev mX0_oneIfWithin : zMI := (yX0_oneIfWithin, cX0_oneIfWithin, 2, (some .int))
theorem zc_X0_oneIfWithin : Cond.code yX0_oneIfWithin cX0_oneIfWithin 2 (some .int) ∈ lwG := lwG_in (List.mem_of_getElem? (i := 194) (by decide +kernel)) rfl
theorem zmf_X0_oneIfWithin : zMF mX0_oneIfWithin 2 := ⟨zc_X0_oneIfWithin, zi_RX0, by decide +kernel, by decide +kernel, by decide +kernel⟩
theorem zs_X0_oneIfWithin : Cond.static yX0_oneIfWithin ∈ lwG := lwG_in (List.mem_of_getElem? (i := 193) (by decide +kernel)) rfl
theorem zm_X0_oneIfWithin : zMS mX0_oneIfWithin 2 := ⟨zmf_X0_oneIfWithin, zs_X0_oneIfWithin⟩
abbrev mX2_takeInTurn : zMI := (yX2_takeInTurn, cX2_takeInTurn, 3, none)
theorem zc_X2_takeInTurn : Cond.code yX2_takeInTurn cX2_takeInTurn 3 none ∈ lwG := lwG_in (List.mem_of_getElem? (i := 198) (by decide +kernel)) rfl
theorem zmf_X2_takeInTurn : zMF mX2_takeInTurn 0 := ⟨zc_X2_takeInTurn, zi_RX2, by decide +kernel, by decide +kernel, by decide +kernel⟩
theorem zn_X2_takeInTurn : Cond.instanceMethod yX2_takeInTurn ∈ lwG := lwG_in (List.mem_of_getElem? (i := 197) (by decide +kernel)) rfl
theorem ze_X2_takeInTurn : Cond.selects RX2 yX2_takeInTurn yX2_takeInTurn ∈ lwG := lwG_in (List.mem_of_getElem? (i := 3) (by decide +kernel)) rfl
theorem zm_X2_takeInTurn : zMV mX2_takeInTurn 0 := ⟨zmf_X2_takeInTurn, zn_X2_takeInTurn, ze_X2_takeInTurn⟩
abbrev mJx4a65c_clear_da8c8 : zMI := (yJx4a65c_clear_da8c8, cJx4a65c_clear_da8c8, 4, none)
theorem zc_Jx4a65c_clear_da8c8 : Cond.code yJx4a65c_clear_da8c8 cJx4a65c_clear_da8c8 4 none ∈ lwG := lwG_in (List.mem_of_getElem? (i := 202) (by decide +kernel)) rfl
theorem zmf_Jx4a65c_clear_da8c8 : zMF mJx4a65c_clear_da8c8 0 := ⟨zc_Jx4a65c_clear_da8c8, zi_RJx4a65c, by decide +kernel, by decide +kernel, by decide +kernel⟩
theorem zn_Jx4a65c_clear_da8c8 : Cond.instanceMethod yJx4a65c_clear_da8c8 ∈ lwG := lwG_in (List.mem_of_getElem? (i := 200) (by decide +kernel)) rfl
theorem ze_Jx4a65c_clear_da8c8 : Cond.selects RJx4a65c yJx4a65c_clear_da8c8 yJx4a65c_clear_da8c8 ∈ lwG := lwG_in (List.mem_of_getElem? (i := 201) (by decide +kernel)) rfl
theorem zm_Jx4a65c_clear_da8c8 : zMV mJx4a65c_clear_da8c8 0 := ⟨zmf_Jx4a65c_clear_da8c8, zn_Jx4a65c_clear_da8c8, ze_Jx4a65c_clear_da8c8⟩
abbrev mX2_rememberTurn : zMI := (yX2_rememberTurn, cX2_rememberTurn, 2, none)
theorem zc_X2_rememberTurn : Cond.code yX2_rememberTurn cX2_rememberTurn 2 none ∈ lwG := lwG_in (List.mem_of_getElem? (i := 206) (by decide +kernel)) rfl
theorem zmf_X2_rememberTurn : zMF mX2_rememberTurn 0 := ⟨zc_X2_rememberTurn, zi_RX2, by decide +kernel, by decide +kernel, by decide +kernel⟩
theorem zn_X2_rememberTurn : Cond.instanceMethod yX2_rememberTurn ∈ lwG := lwG_in (List.mem_of_getElem? (i := 205) (by decide +kernel)) rfl
theorem ze_X2_rememberTurn : Cond.selects RX2 yX2_rememberTurn yX2_rememberTurn ∈ lwG := lwG_in (List.mem_of_getElem? (i := 4) (by decide +kernel)) rfl
theorem zm_X2_rememberTurn : zMV mX2_rememberTurn 0 := ⟨zmf_X2_rememberTurn, zn_X2_rememberTurn, ze_X2_rememberTurn⟩
abbrev mJx4a65c_add_9ea2d : zMI := (yJx4a65c_add_9ea2d, cJx4a65c_add_9ea2d, 2, (some .boolean))
theorem zc_Jx4a65c_add_9ea2d : Cond.code yJx4a65c_add_9ea2d cJx4a65c_add_9ea2d 2 (some .boolean) ∈ lwG := lwG_in (List.mem_of_getElem? (i := 210) (by decide +kernel)) rfl
theorem zmf_Jx4a65c_add_9ea2d : zMF mJx4a65c_add_9ea2d 1 := ⟨zc_Jx4a65c_add_9ea2d, zi_RJx4a65c, by decide +kernel, by decide +kernel, by decide +kernel⟩
theorem zn_Jx4a65c_add_9ea2d : Cond.instanceMethod yJx4a65c_add_9ea2d ∈ lwG := lwG_in (List.mem_of_getElem? (i := 208) (by decide +kernel)) rfl
theorem ze_Jx4a65c_add_9ea2d : Cond.selects RJx4a65c yJx4a65c_add_9ea2d yJx4a65c_add_9ea2d ∈ lwG := lwG_in (List.mem_of_getElem? (i := 209) (by decide +kernel)) rfl
theorem zm_Jx4a65c_add_9ea2d : zMV mJx4a65c_add_9ea2d 1 := ⟨zmf_Jx4a65c_add_9ea2d, zn_Jx4a65c_add_9ea2d, ze_Jx4a65c_add_9ea2d⟩
abbrev mJx4a65c_add_72be8 : zMI := (yJx4a65c_add_72be8, cJx4a65c_add_72be8, 4, none)
theorem zc_Jx4a65c_add_72be8 : Cond.code yJx4a65c_add_72be8 cJx4a65c_add_72be8 4 none ∈ lwG := lwG_in (List.mem_of_getElem? (i := 214) (by decide +kernel)) rfl
theorem zmf_Jx4a65c_add_72be8 : zMF mJx4a65c_add_72be8 3 := ⟨zc_Jx4a65c_add_72be8, zi_RJx4a65c, by decide +kernel, by decide +kernel, by decide +kernel⟩
theorem zn_Jx4a65c_add_72be8 : Cond.instanceMethod yJx4a65c_add_72be8 ∈ lwG := lwG_in (List.mem_of_getElem? (i := 213) (by decide +kernel)) rfl
theorem ze_Jx4a65c_add_72be8 : Cond.selects RJx4a65c yJx4a65c_add_72be8 yJx4a65c_add_72be8 ∈ lwG := lwG_in (List.mem_of_getElem? (i := 5) (by decide +kernel)) rfl
theorem zm_Jx4a65c_add_72be8 : zMV mJx4a65c_add_72be8 3 := ⟨zmf_Jx4a65c_add_72be8, zn_Jx4a65c_add_72be8, ze_Jx4a65c_add_72be8⟩
abbrev mJx4a65c_grow_d5877 : zMI := (yJx4a65c_grow_d5877, cJx4a65c_grow_d5877, 1, (some (.array (.object "java/lang/Object"))))
theorem zc_Jx4a65c_grow_d5877 : Cond.code yJx4a65c_grow_d5877 cJx4a65c_grow_d5877 1 (some (.array (.object "java/lang/Object"))) ∈ lwG := lwG_in (List.mem_of_getElem? (i := 218) (by decide +kernel)) rfl
theorem zmf_Jx4a65c_grow_d5877 : zMF mJx4a65c_grow_d5877 0 := ⟨zc_Jx4a65c_grow_d5877, zi_RJx4a65c, by decide +kernel, by decide +kernel, by decide +kernel⟩
theorem zn_Jx4a65c_grow_d5877 : Cond.instanceMethod yJx4a65c_grow_d5877 ∈ lwG := lwG_in (List.mem_of_getElem? (i := 217) (by decide +kernel)) rfl
theorem ze_Jx4a65c_grow_d5877 : Cond.selects RJx4a65c yJx4a65c_grow_d5877 yJx4a65c_grow_d5877 ∈ lwG := lwG_in (List.mem_of_getElem? (i := 6) (by decide +kernel)) rfl
theorem zm_Jx4a65c_grow_d5877 : zMV mJx4a65c_grow_d5877 0 := ⟨zmf_Jx4a65c_grow_d5877, zn_Jx4a65c_grow_d5877, ze_Jx4a65c_grow_d5877⟩
abbrev mJx4a65c_grow_92f84 : zMI := (yJx4a65c_grow_92f84, cJx4a65c_grow_92f84, 4, (some (.array (.object "java/lang/Object"))))
theorem zc_Jx4a65c_grow_92f84 : Cond.code yJx4a65c_grow_92f84 cJx4a65c_grow_92f84 4 (some (.array (.object "java/lang/Object"))) ∈ lwG := lwG_in (List.mem_of_getElem? (i := 222) (by decide +kernel)) rfl
theorem zmf_Jx4a65c_grow_92f84 : zMF mJx4a65c_grow_92f84 1 := ⟨zc_Jx4a65c_grow_92f84, zi_RJx4a65c, by decide +kernel, by decide +kernel, by decide +kernel⟩
theorem zn_Jx4a65c_grow_92f84 : Cond.instanceMethod yJx4a65c_grow_92f84 ∈ lwG := lwG_in (List.mem_of_getElem? (i := 221) (by decide +kernel)) rfl
theorem ze_Jx4a65c_grow_92f84 : Cond.selects RJx4a65c yJx4a65c_grow_92f84 yJx4a65c_grow_92f84 ∈ lwG := lwG_in (List.mem_of_getElem? (i := 7) (by decide +kernel)) rfl
theorem zm_Jx4a65c_grow_92f84 : zMV mJx4a65c_grow_92f84 1 := ⟨zmf_Jx4a65c_grow_92f84, zn_Jx4a65c_grow_92f84, ze_Jx4a65c_grow_92f84⟩
abbrev mJ8_newLength_cabcc : zMI := (yJ8_newLength_cabcc, cJ8_newLength_cabcc, 4, (some .int))
theorem zc_J8_newLength_cabcc : Cond.code yJ8_newLength_cabcc cJ8_newLength_cabcc 4 (some .int) ∈ lwG := lwG_in (List.mem_of_getElem? (i := 225) (by decide +kernel)) rfl
theorem zi_RJ8 : Cond.initialized RJ8 ∈ lwG := lwG_in (List.mem_of_getElem? (i := 55) (by decide +kernel)) rfl
theorem zmf_J8_newLength_cabcc : zMF mJ8_newLength_cabcc 3 := ⟨zc_J8_newLength_cabcc, zi_RJ8, by decide +kernel, by decide +kernel, by decide +kernel⟩
theorem zs_J8_newLength_cabcc : Cond.static yJ8_newLength_cabcc ∈ lwG := lwG_in (List.mem_of_getElem? (i := 224) (by decide +kernel)) rfl
theorem zm_J8_newLength_cabcc : zMS mJ8_newLength_cabcc 3 := ⟨zmf_J8_newLength_cabcc, zs_J8_newLength_cabcc⟩
abbrev mJ9_max_7cf53 : zMI := (yJ9_max_7cf53, cJ9_max_7cf53, 2, (some .int))
theorem zc_J9_max_7cf53 : Cond.code yJ9_max_7cf53 cJ9_max_7cf53 2 (some .int) ∈ lwG := lwG_in (List.mem_of_getElem? (i := 228) (by decide +kernel)) rfl
theorem zi_RJ9 : Cond.initialized RJ9 ∈ lwG := lwG_in (List.mem_of_getElem? (i := 56) (by decide +kernel)) rfl
theorem zmf_J9_max_7cf53 : zMF mJ9_max_7cf53 2 := ⟨zc_J9_max_7cf53, zi_RJ9, by decide +kernel, by decide +kernel, by decide +kernel⟩
theorem zs_J9_max_7cf53 : Cond.static yJ9_max_7cf53 ∈ lwG := lwG_in (List.mem_of_getElem? (i := 227) (by decide +kernel)) rfl
theorem zm_J9_max_7cf53 : zMS mJ9_max_7cf53 2 := ⟨zmf_J9_max_7cf53, zs_J9_max_7cf53⟩
abbrev mJ8_hugeLength_7cf53 : zMI := (yJ8_hugeLength_7cf53, cJ8_hugeLength_7cf53, 3, (some .int))
theorem zc_J8_hugeLength_7cf53 : Cond.code yJ8_hugeLength_7cf53 cJ8_hugeLength_7cf53 3 (some .int) ∈ lwG := lwG_in (List.mem_of_getElem? (i := 232) (by decide +kernel)) rfl
theorem zmf_J8_hugeLength_7cf53 : zMF mJ8_hugeLength_7cf53 2 := ⟨zc_J8_hugeLength_7cf53, zi_RJ8, by decide +kernel, by decide +kernel, by decide +kernel⟩
theorem zs_J8_hugeLength_7cf53 : Cond.static yJ8_hugeLength_7cf53 ∈ lwG := lwG_in (List.mem_of_getElem? (i := 231) (by decide +kernel)) rfl
theorem zm_J8_hugeLength_7cf53 : zMS mJ8_hugeLength_7cf53 2 := ⟨zmf_J8_hugeLength_7cf53, zs_J8_hugeLength_7cf53⟩
abbrev mJ7_copyOf_1904c : zMI := (yJ7_copyOf_1904c, cJ7_copyOf_1904c, 2, (some (.array (.object "java/lang/Object"))))
theorem zc_J7_copyOf_1904c : Cond.code yJ7_copyOf_1904c cJ7_copyOf_1904c 2 (some (.array (.object "java/lang/Object"))) ∈ lwG := lwG_in (List.mem_of_getElem? (i := 235) (by decide +kernel)) rfl
theorem zi_RJ7 : Cond.initialized RJ7 ∈ lwG := lwG_in (List.mem_of_getElem? (i := 57) (by decide +kernel)) rfl
theorem zmf_J7_copyOf_1904c : zMF mJ7_copyOf_1904c 2 := ⟨zc_J7_copyOf_1904c, zi_RJ7, by decide +kernel, by decide +kernel, by decide +kernel⟩
theorem zs_J7_copyOf_1904c : Cond.static yJ7_copyOf_1904c ∈ lwG := lwG_in (List.mem_of_getElem? (i := 234) (by decide +kernel)) rfl
theorem zm_J7_copyOf_1904c : zMS mJ7_copyOf_1904c 2 := ⟨zmf_J7_copyOf_1904c, zs_J7_copyOf_1904c⟩
abbrev mJ7_copyOf_6403c : zMI := (yJ7_copyOf_6403c, cJ7_copyOf_6403c, 4, (some (.array (.object "java/lang/Object"))))
theorem zc_J7_copyOf_6403c : Cond.code yJ7_copyOf_6403c cJ7_copyOf_6403c 4 (some (.array (.object "java/lang/Object"))) ∈ lwG := lwG_in (List.mem_of_getElem? (i := 250) (by decide +kernel)) rfl
theorem zmf_J7_copyOf_6403c : zMF mJ7_copyOf_6403c 3 := ⟨zc_J7_copyOf_6403c, zi_RJ7, by decide +kernel, by decide +kernel, by decide +kernel⟩
theorem zs_J7_copyOf_6403c : Cond.static yJ7_copyOf_6403c ∈ lwG := lwG_in (List.mem_of_getElem? (i := 249) (by decide +kernel)) rfl
theorem zm_J7_copyOf_6403c : zMS mJ7_copyOf_6403c 3 := ⟨zmf_J7_copyOf_6403c, zs_J7_copyOf_6403c⟩
abbrev mJ9_min_7cf53 : zMI := (yJ9_min_7cf53, cJ9_min_7cf53, 2, (some .int))
theorem zc_J9_min_7cf53 : Cond.code yJ9_min_7cf53 cJ9_min_7cf53 2 (some .int) ∈ lwG := lwG_in (List.mem_of_getElem? (i := 256) (by decide +kernel)) rfl
theorem zmf_J9_min_7cf53 : zMF mJ9_min_7cf53 2 := ⟨zc_J9_min_7cf53, zi_RJ9, by decide +kernel, by decide +kernel, by decide +kernel⟩
theorem zs_J9_min_7cf53 : Cond.static yJ9_min_7cf53 ∈ lwG := lwG_in (List.mem_of_getElem? (i := 255) (by decide +kernel)) rfl
theorem zm_J9_min_7cf53 : zMS mJ9_min_7cf53 2 := ⟨zmf_J9_min_7cf53, zs_J9_min_7cf53⟩
abbrev mX1_isReady : zMI := (yX1_isReady, cX1_isReady, 1, (some .boolean))
theorem zc_X1_isReady : Cond.code yX1_isReady cX1_isReady 1 (some .boolean) ∈ lwG := lwG_in (List.mem_of_getElem? (i := 265) (by decide +kernel)) rfl
theorem zi_RX1 : Cond.initialized RX1 ∈ lwG := lwG_in (List.mem_of_getElem? (i := 52) (by decide +kernel)) rfl
theorem zmf_X1_isReady : zMF mX1_isReady 0 := ⟨zc_X1_isReady, zi_RX1, by decide +kernel, by decide +kernel, by decide +kernel⟩
theorem zn_X1_isReady : Cond.instanceMethod yX1_isReady ∈ lwG := lwG_in (List.mem_of_getElem? (i := 263) (by decide +kernel)) rfl
theorem ze_X1_isReady : Cond.selects RX1 yX1_isReady yX1_isReady ∈ lwG := lwG_in (List.mem_of_getElem? (i := 264) (by decide +kernel)) rfl
theorem zm_X1_isReady : zMV mX1_isReady 0 := ⟨zmf_X1_isReady, zn_X1_isReady, ze_X1_isReady⟩
abbrev mX0_canPlaceAlso : zMI := (yX0_canPlaceAlso, cX0_canPlaceAlso, 3, (some .boolean))
theorem zc_X0_canPlaceAlso : Cond.code yX0_canPlaceAlso cX0_canPlaceAlso 3 (some .boolean) ∈ lwG := lwG_in (List.mem_of_getElem? (i := 269) (by decide +kernel)) rfl
theorem zmf_X0_canPlaceAlso : zMF mX0_canPlaceAlso 1 := ⟨zc_X0_canPlaceAlso, zi_RX0, by decide +kernel, by decide +kernel, by decide +kernel⟩
theorem zn_X0_canPlaceAlso : Cond.instanceMethod yX0_canPlaceAlso ∈ lwG := lwG_in (List.mem_of_getElem? (i := 267) (by decide +kernel)) rfl
theorem ze_X0_canPlaceAlso : Cond.selects RX0 yX0_canPlaceAlso yX0_canPlaceAlso ∈ lwG := lwG_in (List.mem_of_getElem? (i := 268) (by decide +kernel)) rfl
theorem zm_X0_canPlaceAlso : zMV mX0_canPlaceAlso 1 := ⟨zmf_X0_canPlaceAlso, zn_X0_canPlaceAlso, ze_X0_canPlaceAlso⟩
abbrev mX2_countRefusal : zMI := (yX2_countRefusal, cX2_countRefusal, 2, none)
theorem zc_X2_countRefusal : Cond.code yX2_countRefusal cX2_countRefusal 2 none ∈ lwG := lwG_in (List.mem_of_getElem? (i := 273) (by decide +kernel)) rfl
theorem zmf_X2_countRefusal : zMF mX2_countRefusal 1 := ⟨zc_X2_countRefusal, zi_RX2, by decide +kernel, by decide +kernel, by decide +kernel⟩
theorem zn_X2_countRefusal : Cond.instanceMethod yX2_countRefusal ∈ lwG := lwG_in (List.mem_of_getElem? (i := 272) (by decide +kernel)) rfl
theorem ze_X2_countRefusal : Cond.selects RX2 yX2_countRefusal yX2_countRefusal ∈ lwG := lwG_in (List.mem_of_getElem? (i := 8) (by decide +kernel)) rfl
theorem zm_X2_countRefusal : zMV mX2_countRefusal 1 := ⟨zmf_X2_countRefusal, zn_X2_countRefusal, ze_X2_countRefusal⟩
abbrev mX2_sendToBottom : zMI := (yX2_sendToBottom, cX2_sendToBottom, 2, none)
theorem zc_X2_sendToBottom : Cond.code yX2_sendToBottom cX2_sendToBottom 2 none ∈ lwG := lwG_in (List.mem_of_getElem? (i := 277) (by decide +kernel)) rfl
theorem zmf_X2_sendToBottom : zMF mX2_sendToBottom 1 := ⟨zc_X2_sendToBottom, zi_RX2, by decide +kernel, by decide +kernel, by decide +kernel⟩
theorem zn_X2_sendToBottom : Cond.instanceMethod yX2_sendToBottom ∈ lwG := lwG_in (List.mem_of_getElem? (i := 276) (by decide +kernel)) rfl
theorem ze_X2_sendToBottom : Cond.selects RX2 yX2_sendToBottom yX2_sendToBottom ∈ lwG := lwG_in (List.mem_of_getElem? (i := 9) (by decide +kernel)) rfl
theorem zm_X2_sendToBottom : zMV mX2_sendToBottom 1 := ⟨zmf_X2_sendToBottom, zn_X2_sendToBottom, ze_X2_sendToBottom⟩
abbrev mX2_takeOffBoard : zMI := (yX2_takeOffBoard, cX2_takeOffBoard, 3, none)
theorem zc_X2_takeOffBoard : Cond.code yX2_takeOffBoard cX2_takeOffBoard 3 none ∈ lwG := lwG_in (List.mem_of_getElem? (i := 281) (by decide +kernel)) rfl
theorem zmf_X2_takeOffBoard : zMF mX2_takeOffBoard 1 := ⟨zc_X2_takeOffBoard, zi_RX2, by decide +kernel, by decide +kernel, by decide +kernel⟩
theorem zn_X2_takeOffBoard : Cond.instanceMethod yX2_takeOffBoard ∈ lwG := lwG_in (List.mem_of_getElem? (i := 280) (by decide +kernel)) rfl
theorem ze_X2_takeOffBoard : Cond.selects RX2 yX2_takeOffBoard yX2_takeOffBoard ∈ lwG := lwG_in (List.mem_of_getElem? (i := 10) (by decide +kernel)) rfl
theorem zm_X2_takeOffBoard : zMV mX2_takeOffBoard 1 := ⟨zmf_X2_takeOffBoard, zn_X2_takeOffBoard, ze_X2_takeOffBoard⟩
abbrev mJx4a65c_remove_915e3 : zMI := (yJx4a65c_remove_915e3, cJx4a65c_remove_915e3, 4, (some (.object "java/lang/Object")))
theorem zc_Jx4a65c_remove_915e3 : Cond.code yJx4a65c_remove_915e3 cJx4a65c_remove_915e3 4 (some (.object "java/lang/Object")) ∈ lwG := lwG_in (List.mem_of_getElem? (i := 285) (by decide +kernel)) rfl
theorem zmf_Jx4a65c_remove_915e3 : zMF mJx4a65c_remove_915e3 1 := ⟨zc_Jx4a65c_remove_915e3, zi_RJx4a65c, by decide +kernel, by decide +kernel, by decide +kernel⟩
theorem zn_Jx4a65c_remove_915e3 : Cond.instanceMethod yJx4a65c_remove_915e3 ∈ lwG := lwG_in (List.mem_of_getElem? (i := 283) (by decide +kernel)) rfl
theorem ze_Jx4a65c_remove_915e3 : Cond.selects RJx4a65c yJx4a65c_remove_915e3 yJx4a65c_remove_915e3 ∈ lwG := lwG_in (List.mem_of_getElem? (i := 284) (by decide +kernel)) rfl
theorem zm_Jx4a65c_remove_915e3 : zMV mJx4a65c_remove_915e3 1 := ⟨zmf_Jx4a65c_remove_915e3, zn_Jx4a65c_remove_915e3, ze_Jx4a65c_remove_915e3⟩
abbrev mJx4a65c_fastRemove_b59b0 : zMI := (yJx4a65c_fastRemove_b59b0, cJx4a65c_fastRemove_b59b0, 4, none)
theorem zc_Jx4a65c_fastRemove_b59b0 : Cond.code yJx4a65c_fastRemove_b59b0 cJx4a65c_fastRemove_b59b0 4 none ∈ lwG := lwG_in (List.mem_of_getElem? (i := 289) (by decide +kernel)) rfl
theorem zmf_Jx4a65c_fastRemove_b59b0 : zMF mJx4a65c_fastRemove_b59b0 2 := ⟨zc_Jx4a65c_fastRemove_b59b0, zi_RJx4a65c, by decide +kernel, by decide +kernel, by decide +kernel⟩
theorem zn_Jx4a65c_fastRemove_b59b0 : Cond.instanceMethod yJx4a65c_fastRemove_b59b0 ∈ lwG := lwG_in (List.mem_of_getElem? (i := 288) (by decide +kernel)) rfl
theorem ze_Jx4a65c_fastRemove_b59b0 : Cond.selects RJx4a65c yJx4a65c_fastRemove_b59b0 yJx4a65c_fastRemove_b59b0 ∈ lwG := lwG_in (List.mem_of_getElem? (i := 11) (by decide +kernel)) rfl
theorem zm_Jx4a65c_fastRemove_b59b0 : zMV mJx4a65c_fastRemove_b59b0 2 := ⟨zmf_Jx4a65c_fastRemove_b59b0, zn_Jx4a65c_fastRemove_b59b0, ze_Jx4a65c_fastRemove_b59b0⟩
abbrev mX2_putAtBottom : zMI := (yX2_putAtBottom, cX2_putAtBottom, 3, none)
theorem zc_X2_putAtBottom : Cond.code yX2_putAtBottom cX2_putAtBottom 3 none ∈ lwG := lwG_in (List.mem_of_getElem? (i := 294) (by decide +kernel)) rfl
theorem zmf_X2_putAtBottom : zMF mX2_putAtBottom 1 := ⟨zc_X2_putAtBottom, zi_RX2, by decide +kernel, by decide +kernel, by decide +kernel⟩
theorem zn_X2_putAtBottom : Cond.instanceMethod yX2_putAtBottom ∈ lwG := lwG_in (List.mem_of_getElem? (i := 293) (by decide +kernel)) rfl
theorem ze_X2_putAtBottom : Cond.selects RX2 yX2_putAtBottom yX2_putAtBottom ∈ lwG := lwG_in (List.mem_of_getElem? (i := 12) (by decide +kernel)) rfl
theorem zm_X2_putAtBottom : zMV mX2_putAtBottom 1 := ⟨zmf_X2_putAtBottom, zn_X2_putAtBottom, ze_X2_putAtBottom⟩
abbrev mJx4a65c_add_7a177 : zMI := (yJx4a65c_add_7a177, cJx4a65c_add_7a177, 5, none)
theorem zc_Jx4a65c_add_7a177 : Cond.code yJx4a65c_add_7a177 cJx4a65c_add_7a177 5 none ∈ lwG := lwG_in (List.mem_of_getElem? (i := 298) (by decide +kernel)) rfl
theorem zmf_Jx4a65c_add_7a177 : zMF mJx4a65c_add_7a177 2 := ⟨zc_Jx4a65c_add_7a177, zi_RJx4a65c, by decide +kernel, by decide +kernel, by decide +kernel⟩
theorem zn_Jx4a65c_add_7a177 : Cond.instanceMethod yJx4a65c_add_7a177 ∈ lwG := lwG_in (List.mem_of_getElem? (i := 296) (by decide +kernel)) rfl
theorem ze_Jx4a65c_add_7a177 : Cond.selects RJx4a65c yJx4a65c_add_7a177 yJx4a65c_add_7a177 ∈ lwG := lwG_in (List.mem_of_getElem? (i := 297) (by decide +kernel)) rfl
theorem zm_Jx4a65c_add_7a177 : zMV mJx4a65c_add_7a177 2 := ⟨zmf_Jx4a65c_add_7a177, zn_Jx4a65c_add_7a177, ze_Jx4a65c_add_7a177⟩
abbrev mJx4a65c_rangeCheckForAdd_d00df : zMI := (yJx4a65c_rangeCheckForAdd_d00df, cJx4a65c_rangeCheckForAdd_d00df, 2, none)
theorem zc_Jx4a65c_rangeCheckForAdd_d00df : Cond.code yJx4a65c_rangeCheckForAdd_d00df cJx4a65c_rangeCheckForAdd_d00df 2 none ∈ lwG := lwG_in (List.mem_of_getElem? (i := 302) (by decide +kernel)) rfl
theorem zmf_Jx4a65c_rangeCheckForAdd_d00df : zMF mJx4a65c_rangeCheckForAdd_d00df 1 := ⟨zc_Jx4a65c_rangeCheckForAdd_d00df, zi_RJx4a65c, by decide +kernel, by decide +kernel, by decide +kernel⟩
theorem zn_Jx4a65c_rangeCheckForAdd_d00df : Cond.instanceMethod yJx4a65c_rangeCheckForAdd_d00df ∈ lwG := lwG_in (List.mem_of_getElem? (i := 301) (by decide +kernel)) rfl
theorem ze_Jx4a65c_rangeCheckForAdd_d00df : Cond.selects RJx4a65c yJx4a65c_rangeCheckForAdd_d00df yJx4a65c_rangeCheckForAdd_d00df ∈ lwG := lwG_in (List.mem_of_getElem? (i := 13) (by decide +kernel)) rfl
theorem zm_Jx4a65c_rangeCheckForAdd_d00df : zMV mJx4a65c_rangeCheckForAdd_d00df 1 := ⟨zmf_Jx4a65c_rangeCheckForAdd_d00df, zn_Jx4a65c_rangeCheckForAdd_d00df, ze_Jx4a65c_rangeCheckForAdd_d00df⟩
abbrev mX0_addWorker : zMI := (yX0_addWorker, cX0_addWorker, 3, none)
theorem zc_X0_addWorker : Cond.code yX0_addWorker cX0_addWorker 3 none ∈ lwG := lwG_in (List.mem_of_getElem? (i := 306) (by decide +kernel)) rfl
theorem zmf_X0_addWorker : zMF mX0_addWorker 1 := ⟨zc_X0_addWorker, zi_RX0, by decide +kernel, by decide +kernel, by decide +kernel⟩
theorem zn_X0_addWorker : Cond.instanceMethod yX0_addWorker ∈ lwG := lwG_in (List.mem_of_getElem? (i := 304) (by decide +kernel)) rfl
theorem ze_X0_addWorker : Cond.selects RX0 yX0_addWorker yX0_addWorker ∈ lwG := lwG_in (List.mem_of_getElem? (i := 305) (by decide +kernel)) rfl
theorem zm_X0_addWorker : zMV mX0_addWorker 1 := ⟨zmf_X0_addWorker, zn_X0_addWorker, ze_X0_addWorker⟩
abbrev mX2_placeTaken : zMI := (yX2_placeTaken, cX2_placeTaken, 4, none)
theorem zc_X2_placeTaken : Cond.code yX2_placeTaken cX2_placeTaken 4 none ∈ lwG := lwG_in (List.mem_of_getElem? (i := 310) (by decide +kernel)) rfl
theorem zmf_X2_placeTaken : zMF mX2_placeTaken 0 := ⟨zc_X2_placeTaken, zi_RX2, by decide +kernel, by decide +kernel, by decide +kernel⟩
theorem zn_X2_placeTaken : Cond.instanceMethod yX2_placeTaken ∈ lwG := lwG_in (List.mem_of_getElem? (i := 309) (by decide +kernel)) rfl
theorem ze_X2_placeTaken : Cond.selects RX2 yX2_placeTaken yX2_placeTaken ∈ lwG := lwG_in (List.mem_of_getElem? (i := 14) (by decide +kernel)) rfl
theorem zm_X2_placeTaken : zMV mX2_placeTaken 0 := ⟨zmf_X2_placeTaken, zn_X2_placeTaken, ze_X2_placeTaken⟩
abbrev mX0_removeWorker : zMI := (yX0_removeWorker, cX0_removeWorker, 3, none)
theorem zc_X0_removeWorker : Cond.code yX0_removeWorker cX0_removeWorker 3 none ∈ lwG := lwG_in (List.mem_of_getElem? (i := 314) (by decide +kernel)) rfl
theorem zmf_X0_removeWorker : zMF mX0_removeWorker 1 := ⟨zc_X0_removeWorker, zi_RX0, by decide +kernel, by decide +kernel, by decide +kernel⟩
theorem zn_X0_removeWorker : Cond.instanceMethod yX0_removeWorker ∈ lwG := lwG_in (List.mem_of_getElem? (i := 312) (by decide +kernel)) rfl
theorem ze_X0_removeWorker : Cond.selects RX0 yX0_removeWorker yX0_removeWorker ∈ lwG := lwG_in (List.mem_of_getElem? (i := 313) (by decide +kernel)) rfl
theorem zm_X0_removeWorker : zMV mX0_removeWorker 1 := ⟨zmf_X0_removeWorker, zn_X0_removeWorker, ze_X0_removeWorker⟩
abbrev mX2_lowestPlaceFor : zMI := (yX2_lowestPlaceFor, cX2_lowestPlaceFor, 4, (some .int))
theorem zc_X2_lowestPlaceFor : Cond.code yX2_lowestPlaceFor cX2_lowestPlaceFor 4 (some .int) ∈ lwG := lwG_in (List.mem_of_getElem? (i := 318) (by decide +kernel)) rfl
theorem zmf_X2_lowestPlaceFor : zMF mX2_lowestPlaceFor 1 := ⟨zc_X2_lowestPlaceFor, zi_RX2, by decide +kernel, by decide +kernel, by decide +kernel⟩
theorem zn_X2_lowestPlaceFor : Cond.instanceMethod yX2_lowestPlaceFor ∈ lwG := lwG_in (List.mem_of_getElem? (i := 317) (by decide +kernel)) rfl
theorem ze_X2_lowestPlaceFor : Cond.selects RX2 yX2_lowestPlaceFor yX2_lowestPlaceFor ∈ lwG := lwG_in (List.mem_of_getElem? (i := 15) (by decide +kernel)) rfl
theorem zm_X2_lowestPlaceFor : zMV mX2_lowestPlaceFor 1 := ⟨zmf_X2_lowestPlaceFor, zn_X2_lowestPlaceFor, ze_X2_lowestPlaceFor⟩
abbrev mX1_hasSkill : zMI := (yX1_hasSkill, cX1_hasSkill, 2, (some .boolean))
theorem zc_X1_hasSkill : Cond.code yX1_hasSkill cX1_hasSkill 2 (some .boolean) ∈ lwG := lwG_in (List.mem_of_getElem? (i := 322) (by decide +kernel)) rfl
theorem zmf_X1_hasSkill : zMF mX1_hasSkill 1 := ⟨zc_X1_hasSkill, zi_RX1, by decide +kernel, by decide +kernel, by decide +kernel⟩
theorem zn_X1_hasSkill : Cond.instanceMethod yX1_hasSkill ∈ lwG := lwG_in (List.mem_of_getElem? (i := 320) (by decide +kernel)) rfl
theorem ze_X1_hasSkill : Cond.selects RX1 yX1_hasSkill yX1_hasSkill ∈ lwG := lwG_in (List.mem_of_getElem? (i := 321) (by decide +kernel)) rfl
theorem zm_X1_hasSkill : zMV mX1_hasSkill 1 := ⟨zmf_X1_hasSkill, zn_X1_hasSkill, ze_X1_hasSkill⟩
abbrev mX0_canSpare : zMI := (yX0_canSpare, cX0_canSpare, 3, (some .boolean))
theorem zc_X0_canSpare : Cond.code yX0_canSpare cX0_canSpare 3 (some .boolean) ∈ lwG := lwG_in (List.mem_of_getElem? (i := 326) (by decide +kernel)) rfl
theorem zmf_X0_canSpare : zMF mX0_canSpare 1 := ⟨zc_X0_canSpare, zi_RX0, by decide +kernel, by decide +kernel, by decide +kernel⟩
theorem zn_X0_canSpare : Cond.instanceMethod yX0_canSpare ∈ lwG := lwG_in (List.mem_of_getElem? (i := 324) (by decide +kernel)) rfl
theorem ze_X0_canSpare : Cond.selects RX0 yX0_canSpare yX0_canSpare ∈ lwG := lwG_in (List.mem_of_getElem? (i := 325) (by decide +kernel)) rfl
theorem zm_X0_canSpare : zMV mX0_canSpare 1 := ⟨zmf_X0_canSpare, zn_X0_canSpare, ze_X0_canSpare⟩
abbrev mX0_removePlace : zMI := (yX0_removePlace, cX0_removePlace, 3, none)
theorem zc_X0_removePlace : Cond.code yX0_removePlace cX0_removePlace 3 none ∈ lwG := lwG_in (List.mem_of_getElem? (i := 330) (by decide +kernel)) rfl
theorem zmf_X0_removePlace : zMF mX0_removePlace 1 := ⟨zc_X0_removePlace, zi_RX0, by decide +kernel, by decide +kernel, by decide +kernel⟩
theorem zn_X0_removePlace : Cond.instanceMethod yX0_removePlace ∈ lwG := lwG_in (List.mem_of_getElem? (i := 328) (by decide +kernel)) rfl
theorem ze_X0_removePlace : Cond.selects RX0 yX0_removePlace yX0_removePlace ∈ lwG := lwG_in (List.mem_of_getElem? (i := 329) (by decide +kernel)) rfl
theorem zm_X0_removePlace : zMV mX0_removePlace 1 := ⟨zmf_X0_removePlace, zn_X0_removePlace, ze_X0_removePlace⟩
abbrev mX2_startWork : zMI := (yX2_startWork, cX2_startWork, 3, none)
theorem zc_X2_startWork : Cond.code yX2_startWork cX2_startWork 3 none ∈ lwG := lwG_in (List.mem_of_getElem? (i := 334) (by decide +kernel)) rfl
theorem zmf_X2_startWork : zMF mX2_startWork 2 := ⟨zc_X2_startWork, zi_RX2, by decide +kernel, by decide +kernel, by decide +kernel⟩
theorem zn_X2_startWork : Cond.instanceMethod yX2_startWork ∈ lwG := lwG_in (List.mem_of_getElem? (i := 333) (by decide +kernel)) rfl
theorem ze_X2_startWork : Cond.selects RX2 yX2_startWork yX2_startWork ∈ lwG := lwG_in (List.mem_of_getElem? (i := 16) (by decide +kernel)) rfl
theorem zm_X2_startWork : zMV mX2_startWork 2 := ⟨zmf_X2_startWork, zn_X2_startWork, ze_X2_startWork⟩
abbrev mX2_endShift : zMI := (yX2_endShift, cX2_endShift, 4, (some .int))
theorem zc_X2_endShift : Cond.code yX2_endShift cX2_endShift 4 (some .int) ∈ lwG := lwG_in (List.mem_of_getElem? (i := 338) (by decide +kernel)) rfl
theorem zmf_X2_endShift : zMF mX2_endShift 0 := ⟨zc_X2_endShift, zi_RX2, by decide +kernel, by decide +kernel, by decide +kernel⟩
theorem zn_X2_endShift : Cond.instanceMethod yX2_endShift ∈ lwG := lwG_in (List.mem_of_getElem? (i := 336) (by decide +kernel)) rfl
theorem ze_X2_endShift : Cond.selects RX2 yX2_endShift yX2_endShift ∈ lwG := lwG_in (List.mem_of_getElem? (i := 337) (by decide +kernel)) rfl
theorem zm_X2_endShift : zMV mX2_endShift 0 := ⟨zmf_X2_endShift, zn_X2_endShift, ze_X2_endShift⟩
abbrev mX1_isAtWork : zMI := (yX1_isAtWork, cX1_isAtWork, 1, (some .boolean))
theorem zc_X1_isAtWork : Cond.code yX1_isAtWork cX1_isAtWork 1 (some .boolean) ∈ lwG := lwG_in (List.mem_of_getElem? (i := 342) (by decide +kernel)) rfl
theorem zmf_X1_isAtWork : zMF mX1_isAtWork 0 := ⟨zc_X1_isAtWork, zi_RX1, by decide +kernel, by decide +kernel, by decide +kernel⟩
theorem zn_X1_isAtWork : Cond.instanceMethod yX1_isAtWork ∈ lwG := lwG_in (List.mem_of_getElem? (i := 340) (by decide +kernel)) rfl
theorem ze_X1_isAtWork : Cond.selects RX1 yX1_isAtWork yX1_isAtWork ∈ lwG := lwG_in (List.mem_of_getElem? (i := 341) (by decide +kernel)) rfl
theorem zm_X1_isAtWork : zMV mX1_isAtWork 0 := ⟨zmf_X1_isAtWork, zn_X1_isAtWork, ze_X1_isAtWork⟩
abbrev mX1_stopWork : zMI := (yX1_stopWork, cX1_stopWork, 3, (some .int))
theorem zc_X1_stopWork : Cond.code yX1_stopWork cX1_stopWork 3 (some .int) ∈ lwG := lwG_in (List.mem_of_getElem? (i := 346) (by decide +kernel)) rfl
theorem zmf_X1_stopWork : zMF mX1_stopWork 1 := ⟨zc_X1_stopWork, zi_RX1, by decide +kernel, by decide +kernel, by decide +kernel⟩
theorem zn_X1_stopWork : Cond.instanceMethod yX1_stopWork ∈ lwG := lwG_in (List.mem_of_getElem? (i := 344) (by decide +kernel)) rfl
theorem ze_X1_stopWork : Cond.selects RX1 yX1_stopWork yX1_stopWork ∈ lwG := lwG_in (List.mem_of_getElem? (i := 345) (by decide +kernel)) rfl
theorem zm_X1_stopWork : zMV mX1_stopWork 1 := ⟨zmf_X1_stopWork, zn_X1_stopWork, ze_X1_stopWork⟩
abbrev mX2_workers : zMI := (yX2_workers, cX2_workers, 1, (some .int))
theorem zc_X2_workers : Cond.code yX2_workers cX2_workers 1 (some .int) ∈ lwG := lwG_in (List.mem_of_getElem? (i := 350) (by decide +kernel)) rfl
theorem zmf_X2_workers : zMF mX2_workers 0 := ⟨zc_X2_workers, zi_RX2, by decide +kernel, by decide +kernel, by decide +kernel⟩
theorem zn_X2_workers : Cond.instanceMethod yX2_workers ∈ lwG := lwG_in (List.mem_of_getElem? (i := 348) (by decide +kernel)) rfl
theorem ze_X2_workers : Cond.selects RX2 yX2_workers yX2_workers ∈ lwG := lwG_in (List.mem_of_getElem? (i := 349) (by decide +kernel)) rfl
theorem zm_X2_workers : zMV mX2_workers 0 := ⟨zmf_X2_workers, zn_X2_workers, ze_X2_workers⟩
abbrev mX2_places : zMI := (yX2_places, cX2_places, 1, (some .int))
theorem zc_X2_places : Cond.code yX2_places cX2_places 1 (some .int) ∈ lwG := lwG_in (List.mem_of_getElem? (i := 354) (by decide +kernel)) rfl
theorem zmf_X2_places : zMF mX2_places 0 := ⟨zc_X2_places, zi_RX2, by decide +kernel, by decide +kernel, by decide +kernel⟩
theorem zn_X2_places : Cond.instanceMethod yX2_places ∈ lwG := lwG_in (List.mem_of_getElem? (i := 352) (by decide +kernel)) rfl
theorem ze_X2_places : Cond.selects RX2 yX2_places yX2_places ∈ lwG := lwG_in (List.mem_of_getElem? (i := 353) (by decide +kernel)) rfl
theorem zm_X2_places : zMV mX2_places 0 := ⟨zmf_X2_places, zn_X2_places, ze_X2_places⟩
abbrev mX2_fillable : zMI := (yX2_fillable, cX2_fillable, 3, (some .int))
theorem zc_X2_fillable : Cond.code yX2_fillable cX2_fillable 3 (some .int) ∈ lwG := lwG_in (List.mem_of_getElem? (i := 358) (by decide +kernel)) rfl
theorem zmf_X2_fillable : zMF mX2_fillable 0 := ⟨zc_X2_fillable, zi_RX2, by decide +kernel, by decide +kernel, by decide +kernel⟩
theorem zn_X2_fillable : Cond.instanceMethod yX2_fillable ∈ lwG := lwG_in (List.mem_of_getElem? (i := 356) (by decide +kernel)) rfl
theorem ze_X2_fillable : Cond.selects RX2 yX2_fillable yX2_fillable ∈ lwG := lwG_in (List.mem_of_getElem? (i := 357) (by decide +kernel)) rfl
theorem zm_X2_fillable : zMV mX2_fillable 0 := ⟨zmf_X2_fillable, zn_X2_fillable, ze_X2_fillable⟩
abbrev mX0_mostPlaced : zMI := (yX0_mostPlaced, cX0_mostPlaced, 4, (some .int))
theorem zc_X0_mostPlaced : Cond.code yX0_mostPlaced cX0_mostPlaced 4 (some .int) ∈ lwG := lwG_in (List.mem_of_getElem? (i := 362) (by decide +kernel)) rfl
theorem zmf_X0_mostPlaced : zMF mX0_mostPlaced 0 := ⟨zc_X0_mostPlaced, zi_RX0, by decide +kernel, by decide +kernel, by decide +kernel⟩
theorem zn_X0_mostPlaced : Cond.instanceMethod yX0_mostPlaced ∈ lwG := lwG_in (List.mem_of_getElem? (i := 360) (by decide +kernel)) rfl
theorem ze_X0_mostPlaced : Cond.selects RX0 yX0_mostPlaced yX0_mostPlaced ∈ lwG := lwG_in (List.mem_of_getElem? (i := 361) (by decide +kernel)) rfl
theorem zm_X0_mostPlaced : zMV mX0_mostPlaced 0 := ⟨zmf_X0_mostPlaced, zn_X0_mostPlaced, ze_X0_mostPlaced⟩
abbrev mL_signOn : zMI := (yL_signOn, cL_signOn, 5, (some .int))
abbrev mX2_signOn : zMI := (yX2_signOn, cX2_signOn, 4, (some .int))
theorem zc_X2_signOn : Cond.code yX2_signOn cX2_signOn 4 (some .int) ∈ lwG := lwG_in (List.mem_of_getElem? (i := 372) (by decide +kernel)) rfl
theorem zmf_X2_signOn : zMF mX2_signOn 2 := ⟨zc_X2_signOn, zi_RX2, by decide +kernel, by decide +kernel, by decide +kernel⟩
theorem zn_X2_signOn : Cond.instanceMethod yX2_signOn ∈ lwG := lwG_in (List.mem_of_getElem? (i := 370) (by decide +kernel)) rfl
theorem ze_X2_signOn : Cond.selects RX2 yX2_signOn yX2_signOn ∈ lwG := lwG_in (List.mem_of_getElem? (i := 371) (by decide +kernel)) rfl
theorem zm_X2_signOn : zMV mX2_signOn 2 := ⟨zmf_X2_signOn, zn_X2_signOn, ze_X2_signOn⟩
abbrev mX2_checkBoard : zMI := (yX2_checkBoard, cX2_checkBoard, 1, none)
theorem zc_X2_checkBoard : Cond.code yX2_checkBoard cX2_checkBoard 1 none ∈ lwG := lwG_in (List.mem_of_getElem? (i := 375) (by decide +kernel)) rfl
theorem zmf_X2_checkBoard : zMF mX2_checkBoard 1 := ⟨zc_X2_checkBoard, zi_RX2, by decide +kernel, by decide +kernel, by decide +kernel⟩
theorem zs_X2_checkBoard : Cond.static yX2_checkBoard ∈ lwG := lwG_in (List.mem_of_getElem? (i := 374) (by decide +kernel)) rfl
theorem zm_X2_checkBoard : zMS mX2_checkBoard 1 := ⟨zmf_X2_checkBoard, zs_X2_checkBoard⟩
abbrev mX2_checkSkills : zMI := (yX2_checkSkills, cX2_checkSkills, 1, none)
theorem zc_X2_checkSkills : Cond.code yX2_checkSkills cX2_checkSkills 1 none ∈ lwG := lwG_in (List.mem_of_getElem? (i := 446) (by decide +kernel)) rfl
theorem zmf_X2_checkSkills : zMF mX2_checkSkills 1 := ⟨zc_X2_checkSkills, zi_RX2, by decide +kernel, by decide +kernel, by decide +kernel⟩
theorem zs_X2_checkSkills : Cond.static yX2_checkSkills ∈ lwG := lwG_in (List.mem_of_getElem? (i := 445) (by decide +kernel)) rfl
theorem zm_X2_checkSkills : zMS mX2_checkSkills 1 := ⟨zmf_X2_checkSkills, zs_X2_checkSkills⟩
abbrev mX1_init : zMI := (yX1_init, cX1_init, 4, none)
theorem zc_X1_init : Cond.code yX1_init cX1_init 4 none ∈ lwG := lwG_in (List.mem_of_getElem? (i := 467) (by decide +kernel)) rfl
theorem zmf_X1_init : zMF mX1_init 3 := ⟨zc_X1_init, zi_RX1, by decide +kernel, by decide +kernel, by decide +kernel⟩
theorem zn_X1_init : Cond.instanceMethod yX1_init ∈ lwG := lwG_in (List.mem_of_getElem? (i := 466) (by decide +kernel)) rfl
theorem zm_X1_init : zMC mX1_init 3 := ⟨zmf_X1_init, zn_X1_init, rfl, rfl⟩
abbrev mL_signOff : zMI := (yL_signOff, cL_signOff, 4, (some .int))
abbrev mX2_signOff : zMI := (yX2_signOff, cX2_signOff, 3, (some .int))
theorem zc_X2_signOff : Cond.code yX2_signOff cX2_signOff 3 (some .int) ∈ lwG := lwG_in (List.mem_of_getElem? (i := 517) (by decide +kernel)) rfl
theorem zmf_X2_signOff : zMF mX2_signOff 1 := ⟨zc_X2_signOff, zi_RX2, by decide +kernel, by decide +kernel, by decide +kernel⟩
theorem zn_X2_signOff : Cond.instanceMethod yX2_signOff ∈ lwG := lwG_in (List.mem_of_getElem? (i := 515) (by decide +kernel)) rfl
theorem ze_X2_signOff : Cond.selects RX2 yX2_signOff yX2_signOff ∈ lwG := lwG_in (List.mem_of_getElem? (i := 516) (by decide +kernel)) rfl
theorem zm_X2_signOff : zMV mX2_signOff 1 := ⟨zmf_X2_signOff, zn_X2_signOff, ze_X2_signOff⟩
abbrev mX2_find : zMI := (yX2_find, cX2_find, 4, (some (.object "HiringHall$Worker")))
theorem zc_X2_find : Cond.code yX2_find cX2_find 4 (some (.object "HiringHall$Worker")) ∈ lwG := lwG_in (List.mem_of_getElem? (i := 521) (by decide +kernel)) rfl
theorem zmf_X2_find : zMF mX2_find 1 := ⟨zc_X2_find, zi_RX2, by decide +kernel, by decide +kernel, by decide +kernel⟩
theorem zn_X2_find : Cond.instanceMethod yX2_find ∈ lwG := lwG_in (List.mem_of_getElem? (i := 520) (by decide +kernel)) rfl
theorem ze_X2_find : Cond.selects RX2 yX2_find yX2_find ∈ lwG := lwG_in (List.mem_of_getElem? (i := 18) (by decide +kernel)) rfl
theorem zm_X2_find : zMV mX2_find 1 := ⟨zmf_X2_find, zn_X2_find, ze_X2_find⟩
abbrev mX2_checkNotAtWork : zMI := (yX2_checkNotAtWork, cX2_checkNotAtWork, 1, none)
theorem zc_X2_checkNotAtWork : Cond.code yX2_checkNotAtWork cX2_checkNotAtWork 1 none ∈ lwG := lwG_in (List.mem_of_getElem? (i := 540) (by decide +kernel)) rfl
theorem zmf_X2_checkNotAtWork : zMF mX2_checkNotAtWork 1 := ⟨zc_X2_checkNotAtWork, zi_RX2, by decide +kernel, by decide +kernel, by decide +kernel⟩
theorem zs_X2_checkNotAtWork : Cond.static yX2_checkNotAtWork ∈ lwG := lwG_in (List.mem_of_getElem? (i := 539) (by decide +kernel)) rfl
theorem zm_X2_checkNotAtWork : zMS mX2_checkNotAtWork 1 := ⟨zmf_X2_checkNotAtWork, zs_X2_checkNotAtWork⟩
abbrev mL_setSkills : zMI := (yL_setSkills, cL_setSkills, 5, (some .int))
abbrev mX2_setSkills : zMI := (yX2_setSkills, cX2_setSkills, 5, (some .int))
theorem zc_X2_setSkills : Cond.code yX2_setSkills cX2_setSkills 5 (some .int) ∈ lwG := lwG_in (List.mem_of_getElem? (i := 548) (by decide +kernel)) rfl
theorem zmf_X2_setSkills : zMF mX2_setSkills 2 := ⟨zc_X2_setSkills, zi_RX2, by decide +kernel, by decide +kernel, by decide +kernel⟩
theorem zn_X2_setSkills : Cond.instanceMethod yX2_setSkills ∈ lwG := lwG_in (List.mem_of_getElem? (i := 546) (by decide +kernel)) rfl
theorem ze_X2_setSkills : Cond.selects RX2 yX2_setSkills yX2_setSkills ∈ lwG := lwG_in (List.mem_of_getElem? (i := 547) (by decide +kernel)) rfl
theorem zm_X2_setSkills : zMV mX2_setSkills 2 := ⟨zmf_X2_setSkills, zn_X2_setSkills, ze_X2_setSkills⟩
abbrev mL_move : zMI := (yL_move, cL_move, 5, (some .int))
abbrev mX2_move : zMI := (yX2_move, cX2_move, 5, (some .int))
theorem zc_X2_move : Cond.code yX2_move cX2_move 5 (some .int) ∈ lwG := lwG_in (List.mem_of_getElem? (i := 555) (by decide +kernel)) rfl
theorem zmf_X2_move : zMF mX2_move 2 := ⟨zc_X2_move, zi_RX2, by decide +kernel, by decide +kernel, by decide +kernel⟩
theorem zn_X2_move : Cond.instanceMethod yX2_move ∈ lwG := lwG_in (List.mem_of_getElem? (i := 553) (by decide +kernel)) rfl
theorem ze_X2_move : Cond.selects RX2 yX2_move yX2_move ∈ lwG := lwG_in (List.mem_of_getElem? (i := 554) (by decide +kernel)) rfl
theorem zm_X2_move : zMV mX2_move 2 := ⟨zmf_X2_move, zn_X2_move, ze_X2_move⟩
abbrev mL_setAway : zMI := (yL_setAway, cL_setAway, 5, (some .int))
abbrev mX2_setAway : zMI := (yX2_setAway, cX2_setAway, 5, (some .boolean))
theorem zc_X2_setAway : Cond.code yX2_setAway cX2_setAway 5 (some .boolean) ∈ lwG := lwG_in (List.mem_of_getElem? (i := 562) (by decide +kernel)) rfl
theorem zmf_X2_setAway : zMF mX2_setAway 2 := ⟨zc_X2_setAway, zi_RX2, by decide +kernel, by decide +kernel, by decide +kernel⟩
theorem zn_X2_setAway : Cond.instanceMethod yX2_setAway ∈ lwG := lwG_in (List.mem_of_getElem? (i := 560) (by decide +kernel)) rfl
theorem ze_X2_setAway : Cond.selects RX2 yX2_setAway yX2_setAway ∈ lwG := lwG_in (List.mem_of_getElem? (i := 561) (by decide +kernel)) rfl
theorem zm_X2_setAway : zMV mX2_setAway 2 := ⟨zmf_X2_setAway, zn_X2_setAway, ze_X2_setAway⟩
abbrev mL_setRefusing : zMI := (yL_setRefusing, cL_setRefusing, 5, (some .int))
abbrev mX2_setRefusing : zMI := (yX2_setRefusing, cX2_setRefusing, 5, (some .boolean))
theorem zc_X2_setRefusing : Cond.code yX2_setRefusing cX2_setRefusing 5 (some .boolean) ∈ lwG := lwG_in (List.mem_of_getElem? (i := 569) (by decide +kernel)) rfl
theorem zmf_X2_setRefusing : zMF mX2_setRefusing 2 := ⟨zc_X2_setRefusing, zi_RX2, by decide +kernel, by decide +kernel, by decide +kernel⟩
theorem zn_X2_setRefusing : Cond.instanceMethod yX2_setRefusing ∈ lwG := lwG_in (List.mem_of_getElem? (i := 567) (by decide +kernel)) rfl
theorem ze_X2_setRefusing : Cond.selects RX2 yX2_setRefusing yX2_setRefusing ∈ lwG := lwG_in (List.mem_of_getElem? (i := 568) (by decide +kernel)) rfl
theorem zm_X2_setRefusing : zMV mX2_setRefusing 2 := ⟨zmf_X2_setRefusing, zn_X2_setRefusing, ze_X2_setRefusing⟩
abbrev mL_setRule : zMI := (yL_setRule, cL_setRule, 6, (some .int))
abbrev mX2_setRule : zMI := (yX2_setRule, cX2_setRule, 5, (some .int))
theorem zc_X2_setRule : Cond.code yX2_setRule cX2_setRule 5 (some .int) ∈ lwG := lwG_in (List.mem_of_getElem? (i := 576) (by decide +kernel)) rfl
theorem zmf_X2_setRule : zMF mX2_setRule 3 := ⟨zc_X2_setRule, zi_RX2, by decide +kernel, by decide +kernel, by decide +kernel⟩
theorem zn_X2_setRule : Cond.instanceMethod yX2_setRule ∈ lwG := lwG_in (List.mem_of_getElem? (i := 574) (by decide +kernel)) rfl
theorem ze_X2_setRule : Cond.selects RX2 yX2_setRule yX2_setRule ∈ lwG := lwG_in (List.mem_of_getElem? (i := 575) (by decide +kernel)) rfl
theorem zm_X2_setRule : zMV mX2_setRule 3 := ⟨zmf_X2_setRule, zn_X2_setRule, ze_X2_setRule⟩
abbrev mL_equalise : zMI := (yL_equalise, cL_equalise, 4, (some .int))
abbrev mX2_equalise : zMI := (yX2_equalise, cX2_equalise, 3, (some .int))
theorem zc_X2_equalise : Cond.code yX2_equalise cX2_equalise 3 (some .int) ∈ lwG := lwG_in (List.mem_of_getElem? (i := 584) (by decide +kernel)) rfl
theorem zmf_X2_equalise : zMF mX2_equalise 1 := ⟨zc_X2_equalise, zi_RX2, by decide +kernel, by decide +kernel, by decide +kernel⟩
theorem zn_X2_equalise : Cond.instanceMethod yX2_equalise ∈ lwG := lwG_in (List.mem_of_getElem? (i := 582) (by decide +kernel)) rfl
theorem ze_X2_equalise : Cond.selects RX2 yX2_equalise yX2_equalise ∈ lwG := lwG_in (List.mem_of_getElem? (i := 583) (by decide +kernel)) rfl
theorem zm_X2_equalise : zMV mX2_equalise 1 := ⟨zmf_X2_equalise, zn_X2_equalise, ze_X2_equalise⟩
abbrev mX2_riseByHours : zMI := (yX2_riseByHours, cX2_riseByHours, 5, none)
theorem zc_X2_riseByHours : Cond.code yX2_riseByHours cX2_riseByHours 5 none ∈ lwG := lwG_in (List.mem_of_getElem? (i := 588) (by decide +kernel)) rfl
theorem zmf_X2_riseByHours : zMF mX2_riseByHours 1 := ⟨zc_X2_riseByHours, zi_RX2, by decide +kernel, by decide +kernel, by decide +kernel⟩
theorem zn_X2_riseByHours : Cond.instanceMethod yX2_riseByHours ∈ lwG := lwG_in (List.mem_of_getElem? (i := 587) (by decide +kernel)) rfl
theorem ze_X2_riseByHours : Cond.selects RX2 yX2_riseByHours yX2_riseByHours ∈ lwG := lwG_in (List.mem_of_getElem? (i := 19) (by decide +kernel)) rfl
theorem zm_X2_riseByHours : zMV mX2_riseByHours 1 := ⟨zmf_X2_riseByHours, zn_X2_riseByHours, ze_X2_riseByHours⟩
abbrev mJx4a65c_set_bcc79 : zMI := (yJx4a65c_set_bcc79, cJx4a65c_set_bcc79, 4, (some (.object "java/lang/Object")))
theorem zc_Jx4a65c_set_bcc79 : Cond.code yJx4a65c_set_bcc79 cJx4a65c_set_bcc79 4 (some (.object "java/lang/Object")) ∈ lwG := lwG_in (List.mem_of_getElem? (i := 592) (by decide +kernel)) rfl
theorem zmf_Jx4a65c_set_bcc79 : zMF mJx4a65c_set_bcc79 2 := ⟨zc_Jx4a65c_set_bcc79, zi_RJx4a65c, by decide +kernel, by decide +kernel, by decide +kernel⟩
theorem zn_Jx4a65c_set_bcc79 : Cond.instanceMethod yJx4a65c_set_bcc79 ∈ lwG := lwG_in (List.mem_of_getElem? (i := 590) (by decide +kernel)) rfl
theorem ze_Jx4a65c_set_bcc79 : Cond.selects RJx4a65c yJx4a65c_set_bcc79 yJx4a65c_set_bcc79 ∈ lwG := lwG_in (List.mem_of_getElem? (i := 591) (by decide +kernel)) rfl
theorem zm_Jx4a65c_set_bcc79 : zMV mJx4a65c_set_bcc79 2 := ⟨zmf_Jx4a65c_set_bcc79, zn_Jx4a65c_set_bcc79, ze_Jx4a65c_set_bcc79⟩
abbrev mX2_countDisplaced : zMI := (yX2_countDisplaced, cX2_countDisplaced, 3, (some .int))
theorem zc_X2_countDisplaced : Cond.code yX2_countDisplaced cX2_countDisplaced 3 (some .int) ∈ lwG := lwG_in (List.mem_of_getElem? (i := 596) (by decide +kernel)) rfl
theorem zmf_X2_countDisplaced : zMF mX2_countDisplaced 0 := ⟨zc_X2_countDisplaced, zi_RX2, by decide +kernel, by decide +kernel, by decide +kernel⟩
theorem zn_X2_countDisplaced : Cond.instanceMethod yX2_countDisplaced ∈ lwG := lwG_in (List.mem_of_getElem? (i := 595) (by decide +kernel)) rfl
theorem ze_X2_countDisplaced : Cond.selects RX2 yX2_countDisplaced yX2_countDisplaced ∈ lwG := lwG_in (List.mem_of_getElem? (i := 20) (by decide +kernel)) rfl
theorem zm_X2_countDisplaced : zMV mX2_countDisplaced 0 := ⟨zmf_X2_countDisplaced, zn_X2_countDisplaced, ze_X2_countDisplaced⟩
abbrev mL_order : zMI := (yL_order, cL_order, 4, (some .int))
abbrev mX2_order : zMI := (yX2_order, cX2_order, 3, (some .int))
theorem zc_X2_order : Cond.code yX2_order cX2_order 3 (some .int) ∈ lwG := lwG_in (List.mem_of_getElem? (i := 603) (by decide +kernel)) rfl
theorem zmf_X2_order : zMF mX2_order 1 := ⟨zc_X2_order, zi_RX2, by decide +kernel, by decide +kernel, by decide +kernel⟩
theorem zn_X2_order : Cond.instanceMethod yX2_order ∈ lwG := lwG_in (List.mem_of_getElem? (i := 601) (by decide +kernel)) rfl
theorem ze_X2_order : Cond.selects RX2 yX2_order yX2_order ∈ lwG := lwG_in (List.mem_of_getElem? (i := 602) (by decide +kernel)) rfl
theorem zm_X2_order : zMV mX2_order 1 := ⟨zmf_X2_order, zn_X2_order, ze_X2_order⟩
abbrev mL_setHours : zMI := (yL_setHours, cL_setHours, 4, (some .int))
abbrev mX2_setHours : zMI := (yX2_setHours, cX2_setHours, 3, (some .int))
theorem zc_X2_setHours : Cond.code yX2_setHours cX2_setHours 3 (some .int) ∈ lwG := lwG_in (List.mem_of_getElem? (i := 612) (by decide +kernel)) rfl
theorem zmf_X2_setHours : zMF mX2_setHours 1 := ⟨zc_X2_setHours, zi_RX2, by decide +kernel, by decide +kernel, by decide +kernel⟩
theorem zn_X2_setHours : Cond.instanceMethod yX2_setHours ∈ lwG := lwG_in (List.mem_of_getElem? (i := 610) (by decide +kernel)) rfl
theorem ze_X2_setHours : Cond.selects RX2 yX2_setHours yX2_setHours ∈ lwG := lwG_in (List.mem_of_getElem? (i := 611) (by decide +kernel)) rfl
theorem zm_X2_setHours : zMV mX2_setHours 1 := ⟨zmf_X2_setHours, zn_X2_setHours, ze_X2_setHours⟩
abbrev mX2_checkWorkHasNotBegun : zMI := (yX2_checkWorkHasNotBegun, cX2_checkWorkHasNotBegun, 1, none)
theorem zc_X2_checkWorkHasNotBegun : Cond.code yX2_checkWorkHasNotBegun cX2_checkWorkHasNotBegun 1 none ∈ lwG := lwG_in (List.mem_of_getElem? (i := 617) (by decide +kernel)) rfl
theorem zmf_X2_checkWorkHasNotBegun : zMF mX2_checkWorkHasNotBegun 0 := ⟨zc_X2_checkWorkHasNotBegun, zi_RX2, by decide +kernel, by decide +kernel, by decide +kernel⟩
theorem zn_X2_checkWorkHasNotBegun : Cond.instanceMethod yX2_checkWorkHasNotBegun ∈ lwG := lwG_in (List.mem_of_getElem? (i := 616) (by decide +kernel)) rfl
theorem ze_X2_checkWorkHasNotBegun : Cond.selects RX2 yX2_checkWorkHasNotBegun yX2_checkWorkHasNotBegun ∈ lwG := lwG_in (List.mem_of_getElem? (i := 21) (by decide +kernel)) rfl
theorem zm_X2_checkWorkHasNotBegun : zMV mX2_checkWorkHasNotBegun 0 := ⟨zmf_X2_checkWorkHasNotBegun, zn_X2_checkWorkHasNotBegun, ze_X2_checkWorkHasNotBegun⟩
abbrev mL_leave : zMI := (yL_leave, cL_leave, 5, (some .int))
abbrev mX2_leave : zMI := (yX2_leave, cX2_leave, 5, (some .int))
theorem zc_X2_leave : Cond.code yX2_leave cX2_leave 5 (some .int) ∈ lwG := lwG_in (List.mem_of_getElem? (i := 625) (by decide +kernel)) rfl
theorem zmf_X2_leave : zMF mX2_leave 2 := ⟨zc_X2_leave, zi_RX2, by decide +kernel, by decide +kernel, by decide +kernel⟩
theorem zn_X2_leave : Cond.instanceMethod yX2_leave ∈ lwG := lwG_in (List.mem_of_getElem? (i := 623) (by decide +kernel)) rfl
theorem ze_X2_leave : Cond.selects RX2 yX2_leave yX2_leave ∈ lwG := lwG_in (List.mem_of_getElem? (i := 624) (by decide +kernel)) rfl
theorem zm_X2_leave : zMV mX2_leave 2 := ⟨zmf_X2_leave, zn_X2_leave, ze_X2_leave⟩
abbrev mL_replace : zMI := (yL_replace, cL_replace, 4, (some .int))
abbrev mX2_replace : zMI := (yX2_replace, cX2_replace, 5, (some .int))
theorem zc_X2_replace : Cond.code yX2_replace cX2_replace 5 (some .int) ∈ lwG := lwG_in (List.mem_of_getElem? (i := 634) (by decide +kernel)) rfl
theorem zmf_X2_replace : zMF mX2_replace 1 := ⟨zc_X2_replace, zi_RX2, by decide +kernel, by decide +kernel, by decide +kernel⟩
theorem zn_X2_replace : Cond.instanceMethod yX2_replace ∈ lwG := lwG_in (List.mem_of_getElem? (i := 632) (by decide +kernel)) rfl
theorem ze_X2_replace : Cond.selects RX2 yX2_replace yX2_replace ∈ lwG := lwG_in (List.mem_of_getElem? (i := 633) (by decide +kernel)) rfl
theorem zm_X2_replace : zMV mX2_replace 1 := ⟨zmf_X2_replace, zn_X2_replace, ze_X2_replace⟩
abbrev mX2_checkPlace : zMI := (yX2_checkPlace, cX2_checkPlace, 2, none)
theorem zc_X2_checkPlace : Cond.code yX2_checkPlace cX2_checkPlace 2 none ∈ lwG := lwG_in (List.mem_of_getElem? (i := 638) (by decide +kernel)) rfl
theorem zmf_X2_checkPlace : zMF mX2_checkPlace 1 := ⟨zc_X2_checkPlace, zi_RX2, by decide +kernel, by decide +kernel, by decide +kernel⟩
theorem zn_X2_checkPlace : Cond.instanceMethod yX2_checkPlace ∈ lwG := lwG_in (List.mem_of_getElem? (i := 637) (by decide +kernel)) rfl
theorem ze_X2_checkPlace : Cond.selects RX2 yX2_checkPlace yX2_checkPlace ∈ lwG := lwG_in (List.mem_of_getElem? (i := 22) (by decide +kernel)) rfl
theorem zm_X2_checkPlace : zMV mX2_checkPlace 1 := ⟨zmf_X2_checkPlace, zn_X2_checkPlace, ze_X2_checkPlace⟩
abbrev mL_endPeriod : zMI := (yL_endPeriod, cL_endPeriod, 3, (some .int))
abbrev mX2_endPeriod : zMI := (yX2_endPeriod, cX2_endPeriod, 4, (some .int))
theorem zc_X2_endPeriod : Cond.code yX2_endPeriod cX2_endPeriod 4 (some .int) ∈ lwG := lwG_in (List.mem_of_getElem? (i := 647) (by decide +kernel)) rfl
theorem zmf_X2_endPeriod : zMF mX2_endPeriod 0 := ⟨zc_X2_endPeriod, zi_RX2, by decide +kernel, by decide +kernel, by decide +kernel⟩
theorem zn_X2_endPeriod : Cond.instanceMethod yX2_endPeriod ∈ lwG := lwG_in (List.mem_of_getElem? (i := 645) (by decide +kernel)) rfl
theorem ze_X2_endPeriod : Cond.selects RX2 yX2_endPeriod yX2_endPeriod ∈ lwG := lwG_in (List.mem_of_getElem? (i := 646) (by decide +kernel)) rfl
theorem zm_X2_endPeriod : zMV mX2_endPeriod 0 := ⟨zmf_X2_endPeriod, zn_X2_endPeriod, ze_X2_endPeriod⟩
abbrev mX2_hoursOwed : zMI := (yX2_hoursOwed, cX2_hoursOwed, 4, (some .int))
theorem zc_X2_hoursOwed : Cond.code yX2_hoursOwed cX2_hoursOwed 4 (some .int) ∈ lwG := lwG_in (List.mem_of_getElem? (i := 651) (by decide +kernel)) rfl
theorem zmf_X2_hoursOwed : zMF mX2_hoursOwed 1 := ⟨zc_X2_hoursOwed, zi_RX2, by decide +kernel, by decide +kernel, by decide +kernel⟩
theorem zn_X2_hoursOwed : Cond.instanceMethod yX2_hoursOwed ∈ lwG := lwG_in (List.mem_of_getElem? (i := 650) (by decide +kernel)) rfl
theorem ze_X2_hoursOwed : Cond.selects RX2 yX2_hoursOwed yX2_hoursOwed ∈ lwG := lwG_in (List.mem_of_getElem? (i := 23) (by decide +kernel)) rfl
theorem zm_X2_hoursOwed : zMV mX2_hoursOwed 1 := ⟨zmf_X2_hoursOwed, zn_X2_hoursOwed, ze_X2_hoursOwed⟩
abbrev mL_boardOf : zMI := (yL_boardOf, cL_boardOf, 4, (some .int))
abbrev mX2_boardOf : zMI := (yX2_boardOf, cX2_boardOf, 2, (some .int))
theorem zc_X2_boardOf : Cond.code yX2_boardOf cX2_boardOf 2 (some .int) ∈ lwG := lwG_in (List.mem_of_getElem? (i := 658) (by decide +kernel)) rfl
theorem zmf_X2_boardOf : zMF mX2_boardOf 1 := ⟨zc_X2_boardOf, zi_RX2, by decide +kernel, by decide +kernel, by decide +kernel⟩
theorem zn_X2_boardOf : Cond.instanceMethod yX2_boardOf ∈ lwG := lwG_in (List.mem_of_getElem? (i := 656) (by decide +kernel)) rfl
theorem ze_X2_boardOf : Cond.selects RX2 yX2_boardOf yX2_boardOf ∈ lwG := lwG_in (List.mem_of_getElem? (i := 657) (by decide +kernel)) rfl
theorem zm_X2_boardOf : zMV mX2_boardOf 1 := ⟨zmf_X2_boardOf, zn_X2_boardOf, ze_X2_boardOf⟩
abbrev mL_rankOf : zMI := (yL_rankOf, cL_rankOf, 4, (some .int))
abbrev mX2_rankOf : zMI := (yX2_rankOf, cX2_rankOf, 5, (some .int))
theorem zc_X2_rankOf : Cond.code yX2_rankOf cX2_rankOf 5 (some .int) ∈ lwG := lwG_in (List.mem_of_getElem? (i := 665) (by decide +kernel)) rfl
theorem zmf_X2_rankOf : zMF mX2_rankOf 1 := ⟨zc_X2_rankOf, zi_RX2, by decide +kernel, by decide +kernel, by decide +kernel⟩
theorem zn_X2_rankOf : Cond.instanceMethod yX2_rankOf ∈ lwG := lwG_in (List.mem_of_getElem? (i := 663) (by decide +kernel)) rfl
theorem ze_X2_rankOf : Cond.selects RX2 yX2_rankOf yX2_rankOf ∈ lwG := lwG_in (List.mem_of_getElem? (i := 664) (by decide +kernel)) rfl
theorem zm_X2_rankOf : zMV mX2_rankOf 1 := ⟨zmf_X2_rankOf, zn_X2_rankOf, ze_X2_rankOf⟩
abbrev mL_hoursOf : zMI := (yL_hoursOf, cL_hoursOf, 4, (some .int))
abbrev mX2_hoursOf : zMI := (yX2_hoursOf, cX2_hoursOf, 2, (some .int))
theorem zc_X2_hoursOf : Cond.code yX2_hoursOf cX2_hoursOf 2 (some .int) ∈ lwG := lwG_in (List.mem_of_getElem? (i := 672) (by decide +kernel)) rfl
theorem zmf_X2_hoursOf : zMF mX2_hoursOf 1 := ⟨zc_X2_hoursOf, zi_RX2, by decide +kernel, by decide +kernel, by decide +kernel⟩
theorem zn_X2_hoursOf : Cond.instanceMethod yX2_hoursOf ∈ lwG := lwG_in (List.mem_of_getElem? (i := 670) (by decide +kernel)) rfl
theorem ze_X2_hoursOf : Cond.selects RX2 yX2_hoursOf yX2_hoursOf ∈ lwG := lwG_in (List.mem_of_getElem? (i := 671) (by decide +kernel)) rfl
theorem zm_X2_hoursOf : zMV mX2_hoursOf 1 := ⟨zmf_X2_hoursOf, zn_X2_hoursOf, ze_X2_hoursOf⟩
abbrev mL_refusalsOf : zMI := (yL_refusalsOf, cL_refusalsOf, 4, (some .int))
abbrev mX2_refusalsOf : zMI := (yX2_refusalsOf, cX2_refusalsOf, 2, (some .int))
theorem zc_X2_refusalsOf : Cond.code yX2_refusalsOf cX2_refusalsOf 2 (some .int) ∈ lwG := lwG_in (List.mem_of_getElem? (i := 679) (by decide +kernel)) rfl
theorem zmf_X2_refusalsOf : zMF mX2_refusalsOf 1 := ⟨zc_X2_refusalsOf, zi_RX2, by decide +kernel, by decide +kernel, by decide +kernel⟩
theorem zn_X2_refusalsOf : Cond.instanceMethod yX2_refusalsOf ∈ lwG := lwG_in (List.mem_of_getElem? (i := 677) (by decide +kernel)) rfl
theorem ze_X2_refusalsOf : Cond.selects RX2 yX2_refusalsOf yX2_refusalsOf ∈ lwG := lwG_in (List.mem_of_getElem? (i := 678) (by decide +kernel)) rfl
theorem zm_X2_refusalsOf : zMV mX2_refusalsOf 1 := ⟨zmf_X2_refusalsOf, zn_X2_refusalsOf, ze_X2_refusalsOf⟩
abbrev mL_placeOf : zMI := (yL_placeOf, cL_placeOf, 4, (some .int))
abbrev mX2_placeOf : zMI := (yX2_placeOf, cX2_placeOf, 2, (some .int))
theorem zc_X2_placeOf : Cond.code yX2_placeOf cX2_placeOf 2 (some .int) ∈ lwG := lwG_in (List.mem_of_getElem? (i := 686) (by decide +kernel)) rfl
theorem zmf_X2_placeOf : zMF mX2_placeOf 1 := ⟨zc_X2_placeOf, zi_RX2, by decide +kernel, by decide +kernel, by decide +kernel⟩
theorem zn_X2_placeOf : Cond.instanceMethod yX2_placeOf ∈ lwG := lwG_in (List.mem_of_getElem? (i := 684) (by decide +kernel)) rfl
theorem ze_X2_placeOf : Cond.selects RX2 yX2_placeOf yX2_placeOf ∈ lwG := lwG_in (List.mem_of_getElem? (i := 685) (by decide +kernel)) rfl
theorem zm_X2_placeOf : zMV mX2_placeOf 1 := ⟨zmf_X2_placeOf, zn_X2_placeOf, ze_X2_placeOf⟩
abbrev mL_owedTo : zMI := (yL_owedTo, cL_owedTo, 4, (some .int))
abbrev mX2_owedTo : zMI := (yX2_owedTo, cX2_owedTo, 2, (some .int))
theorem zc_X2_owedTo : Cond.code yX2_owedTo cX2_owedTo 2 (some .int) ∈ lwG := lwG_in (List.mem_of_getElem? (i := 693) (by decide +kernel)) rfl
theorem zmf_X2_owedTo : zMF mX2_owedTo 1 := ⟨zc_X2_owedTo, zi_RX2, by decide +kernel, by decide +kernel, by decide +kernel⟩
theorem zn_X2_owedTo : Cond.instanceMethod yX2_owedTo ∈ lwG := lwG_in (List.mem_of_getElem? (i := 691) (by decide +kernel)) rfl
theorem ze_X2_owedTo : Cond.selects RX2 yX2_owedTo yX2_owedTo ∈ lwG := lwG_in (List.mem_of_getElem? (i := 692) (by decide +kernel)) rfl
theorem zm_X2_owedTo : zMV mX2_owedTo 1 := ⟨zmf_X2_owedTo, zn_X2_owedTo, ze_X2_owedTo⟩
abbrev mL_workerAt : zMI := (yL_workerAt, cL_workerAt, 4, (some .int))
abbrev mX2_workerAt : zMI := (yX2_workerAt, cX2_workerAt, 2, (some .int))
theorem zc_X2_workerAt : Cond.code yX2_workerAt cX2_workerAt 2 (some .int) ∈ lwG := lwG_in (List.mem_of_getElem? (i := 700) (by decide +kernel)) rfl
theorem zmf_X2_workerAt : zMF mX2_workerAt 1 := ⟨zc_X2_workerAt, zi_RX2, by decide +kernel, by decide +kernel, by decide +kernel⟩
theorem zn_X2_workerAt : Cond.instanceMethod yX2_workerAt ∈ lwG := lwG_in (List.mem_of_getElem? (i := 698) (by decide +kernel)) rfl
theorem ze_X2_workerAt : Cond.selects RX2 yX2_workerAt yX2_workerAt ∈ lwG := lwG_in (List.mem_of_getElem? (i := 699) (by decide +kernel)) rfl
theorem zm_X2_workerAt : zMV mX2_workerAt 1 := ⟨zmf_X2_workerAt, zn_X2_workerAt, ze_X2_workerAt⟩
abbrev mL_nextUp : zMI := (yL_nextUp, cL_nextUp, 4, (some .int))
abbrev mX2_nextUp : zMI := (yX2_nextUp, cX2_nextUp, 4, (some .int))
theorem zc_X2_nextUp : Cond.code yX2_nextUp cX2_nextUp 4 (some .int) ∈ lwG := lwG_in (List.mem_of_getElem? (i := 707) (by decide +kernel)) rfl
theorem zmf_X2_nextUp : zMF mX2_nextUp 1 := ⟨zc_X2_nextUp, zi_RX2, by decide +kernel, by decide +kernel, by decide +kernel⟩
theorem zn_X2_nextUp : Cond.instanceMethod yX2_nextUp ∈ lwG := lwG_in (List.mem_of_getElem? (i := 705) (by decide +kernel)) rfl
theorem ze_X2_nextUp : Cond.selects RX2 yX2_nextUp yX2_nextUp ∈ lwG := lwG_in (List.mem_of_getElem? (i := 706) (by decide +kernel)) rfl
theorem zm_X2_nextUp : zMV mX2_nextUp 1 := ⟨zmf_X2_nextUp, zn_X2_nextUp, ze_X2_nextUp⟩
abbrev mX3_init : zMI := (yX3_init, cX3_init, 2, none)
theorem zc_X3_init : Cond.code yX3_init cX3_init 2 none ∈ lwG := lwG_in (List.mem_of_getElem? (i := 712) (by decide +kernel)) rfl
theorem zi_RX3 : Cond.initialized RX3 ∈ lwG := lwG_in (List.mem_of_getElem? (i := 46) (by decide +kernel)) rfl
theorem zmf_X3_init : zMF mX3_init 0 := ⟨zc_X3_init, zi_RX3, by decide +kernel, by decide +kernel, by decide +kernel⟩
theorem zn_X3_init : Cond.instanceMethod yX3_init ∈ lwG := lwG_in (List.mem_of_getElem? (i := 711) (by decide +kernel)) rfl
theorem zm_X3_init : zMC mX3_init 0 := ⟨zmf_X3_init, zn_X3_init, rfl, rfl⟩
abbrev mX3_thrown : zMI := (yX3_thrown, cX3_thrown, 1, (some .int))
theorem zc_X3_thrown : Cond.code yX3_thrown cX3_thrown 1 (some .int) ∈ lwG := lwG_in (List.mem_of_getElem? (i := 796) (by decide +kernel)) rfl
theorem zmf_X3_thrown : zMF mX3_thrown 0 := ⟨zc_X3_thrown, zi_RX3, by decide +kernel, by decide +kernel, by decide +kernel⟩
theorem zn_X3_thrown : Cond.instanceMethod yX3_thrown ∈ lwG := lwG_in (List.mem_of_getElem? (i := 794) (by decide +kernel)) rfl
theorem ze_X3_thrown : Cond.selects RX3 yX3_thrown yX3_thrown ∈ lwG := lwG_in (List.mem_of_getElem? (i := 795) (by decide +kernel)) rfl
theorem zm_X3_thrown : zMV mX3_thrown 0 := ⟨zmf_X3_thrown, zn_X3_thrown, ze_X3_thrown⟩
abbrev mX3_signOn : zMI := (yX3_signOn, cX3_signOn, 4, (some .int))
theorem zc_X3_signOn : Cond.code yX3_signOn cX3_signOn 4 (some .int) ∈ lwG := lwG_in (List.mem_of_getElem? (i := 800) (by decide +kernel)) rfl
theorem zmf_X3_signOn : zMF mX3_signOn 2 := ⟨zc_X3_signOn, zi_RX3, by decide +kernel, by decide +kernel, by decide +kernel⟩
theorem zn_X3_signOn : Cond.instanceMethod yX3_signOn ∈ lwG := lwG_in (List.mem_of_getElem? (i := 798) (by decide +kernel)) rfl
theorem ze_X3_signOn : Cond.selects RX3 yX3_signOn yX3_signOn ∈ lwG := lwG_in (List.mem_of_getElem? (i := 799) (by decide +kernel)) rfl
theorem zm_X3_signOn : zMV mX3_signOn 2 := ⟨zmf_X3_signOn, zn_X3_signOn, ze_X3_signOn⟩
abbrev mX3_isBoard : zMI := (yX3_isBoard, cX3_isBoard, 1, (some .boolean))
theorem zc_X3_isBoard : Cond.code yX3_isBoard cX3_isBoard 1 (some .boolean) ∈ lwG := lwG_in (List.mem_of_getElem? (i := 803) (by decide +kernel)) rfl
theorem zmf_X3_isBoard : zMF mX3_isBoard 1 := ⟨zc_X3_isBoard, zi_RX3, by decide +kernel, by decide +kernel, by decide +kernel⟩
theorem zs_X3_isBoard : Cond.static yX3_isBoard ∈ lwG := lwG_in (List.mem_of_getElem? (i := 802) (by decide +kernel)) rfl
theorem zm_X3_isBoard : zMS mX3_isBoard 1 := ⟨zmf_X3_isBoard, zs_X3_isBoard⟩
abbrev mX3_in : zMI := (yX3_in, cX3_in, 3, (some .boolean))
theorem zc_X3_in : Cond.code yX3_in cX3_in 3 (some .boolean) ∈ lwG := lwG_in (List.mem_of_getElem? (i := 806) (by decide +kernel)) rfl
theorem zmf_X3_in : zMF mX3_in 3 := ⟨zc_X3_in, zi_RX3, by decide +kernel, by decide +kernel, by decide +kernel⟩
theorem zs_X3_in : Cond.static yX3_in ∈ lwG := lwG_in (List.mem_of_getElem? (i := 805) (by decide +kernel)) rfl
theorem zm_X3_in : zMS mX3_in 3 := ⟨zmf_X3_in, zs_X3_in⟩
abbrev mX3_count : zMI := (yX3_count, cX3_count, 3, (some .int))
theorem zc_X3_count : Cond.code yX3_count cX3_count 3 (some .int) ∈ lwG := lwG_in (List.mem_of_getElem? (i := 810) (by decide +kernel)) rfl
theorem zmf_X3_count : zMF mX3_count 0 := ⟨zc_X3_count, zi_RX3, by decide +kernel, by decide +kernel, by decide +kernel⟩
theorem zn_X3_count : Cond.instanceMethod yX3_count ∈ lwG := lwG_in (List.mem_of_getElem? (i := 809) (by decide +kernel)) rfl
theorem ze_X3_count : Cond.selects RX3 yX3_count yX3_count ∈ lwG := lwG_in (List.mem_of_getElem? (i := 24) (by decide +kernel)) rfl
theorem zm_X3_count : zMV mX3_count 0 := ⟨zmf_X3_count, zn_X3_count, ze_X3_count⟩
abbrev mX3_goes : zMI := (yX3_goes, cX3_goes, 4, (some .boolean))
theorem zc_X3_goes : Cond.code yX3_goes cX3_goes 4 (some .boolean) ∈ lwG := lwG_in (List.mem_of_getElem? (i := 814) (by decide +kernel)) rfl
theorem zmf_X3_goes : zMF mX3_goes 3 := ⟨zc_X3_goes, zi_RX3, by decide +kernel, by decide +kernel, by decide +kernel⟩
theorem zn_X3_goes : Cond.instanceMethod yX3_goes ∈ lwG := lwG_in (List.mem_of_getElem? (i := 813) (by decide +kernel)) rfl
theorem ze_X3_goes : Cond.selects RX3 yX3_goes yX3_goes ∈ lwG := lwG_in (List.mem_of_getElem? (i := 25) (by decide +kernel)) rfl
theorem zm_X3_goes : zMV mX3_goes 3 := ⟨zmf_X3_goes, zn_X3_goes, ze_X3_goes⟩
abbrev mX3_lowers : zMI := (yX3_lowers, cX3_lowers, 2, none)
theorem zc_X3_lowers : Cond.code yX3_lowers cX3_lowers 2 none ∈ lwG := lwG_in (List.mem_of_getElem? (i := 818) (by decide +kernel)) rfl
theorem zmf_X3_lowers : zMF mX3_lowers 1 := ⟨zc_X3_lowers, zi_RX3, by decide +kernel, by decide +kernel, by decide +kernel⟩
theorem zn_X3_lowers : Cond.instanceMethod yX3_lowers ∈ lwG := lwG_in (List.mem_of_getElem? (i := 817) (by decide +kernel)) rfl
theorem ze_X3_lowers : Cond.selects RX3 yX3_lowers yX3_lowers ∈ lwG := lwG_in (List.mem_of_getElem? (i := 26) (by decide +kernel)) rfl
theorem zm_X3_lowers : zMV mX3_lowers 1 := ⟨zmf_X3_lowers, zn_X3_lowers, ze_X3_lowers⟩
abbrev mX3_signOff : zMI := (yX3_signOff, cX3_signOff, 3, (some .int))
theorem zc_X3_signOff : Cond.code yX3_signOff cX3_signOff 3 (some .int) ∈ lwG := lwG_in (List.mem_of_getElem? (i := 822) (by decide +kernel)) rfl
theorem zmf_X3_signOff : zMF mX3_signOff 1 := ⟨zc_X3_signOff, zi_RX3, by decide +kernel, by decide +kernel, by decide +kernel⟩
theorem zn_X3_signOff : Cond.instanceMethod yX3_signOff ∈ lwG := lwG_in (List.mem_of_getElem? (i := 820) (by decide +kernel)) rfl
theorem ze_X3_signOff : Cond.selects RX3 yX3_signOff yX3_signOff ∈ lwG := lwG_in (List.mem_of_getElem? (i := 821) (by decide +kernel)) rfl
theorem zm_X3_signOff : zMV mX3_signOff 1 := ⟨zmf_X3_signOff, zn_X3_signOff, ze_X3_signOff⟩
abbrev mX3_kept : zMI := (yX3_kept, cX3_kept, 3, (some .int))
theorem zc_X3_kept : Cond.code yX3_kept cX3_kept 3 (some .int) ∈ lwG := lwG_in (List.mem_of_getElem? (i := 826) (by decide +kernel)) rfl
theorem zmf_X3_kept : zMF mX3_kept 1 := ⟨zc_X3_kept, zi_RX3, by decide +kernel, by decide +kernel, by decide +kernel⟩
theorem zn_X3_kept : Cond.instanceMethod yX3_kept ∈ lwG := lwG_in (List.mem_of_getElem? (i := 825) (by decide +kernel)) rfl
theorem ze_X3_kept : Cond.selects RX3 yX3_kept yX3_kept ∈ lwG := lwG_in (List.mem_of_getElem? (i := 27) (by decide +kernel)) rfl
theorem zm_X3_kept : zMV mX3_kept 1 := ⟨zmf_X3_kept, zn_X3_kept, ze_X3_kept⟩
abbrev mX3_setSkills : zMI := (yX3_setSkills, cX3_setSkills, 5, (some .int))
theorem zc_X3_setSkills : Cond.code yX3_setSkills cX3_setSkills 5 (some .int) ∈ lwG := lwG_in (List.mem_of_getElem? (i := 830) (by decide +kernel)) rfl
theorem zmf_X3_setSkills : zMF mX3_setSkills 2 := ⟨zc_X3_setSkills, zi_RX3, by decide +kernel, by decide +kernel, by decide +kernel⟩
theorem zn_X3_setSkills : Cond.instanceMethod yX3_setSkills ∈ lwG := lwG_in (List.mem_of_getElem? (i := 828) (by decide +kernel)) rfl
theorem ze_X3_setSkills : Cond.selects RX3 yX3_setSkills yX3_setSkills ∈ lwG := lwG_in (List.mem_of_getElem? (i := 829) (by decide +kernel)) rfl
theorem zm_X3_setSkills : zMV mX3_setSkills 2 := ⟨zmf_X3_setSkills, zn_X3_setSkills, ze_X3_setSkills⟩
abbrev mX3_move : zMI := (yX3_move, cX3_move, 5, (some .int))
theorem zc_X3_move : Cond.code yX3_move cX3_move 5 (some .int) ∈ lwG := lwG_in (List.mem_of_getElem? (i := 834) (by decide +kernel)) rfl
theorem zmf_X3_move : zMF mX3_move 2 := ⟨zc_X3_move, zi_RX3, by decide +kernel, by decide +kernel, by decide +kernel⟩
theorem zn_X3_move : Cond.instanceMethod yX3_move ∈ lwG := lwG_in (List.mem_of_getElem? (i := 832) (by decide +kernel)) rfl
theorem ze_X3_move : Cond.selects RX3 yX3_move yX3_move ∈ lwG := lwG_in (List.mem_of_getElem? (i := 833) (by decide +kernel)) rfl
theorem zm_X3_move : zMV mX3_move 2 := ⟨zmf_X3_move, zn_X3_move, ze_X3_move⟩
abbrev mX3_setAway : zMI := (yX3_setAway, cX3_setAway, 5, (some .boolean))
theorem zc_X3_setAway : Cond.code yX3_setAway cX3_setAway 5 (some .boolean) ∈ lwG := lwG_in (List.mem_of_getElem? (i := 838) (by decide +kernel)) rfl
theorem zmf_X3_setAway : zMF mX3_setAway 2 := ⟨zc_X3_setAway, zi_RX3, by decide +kernel, by decide +kernel, by decide +kernel⟩
theorem zn_X3_setAway : Cond.instanceMethod yX3_setAway ∈ lwG := lwG_in (List.mem_of_getElem? (i := 836) (by decide +kernel)) rfl
theorem ze_X3_setAway : Cond.selects RX3 yX3_setAway yX3_setAway ∈ lwG := lwG_in (List.mem_of_getElem? (i := 837) (by decide +kernel)) rfl
theorem zm_X3_setAway : zMV mX3_setAway 2 := ⟨zmf_X3_setAway, zn_X3_setAway, ze_X3_setAway⟩
abbrev mX3_setRefusing : zMI := (yX3_setRefusing, cX3_setRefusing, 5, (some .boolean))
theorem zc_X3_setRefusing : Cond.code yX3_setRefusing cX3_setRefusing 5 (some .boolean) ∈ lwG := lwG_in (List.mem_of_getElem? (i := 842) (by decide +kernel)) rfl
theorem zmf_X3_setRefusing : zMF mX3_setRefusing 2 := ⟨zc_X3_setRefusing, zi_RX3, by decide +kernel, by decide +kernel, by decide +kernel⟩
theorem zn_X3_setRefusing : Cond.instanceMethod yX3_setRefusing ∈ lwG := lwG_in (List.mem_of_getElem? (i := 840) (by decide +kernel)) rfl
theorem ze_X3_setRefusing : Cond.selects RX3 yX3_setRefusing yX3_setRefusing ∈ lwG := lwG_in (List.mem_of_getElem? (i := 841) (by decide +kernel)) rfl
theorem zm_X3_setRefusing : zMV mX3_setRefusing 2 := ⟨zmf_X3_setRefusing, zn_X3_setRefusing, ze_X3_setRefusing⟩
abbrev mX3_setRule : zMI := (yX3_setRule, cX3_setRule, 5, (some .int))
theorem zc_X3_setRule : Cond.code yX3_setRule cX3_setRule 5 (some .int) ∈ lwG := lwG_in (List.mem_of_getElem? (i := 846) (by decide +kernel)) rfl
theorem zmf_X3_setRule : zMF mX3_setRule 3 := ⟨zc_X3_setRule, zi_RX3, by decide +kernel, by decide +kernel, by decide +kernel⟩
theorem zn_X3_setRule : Cond.instanceMethod yX3_setRule ∈ lwG := lwG_in (List.mem_of_getElem? (i := 844) (by decide +kernel)) rfl
theorem ze_X3_setRule : Cond.selects RX3 yX3_setRule yX3_setRule ∈ lwG := lwG_in (List.mem_of_getElem? (i := 845) (by decide +kernel)) rfl
theorem zm_X3_setRule : zMV mX3_setRule 3 := ⟨zmf_X3_setRule, zn_X3_setRule, ze_X3_setRule⟩
abbrev mX3_equalise : zMI := (yX3_equalise, cX3_equalise, 7, (some .int))
theorem zc_X3_equalise : Cond.code yX3_equalise cX3_equalise 7 (some .int) ∈ lwG := lwG_in (List.mem_of_getElem? (i := 850) (by decide +kernel)) rfl
theorem zmf_X3_equalise : zMF mX3_equalise 1 := ⟨zc_X3_equalise, zi_RX3, by decide +kernel, by decide +kernel, by decide +kernel⟩
theorem zn_X3_equalise : Cond.instanceMethod yX3_equalise ∈ lwG := lwG_in (List.mem_of_getElem? (i := 848) (by decide +kernel)) rfl
theorem ze_X3_equalise : Cond.selects RX3 yX3_equalise yX3_equalise ∈ lwG := lwG_in (List.mem_of_getElem? (i := 849) (by decide +kernel)) rfl
theorem zm_X3_equalise : zMV mX3_equalise 1 := ⟨zmf_X3_equalise, zn_X3_equalise, ze_X3_equalise⟩
abbrev mX3_lineUp : zMI := (yX3_lineUp, cX3_lineUp, 4, (some .int))
theorem zc_X3_lineUp : Cond.code yX3_lineUp cX3_lineUp 4 (some .int) ∈ lwG := lwG_in (List.mem_of_getElem? (i := 854) (by decide +kernel)) rfl
theorem zmf_X3_lineUp : zMF mX3_lineUp 0 := ⟨zc_X3_lineUp, zi_RX3, by decide +kernel, by decide +kernel, by decide +kernel⟩
theorem zn_X3_lineUp : Cond.instanceMethod yX3_lineUp ∈ lwG := lwG_in (List.mem_of_getElem? (i := 853) (by decide +kernel)) rfl
theorem ze_X3_lineUp : Cond.selects RX3 yX3_lineUp yX3_lineUp ∈ lwG := lwG_in (List.mem_of_getElem? (i := 28) (by decide +kernel)) rfl
theorem zm_X3_lineUp : zMV mX3_lineUp 0 := ⟨zmf_X3_lineUp, zn_X3_lineUp, ze_X3_lineUp⟩
abbrev mX3_isBefore : zMI := (yX3_isBefore, cX3_isBefore, 3, (some .boolean))
theorem zc_X3_isBefore : Cond.code yX3_isBefore cX3_isBefore 3 (some .boolean) ∈ lwG := lwG_in (List.mem_of_getElem? (i := 858) (by decide +kernel)) rfl
theorem zmf_X3_isBefore : zMF mX3_isBefore 2 := ⟨zc_X3_isBefore, zi_RX3, by decide +kernel, by decide +kernel, by decide +kernel⟩
theorem zn_X3_isBefore : Cond.instanceMethod yX3_isBefore ∈ lwG := lwG_in (List.mem_of_getElem? (i := 857) (by decide +kernel)) rfl
theorem ze_X3_isBefore : Cond.selects RX3 yX3_isBefore yX3_isBefore ∈ lwG := lwG_in (List.mem_of_getElem? (i := 29) (by decide +kernel)) rfl
theorem zm_X3_isBefore : zMV mX3_isBefore 2 := ⟨zmf_X3_isBefore, zn_X3_isBefore, ze_X3_isBefore⟩
abbrev mX3_rank : zMI := (yX3_rank, cX3_rank, 4, (some .int))
theorem zc_X3_rank : Cond.code yX3_rank cX3_rank 4 (some .int) ∈ lwG := lwG_in (List.mem_of_getElem? (i := 862) (by decide +kernel)) rfl
theorem zmf_X3_rank : zMF mX3_rank 1 := ⟨zc_X3_rank, zi_RX3, by decide +kernel, by decide +kernel, by decide +kernel⟩
theorem zn_X3_rank : Cond.instanceMethod yX3_rank ∈ lwG := lwG_in (List.mem_of_getElem? (i := 861) (by decide +kernel)) rfl
theorem ze_X3_rank : Cond.selects RX3 yX3_rank yX3_rank ∈ lwG := lwG_in (List.mem_of_getElem? (i := 30) (by decide +kernel)) rfl
theorem zm_X3_rank : zMV mX3_rank 1 := ⟨zmf_X3_rank, zn_X3_rank, ze_X3_rank⟩
abbrev mX3_order : zMI := (yX3_order, cX3_order, 2, (some .int))
theorem zc_X3_order : Cond.code yX3_order cX3_order 2 (some .int) ∈ lwG := lwG_in (List.mem_of_getElem? (i := 866) (by decide +kernel)) rfl
theorem zmf_X3_order : zMF mX3_order 1 := ⟨zc_X3_order, zi_RX3, by decide +kernel, by decide +kernel, by decide +kernel⟩
theorem zn_X3_order : Cond.instanceMethod yX3_order ∈ lwG := lwG_in (List.mem_of_getElem? (i := 864) (by decide +kernel)) rfl
theorem ze_X3_order : Cond.selects RX3 yX3_order yX3_order ∈ lwG := lwG_in (List.mem_of_getElem? (i := 865) (by decide +kernel)) rfl
theorem zm_X3_order : zMV mX3_order 1 := ⟨zmf_X3_order, zn_X3_order, ze_X3_order⟩
abbrev mX3_dispatch : zMI := (yX3_dispatch, cX3_dispatch, 5, (some .int))
theorem zc_X3_dispatch : Cond.code yX3_dispatch cX3_dispatch 5 (some .int) ∈ lwG := lwG_in (List.mem_of_getElem? (i := 870) (by decide +kernel)) rfl
theorem zmf_X3_dispatch : zMF mX3_dispatch 0 := ⟨zc_X3_dispatch, zi_RX3, by decide +kernel, by decide +kernel, by decide +kernel⟩
theorem zn_X3_dispatch : Cond.instanceMethod yX3_dispatch ∈ lwG := lwG_in (List.mem_of_getElem? (i := 868) (by decide +kernel)) rfl
theorem ze_X3_dispatch : Cond.selects RX3 yX3_dispatch yX3_dispatch ∈ lwG := lwG_in (List.mem_of_getElem? (i := 869) (by decide +kernel)) rfl
theorem zm_X3_dispatch : zMV mX3_dispatch 0 := ⟨zmf_X3_dispatch, zn_X3_dispatch, ze_X3_dispatch⟩
abbrev mX3_countOpen : zMI := (yX3_countOpen, cX3_countOpen, 2, none)
theorem zc_X3_countOpen : Cond.code yX3_countOpen cX3_countOpen 2 none ∈ lwG := lwG_in (List.mem_of_getElem? (i := 874) (by decide +kernel)) rfl
theorem zmf_X3_countOpen : zMF mX3_countOpen 0 := ⟨zc_X3_countOpen, zi_RX3, by decide +kernel, by decide +kernel, by decide +kernel⟩
theorem zn_X3_countOpen : Cond.instanceMethod yX3_countOpen ∈ lwG := lwG_in (List.mem_of_getElem? (i := 873) (by decide +kernel)) rfl
theorem ze_X3_countOpen : Cond.selects RX3 yX3_countOpen yX3_countOpen ∈ lwG := lwG_in (List.mem_of_getElem? (i := 31) (by decide +kernel)) rfl
theorem zm_X3_countOpen : zMV mX3_countOpen 0 := ⟨zmf_X3_countOpen, zn_X3_countOpen, ze_X3_countOpen⟩
abbrev mX3_isReady : zMI := (yX3_isReady, cX3_isReady, 2, (some .boolean))
theorem zc_X3_isReady : Cond.code yX3_isReady cX3_isReady 2 (some .boolean) ∈ lwG := lwG_in (List.mem_of_getElem? (i := 878) (by decide +kernel)) rfl
theorem zmf_X3_isReady : zMF mX3_isReady 1 := ⟨zc_X3_isReady, zi_RX3, by decide +kernel, by decide +kernel, by decide +kernel⟩
theorem zn_X3_isReady : Cond.instanceMethod yX3_isReady ∈ lwG := lwG_in (List.mem_of_getElem? (i := 877) (by decide +kernel)) rfl
theorem ze_X3_isReady : Cond.selects RX3 yX3_isReady yX3_isReady ∈ lwG := lwG_in (List.mem_of_getElem? (i := 32) (by decide +kernel)) rfl
theorem zm_X3_isReady : zMV mX3_isReady 1 := ⟨zmf_X3_isReady, zn_X3_isReady, ze_X3_isReady⟩
abbrev mX3_canAll : zMI := (yX3_canAll, cX3_canAll, 7, (some .boolean))
theorem zc_X3_canAll : Cond.code yX3_canAll cX3_canAll 7 (some .boolean) ∈ lwG := lwG_in (List.mem_of_getElem? (i := 882) (by decide +kernel)) rfl
theorem zmf_X3_canAll : zMF mX3_canAll 2 := ⟨zc_X3_canAll, zi_RX3, by decide +kernel, by decide +kernel, by decide +kernel⟩
theorem zn_X3_canAll : Cond.instanceMethod yX3_canAll ∈ lwG := lwG_in (List.mem_of_getElem? (i := 881) (by decide +kernel)) rfl
theorem ze_X3_canAll : Cond.selects RX3 yX3_canAll yX3_canAll ∈ lwG := lwG_in (List.mem_of_getElem? (i := 33) (by decide +kernel)) rfl
theorem zm_X3_canAll : zMV mX3_canAll 2 := ⟨zmf_X3_canAll, zn_X3_canAll, ze_X3_canAll⟩
abbrev mX3_refuses : zMI := (yX3_refuses, cX3_refuses, 2, none)
theorem zc_X3_refuses : Cond.code yX3_refuses cX3_refuses 2 none ∈ lwG := lwG_in (List.mem_of_getElem? (i := 886) (by decide +kernel)) rfl
theorem zmf_X3_refuses : zMF mX3_refuses 1 := ⟨zc_X3_refuses, zi_RX3, by decide +kernel, by decide +kernel, by decide +kernel⟩
theorem zn_X3_refuses : Cond.instanceMethod yX3_refuses ∈ lwG := lwG_in (List.mem_of_getElem? (i := 885) (by decide +kernel)) rfl
theorem ze_X3_refuses : Cond.selects RX3 yX3_refuses yX3_refuses ∈ lwG := lwG_in (List.mem_of_getElem? (i := 34) (by decide +kernel)) rfl
theorem zm_X3_refuses : zMV mX3_refuses 1 := ⟨zmf_X3_refuses, zn_X3_refuses, ze_X3_refuses⟩
abbrev mX3_gives : zMI := (yX3_gives, cX3_gives, 5, none)
theorem zc_X3_gives : Cond.code yX3_gives cX3_gives 5 none ∈ lwG := lwG_in (List.mem_of_getElem? (i := 890) (by decide +kernel)) rfl
theorem zmf_X3_gives : zMF mX3_gives 1 := ⟨zc_X3_gives, zi_RX3, by decide +kernel, by decide +kernel, by decide +kernel⟩
theorem zn_X3_gives : Cond.instanceMethod yX3_gives ∈ lwG := lwG_in (List.mem_of_getElem? (i := 889) (by decide +kernel)) rfl
theorem ze_X3_gives : Cond.selects RX3 yX3_gives yX3_gives ∈ lwG := lwG_in (List.mem_of_getElem? (i := 35) (by decide +kernel)) rfl
theorem zm_X3_gives : zMV mX3_gives 1 := ⟨zmf_X3_gives, zn_X3_gives, ze_X3_gives⟩
abbrev mX3_fills : zMI := (yX3_fills, cX3_fills, 3, none)
theorem zc_X3_fills : Cond.code yX3_fills cX3_fills 3 none ∈ lwG := lwG_in (List.mem_of_getElem? (i := 894) (by decide +kernel)) rfl
theorem zmf_X3_fills : zMF mX3_fills 2 := ⟨zc_X3_fills, zi_RX3, by decide +kernel, by decide +kernel, by decide +kernel⟩
theorem zn_X3_fills : Cond.instanceMethod yX3_fills ∈ lwG := lwG_in (List.mem_of_getElem? (i := 893) (by decide +kernel)) rfl
theorem ze_X3_fills : Cond.selects RX3 yX3_fills yX3_fills ∈ lwG := lwG_in (List.mem_of_getElem? (i := 36) (by decide +kernel)) rfl
theorem zm_X3_fills : zMV mX3_fills 2 := ⟨zmf_X3_fills, zn_X3_fills, ze_X3_fills⟩
abbrev mX3_setHours : zMI := (yX3_setHours, cX3_setHours, 3, (some .int))
theorem zc_X3_setHours : Cond.code yX3_setHours cX3_setHours 3 (some .int) ∈ lwG := lwG_in (List.mem_of_getElem? (i := 898) (by decide +kernel)) rfl
theorem zmf_X3_setHours : zMF mX3_setHours 1 := ⟨zc_X3_setHours, zi_RX3, by decide +kernel, by decide +kernel, by decide +kernel⟩
theorem zn_X3_setHours : Cond.instanceMethod yX3_setHours ∈ lwG := lwG_in (List.mem_of_getElem? (i := 896) (by decide +kernel)) rfl
theorem ze_X3_setHours : Cond.selects RX3 yX3_setHours yX3_setHours ∈ lwG := lwG_in (List.mem_of_getElem? (i := 897) (by decide +kernel)) rfl
theorem zm_X3_setHours : zMV mX3_setHours 1 := ⟨zmf_X3_setHours, zn_X3_setHours, ze_X3_setHours⟩
abbrev mX3_leave : zMI := (yX3_leave, cX3_leave, 5, (some .int))
theorem zc_X3_leave : Cond.code yX3_leave cX3_leave 5 (some .int) ∈ lwG := lwG_in (List.mem_of_getElem? (i := 902) (by decide +kernel)) rfl
theorem zmf_X3_leave : zMF mX3_leave 2 := ⟨zc_X3_leave, zi_RX3, by decide +kernel, by decide +kernel, by decide +kernel⟩
theorem zn_X3_leave : Cond.instanceMethod yX3_leave ∈ lwG := lwG_in (List.mem_of_getElem? (i := 900) (by decide +kernel)) rfl
theorem ze_X3_leave : Cond.selects RX3 yX3_leave yX3_leave ∈ lwG := lwG_in (List.mem_of_getElem? (i := 901) (by decide +kernel)) rfl
theorem zm_X3_leave : zMV mX3_leave 2 := ⟨zmf_X3_leave, zn_X3_leave, ze_X3_leave⟩
abbrev mX3_works : zMI := (yX3_works, cX3_works, 3, none)
theorem zc_X3_works : Cond.code yX3_works cX3_works 3 none ∈ lwG := lwG_in (List.mem_of_getElem? (i := 906) (by decide +kernel)) rfl
theorem zmf_X3_works : zMF mX3_works 2 := ⟨zc_X3_works, zi_RX3, by decide +kernel, by decide +kernel, by decide +kernel⟩
theorem zn_X3_works : Cond.instanceMethod yX3_works ∈ lwG := lwG_in (List.mem_of_getElem? (i := 905) (by decide +kernel)) rfl
theorem ze_X3_works : Cond.selects RX3 yX3_works yX3_works ∈ lwG := lwG_in (List.mem_of_getElem? (i := 37) (by decide +kernel)) rfl
theorem zm_X3_works : zMV mX3_works 2 := ⟨zmf_X3_works, zn_X3_works, ze_X3_works⟩
abbrev mX3_replace : zMI := (yX3_replace, cX3_replace, 6, (some .int))
theorem zc_X3_replace : Cond.code yX3_replace cX3_replace 6 (some .int) ∈ lwG := lwG_in (List.mem_of_getElem? (i := 910) (by decide +kernel)) rfl
theorem zmf_X3_replace : zMF mX3_replace 1 := ⟨zc_X3_replace, zi_RX3, by decide +kernel, by decide +kernel, by decide +kernel⟩
theorem zn_X3_replace : Cond.instanceMethod yX3_replace ∈ lwG := lwG_in (List.mem_of_getElem? (i := 908) (by decide +kernel)) rfl
theorem ze_X3_replace : Cond.selects RX3 yX3_replace yX3_replace ∈ lwG := lwG_in (List.mem_of_getElem? (i := 909) (by decide +kernel)) rfl
theorem zm_X3_replace : zMV mX3_replace 1 := ⟨zmf_X3_replace, zn_X3_replace, ze_X3_replace⟩
abbrev mX3_isPlace : zMI := (yX3_isPlace, cX3_isPlace, 2, (some .boolean))
theorem zc_X3_isPlace : Cond.code yX3_isPlace cX3_isPlace 2 (some .boolean) ∈ lwG := lwG_in (List.mem_of_getElem? (i := 914) (by decide +kernel)) rfl
theorem zmf_X3_isPlace : zMF mX3_isPlace 1 := ⟨zc_X3_isPlace, zi_RX3, by decide +kernel, by decide +kernel, by decide +kernel⟩
theorem zn_X3_isPlace : Cond.instanceMethod yX3_isPlace ∈ lwG := lwG_in (List.mem_of_getElem? (i := 913) (by decide +kernel)) rfl
theorem ze_X3_isPlace : Cond.selects RX3 yX3_isPlace yX3_isPlace ∈ lwG := lwG_in (List.mem_of_getElem? (i := 38) (by decide +kernel)) rfl
theorem zm_X3_isPlace : zMV mX3_isPlace 1 := ⟨zmf_X3_isPlace, zn_X3_isPlace, ze_X3_isPlace⟩
abbrev mX3_endShift : zMI := (yX3_endShift, cX3_endShift, 2, (some .int))
theorem zc_X3_endShift : Cond.code yX3_endShift cX3_endShift 2 (some .int) ∈ lwG := lwG_in (List.mem_of_getElem? (i := 918) (by decide +kernel)) rfl
theorem zmf_X3_endShift : zMF mX3_endShift 0 := ⟨zc_X3_endShift, zi_RX3, by decide +kernel, by decide +kernel, by decide +kernel⟩
theorem zn_X3_endShift : Cond.instanceMethod yX3_endShift ∈ lwG := lwG_in (List.mem_of_getElem? (i := 916) (by decide +kernel)) rfl
theorem ze_X3_endShift : Cond.selects RX3 yX3_endShift yX3_endShift ∈ lwG := lwG_in (List.mem_of_getElem? (i := 917) (by decide +kernel)) rfl
theorem zm_X3_endShift : zMV mX3_endShift 0 := ⟨zmf_X3_endShift, zn_X3_endShift, ze_X3_endShift⟩
abbrev mX3_endPeriod : zMI := (yX3_endPeriod, cX3_endPeriod, 3, (some .int))
theorem zc_X3_endPeriod : Cond.code yX3_endPeriod cX3_endPeriod 3 (some .int) ∈ lwG := lwG_in (List.mem_of_getElem? (i := 922) (by decide +kernel)) rfl
theorem zmf_X3_endPeriod : zMF mX3_endPeriod 0 := ⟨zc_X3_endPeriod, zi_RX3, by decide +kernel, by decide +kernel, by decide +kernel⟩
theorem zn_X3_endPeriod : Cond.instanceMethod yX3_endPeriod ∈ lwG := lwG_in (List.mem_of_getElem? (i := 920) (by decide +kernel)) rfl
theorem ze_X3_endPeriod : Cond.selects RX3 yX3_endPeriod yX3_endPeriod ∈ lwG := lwG_in (List.mem_of_getElem? (i := 921) (by decide +kernel)) rfl
theorem zm_X3_endPeriod : zMV mX3_endPeriod 0 := ⟨zmf_X3_endPeriod, zn_X3_endPeriod, ze_X3_endPeriod⟩
abbrev mX3_owes : zMI := (yX3_owes, cX3_owes, 3, (some .int))
theorem zc_X3_owes : Cond.code yX3_owes cX3_owes 3 (some .int) ∈ lwG := lwG_in (List.mem_of_getElem? (i := 926) (by decide +kernel)) rfl
theorem zmf_X3_owes : zMF mX3_owes 1 := ⟨zc_X3_owes, zi_RX3, by decide +kernel, by decide +kernel, by decide +kernel⟩
theorem zn_X3_owes : Cond.instanceMethod yX3_owes ∈ lwG := lwG_in (List.mem_of_getElem? (i := 925) (by decide +kernel)) rfl
theorem ze_X3_owes : Cond.selects RX3 yX3_owes yX3_owes ∈ lwG := lwG_in (List.mem_of_getElem? (i := 39) (by decide +kernel)) rfl
theorem zm_X3_owes : zMV mX3_owes 1 := ⟨zmf_X3_owes, zn_X3_owes, ze_X3_owes⟩
abbrev mX3_workers : zMI := (yX3_workers, cX3_workers, 1, (some .int))
theorem zc_X3_workers : Cond.code yX3_workers cX3_workers 1 (some .int) ∈ lwG := lwG_in (List.mem_of_getElem? (i := 930) (by decide +kernel)) rfl
theorem zmf_X3_workers : zMF mX3_workers 0 := ⟨zc_X3_workers, zi_RX3, by decide +kernel, by decide +kernel, by decide +kernel⟩
theorem zn_X3_workers : Cond.instanceMethod yX3_workers ∈ lwG := lwG_in (List.mem_of_getElem? (i := 928) (by decide +kernel)) rfl
theorem ze_X3_workers : Cond.selects RX3 yX3_workers yX3_workers ∈ lwG := lwG_in (List.mem_of_getElem? (i := 929) (by decide +kernel)) rfl
theorem zm_X3_workers : zMV mX3_workers 0 := ⟨zmf_X3_workers, zn_X3_workers, ze_X3_workers⟩
abbrev mX3_boardOf : zMI := (yX3_boardOf, cX3_boardOf, 3, (some .int))
theorem zc_X3_boardOf : Cond.code yX3_boardOf cX3_boardOf 3 (some .int) ∈ lwG := lwG_in (List.mem_of_getElem? (i := 934) (by decide +kernel)) rfl
theorem zmf_X3_boardOf : zMF mX3_boardOf 1 := ⟨zc_X3_boardOf, zi_RX3, by decide +kernel, by decide +kernel, by decide +kernel⟩
theorem zn_X3_boardOf : Cond.instanceMethod yX3_boardOf ∈ lwG := lwG_in (List.mem_of_getElem? (i := 932) (by decide +kernel)) rfl
theorem ze_X3_boardOf : Cond.selects RX3 yX3_boardOf yX3_boardOf ∈ lwG := lwG_in (List.mem_of_getElem? (i := 933) (by decide +kernel)) rfl
theorem zm_X3_boardOf : zMV mX3_boardOf 1 := ⟨zmf_X3_boardOf, zn_X3_boardOf, ze_X3_boardOf⟩
abbrev mX3_rankOf : zMI := (yX3_rankOf, cX3_rankOf, 3, (some .int))
theorem zc_X3_rankOf : Cond.code yX3_rankOf cX3_rankOf 3 (some .int) ∈ lwG := lwG_in (List.mem_of_getElem? (i := 938) (by decide +kernel)) rfl
theorem zmf_X3_rankOf : zMF mX3_rankOf 1 := ⟨zc_X3_rankOf, zi_RX3, by decide +kernel, by decide +kernel, by decide +kernel⟩
theorem zn_X3_rankOf : Cond.instanceMethod yX3_rankOf ∈ lwG := lwG_in (List.mem_of_getElem? (i := 936) (by decide +kernel)) rfl
theorem ze_X3_rankOf : Cond.selects RX3 yX3_rankOf yX3_rankOf ∈ lwG := lwG_in (List.mem_of_getElem? (i := 937) (by decide +kernel)) rfl
theorem zm_X3_rankOf : zMV mX3_rankOf 1 := ⟨zmf_X3_rankOf, zn_X3_rankOf, ze_X3_rankOf⟩
abbrev mX3_hoursOf : zMI := (yX3_hoursOf, cX3_hoursOf, 3, (some .int))
theorem zc_X3_hoursOf : Cond.code yX3_hoursOf cX3_hoursOf 3 (some .int) ∈ lwG := lwG_in (List.mem_of_getElem? (i := 942) (by decide +kernel)) rfl
theorem zmf_X3_hoursOf : zMF mX3_hoursOf 1 := ⟨zc_X3_hoursOf, zi_RX3, by decide +kernel, by decide +kernel, by decide +kernel⟩
theorem zn_X3_hoursOf : Cond.instanceMethod yX3_hoursOf ∈ lwG := lwG_in (List.mem_of_getElem? (i := 940) (by decide +kernel)) rfl
theorem ze_X3_hoursOf : Cond.selects RX3 yX3_hoursOf yX3_hoursOf ∈ lwG := lwG_in (List.mem_of_getElem? (i := 941) (by decide +kernel)) rfl
theorem zm_X3_hoursOf : zMV mX3_hoursOf 1 := ⟨zmf_X3_hoursOf, zn_X3_hoursOf, ze_X3_hoursOf⟩
abbrev mX3_refusalsOf : zMI := (yX3_refusalsOf, cX3_refusalsOf, 3, (some .int))
theorem zc_X3_refusalsOf : Cond.code yX3_refusalsOf cX3_refusalsOf 3 (some .int) ∈ lwG := lwG_in (List.mem_of_getElem? (i := 946) (by decide +kernel)) rfl
theorem zmf_X3_refusalsOf : zMF mX3_refusalsOf 1 := ⟨zc_X3_refusalsOf, zi_RX3, by decide +kernel, by decide +kernel, by decide +kernel⟩
theorem zn_X3_refusalsOf : Cond.instanceMethod yX3_refusalsOf ∈ lwG := lwG_in (List.mem_of_getElem? (i := 944) (by decide +kernel)) rfl
theorem ze_X3_refusalsOf : Cond.selects RX3 yX3_refusalsOf yX3_refusalsOf ∈ lwG := lwG_in (List.mem_of_getElem? (i := 945) (by decide +kernel)) rfl
theorem zm_X3_refusalsOf : zMV mX3_refusalsOf 1 := ⟨zmf_X3_refusalsOf, zn_X3_refusalsOf, ze_X3_refusalsOf⟩
abbrev mX3_placeOf : zMI := (yX3_placeOf, cX3_placeOf, 3, (some .int))
theorem zc_X3_placeOf : Cond.code yX3_placeOf cX3_placeOf 3 (some .int) ∈ lwG := lwG_in (List.mem_of_getElem? (i := 950) (by decide +kernel)) rfl
theorem zmf_X3_placeOf : zMF mX3_placeOf 1 := ⟨zc_X3_placeOf, zi_RX3, by decide +kernel, by decide +kernel, by decide +kernel⟩
theorem zn_X3_placeOf : Cond.instanceMethod yX3_placeOf ∈ lwG := lwG_in (List.mem_of_getElem? (i := 948) (by decide +kernel)) rfl
theorem ze_X3_placeOf : Cond.selects RX3 yX3_placeOf yX3_placeOf ∈ lwG := lwG_in (List.mem_of_getElem? (i := 949) (by decide +kernel)) rfl
theorem zm_X3_placeOf : zMV mX3_placeOf 1 := ⟨zmf_X3_placeOf, zn_X3_placeOf, ze_X3_placeOf⟩
abbrev mX3_owedTo : zMI := (yX3_owedTo, cX3_owedTo, 3, (some .int))
theorem zc_X3_owedTo : Cond.code yX3_owedTo cX3_owedTo 3 (some .int) ∈ lwG := lwG_in (List.mem_of_getElem? (i := 954) (by decide +kernel)) rfl
theorem zmf_X3_owedTo : zMF mX3_owedTo 1 := ⟨zc_X3_owedTo, zi_RX3, by decide +kernel, by decide +kernel, by decide +kernel⟩
theorem zn_X3_owedTo : Cond.instanceMethod yX3_owedTo ∈ lwG := lwG_in (List.mem_of_getElem? (i := 952) (by decide +kernel)) rfl
theorem ze_X3_owedTo : Cond.selects RX3 yX3_owedTo yX3_owedTo ∈ lwG := lwG_in (List.mem_of_getElem? (i := 953) (by decide +kernel)) rfl
theorem zm_X3_owedTo : zMV mX3_owedTo 1 := ⟨zmf_X3_owedTo, zn_X3_owedTo, ze_X3_owedTo⟩
abbrev mX3_places : zMI := (yX3_places, cX3_places, 1, (some .int))
theorem zc_X3_places : Cond.code yX3_places cX3_places 1 (some .int) ∈ lwG := lwG_in (List.mem_of_getElem? (i := 958) (by decide +kernel)) rfl
theorem zmf_X3_places : zMF mX3_places 0 := ⟨zc_X3_places, zi_RX3, by decide +kernel, by decide +kernel, by decide +kernel⟩
theorem zn_X3_places : Cond.instanceMethod yX3_places ∈ lwG := lwG_in (List.mem_of_getElem? (i := 956) (by decide +kernel)) rfl
theorem ze_X3_places : Cond.selects RX3 yX3_places yX3_places ∈ lwG := lwG_in (List.mem_of_getElem? (i := 957) (by decide +kernel)) rfl
theorem zm_X3_places : zMV mX3_places 0 := ⟨zmf_X3_places, zn_X3_places, ze_X3_places⟩
abbrev mX3_workerAt : zMI := (yX3_workerAt, cX3_workerAt, 2, (some .int))
theorem zc_X3_workerAt : Cond.code yX3_workerAt cX3_workerAt 2 (some .int) ∈ lwG := lwG_in (List.mem_of_getElem? (i := 962) (by decide +kernel)) rfl
theorem zmf_X3_workerAt : zMF mX3_workerAt 1 := ⟨zc_X3_workerAt, zi_RX3, by decide +kernel, by decide +kernel, by decide +kernel⟩
theorem zn_X3_workerAt : Cond.instanceMethod yX3_workerAt ∈ lwG := lwG_in (List.mem_of_getElem? (i := 960) (by decide +kernel)) rfl
theorem ze_X3_workerAt : Cond.selects RX3 yX3_workerAt yX3_workerAt ∈ lwG := lwG_in (List.mem_of_getElem? (i := 961) (by decide +kernel)) rfl
theorem zm_X3_workerAt : zMV mX3_workerAt 1 := ⟨zmf_X3_workerAt, zn_X3_workerAt, ze_X3_workerAt⟩
abbrev mX3_nextUp : zMI := (yX3_nextUp, cX3_nextUp, 4, (some .int))
theorem zc_X3_nextUp : Cond.code yX3_nextUp cX3_nextUp 4 (some .int) ∈ lwG := lwG_in (List.mem_of_getElem? (i := 966) (by decide +kernel)) rfl
theorem zmf_X3_nextUp : zMF mX3_nextUp 1 := ⟨zc_X3_nextUp, zi_RX3, by decide +kernel, by decide +kernel, by decide +kernel⟩
theorem zn_X3_nextUp : Cond.instanceMethod yX3_nextUp ∈ lwG := lwG_in (List.mem_of_getElem? (i := 964) (by decide +kernel)) rfl
theorem ze_X3_nextUp : Cond.selects RX3 yX3_nextUp yX3_nextUp ∈ lwG := lwG_in (List.mem_of_getElem? (i := 965) (by decide +kernel)) rfl
theorem zm_X3_nextUp : zMV mX3_nextUp 1 := ⟨zmf_X3_nextUp, zn_X3_nextUp, ze_X3_nextUp⟩
abbrev mX3_fillable : zMI := (yX3_fillable, cX3_fillable, 4, (some .int))
theorem zc_X3_fillable : Cond.code yX3_fillable cX3_fillable 4 (some .int) ∈ lwG := lwG_in (List.mem_of_getElem? (i := 970) (by decide +kernel)) rfl
theorem zmf_X3_fillable : zMF mX3_fillable 0 := ⟨zc_X3_fillable, zi_RX3, by decide +kernel, by decide +kernel, by decide +kernel⟩
theorem zn_X3_fillable : Cond.instanceMethod yX3_fillable ∈ lwG := lwG_in (List.mem_of_getElem? (i := 968) (by decide +kernel)) rfl
theorem ze_X3_fillable : Cond.selects RX3 yX3_fillable yX3_fillable ∈ lwG := lwG_in (List.mem_of_getElem? (i := 969) (by decide +kernel)) rfl
theorem zm_X3_fillable : zMV mX3_fillable 0 := ⟨zmf_X3_fillable, zn_X3_fillable, ze_X3_fillable⟩
theorem zl_X2_1 : Cond.methodLink RX2 1 objectInit ∈ lwG := lwG_in (List.mem_of_getElem? (i := 65) (by decide +kernel)) rfl
theorem zl_X2_9 : Cond.methodLink RX2 9 yJx4a65c_init_da8c8 ∈ lwG := lwG_in (List.mem_of_getElem? (i := 70) (by decide +kernel)) rfl
theorem zl_X2_60 : Cond.methodLink RX2 60 yX2_checkBoard ∈ lwG := lwG_in (List.mem_of_getElem? (i := 373) (by decide +kernel)) rfl
theorem zl_X2_64 : Cond.methodLink RX2 64 yX2_checkSkills ∈ lwG := lwG_in (List.mem_of_getElem? (i := 444) (by decide +kernel)) rfl
theorem zl_X2_67 : Cond.methodLink RX2 67 yJx4a65c_size_8abf5 ∈ lwG := lwG_in (List.mem_of_getElem? (i := 169) (by decide +kernel)) rfl
theorem zl_X2_75 : Cond.methodLink RX2 75 ⟨"java/lang/IllegalStateException", "<init>", "(Ljava/lang/String;)V"⟩ ∈ lwG := lwG_in (List.mem_of_getElem? (i := 458) (by decide +kernel)) rfl
theorem zl_X2_80 : Cond.methodLink RX2 80 yX1_init ∈ lwG := lwG_in (List.mem_of_getElem? (i := 465) (by decide +kernel)) rfl
theorem zl_X2_83 : Cond.methodLink RX2 83 yX2_putAtBottom ∈ lwG := lwG_in (List.mem_of_getElem? (i := 291) (by decide +kernel)) rfl
theorem zl_X2_90 : Cond.methodLink RX2 90 yX2_find ∈ lwG := lwG_in (List.mem_of_getElem? (i := 518) (by decide +kernel)) rfl
theorem zl_X2_94 : Cond.methodLink RX2 94 yX2_checkNotAtWork ∈ lwG := lwG_in (List.mem_of_getElem? (i := 538) (by decide +kernel)) rfl
theorem zl_X2_97 : Cond.methodLink RX2 97 yX2_takeOffBoard ∈ lwG := lwG_in (List.mem_of_getElem? (i := 278) (by decide +kernel)) rfl
theorem zl_X2_119 : Cond.methodLink RX2 119 ⟨"java/lang/IllegalArgumentException", "<init>", "(Ljava/lang/String;)V"⟩ ∈ lwG := lwG_in (List.mem_of_getElem? (i := 418) (by decide +kernel)) rfl
theorem zl_X2_120 : Cond.methodLink RX2 120 yX2_rememberTurn ∈ lwG := lwG_in (List.mem_of_getElem? (i := 203) (by decide +kernel)) rfl
theorem zl_X2_123 : Cond.methodLink RX2 123 yJx4a65c_get_915e3 ∈ lwG := lwG_in (List.mem_of_getElem? (i := 173) (by decide +kernel)) rfl
theorem zl_X2_127 : Cond.methodLink RX2 127 yX2_riseByHours ∈ lwG := lwG_in (List.mem_of_getElem? (i := 585) (by decide +kernel)) rfl
theorem zl_X2_130 : Cond.methodLink RX2 130 yX2_countDisplaced ∈ lwG := lwG_in (List.mem_of_getElem? (i := 593) (by decide +kernel)) rfl
theorem zl_X2_137 : Cond.methodLink RX2 137 yX0_clear ∈ lwG := lwG_in (List.mem_of_getElem? (i := 153) (by decide +kernel)) rfl
theorem zl_X2_140 : Cond.methodLink RX2 140 yX2_matchOpenPlaces ∈ lwG := lwG_in (List.mem_of_getElem? (i := 157) (by decide +kernel)) rfl
theorem zl_X2_143 : Cond.methodLink RX2 143 yX2_takeInTurn ∈ lwG := lwG_in (List.mem_of_getElem? (i := 195) (by decide +kernel)) rfl
theorem zl_X2_146 : Cond.methodLink RX2 146 yX2_placeTaken ∈ lwG := lwG_in (List.mem_of_getElem? (i := 307) (by decide +kernel)) rfl
theorem zl_X2_151 : Cond.methodLink RX2 151 yX2_checkWorkHasNotBegun ∈ lwG := lwG_in (List.mem_of_getElem? (i := 614) (by decide +kernel)) rfl
theorem zl_X2_156 : Cond.methodLink RX2 156 yX1_isAtWork ∈ lwG := lwG_in (List.mem_of_getElem? (i := 339) (by decide +kernel)) rfl
theorem zl_X2_165 : Cond.methodLink RX2 165 yX1_stopWork ∈ lwG := lwG_in (List.mem_of_getElem? (i := 343) (by decide +kernel)) rfl
theorem zl_X2_169 : Cond.methodLink RX2 169 yX2_checkPlace ∈ lwG := lwG_in (List.mem_of_getElem? (i := 635) (by decide +kernel)) rfl
theorem zl_X2_172 : Cond.methodLink RX2 172 yX2_isOpen ∈ lwG := lwG_in (List.mem_of_getElem? (i := 161) (by decide +kernel)) rfl
theorem zl_X2_178 : Cond.methodLink RX2 178 yX1_isReady ∈ lwG := lwG_in (List.mem_of_getElem? (i := 262) (by decide +kernel)) rfl
theorem zl_X2_181 : Cond.methodLink RX2 181 yX1_hasSkill ∈ lwG := lwG_in (List.mem_of_getElem? (i := 319) (by decide +kernel)) rfl
theorem zl_X2_184 : Cond.methodLink RX2 184 yX2_startWork ∈ lwG := lwG_in (List.mem_of_getElem? (i := 331) (by decide +kernel)) rfl
theorem zl_X2_188 : Cond.methodLink RX2 188 yX2_countRefusal ∈ lwG := lwG_in (List.mem_of_getElem? (i := 270) (by decide +kernel)) rfl
theorem zl_X2_194 : Cond.methodLink RX2 194 yX2_hoursOwed ∈ lwG := lwG_in (List.mem_of_getElem? (i := 648) (by decide +kernel)) rfl
theorem zl_X2_201 : Cond.methodLink RX2 201 yX2_holderOf ∈ lwG := lwG_in (List.mem_of_getElem? (i := 165) (by decide +kernel)) rfl
theorem zl_X2_204 : Cond.methodLink RX2 204 yX0_addWorker ∈ lwG := lwG_in (List.mem_of_getElem? (i := 303) (by decide +kernel)) rfl
theorem zl_X2_207 : Cond.methodLink RX2 207 yX0_mostPlaced ∈ lwG := lwG_in (List.mem_of_getElem? (i := 359) (by decide +kernel)) rfl
theorem zl_X2_214 : Cond.methodLink RX2 214 ⟨"java/util/NoSuchElementException", "<init>", "(Ljava/lang/String;)V"⟩ ∈ lwG := lwG_in (List.mem_of_getElem? (i := 532) (by decide +kernel)) rfl
theorem zl_X2_225 : Cond.methodLink RX2 225 yJx4a65c_remove_915e3 ∈ lwG := lwG_in (List.mem_of_getElem? (i := 282) (by decide +kernel)) rfl
theorem zl_X2_228 : Cond.methodLink RX2 228 yJx4a65c_add_7a177 ∈ lwG := lwG_in (List.mem_of_getElem? (i := 295) (by decide +kernel)) rfl
theorem zl_X2_232 : Cond.methodLink RX2 232 yJx4a65c_clear_da8c8 ∈ lwG := lwG_in (List.mem_of_getElem? (i := 199) (by decide +kernel)) rfl
theorem zl_X2_233 : Cond.methodLink RX2 233 yJx4a65c_add_9ea2d ∈ lwG := lwG_in (List.mem_of_getElem? (i := 207) (by decide +kernel)) rfl
theorem zl_X2_236 : Cond.methodLink RX2 236 yJx4a65c_set_bcc79 ∈ lwG := lwG_in (List.mem_of_getElem? (i := 589) (by decide +kernel)) rfl
theorem zl_X2_240 : Cond.methodLink RX2 240 yX0_addPlace ∈ lwG := lwG_in (List.mem_of_getElem? (i := 188) (by decide +kernel)) rfl
theorem zl_X2_243 : Cond.methodLink RX2 243 yX0_canPlaceAlso ∈ lwG := lwG_in (List.mem_of_getElem? (i := 266) (by decide +kernel)) rfl
theorem zl_X2_246 : Cond.methodLink RX2 246 yX0_removeWorker ∈ lwG := lwG_in (List.mem_of_getElem? (i := 311) (by decide +kernel)) rfl
theorem zl_X2_249 : Cond.methodLink RX2 249 yX2_lowestPlaceFor ∈ lwG := lwG_in (List.mem_of_getElem? (i := 315) (by decide +kernel)) rfl
theorem zl_X2_252 : Cond.methodLink RX2 252 yX0_removePlace ∈ lwG := lwG_in (List.mem_of_getElem? (i := 327) (by decide +kernel)) rfl
theorem zl_X2_255 : Cond.methodLink RX2 255 yX0_canSpare ∈ lwG := lwG_in (List.mem_of_getElem? (i := 323) (by decide +kernel)) rfl
theorem zl_X2_261 : Cond.methodLink RX2 261 yX2_sendToBottom ∈ lwG := lwG_in (List.mem_of_getElem? (i := 274) (by decide +kernel)) rfl
theorem zl_X0_3 : Cond.methodLink RX0 3 objectInit ∈ lwG := lwG_in (List.mem_of_getElem? (i := 99) (by decide +kernel)) rfl
theorem zl_X0_18 : Cond.methodLink RX0 18 yX0_oneIfWithin ∈ lwG := lwG_in (List.mem_of_getElem? (i := 192) (by decide +kernel)) rfl
theorem zl_X0_22 : Cond.methodLink RX0 22 yJ9_max_7cf53 ∈ lwG := lwG_in (List.mem_of_getElem? (i := 363) (by decide +kernel)) rfl
theorem zl_X1_3 : Cond.methodLink RX1 3 objectInit ∈ lwG := lwG_in (List.mem_of_getElem? (i := 468) (by decide +kernel)) rfl
theorem zl_L_7 : Cond.methodLink RL 7 yX2_signOn ∈ lwG := lwG_in (List.mem_of_getElem? (i := 369) (by decide +kernel)) rfl
theorem zl_L_17 : Cond.methodLink RL 17 yX2_signOff ∈ lwG := lwG_in (List.mem_of_getElem? (i := 514) (by decide +kernel)) rfl
theorem zl_L_23 : Cond.methodLink RL 23 yX2_setSkills ∈ lwG := lwG_in (List.mem_of_getElem? (i := 545) (by decide +kernel)) rfl
theorem zl_L_26 : Cond.methodLink RL 26 yX2_move ∈ lwG := lwG_in (List.mem_of_getElem? (i := 552) (by decide +kernel)) rfl
theorem zl_L_29 : Cond.methodLink RL 29 yX2_setAway ∈ lwG := lwG_in (List.mem_of_getElem? (i := 559) (by decide +kernel)) rfl
theorem zl_L_33 : Cond.methodLink RL 33 yX2_setRefusing ∈ lwG := lwG_in (List.mem_of_getElem? (i := 566) (by decide +kernel)) rfl
theorem zl_L_36 : Cond.methodLink RL 36 yX2_setRule ∈ lwG := lwG_in (List.mem_of_getElem? (i := 573) (by decide +kernel)) rfl
theorem zl_L_40 : Cond.methodLink RL 40 yX2_equalise ∈ lwG := lwG_in (List.mem_of_getElem? (i := 581) (by decide +kernel)) rfl
theorem zl_L_43 : Cond.methodLink RL 43 yX2_order ∈ lwG := lwG_in (List.mem_of_getElem? (i := 600) (by decide +kernel)) rfl
theorem zl_L_46 : Cond.methodLink RL 46 yX2_setHours ∈ lwG := lwG_in (List.mem_of_getElem? (i := 609) (by decide +kernel)) rfl
theorem zl_L_49 : Cond.methodLink RL 49 yX2_leave ∈ lwG := lwG_in (List.mem_of_getElem? (i := 622) (by decide +kernel)) rfl
theorem zl_L_52 : Cond.methodLink RL 52 yX2_replace ∈ lwG := lwG_in (List.mem_of_getElem? (i := 631) (by decide +kernel)) rfl
theorem zl_L_55 : Cond.methodLink RL 55 yX2_endPeriod ∈ lwG := lwG_in (List.mem_of_getElem? (i := 644) (by decide +kernel)) rfl
theorem zl_L_59 : Cond.methodLink RL 59 yX2_boardOf ∈ lwG := lwG_in (List.mem_of_getElem? (i := 655) (by decide +kernel)) rfl
theorem zl_L_62 : Cond.methodLink RL 62 yX2_rankOf ∈ lwG := lwG_in (List.mem_of_getElem? (i := 662) (by decide +kernel)) rfl
theorem zl_L_65 : Cond.methodLink RL 65 yX2_hoursOf ∈ lwG := lwG_in (List.mem_of_getElem? (i := 669) (by decide +kernel)) rfl
theorem zl_L_68 : Cond.methodLink RL 68 yX2_refusalsOf ∈ lwG := lwG_in (List.mem_of_getElem? (i := 676) (by decide +kernel)) rfl
theorem zl_L_71 : Cond.methodLink RL 71 yX2_placeOf ∈ lwG := lwG_in (List.mem_of_getElem? (i := 683) (by decide +kernel)) rfl
theorem zl_L_74 : Cond.methodLink RL 74 yX2_owedTo ∈ lwG := lwG_in (List.mem_of_getElem? (i := 690) (by decide +kernel)) rfl
theorem zl_L_77 : Cond.methodLink RL 77 yX2_workerAt ∈ lwG := lwG_in (List.mem_of_getElem? (i := 697) (by decide +kernel)) rfl
theorem zl_L_80 : Cond.methodLink RL 80 yX2_nextUp ∈ lwG := lwG_in (List.mem_of_getElem? (i := 704) (by decide +kernel)) rfl
theorem zl_L_83 : Cond.methodLink RL 83 yX2_init ∈ lwG := lwG_in (List.mem_of_getElem? (i := 62) (by decide +kernel)) rfl
theorem zl_L_86 : Cond.methodLink RL 86 yX3_init ∈ lwG := lwG_in (List.mem_of_getElem? (i := 710) (by decide +kernel)) rfl
theorem zl_L_87 : Cond.methodLink RL 87 yL_signOn ∈ lwG := lwG_in (List.mem_of_getElem? (i := 364) (by decide +kernel)) rfl
theorem zl_L_92 : Cond.methodLink RL 92 yX3_signOn ∈ lwG := lwG_in (List.mem_of_getElem? (i := 797) (by decide +kernel)) rfl
theorem zl_L_93 : Cond.methodLink RL 93 yX3_thrown ∈ lwG := lwG_in (List.mem_of_getElem? (i := 793) (by decide +kernel)) rfl
theorem zl_L_96 : Cond.methodLink RL 96 yL_signOff ∈ lwG := lwG_in (List.mem_of_getElem? (i := 510) (by decide +kernel)) rfl
theorem zl_L_99 : Cond.methodLink RL 99 yX3_signOff ∈ lwG := lwG_in (List.mem_of_getElem? (i := 819) (by decide +kernel)) rfl
theorem zl_L_100 : Cond.methodLink RL 100 yL_setSkills ∈ lwG := lwG_in (List.mem_of_getElem? (i := 542) (by decide +kernel)) rfl
theorem zl_L_102 : Cond.methodLink RL 102 yX3_setSkills ∈ lwG := lwG_in (List.mem_of_getElem? (i := 827) (by decide +kernel)) rfl
theorem zl_L_103 : Cond.methodLink RL 103 yL_move ∈ lwG := lwG_in (List.mem_of_getElem? (i := 549) (by decide +kernel)) rfl
theorem zl_L_105 : Cond.methodLink RL 105 yX3_move ∈ lwG := lwG_in (List.mem_of_getElem? (i := 831) (by decide +kernel)) rfl
theorem zl_L_106 : Cond.methodLink RL 106 yL_setAway ∈ lwG := lwG_in (List.mem_of_getElem? (i := 556) (by decide +kernel)) rfl
theorem zl_L_109 : Cond.methodLink RL 109 yX3_setAway ∈ lwG := lwG_in (List.mem_of_getElem? (i := 835) (by decide +kernel)) rfl
theorem zl_L_110 : Cond.methodLink RL 110 yL_setRefusing ∈ lwG := lwG_in (List.mem_of_getElem? (i := 563) (by decide +kernel)) rfl
theorem zl_L_112 : Cond.methodLink RL 112 yX3_setRefusing ∈ lwG := lwG_in (List.mem_of_getElem? (i := 839) (by decide +kernel)) rfl
theorem zl_L_113 : Cond.methodLink RL 113 yL_setRule ∈ lwG := lwG_in (List.mem_of_getElem? (i := 570) (by decide +kernel)) rfl
theorem zl_L_116 : Cond.methodLink RL 116 yX3_setRule ∈ lwG := lwG_in (List.mem_of_getElem? (i := 843) (by decide +kernel)) rfl
theorem zl_L_117 : Cond.methodLink RL 117 yL_equalise ∈ lwG := lwG_in (List.mem_of_getElem? (i := 578) (by decide +kernel)) rfl
theorem zl_L_119 : Cond.methodLink RL 119 yX3_equalise ∈ lwG := lwG_in (List.mem_of_getElem? (i := 847) (by decide +kernel)) rfl
theorem zl_L_120 : Cond.methodLink RL 120 yL_order ∈ lwG := lwG_in (List.mem_of_getElem? (i := 597) (by decide +kernel)) rfl
theorem zl_L_122 : Cond.methodLink RL 122 yX3_order ∈ lwG := lwG_in (List.mem_of_getElem? (i := 863) (by decide +kernel)) rfl
theorem zl_L_123 : Cond.methodLink RL 123 yX2_dispatch ∈ lwG := lwG_in (List.mem_of_getElem? (i := 149) (by decide +kernel)) rfl
theorem zl_L_126 : Cond.methodLink RL 126 yX3_dispatch ∈ lwG := lwG_in (List.mem_of_getElem? (i := 867) (by decide +kernel)) rfl
theorem zl_L_127 : Cond.methodLink RL 127 yL_setHours ∈ lwG := lwG_in (List.mem_of_getElem? (i := 606) (by decide +kernel)) rfl
theorem zl_L_129 : Cond.methodLink RL 129 yX3_setHours ∈ lwG := lwG_in (List.mem_of_getElem? (i := 895) (by decide +kernel)) rfl
theorem zl_L_130 : Cond.methodLink RL 130 yL_leave ∈ lwG := lwG_in (List.mem_of_getElem? (i := 619) (by decide +kernel)) rfl
theorem zl_L_132 : Cond.methodLink RL 132 yX3_leave ∈ lwG := lwG_in (List.mem_of_getElem? (i := 899) (by decide +kernel)) rfl
theorem zl_L_133 : Cond.methodLink RL 133 yL_replace ∈ lwG := lwG_in (List.mem_of_getElem? (i := 628) (by decide +kernel)) rfl
theorem zl_L_135 : Cond.methodLink RL 135 yX3_replace ∈ lwG := lwG_in (List.mem_of_getElem? (i := 907) (by decide +kernel)) rfl
theorem zl_L_136 : Cond.methodLink RL 136 yX2_endShift ∈ lwG := lwG_in (List.mem_of_getElem? (i := 335) (by decide +kernel)) rfl
theorem zl_L_139 : Cond.methodLink RL 139 yX3_endShift ∈ lwG := lwG_in (List.mem_of_getElem? (i := 915) (by decide +kernel)) rfl
theorem zl_L_140 : Cond.methodLink RL 140 yL_endPeriod ∈ lwG := lwG_in (List.mem_of_getElem? (i := 641) (by decide +kernel)) rfl
theorem zl_L_143 : Cond.methodLink RL 143 yX3_endPeriod ∈ lwG := lwG_in (List.mem_of_getElem? (i := 919) (by decide +kernel)) rfl
theorem zl_L_144 : Cond.methodLink RL 144 yX2_workers ∈ lwG := lwG_in (List.mem_of_getElem? (i := 347) (by decide +kernel)) rfl
theorem zl_L_147 : Cond.methodLink RL 147 yX3_workers ∈ lwG := lwG_in (List.mem_of_getElem? (i := 927) (by decide +kernel)) rfl
theorem zl_L_148 : Cond.methodLink RL 148 yL_boardOf ∈ lwG := lwG_in (List.mem_of_getElem? (i := 652) (by decide +kernel)) rfl
theorem zl_L_150 : Cond.methodLink RL 150 yX3_boardOf ∈ lwG := lwG_in (List.mem_of_getElem? (i := 931) (by decide +kernel)) rfl
theorem zl_L_151 : Cond.methodLink RL 151 yL_rankOf ∈ lwG := lwG_in (List.mem_of_getElem? (i := 659) (by decide +kernel)) rfl
theorem zl_L_153 : Cond.methodLink RL 153 yX3_rankOf ∈ lwG := lwG_in (List.mem_of_getElem? (i := 935) (by decide +kernel)) rfl
theorem zl_L_154 : Cond.methodLink RL 154 yL_hoursOf ∈ lwG := lwG_in (List.mem_of_getElem? (i := 666) (by decide +kernel)) rfl
theorem zl_L_156 : Cond.methodLink RL 156 yX3_hoursOf ∈ lwG := lwG_in (List.mem_of_getElem? (i := 939) (by decide +kernel)) rfl
theorem zl_L_157 : Cond.methodLink RL 157 yL_refusalsOf ∈ lwG := lwG_in (List.mem_of_getElem? (i := 673) (by decide +kernel)) rfl
theorem zl_L_159 : Cond.methodLink RL 159 yX3_refusalsOf ∈ lwG := lwG_in (List.mem_of_getElem? (i := 943) (by decide +kernel)) rfl
theorem zl_L_160 : Cond.methodLink RL 160 yL_placeOf ∈ lwG := lwG_in (List.mem_of_getElem? (i := 680) (by decide +kernel)) rfl
theorem zl_L_162 : Cond.methodLink RL 162 yX3_placeOf ∈ lwG := lwG_in (List.mem_of_getElem? (i := 947) (by decide +kernel)) rfl
theorem zl_L_163 : Cond.methodLink RL 163 yL_owedTo ∈ lwG := lwG_in (List.mem_of_getElem? (i := 687) (by decide +kernel)) rfl
theorem zl_L_165 : Cond.methodLink RL 165 yX3_owedTo ∈ lwG := lwG_in (List.mem_of_getElem? (i := 951) (by decide +kernel)) rfl
theorem zl_L_166 : Cond.methodLink RL 166 yX2_places ∈ lwG := lwG_in (List.mem_of_getElem? (i := 351) (by decide +kernel)) rfl
theorem zl_L_169 : Cond.methodLink RL 169 yX3_places ∈ lwG := lwG_in (List.mem_of_getElem? (i := 955) (by decide +kernel)) rfl
theorem zl_L_170 : Cond.methodLink RL 170 yL_workerAt ∈ lwG := lwG_in (List.mem_of_getElem? (i := 694) (by decide +kernel)) rfl
theorem zl_L_172 : Cond.methodLink RL 172 yX3_workerAt ∈ lwG := lwG_in (List.mem_of_getElem? (i := 959) (by decide +kernel)) rfl
theorem zl_L_173 : Cond.methodLink RL 173 yL_nextUp ∈ lwG := lwG_in (List.mem_of_getElem? (i := 701) (by decide +kernel)) rfl
theorem zl_L_175 : Cond.methodLink RL 175 yX3_nextUp ∈ lwG := lwG_in (List.mem_of_getElem? (i := 963) (by decide +kernel)) rfl
theorem zl_L_176 : Cond.methodLink RL 176 yX2_fillable ∈ lwG := lwG_in (List.mem_of_getElem? (i := 355) (by decide +kernel)) rfl
theorem zl_L_179 : Cond.methodLink RL 179 yX3_fillable ∈ lwG := lwG_in (List.mem_of_getElem? (i := 967) (by decide +kernel)) rfl
theorem zl_X3_1 : Cond.methodLink RX3 1 objectInit ∈ lwG := lwG_in (List.mem_of_getElem? (i := 713) (by decide +kernel)) rfl
theorem zl_X3_72 : Cond.methodLink RX3 72 yX3_in ∈ lwG := lwG_in (List.mem_of_getElem? (i := 804) (by decide +kernel)) rfl
theorem zl_X3_79 : Cond.methodLink RX3 79 yX3_isBefore ∈ lwG := lwG_in (List.mem_of_getElem? (i := 855) (by decide +kernel)) rfl
theorem zl_X3_83 : Cond.methodLink RX3 83 yX3_isBoard ∈ lwG := lwG_in (List.mem_of_getElem? (i := 801) (by decide +kernel)) rfl
theorem zl_X3_87 : Cond.methodLink RX3 87 yX3_count ∈ lwG := lwG_in (List.mem_of_getElem? (i := 807) (by decide +kernel)) rfl
theorem zl_X3_91 : Cond.methodLink RX3 91 yX3_goes ∈ lwG := lwG_in (List.mem_of_getElem? (i := 811) (by decide +kernel)) rfl
theorem zl_X3_98 : Cond.methodLink RX3 98 yX3_lowers ∈ lwG := lwG_in (List.mem_of_getElem? (i := 815) (by decide +kernel)) rfl
theorem zl_X3_102 : Cond.methodLink RX3 102 yX3_kept ∈ lwG := lwG_in (List.mem_of_getElem? (i := 823) (by decide +kernel)) rfl
theorem zl_X3_106 : Cond.methodLink RX3 106 yX3_lineUp ∈ lwG := lwG_in (List.mem_of_getElem? (i := 851) (by decide +kernel)) rfl
theorem zl_X3_109 : Cond.methodLink RX3 109 yX3_rank ∈ lwG := lwG_in (List.mem_of_getElem? (i := 859) (by decide +kernel)) rfl
theorem zl_X3_122 : Cond.methodLink RX3 122 yX3_canAll ∈ lwG := lwG_in (List.mem_of_getElem? (i := 879) (by decide +kernel)) rfl
theorem zl_X3_125 : Cond.methodLink RX3 125 yX3_fills ∈ lwG := lwG_in (List.mem_of_getElem? (i := 891) (by decide +kernel)) rfl
theorem zl_X3_129 : Cond.methodLink RX3 129 yX3_countOpen ∈ lwG := lwG_in (List.mem_of_getElem? (i := 871) (by decide +kernel)) rfl
theorem zl_X3_132 : Cond.methodLink RX3 132 yX3_isReady ∈ lwG := lwG_in (List.mem_of_getElem? (i := 875) (by decide +kernel)) rfl
theorem zl_X3_135 : Cond.methodLink RX3 135 yX3_refuses ∈ lwG := lwG_in (List.mem_of_getElem? (i := 883) (by decide +kernel)) rfl
theorem zl_X3_138 : Cond.methodLink RX3 138 yX3_gives ∈ lwG := lwG_in (List.mem_of_getElem? (i := 887) (by decide +kernel)) rfl
theorem zl_X3_144 : Cond.methodLink RX3 144 yX3_works ∈ lwG := lwG_in (List.mem_of_getElem? (i := 903) (by decide +kernel)) rfl
theorem zl_X3_147 : Cond.methodLink RX3 147 yX3_isPlace ∈ lwG := lwG_in (List.mem_of_getElem? (i := 911) (by decide +kernel)) rfl
theorem zl_X3_150 : Cond.methodLink RX3 150 yX3_owes ∈ lwG := lwG_in (List.mem_of_getElem? (i := 923) (by decide +kernel)) rfl
theorem zl_Jxa1e45_1 : Cond.methodLink RJxa1e45 1 objectInit ∈ lwG := lwG_in (List.mem_of_getElem? (i := 79) (by decide +kernel)) rfl
theorem zl_Jxc12de_1 : Cond.methodLink RJxc12de 1 yJxa1e45_init_da8c8 ∈ lwG := lwG_in (List.mem_of_getElem? (i := 76) (by decide +kernel)) rfl
theorem zl_Jx4a65c_1 : Cond.methodLink RJx4a65c 1 yJxc12de_init_da8c8 ∈ lwG := lwG_in (List.mem_of_getElem? (i := 73) (by decide +kernel)) rfl
theorem zl_Jx4a65c_66 : Cond.methodLink RJx4a65c 66 yJ7_copyOf_1904c ∈ lwG := lwG_in (List.mem_of_getElem? (i := 233) (by decide +kernel)) rfl
theorem zl_Jx4a65c_69 : Cond.methodLink RJx4a65c 69 yJx4a65c_grow_92f84 ∈ lwG := lwG_in (List.mem_of_getElem? (i := 219) (by decide +kernel)) rfl
theorem zl_Jx4a65c_73 : Cond.methodLink RJx4a65c 73 yJ8_newLength_cabcc ∈ lwG := lwG_in (List.mem_of_getElem? (i := 223) (by decide +kernel)) rfl
theorem zl_Jx4a65c_79 : Cond.methodLink RJx4a65c 79 yJ9_max_7cf53 ∈ lwG := lwG_in (List.mem_of_getElem? (i := 260) (by decide +kernel)) rfl
theorem zl_Jx4a65c_112 : Cond.methodLink RJx4a65c 112 arraycopyName ∈ lwG := lwG_in (List.mem_of_getElem? (i := 290) (by decide +kernel)) rfl
theorem zl_Jx4a65c_118 : Cond.methodLink RJx4a65c 118 yJ15_checkIndex_7cf53 ∈ lwG := lwG_in (List.mem_of_getElem? (i := 177) (by decide +kernel)) rfl
theorem zl_Jx4a65c_123 : Cond.methodLink RJx4a65c 123 yJx4a65c_elementData_915e3 ∈ lwG := lwG_in (List.mem_of_getElem? (i := 183) (by decide +kernel)) rfl
theorem zl_Jx4a65c_129 : Cond.methodLink RJx4a65c 129 yJx4a65c_grow_d5877 ∈ lwG := lwG_in (List.mem_of_getElem? (i := 215) (by decide +kernel)) rfl
theorem zl_Jx4a65c_131 : Cond.methodLink RJx4a65c 131 yJx4a65c_add_72be8 ∈ lwG := lwG_in (List.mem_of_getElem? (i := 211) (by decide +kernel)) rfl
theorem zl_Jx4a65c_135 : Cond.methodLink RJx4a65c 135 yJx4a65c_rangeCheckForAdd_d00df ∈ lwG := lwG_in (List.mem_of_getElem? (i := 299) (by decide +kernel)) rfl
theorem zl_Jx4a65c_144 : Cond.methodLink RJx4a65c 144 yJx4a65c_fastRemove_b59b0 ∈ lwG := lwG_in (List.mem_of_getElem? (i := 286) (by decide +kernel)) rfl
theorem zl_J7_86 : Cond.methodLink RJ7 86 ⟨"java/lang/Object", "getClass", "()Ljava/lang/Class;"⟩ ∈ lwG := lwG_in (List.mem_of_getElem? (i := 236) (by decide +kernel)) rfl
theorem zl_J7_150 : Cond.methodLink RJ7 150 arraycopyName ∈ lwG := lwG_in (List.mem_of_getElem? (i := 257) (by decide +kernel)) rfl
theorem zl_J7_300 : Cond.methodLink RJ7 300 yJ7_copyOf_6403c ∈ lwG := lwG_in (List.mem_of_getElem? (i := 248) (by decide +kernel)) rfl
theorem zl_J7_304 : Cond.methodLink RJ7 304 yJ9_min_7cf53 ∈ lwG := lwG_in (List.mem_of_getElem? (i := 254) (by decide +kernel)) rfl
theorem zl_J15_105 : Cond.methodLink RJ15 105 yJ3_checkIndex_8e157 ∈ lwG := lwG_in (List.mem_of_getElem? (i := 180) (by decide +kernel)) rfl
theorem zl_J8_194 : Cond.methodLink RJ8 194 yJ9_max_7cf53 ∈ lwG := lwG_in (List.mem_of_getElem? (i := 226) (by decide +kernel)) rfl
theorem zl_J8_201 : Cond.methodLink RJ8 201 yJ8_hugeLength_7cf53 ∈ lwG := lwG_in (List.mem_of_getElem? (i := 230) (by decide +kernel)) rfl
theorem zu_Jx4a65c : ∀ w ∈ u_ws RJx4a65c TJx4a65c 3, w ∈ lwG := by
  have h : (u_ws RJx4a65c TJx4a65c 3).all (fun w => decide (w ∈ lw_tbl) && goodWord w) = true := by decide +kernel
  intro w hw
  have h1 := List.all_eq_true.mp h w hw
  simp only [Bool.and_eq_true, decide_eq_true_eq] at h1
  exact lwG_in h1.1 h1.2
theorem zu_X0 : ∀ w ∈ u_ws RX0 TX0 2, w ∈ lwG := by
  have h : (u_ws RX0 TX0 2).all (fun w => decide (w ∈ lw_tbl) && goodWord w) = true := by decide +kernel
  intro w hw
  have h1 := List.all_eq_true.mp h w hw
  simp only [Bool.and_eq_true, decide_eq_true_eq] at h1
  exact lwG_in h1.1 h1.2
theorem zu_X1 : ∀ w ∈ u_ws RX1 TX1 10, w ∈ lwG := by
  have h : (u_ws RX1 TX1 10).all (fun w => decide (w ∈ lw_tbl) && goodWord w) = true := by decide +kernel
  intro w hw
  have h1 := List.all_eq_true.mp h w hw
  simp only [Bool.and_eq_true, decide_eq_true_eq] at h1
  exact lwG_in h1.1 h1.2
theorem zu_X2 : ∀ w ∈ u_ws RX2 TX2 13, w ∈ lwG := by
  have h : (u_ws RX2 TX2 13).all (fun w => decide (w ∈ lw_tbl) && goodWord w) = true := by decide +kernel
  intro w hw
  have h1 := List.all_eq_true.mp h w hw
  simp only [Bool.and_eq_true, decide_eq_true_eq] at h1
  exact lwG_in h1.1 h1.2
theorem zu_X3 : ∀ w ∈ u_ws RX3 TX3 26, w ∈ lwG := by
  have h : (u_ws RX3 TX3 26).all (fun w => decide (w ∈ lw_tbl) && goodWord w) = true := by decide +kernel
  intro w hw
  have h1 := List.all_eq_true.mp h w hw
  simp only [Bool.and_eq_true, decide_eq_true_eq] at h1
  exact lwG_in h1.1 h1.2
theorem zw_X2_10 : Cond.fieldLink RX2 10 "HiringHall" "turn" "Ljava/util/ArrayList;" ∈ lwG := lwG_in (List.mem_of_getElem? (i := 108) (by decide +kernel)) rfl
theorem zf_X2_10 : zFL RX2 10 "HiringHall" 3 0 RX2 TX2 13 := ⟨rfl, by decide, zu_X2, zw_X2_10, Or.inl rfl⟩
theorem zp_X2_10 : zFP RX2 10 "HiringHall" 3 0 RX2 TX2 13 (.object "java/util/ArrayList") true := ⟨zf_X2_10, ⟨tyX2, tyX2_ok⟩, nmX2, rfl, by decide +kernel⟩
theorem zw_X2_16 : Cond.fieldLink RX2 16 "HiringHall" "turnBefore" "Ljava/util/ArrayList;" ∈ lwG := lwG_in (List.mem_of_getElem? (i := 109) (by decide +kernel)) rfl
theorem zf_X2_16 : zFL RX2 16 "HiringHall" 3 1 RX2 TX2 13 := ⟨rfl, by decide, zu_X2, zw_X2_16, Or.inl rfl⟩
theorem zp_X2_16 : zFP RX2 16 "HiringHall" 3 1 RX2 TX2 13 (.object "java/util/ArrayList") true := ⟨zf_X2_16, ⟨tyX2, tyX2_ok⟩, nmX2, rfl, by decide +kernel⟩
theorem zw_X2_19 : Cond.fieldLink RX2 19 "HiringHall" "taken" "Ljava/util/ArrayList;" ∈ lwG := lwG_in (List.mem_of_getElem? (i := 110) (by decide +kernel)) rfl
theorem zf_X2_19 : zFL RX2 19 "HiringHall" 3 2 RX2 TX2 13 := ⟨rfl, by decide, zu_X2, zw_X2_19, Or.inl rfl⟩
theorem zp_X2_19 : zFP RX2 19 "HiringHall" 3 2 RX2 TX2 13 (.object "java/util/ArrayList") true := ⟨zf_X2_19, ⟨tyX2, tyX2_ok⟩, nmX2, rfl, by decide +kernel⟩
theorem zw_X2_25 : Cond.fieldLink RX2 25 "HiringHall" "matching" "LHiringHall$Matching;" ∈ lwG := lwG_in (List.mem_of_getElem? (i := 111) (by decide +kernel)) rfl
theorem zf_X2_25 : zFL RX2 25 "HiringHall" 3 3 RX2 TX2 13 := ⟨rfl, by decide, zu_X2, zw_X2_25, Or.inl rfl⟩
theorem zp_X2_25 : zFP RX2 25 "HiringHall" 3 3 RX2 TX2 13 (.object "HiringHall$Matching") true := ⟨zf_X2_25, ⟨tyX2, tyX2_ok⟩, nmX2, rfl, by decide +kernel⟩
theorem zw_X2_29 : Cond.fieldLink RX2 29 "HiringHall" "refusalCosts" "[Z" ∈ lwG := lwG_in (List.mem_of_getElem? (i := 112) (by decide +kernel)) rfl
theorem zf_X2_29 : zFL RX2 29 "HiringHall" 3 4 RX2 TX2 13 := ⟨rfl, by decide, zu_X2, zw_X2_29, Or.inl rfl⟩
theorem zp_X2_29 : zFP RX2 29 "HiringHall" 3 4 RX2 TX2 13 (.array .boolean) true := ⟨zf_X2_29, ⟨tyX2, tyX2_ok⟩, nmX2, rfl, by decide +kernel⟩
theorem zw_X2_33 : Cond.fieldLink RX2 33 "HiringHall" "guaranteedHours" "[I" ∈ lwG := lwG_in (List.mem_of_getElem? (i := 113) (by decide +kernel)) rfl
theorem zf_X2_33 : zFL RX2 33 "HiringHall" 3 5 RX2 TX2 13 := ⟨rfl, by decide, zu_X2, zw_X2_33, Or.inl rfl⟩
theorem zp_X2_33 : zFP RX2 33 "HiringHall" 3 5 RX2 TX2 13 (.array .int) true := ⟨zf_X2_33, ⟨tyX2, tyX2_ok⟩, nmX2, rfl, by decide +kernel⟩
theorem zw_X2_37 : Cond.fieldLink RX2 37 "HiringHall" "skillNeeded" "[I" ∈ lwG := lwG_in (List.mem_of_getElem? (i := 114) (by decide +kernel)) rfl
theorem zf_X2_37 : zFL RX2 37 "HiringHall" 3 6 RX2 TX2 13 := ⟨rfl, by decide, zu_X2, zw_X2_37, Or.inl rfl⟩
theorem zp_X2_37 : zFP RX2 37 "HiringHall" 3 6 RX2 TX2 13 (.array .int) true := ⟨zf_X2_37, ⟨tyX2, tyX2_ok⟩, nmX2, rfl, by decide +kernel⟩
theorem zw_X2_40 : Cond.fieldLink RX2 40 "HiringHall" "nextNumber" "I" ∈ lwG := lwG_in (List.mem_of_getElem? (i := 115) (by decide +kernel)) rfl
theorem zf_X2_40 : zFL RX2 40 "HiringHall" 3 7 RX2 TX2 13 := ⟨rfl, by decide, zu_X2, zw_X2_40, Or.inl rfl⟩
theorem zp_X2_40 : zFP RX2 40 "HiringHall" 3 7 RX2 TX2 13 .int false := ⟨zf_X2_40, ⟨tyX2, tyX2_ok⟩, nmX2, rfl, by decide +kernel⟩
theorem zw_X2_44 : Cond.fieldLink RX2 44 "HiringHall" "placeCount" "I" ∈ lwG := lwG_in (List.mem_of_getElem? (i := 116) (by decide +kernel)) rfl
theorem zf_X2_44 : zFL RX2 44 "HiringHall" 3 8 RX2 TX2 13 := ⟨rfl, by decide, zu_X2, zw_X2_44, Or.inl rfl⟩
theorem zp_X2_44 : zFP RX2 44 "HiringHall" 3 8 RX2 TX2 13 .int false := ⟨zf_X2_44, ⟨tyX2, tyX2_ok⟩, nmX2, rfl, by decide +kernel⟩
theorem zw_X2_47 : Cond.fieldLink RX2 47 "HiringHall" "shiftHours" "I" ∈ lwG := lwG_in (List.mem_of_getElem? (i := 117) (by decide +kernel)) rfl
theorem zf_X2_47 : zFL RX2 47 "HiringHall" 3 9 RX2 TX2 13 := ⟨rfl, by decide, zu_X2, zw_X2_47, Or.inl rfl⟩
theorem zp_X2_47 : zFP RX2 47 "HiringHall" 3 9 RX2 TX2 13 .int false := ⟨zf_X2_47, ⟨tyX2, tyX2_ok⟩, nmX2, rfl, by decide +kernel⟩
theorem zw_X2_50 : Cond.fieldLink RX2 50 "HiringHall" "shiftHour" "I" ∈ lwG := lwG_in (List.mem_of_getElem? (i := 118) (by decide +kernel)) rfl
theorem zf_X2_50 : zFL RX2 50 "HiringHall" 3 10 RX2 TX2 13 := ⟨rfl, by decide, zu_X2, zw_X2_50, Or.inl rfl⟩
theorem zp_X2_50 : zFP RX2 50 "HiringHall" 3 10 RX2 TX2 13 .int false := ⟨zf_X2_50, ⟨tyX2, tyX2_ok⟩, nmX2, rfl, by decide +kernel⟩
theorem zw_X2_53 : Cond.fieldLink RX2 53 "HiringHall" "hoursOfLeavers" "I" ∈ lwG := lwG_in (List.mem_of_getElem? (i := 119) (by decide +kernel)) rfl
theorem zf_X2_53 : zFL RX2 53 "HiringHall" 3 11 RX2 TX2 13 := ⟨rfl, by decide, zu_X2, zw_X2_53, Or.inl rfl⟩
theorem zp_X2_53 : zFP RX2 53 "HiringHall" 3 11 RX2 TX2 13 .int false := ⟨zf_X2_53, ⟨tyX2, tyX2_ok⟩, nmX2, rfl, by decide +kernel⟩
theorem zw_X2_56 : Cond.fieldLink RX2 56 "HiringHall" "workHasBegun" "Z" ∈ lwG := lwG_in (List.mem_of_getElem? (i := 120) (by decide +kernel)) rfl
theorem zf_X2_56 : zFL RX2 56 "HiringHall" 3 12 RX2 TX2 13 := ⟨rfl, by decide, zu_X2, zw_X2_56, Or.inl rfl⟩
theorem zp_X2_56 : zFP RX2 56 "HiringHall" 3 12 RX2 TX2 13 .boolean false := ⟨zf_X2_56, ⟨tyX2, tyX2_ok⟩, nmX2, rfl, by decide +kernel⟩
theorem zw_X2_87 : Cond.fieldLink RX2 87 "HiringHall$Worker" "number" "I" ∈ lwG := lwG_in (List.mem_of_getElem? (i := 470) (by decide +kernel)) rfl
theorem zf_X2_87 : zFL RX2 87 "HiringHall$Worker" 2 0 RX1 TX1 10 := ⟨rfl, by decide, zu_X1, zw_X2_87, Or.inl rfl⟩
theorem zp_X2_87 : zFP RX2 87 "HiringHall$Worker" 2 0 RX1 TX1 10 .int true := ⟨zf_X2_87, ⟨tyX1, tyX1_ok⟩, nmX1, rfl, by decide +kernel⟩
theorem zw_X2_100 : Cond.fieldLink RX2 100 "HiringHall$Worker" "hours" "I" ∈ lwG := lwG_in (List.mem_of_getElem? (i := 480) (by decide +kernel)) rfl
theorem zf_X2_100 : zFL RX2 100 "HiringHall$Worker" 2 5 RX1 TX1 10 := ⟨rfl, by decide, zu_X1, zw_X2_100, Or.inl rfl⟩
theorem zp_X2_100 : zFP RX2 100 "HiringHall$Worker" 2 5 RX1 TX1 10 .int false := ⟨zf_X2_100, ⟨tyX1, tyX1_ok⟩, nmX1, rfl, by decide +kernel⟩
theorem zw_X2_103 : Cond.fieldLink RX2 103 "HiringHall$Worker" "skills" "I" ∈ lwG := lwG_in (List.mem_of_getElem? (i := 474) (by decide +kernel)) rfl
theorem zf_X2_103 : zFL RX2 103 "HiringHall$Worker" 2 2 RX1 TX1 10 := ⟨rfl, by decide, zu_X1, zw_X2_103, Or.inl rfl⟩
theorem zp_X2_103 : zFP RX2 103 "HiringHall$Worker" 2 2 RX1 TX1 10 .int false := ⟨zf_X2_103, ⟨tyX1, tyX1_ok⟩, nmX1, rfl, by decide +kernel⟩
theorem zw_X2_106 : Cond.fieldLink RX2 106 "HiringHall$Worker" "board" "I" ∈ lwG := lwG_in (List.mem_of_getElem? (i := 472) (by decide +kernel)) rfl
theorem zf_X2_106 : zFL RX2 106 "HiringHall$Worker" 2 1 RX1 TX1 10 := ⟨rfl, by decide, zu_X1, zw_X2_106, Or.inl rfl⟩
theorem zp_X2_106 : zFP RX2 106 "HiringHall$Worker" 2 1 RX1 TX1 10 .int false := ⟨zf_X2_106, ⟨tyX1, tyX1_ok⟩, nmX1, rfl, by decide +kernel⟩
theorem zw_X2_109 : Cond.fieldLink RX2 109 "HiringHall$Worker" "away" "Z" ∈ lwG := lwG_in (List.mem_of_getElem? (i := 476) (by decide +kernel)) rfl
theorem zf_X2_109 : zFL RX2 109 "HiringHall$Worker" 2 3 RX1 TX1 10 := ⟨rfl, by decide, zu_X1, zw_X2_109, Or.inl rfl⟩
theorem zp_X2_109 : zFP RX2 109 "HiringHall$Worker" 2 3 RX1 TX1 10 .boolean false := ⟨zf_X2_109, ⟨tyX1, tyX1_ok⟩, nmX1, rfl, by decide +kernel⟩
theorem zw_X2_112 : Cond.fieldLink RX2 112 "HiringHall$Worker" "refusing" "Z" ∈ lwG := lwG_in (List.mem_of_getElem? (i := 478) (by decide +kernel)) rfl
theorem zf_X2_112 : zFL RX2 112 "HiringHall$Worker" 2 4 RX1 TX1 10 := ⟨rfl, by decide, zu_X1, zw_X2_112, Or.inl rfl⟩
theorem zp_X2_112 : zFP RX2 112 "HiringHall$Worker" 2 4 RX1 TX1 10 .boolean false := ⟨zf_X2_112, ⟨tyX1, tyX1_ok⟩, nmX1, rfl, by decide +kernel⟩
theorem zw_X2_162 : Cond.fieldLink RX2 162 "HiringHall$Worker" "place" "I" ∈ lwG := lwG_in (List.mem_of_getElem? (i := 484) (by decide +kernel)) rfl
theorem zf_X2_162 : zFL RX2 162 "HiringHall$Worker" 2 7 RX1 TX1 10 := ⟨rfl, by decide, zu_X1, zw_X2_162, Or.inl rfl⟩
theorem zp_X2_162 : zFP RX2 162 "HiringHall$Worker" 2 7 RX1 TX1 10 .int false := ⟨zf_X2_162, ⟨tyX1, tyX1_ok⟩, nmX1, rfl, by decide +kernel⟩
theorem zw_X2_191 : Cond.fieldLink RX2 191 "HiringHall$Worker" "wasAtWork" "Z" ∈ lwG := lwG_in (List.mem_of_getElem? (i := 488) (by decide +kernel)) rfl
theorem zf_X2_191 : zFL RX2 191 "HiringHall$Worker" 2 9 RX1 TX1 10 := ⟨rfl, by decide, zu_X1, zw_X2_191, Or.inl rfl⟩
theorem zp_X2_191 : zFP RX2 191 "HiringHall$Worker" 2 9 RX1 TX1 10 .boolean false := ⟨zf_X2_191, ⟨tyX1, tyX1_ok⟩, nmX1, rfl, by decide +kernel⟩
theorem zw_X2_198 : Cond.fieldLink RX2 198 "HiringHall$Worker" "refusals" "I" ∈ lwG := lwG_in (List.mem_of_getElem? (i := 482) (by decide +kernel)) rfl
theorem zf_X2_198 : zFL RX2 198 "HiringHall$Worker" 2 6 RX1 TX1 10 := ⟨rfl, by decide, zu_X1, zw_X2_198, Or.inl rfl⟩
theorem zp_X2_198 : zFP RX2 198 "HiringHall$Worker" 2 6 RX1 TX1 10 .int false := ⟨zf_X2_198, ⟨tyX1, tyX1_ok⟩, nmX1, rfl, by decide +kernel⟩
theorem zw_X2_258 : Cond.fieldLink RX2 258 "HiringHall$Worker" "cameInAt" "I" ∈ lwG := lwG_in (List.mem_of_getElem? (i := 486) (by decide +kernel)) rfl
theorem zf_X2_258 : zFL RX2 258 "HiringHall$Worker" 2 8 RX1 TX1 10 := ⟨rfl, by decide, zu_X1, zw_X2_258, Or.inl rfl⟩
theorem zp_X2_258 : zFP RX2 258 "HiringHall$Worker" 2 8 RX1 TX1 10 .int false := ⟨zf_X2_258, ⟨tyX1, tyX1_ok⟩, nmX1, rfl, by decide +kernel⟩
theorem zw_X0_9 : Cond.fieldLink RX0 9 "HiringHall$Matching" "workersWithin" "[I" ∈ lwG := lwG_in (List.mem_of_getElem? (i := 100) (by decide +kernel)) rfl
theorem zf_X0_9 : zFL RX0 9 "HiringHall$Matching" 1 0 RX0 TX0 2 := ⟨rfl, by decide, zu_X0, zw_X0_9, Or.inl rfl⟩
theorem zp_X0_9 : zFP RX0 9 "HiringHall$Matching" 1 0 RX0 TX0 2 (.array .int) true := ⟨zf_X0_9, ⟨tyX0, tyX0_ok⟩, nmX0, rfl, by decide +kernel⟩
theorem zw_X0_15 : Cond.fieldLink RX0 15 "HiringHall$Matching" "placesWithin" "[I" ∈ lwG := lwG_in (List.mem_of_getElem? (i := 101) (by decide +kernel)) rfl
theorem zf_X0_15 : zFL RX0 15 "HiringHall$Matching" 1 1 RX0 TX0 2 := ⟨rfl, by decide, zu_X0, zw_X0_15, Or.inl rfl⟩
theorem zp_X0_15 : zFP RX0 15 "HiringHall$Matching" 1 1 RX0 TX0 2 (.array .int) true := ⟨zf_X0_15, ⟨tyX0, tyX0_ok⟩, nmX0, rfl, by decide +kernel⟩
theorem zw_X1_9 : Cond.fieldLink RX1 9 "HiringHall$Worker" "away" "Z" ∈ lwG := lwG_in (List.mem_of_getElem? (i := 475) (by decide +kernel)) rfl
theorem zf_X1_9 : zFL RX1 9 "HiringHall$Worker" 2 3 RX1 TX1 10 := ⟨rfl, by decide, zu_X1, zw_X1_9, Or.inl rfl⟩
theorem zp_X1_9 : zFP RX1 9 "HiringHall$Worker" 2 3 RX1 TX1 10 .boolean false := ⟨zf_X1_9, ⟨tyX1, tyX1_ok⟩, nmX1, rfl, by decide +kernel⟩
theorem zw_X1_15 : Cond.fieldLink RX1 15 "HiringHall$Worker" "refusing" "Z" ∈ lwG := lwG_in (List.mem_of_getElem? (i := 477) (by decide +kernel)) rfl
theorem zf_X1_15 : zFL RX1 15 "HiringHall$Worker" 2 4 RX1 TX1 10 := ⟨rfl, by decide, zu_X1, zw_X1_15, Or.inl rfl⟩
theorem zp_X1_15 : zFP RX1 15 "HiringHall$Worker" 2 4 RX1 TX1 10 .boolean false := ⟨zf_X1_15, ⟨tyX1, tyX1_ok⟩, nmX1, rfl, by decide +kernel⟩
theorem zw_X1_18 : Cond.fieldLink RX1 18 "HiringHall$Worker" "hours" "I" ∈ lwG := lwG_in (List.mem_of_getElem? (i := 479) (by decide +kernel)) rfl
theorem zf_X1_18 : zFL RX1 18 "HiringHall$Worker" 2 5 RX1 TX1 10 := ⟨rfl, by decide, zu_X1, zw_X1_18, Or.inl rfl⟩
theorem zp_X1_18 : zFP RX1 18 "HiringHall$Worker" 2 5 RX1 TX1 10 .int false := ⟨zf_X1_18, ⟨tyX1, tyX1_ok⟩, nmX1, rfl, by decide +kernel⟩
theorem zw_X1_22 : Cond.fieldLink RX1 22 "HiringHall$Worker" "refusals" "I" ∈ lwG := lwG_in (List.mem_of_getElem? (i := 481) (by decide +kernel)) rfl
theorem zf_X1_22 : zFL RX1 22 "HiringHall$Worker" 2 6 RX1 TX1 10 := ⟨rfl, by decide, zu_X1, zw_X1_22, Or.inl rfl⟩
theorem zp_X1_22 : zFP RX1 22 "HiringHall$Worker" 2 6 RX1 TX1 10 .int false := ⟨zf_X1_22, ⟨tyX1, tyX1_ok⟩, nmX1, rfl, by decide +kernel⟩
theorem zw_X1_25 : Cond.fieldLink RX1 25 "HiringHall$Worker" "place" "I" ∈ lwG := lwG_in (List.mem_of_getElem? (i := 483) (by decide +kernel)) rfl
theorem zf_X1_25 : zFL RX1 25 "HiringHall$Worker" 2 7 RX1 TX1 10 := ⟨rfl, by decide, zu_X1, zw_X1_25, Or.inl rfl⟩
theorem zp_X1_25 : zFP RX1 25 "HiringHall$Worker" 2 7 RX1 TX1 10 .int false := ⟨zf_X1_25, ⟨tyX1, tyX1_ok⟩, nmX1, rfl, by decide +kernel⟩
theorem zw_X1_28 : Cond.fieldLink RX1 28 "HiringHall$Worker" "cameInAt" "I" ∈ lwG := lwG_in (List.mem_of_getElem? (i := 485) (by decide +kernel)) rfl
theorem zf_X1_28 : zFL RX1 28 "HiringHall$Worker" 2 8 RX1 TX1 10 := ⟨rfl, by decide, zu_X1, zw_X1_28, Or.inl rfl⟩
theorem zp_X1_28 : zFP RX1 28 "HiringHall$Worker" 2 8 RX1 TX1 10 .int false := ⟨zf_X1_28, ⟨tyX1, tyX1_ok⟩, nmX1, rfl, by decide +kernel⟩
theorem zw_X1_31 : Cond.fieldLink RX1 31 "HiringHall$Worker" "wasAtWork" "Z" ∈ lwG := lwG_in (List.mem_of_getElem? (i := 487) (by decide +kernel)) rfl
theorem zf_X1_31 : zFL RX1 31 "HiringHall$Worker" 2 9 RX1 TX1 10 := ⟨rfl, by decide, zu_X1, zw_X1_31, Or.inl rfl⟩
theorem zp_X1_31 : zFP RX1 31 "HiringHall$Worker" 2 9 RX1 TX1 10 .boolean false := ⟨zf_X1_31, ⟨tyX1, tyX1_ok⟩, nmX1, rfl, by decide +kernel⟩
theorem zw_X1_34 : Cond.fieldLink RX1 34 "HiringHall$Worker" "number" "I" ∈ lwG := lwG_in (List.mem_of_getElem? (i := 469) (by decide +kernel)) rfl
theorem zf_X1_34 : zFL RX1 34 "HiringHall$Worker" 2 0 RX1 TX1 10 := ⟨rfl, by decide, zu_X1, zw_X1_34, Or.inl rfl⟩
theorem zp_X1_34 : zFP RX1 34 "HiringHall$Worker" 2 0 RX1 TX1 10 .int true := ⟨zf_X1_34, ⟨tyX1, tyX1_ok⟩, nmX1, rfl, by decide +kernel⟩
theorem zw_X1_37 : Cond.fieldLink RX1 37 "HiringHall$Worker" "board" "I" ∈ lwG := lwG_in (List.mem_of_getElem? (i := 471) (by decide +kernel)) rfl
theorem zf_X1_37 : zFL RX1 37 "HiringHall$Worker" 2 1 RX1 TX1 10 := ⟨rfl, by decide, zu_X1, zw_X1_37, Or.inl rfl⟩
theorem zp_X1_37 : zFP RX1 37 "HiringHall$Worker" 2 1 RX1 TX1 10 .int false := ⟨zf_X1_37, ⟨tyX1, tyX1_ok⟩, nmX1, rfl, by decide +kernel⟩
theorem zw_X1_40 : Cond.fieldLink RX1 40 "HiringHall$Worker" "skills" "I" ∈ lwG := lwG_in (List.mem_of_getElem? (i := 473) (by decide +kernel)) rfl
theorem zf_X1_40 : zFL RX1 40 "HiringHall$Worker" 2 2 RX1 TX1 10 := ⟨rfl, by decide, zu_X1, zw_X1_40, Or.inl rfl⟩
theorem zp_X1_40 : zFP RX1 40 "HiringHall$Worker" 2 2 RX1 TX1 10 .int false := ⟨zf_X1_40, ⟨tyX1, tyX1_ok⟩, nmX1, rfl, by decide +kernel⟩
theorem zw_X3_7 : Cond.fieldLink RX3 7 "HiringHallModel" "numbers" "[I" ∈ lwG := lwG_in (List.mem_of_getElem? (i := 714) (by decide +kernel)) rfl
theorem zf_X3_7 : zFL RX3 7 "HiringHallModel" 4 0 RX3 TX3 26 := ⟨rfl, by decide, zu_X3, zw_X3_7, Or.inl rfl⟩
theorem zp_X3_7 : zFP RX3 7 "HiringHallModel" 4 0 RX3 TX3 26 (.array .int) true := ⟨zf_X3_7, ⟨tyX3, tyX3_ok⟩, nmX3, rfl, by decide +kernel⟩
theorem zw_X3_13 : Cond.fieldLink RX3 13 "HiringHallModel" "boards" "[I" ∈ lwG := lwG_in (List.mem_of_getElem? (i := 715) (by decide +kernel)) rfl
theorem zf_X3_13 : zFL RX3 13 "HiringHallModel" 4 1 RX3 TX3 26 := ⟨rfl, by decide, zu_X3, zw_X3_13, Or.inl rfl⟩
theorem zp_X3_13 : zFP RX3 13 "HiringHallModel" 4 1 RX3 TX3 26 (.array .int) true := ⟨zf_X3_13, ⟨tyX3, tyX3_ok⟩, nmX3, rfl, by decide +kernel⟩
theorem zw_X3_16 : Cond.fieldLink RX3 16 "HiringHallModel" "marks" "[I" ∈ lwG := lwG_in (List.mem_of_getElem? (i := 716) (by decide +kernel)) rfl
theorem zf_X3_16 : zFL RX3 16 "HiringHallModel" 4 2 RX3 TX3 26 := ⟨rfl, by decide, zu_X3, zw_X3_16, Or.inl rfl⟩
theorem zp_X3_16 : zFP RX3 16 "HiringHallModel" 4 2 RX3 TX3 26 (.array .int) true := ⟨zf_X3_16, ⟨tyX3, tyX3_ok⟩, nmX3, rfl, by decide +kernel⟩
theorem zw_X3_19 : Cond.fieldLink RX3 19 "HiringHallModel" "skills" "[I" ∈ lwG := lwG_in (List.mem_of_getElem? (i := 717) (by decide +kernel)) rfl
theorem zf_X3_19 : zFL RX3 19 "HiringHallModel" 4 3 RX3 TX3 26 := ⟨rfl, by decide, zu_X3, zw_X3_19, Or.inl rfl⟩
theorem zp_X3_19 : zFP RX3 19 "HiringHallModel" 4 3 RX3 TX3 26 (.array .int) true := ⟨zf_X3_19, ⟨tyX3, tyX3_ok⟩, nmX3, rfl, by decide +kernel⟩
theorem zw_X3_22 : Cond.fieldLink RX3 22 "HiringHallModel" "aways" "[Z" ∈ lwG := lwG_in (List.mem_of_getElem? (i := 718) (by decide +kernel)) rfl
theorem zf_X3_22 : zFL RX3 22 "HiringHallModel" 4 4 RX3 TX3 26 := ⟨rfl, by decide, zu_X3, zw_X3_22, Or.inl rfl⟩
theorem zp_X3_22 : zFP RX3 22 "HiringHallModel" 4 4 RX3 TX3 26 (.array .boolean) true := ⟨zf_X3_22, ⟨tyX3, tyX3_ok⟩, nmX3, rfl, by decide +kernel⟩
theorem zw_X3_26 : Cond.fieldLink RX3 26 "HiringHallModel" "refusing" "[Z" ∈ lwG := lwG_in (List.mem_of_getElem? (i := 719) (by decide +kernel)) rfl
theorem zf_X3_26 : zFL RX3 26 "HiringHallModel" 4 5 RX3 TX3 26 := ⟨rfl, by decide, zu_X3, zw_X3_26, Or.inl rfl⟩
theorem zp_X3_26 : zFP RX3 26 "HiringHallModel" 4 5 RX3 TX3 26 (.array .boolean) true := ⟨zf_X3_26, ⟨tyX3, tyX3_ok⟩, nmX3, rfl, by decide +kernel⟩
theorem zw_X3_29 : Cond.fieldLink RX3 29 "HiringHallModel" "been" "[Z" ∈ lwG := lwG_in (List.mem_of_getElem? (i := 720) (by decide +kernel)) rfl
theorem zf_X3_29 : zFL RX3 29 "HiringHallModel" 4 6 RX3 TX3 26 := ⟨rfl, by decide, zu_X3, zw_X3_29, Or.inl rfl⟩
theorem zp_X3_29 : zFP RX3 29 "HiringHallModel" 4 6 RX3 TX3 26 (.array .boolean) true := ⟨zf_X3_29, ⟨tyX3, tyX3_ok⟩, nmX3, rfl, by decide +kernel⟩
theorem zw_X3_32 : Cond.fieldLink RX3 32 "HiringHallModel" "at" "[I" ∈ lwG := lwG_in (List.mem_of_getElem? (i := 721) (by decide +kernel)) rfl
theorem zf_X3_32 : zFL RX3 32 "HiringHallModel" 4 7 RX3 TX3 26 := ⟨rfl, by decide, zu_X3, zw_X3_32, Or.inl rfl⟩
theorem zp_X3_32 : zFP RX3 32 "HiringHallModel" 4 7 RX3 TX3 26 (.array .int) true := ⟨zf_X3_32, ⟨tyX3, tyX3_ok⟩, nmX3, rfl, by decide +kernel⟩
theorem zw_X3_35 : Cond.fieldLink RX3 35 "HiringHallModel" "since" "[I" ∈ lwG := lwG_in (List.mem_of_getElem? (i := 722) (by decide +kernel)) rfl
theorem zf_X3_35 : zFL RX3 35 "HiringHallModel" 4 8 RX3 TX3 26 := ⟨rfl, by decide, zu_X3, zw_X3_35, Or.inl rfl⟩
theorem zp_X3_35 : zFP RX3 35 "HiringHallModel" 4 8 RX3 TX3 26 (.array .int) true := ⟨zf_X3_35, ⟨tyX3, tyX3_ok⟩, nmX3, rfl, by decide +kernel⟩
theorem zw_X3_38 : Cond.fieldLink RX3 38 "HiringHallModel" "hours" "[I" ∈ lwG := lwG_in (List.mem_of_getElem? (i := 723) (by decide +kernel)) rfl
theorem zf_X3_38 : zFL RX3 38 "HiringHallModel" 4 9 RX3 TX3 26 := ⟨rfl, by decide, zu_X3, zw_X3_38, Or.inl rfl⟩
theorem zp_X3_38 : zFP RX3 38 "HiringHallModel" 4 9 RX3 TX3 26 (.array .int) true := ⟨zf_X3_38, ⟨tyX3, tyX3_ok⟩, nmX3, rfl, by decide +kernel⟩
theorem zw_X3_41 : Cond.fieldLink RX3 41 "HiringHallModel" "refusals" "[I" ∈ lwG := lwG_in (List.mem_of_getElem? (i := 724) (by decide +kernel)) rfl
theorem zf_X3_41 : zFL RX3 41 "HiringHallModel" 4 10 RX3 TX3 26 := ⟨rfl, by decide, zu_X3, zw_X3_41, Or.inl rfl⟩
theorem zp_X3_41 : zFP RX3 41 "HiringHallModel" 4 10 RX3 TX3 26 (.array .int) true := ⟨zf_X3_41, ⟨tyX3, tyX3_ok⟩, nmX3, rfl, by decide +kernel⟩
theorem zw_X3_44 : Cond.fieldLink RX3 44 "HiringHallModel" "costs" "[Z" ∈ lwG := lwG_in (List.mem_of_getElem? (i := 727) (by decide +kernel)) rfl
theorem zf_X3_44 : zFL RX3 44 "HiringHallModel" 4 13 RX3 TX3 26 := ⟨rfl, by decide, zu_X3, zw_X3_44, Or.inl rfl⟩
theorem zp_X3_44 : zFP RX3 44 "HiringHallModel" 4 13 RX3 TX3 26 (.array .boolean) true := ⟨zf_X3_44, ⟨tyX3, tyX3_ok⟩, nmX3, rfl, by decide +kernel⟩
theorem zw_X3_47 : Cond.fieldLink RX3 47 "HiringHallModel" "guaranteed" "[I" ∈ lwG := lwG_in (List.mem_of_getElem? (i := 728) (by decide +kernel)) rfl
theorem zf_X3_47 : zFL RX3 47 "HiringHallModel" 4 14 RX3 TX3 26 := ⟨rfl, by decide, zu_X3, zw_X3_47, Or.inl rfl⟩
theorem zp_X3_47 : zFP RX3 47 "HiringHallModel" 4 14 RX3 TX3 26 (.array .int) true := ⟨zf_X3_47, ⟨tyX3, tyX3_ok⟩, nmX3, rfl, by decide +kernel⟩
theorem zw_X3_50 : Cond.fieldLink RX3 50 "HiringHallModel" "needs" "[I" ∈ lwG := lwG_in (List.mem_of_getElem? (i := 729) (by decide +kernel)) rfl
theorem zf_X3_50 : zFL RX3 50 "HiringHallModel" 4 15 RX3 TX3 26 := ⟨rfl, by decide, zu_X3, zw_X3_50, Or.inl rfl⟩
theorem zp_X3_50 : zFP RX3 50 "HiringHallModel" 4 15 RX3 TX3 26 (.array .int) true := ⟨zf_X3_50, ⟨tyX3, tyX3_ok⟩, nmX3, rfl, by decide +kernel⟩
theorem zw_X3_53 : Cond.fieldLink RX3 53 "HiringHallModel" "fillers" "[I" ∈ lwG := lwG_in (List.mem_of_getElem? (i := 730) (by decide +kernel)) rfl
theorem zf_X3_53 : zFL RX3 53 "HiringHallModel" 4 16 RX3 TX3 26 := ⟨rfl, by decide, zu_X3, zw_X3_53, Or.inl rfl⟩
theorem zp_X3_53 : zFP RX3 53 "HiringHallModel" 4 16 RX3 TX3 26 (.array .int) true := ⟨zf_X3_53, ⟨tyX3, tyX3_ok⟩, nmX3, rfl, by decide +kernel⟩
theorem zw_X3_56 : Cond.fieldLink RX3 56 "HiringHallModel" "length" "I" ∈ lwG := lwG_in (List.mem_of_getElem? (i := 732) (by decide +kernel)) rfl
theorem zf_X3_56 : zFL RX3 56 "HiringHallModel" 4 18 RX3 TX3 26 := ⟨rfl, by decide, zu_X3, zw_X3_56, Or.inl rfl⟩
theorem zp_X3_56 : zFP RX3 56 "HiringHallModel" 4 18 RX3 TX3 26 .int false := ⟨zf_X3_56, ⟨tyX3, tyX3_ok⟩, nmX3, rfl, by decide +kernel⟩
theorem zw_X3_60 : Cond.fieldLink RX3 60 "HiringHallModel" "turn" "[I" ∈ lwG := lwG_in (List.mem_of_getElem? (i := 736) (by decide +kernel)) rfl
theorem zf_X3_60 : zFL RX3 60 "HiringHallModel" 4 22 RX3 TX3 26 := ⟨rfl, by decide, zu_X3, zw_X3_60, Or.inl rfl⟩
theorem zp_X3_60 : zFP RX3 60 "HiringHallModel" 4 22 RX3 TX3 26 (.array .int) true := ⟨zf_X3_60, ⟨tyX3, tyX3_ok⟩, nmX3, rfl, by decide +kernel⟩
theorem zw_X3_63 : Cond.fieldLink RX3 63 "HiringHallModel" "taken" "[I" ∈ lwG := lwG_in (List.mem_of_getElem? (i := 737) (by decide +kernel)) rfl
theorem zf_X3_63 : zFL RX3 63 "HiringHallModel" 4 23 RX3 TX3 26 := ⟨rfl, by decide, zu_X3, zw_X3_63, Or.inl rfl⟩
theorem zp_X3_63 : zFP RX3 63 "HiringHallModel" 4 23 RX3 TX3 26 (.array .int) true := ⟨zf_X3_63, ⟨tyX3, tyX3_ok⟩, nmX3, rfl, by decide +kernel⟩
theorem zw_X3_66 : Cond.fieldLink RX3 66 "HiringHallModel" "open" "[I" ∈ lwG := lwG_in (List.mem_of_getElem? (i := 738) (by decide +kernel)) rfl
theorem zf_X3_66 : zFL RX3 66 "HiringHallModel" 4 24 RX3 TX3 26 := ⟨rfl, by decide, zu_X3, zw_X3_66, Or.inl rfl⟩
theorem zp_X3_66 : zFP RX3 66 "HiringHallModel" 4 24 RX3 TX3 26 (.array .int) true := ⟨zf_X3_66, ⟨tyX3, tyX3_ok⟩, nmX3, rfl, by decide +kernel⟩
theorem zw_X3_69 : Cond.fieldLink RX3 69 "HiringHallModel" "last" "I" ∈ lwG := lwG_in (List.mem_of_getElem? (i := 739) (by decide +kernel)) rfl
theorem zf_X3_69 : zFL RX3 69 "HiringHallModel" 4 25 RX3 TX3 26 := ⟨rfl, by decide, zu_X3, zw_X3_69, Or.inl rfl⟩
theorem zp_X3_69 : zFP RX3 69 "HiringHallModel" 4 25 RX3 TX3 26 .int false := ⟨zf_X3_69, ⟨tyX3, tyX3_ok⟩, nmX3, rfl, by decide +kernel⟩
theorem zw_X3_76 : Cond.fieldLink RX3 76 "HiringHallModel" "mark" "I" ∈ lwG := lwG_in (List.mem_of_getElem? (i := 726) (by decide +kernel)) rfl
theorem zf_X3_76 : zFL RX3 76 "HiringHallModel" 4 12 RX3 TX3 26 := ⟨rfl, by decide, zu_X3, zw_X3_76, Or.inl rfl⟩
theorem zp_X3_76 : zFP RX3 76 "HiringHallModel" 4 12 RX3 TX3 26 .int false := ⟨zf_X3_76, ⟨tyX3, tyX3_ok⟩, nmX3, rfl, by decide +kernel⟩
theorem zw_X3_95 : Cond.fieldLink RX3 95 "HiringHallModel" "given" "I" ∈ lwG := lwG_in (List.mem_of_getElem? (i := 725) (by decide +kernel)) rfl
theorem zf_X3_95 : zFL RX3 95 "HiringHallModel" 4 11 RX3 TX3 26 := ⟨rfl, by decide, zu_X3, zw_X3_95, Or.inl rfl⟩
theorem zp_X3_95 : zFP RX3 95 "HiringHallModel" 4 11 RX3 TX3 26 .int false := ⟨zf_X3_95, ⟨tyX3, tyX3_ok⟩, nmX3, rfl, by decide +kernel⟩
theorem zw_X3_112 : Cond.fieldLink RX3 112 "HiringHallModel" "places" "I" ∈ lwG := lwG_in (List.mem_of_getElem? (i := 731) (by decide +kernel)) rfl
theorem zf_X3_112 : zFL RX3 112 "HiringHallModel" 4 17 RX3 TX3 26 := ⟨rfl, by decide, zu_X3, zw_X3_112, Or.inl rfl⟩
theorem zp_X3_112 : zFP RX3 112 "HiringHallModel" 4 17 RX3 TX3 26 .int false := ⟨zf_X3_112, ⟨tyX3, tyX3_ok⟩, nmX3, rfl, by decide +kernel⟩
theorem zw_X3_115 : Cond.fieldLink RX3 115 "HiringHallModel" "hour" "I" ∈ lwG := lwG_in (List.mem_of_getElem? (i := 733) (by decide +kernel)) rfl
theorem zf_X3_115 : zFL RX3 115 "HiringHallModel" 4 19 RX3 TX3 26 := ⟨rfl, by decide, zu_X3, zw_X3_115, Or.inl rfl⟩
theorem zp_X3_115 : zFP RX3 115 "HiringHallModel" 4 19 RX3 TX3 26 .int false := ⟨zf_X3_115, ⟨tyX3, tyX3_ok⟩, nmX3, rfl, by decide +kernel⟩
theorem zw_X3_118 : Cond.fieldLink RX3 118 "HiringHallModel" "begun" "Z" ∈ lwG := lwG_in (List.mem_of_getElem? (i := 735) (by decide +kernel)) rfl
theorem zf_X3_118 : zFL RX3 118 "HiringHallModel" 4 21 RX3 TX3 26 := ⟨rfl, by decide, zu_X3, zw_X3_118, Or.inl rfl⟩
theorem zp_X3_118 : zFP RX3 118 "HiringHallModel" 4 21 RX3 TX3 26 .boolean false := ⟨zf_X3_118, ⟨tyX3, tyX3_ok⟩, nmX3, rfl, by decide +kernel⟩
theorem zw_X3_141 : Cond.fieldLink RX3 141 "HiringHallModel" "worked" "I" ∈ lwG := lwG_in (List.mem_of_getElem? (i := 734) (by decide +kernel)) rfl
theorem zf_X3_141 : zFL RX3 141 "HiringHallModel" 4 20 RX3 TX3 26 := ⟨rfl, by decide, zu_X3, zw_X3_141, Or.inl rfl⟩
theorem zp_X3_141 : zFP RX3 141 "HiringHallModel" 4 20 RX3 TX3 26 .int false := ⟨zf_X3_141, ⟨tyX3, tyX3_ok⟩, nmX3, rfl, by decide +kernel⟩
theorem zw_Jxc12de_7 : Cond.fieldLink RJxc12de 7 "java/util/AbstractList" "modCount" "I" ∈ lwG := lwG_in (List.mem_of_getElem? (i := 84) (by decide +kernel)) rfl
theorem zf_Jxc12de_7 : zFL RJxc12de 7 "java/util/AbstractList" 0 0 RJx4a65c TJx4a65c 3 := ⟨rfl, by decide, zu_Jx4a65c, zw_Jxc12de_7, Or.inl rfl⟩
theorem zp_Jxc12de_7 : zFP RJxc12de 7 "java/util/AbstractList" 0 0 RJx4a65c TJx4a65c 3 .int false := ⟨zf_Jxc12de_7, ⟨tyJx4a65c, tyJx4a65c_ok⟩, nmJx4a65c, rfl, by decide +kernel⟩
theorem zw_Jx4a65c_9 : Cond.fieldLink RJx4a65c 9 "java/util/ArrayList" "elementData" "[Ljava/lang/Object;" ∈ lwG := lwG_in (List.mem_of_getElem? (i := 82) (by decide +kernel)) rfl
theorem zf_Jx4a65c_9 : zFL RJx4a65c 9 "java/util/ArrayList" 0 1 RJx4a65c TJx4a65c 3 := ⟨rfl, by decide, zu_Jx4a65c, zw_Jx4a65c_9, Or.inl rfl⟩
theorem zp_Jx4a65c_9 : zFP RJx4a65c 9 "java/util/ArrayList" 0 1 RJx4a65c TJx4a65c 3 (.array (.object "java/lang/Object")) false := ⟨zf_Jx4a65c_9, ⟨tyJx4a65c, tyJx4a65c_ok⟩, nmJx4a65c, rfl, by decide +kernel⟩
theorem zw_Jx4a65c_39 : Cond.fieldLink RJx4a65c 39 "java/util/ArrayList" "DEFAULTCAPACITY_EMPTY_ELEMENTDATA" "[Ljava/lang/Object;" ∈ lwG := lwG_in (List.mem_of_getElem? (i := 80) (by decide +kernel)) rfl
theorem zw_Jx4a65c_48 : Cond.fieldLink RJx4a65c 48 "java/util/ArrayList" "size" "I" ∈ lwG := lwG_in (List.mem_of_getElem? (i := 83) (by decide +kernel)) rfl
theorem zf_Jx4a65c_48 : zFL RJx4a65c 48 "java/util/ArrayList" 0 2 RJx4a65c TJx4a65c 3 := ⟨rfl, by decide, zu_Jx4a65c, zw_Jx4a65c_48, Or.inl rfl⟩
theorem zp_Jx4a65c_48 : zFP RJx4a65c 48 "java/util/ArrayList" 0 2 RJx4a65c TJx4a65c 3 .int false := ⟨zf_Jx4a65c_48, ⟨tyJx4a65c, tyJx4a65c_ok⟩, nmJx4a65c, rfl, by decide +kernel⟩
theorem zw_Jx4a65c_63 : Cond.fieldLink RJx4a65c 63 "java/util/ArrayList" "modCount" "I" ∈ lwG := lwG_in (List.mem_of_getElem? (i := 85) (by decide +kernel)) rfl
theorem zsf_Jx4a65c_63 : Cond.sameField "java/util/ArrayList" "java/util/AbstractList" "modCount" "I" ∈ lwG := lwG_in (List.mem_of_getElem? (i := 86) (by decide +kernel)) rfl
theorem zf_Jx4a65c_63 : zFL RJx4a65c 63 "java/util/ArrayList" 0 0 RJx4a65c TJx4a65c 3 := ⟨rfl, by decide, zu_Jx4a65c, zw_Jx4a65c_63, Or.inr zsf_Jx4a65c_63⟩
theorem zp_Jx4a65c_63 : zFP RJx4a65c 63 "java/util/ArrayList" 0 0 RJx4a65c TJx4a65c 3 .int false := ⟨zf_Jx4a65c_63, ⟨tyJx4a65c, tyJx4a65c_ok⟩, nmJx4a65c, rfl, by decide +kernel⟩
theorem zk_X2_7 : Cond.classLink RX2 7 "java/util/ArrayList" ∈ lwG := lwG_in (List.mem_of_getElem? (i := 68) (by decide +kernel)) rfl
theorem zin_Jx4a65c : Cond.instantiable RJx4a65c 3 ∈ lwG := lwG_in (List.mem_of_getElem? (i := 69) (by decide +kernel)) rfl
theorem zw2_X2_7 : zNW RX2 7 0 RJx4a65c TJx4a65c 3 tyJx4a65c := ⟨rfl, zu_Jx4a65c, tyJx4a65c_ok, zk_X2_7, zin_Jx4a65c, zi_RJx4a65c⟩
theorem zk_X2_22 : Cond.classLink RX2 22 "HiringHall$Matching" ∈ lwG := lwG_in (List.mem_of_getElem? (i := 94) (by decide +kernel)) rfl
theorem zin_X0 : Cond.instantiable RX0 2 ∈ lwG := lwG_in (List.mem_of_getElem? (i := 95) (by decide +kernel)) rfl
theorem zw2_X2_22 : zNW RX2 22 1 RX0 TX0 2 tyX0 := ⟨rfl, zu_X0, tyX0_ok, zk_X2_22, zin_X0, zi_RX0⟩
theorem zk_X2_71 : Cond.classLink RX2 71 "java/lang/IllegalStateException" ∈ lwG := lwG_in (List.mem_of_getElem? (i := 448) (by decide +kernel)) rfl
theorem zk_X2_78 : Cond.classLink RX2 78 "HiringHall$Worker" ∈ lwG := lwG_in (List.mem_of_getElem? (i := 187) (by decide +kernel)) rfl
theorem zin_X1 : Cond.instantiable RX1 10 ∈ lwG := lwG_in (List.mem_of_getElem? (i := 464) (by decide +kernel)) rfl
theorem zw2_X2_78 : zNW RX2 78 2 RX1 TX1 10 tyX1 := ⟨rfl, zu_X1, tyX1_ok, zk_X2_78, zin_X1, zi_RX1⟩
theorem zk_X2_115 : Cond.classLink RX2 115 "java/lang/IllegalArgumentException" ∈ lwG := lwG_in (List.mem_of_getElem? (i := 376) (by decide +kernel)) rfl
theorem zk_X2_210 : Cond.classLink RX2 210 "java/util/NoSuchElementException" ∈ lwG := lwG_in (List.mem_of_getElem? (i := 522) (by decide +kernel)) rfl
theorem zk_L_8 : Cond.classLink RL 8 "HiringHall" ∈ lwG := lwG_in (List.mem_of_getElem? (i := 60) (by decide +kernel)) rfl
theorem zin_X2 : Cond.instantiable RX2 13 ∈ lwG := lwG_in (List.mem_of_getElem? (i := 61) (by decide +kernel)) rfl
theorem zw2_L_8 : zNW RL 8 3 RX2 TX2 13 tyX2 := ⟨rfl, zu_X2, tyX2_ok, zk_L_8, zin_X2, zi_RX2⟩
theorem zk_L_13 : Cond.classLink RL 13 "java/lang/IllegalArgumentException" ∈ lwG := lwG_in (List.mem_of_getElem? (i := 367) (by decide +kernel)) rfl
theorem zk_L_15 : Cond.classLink RL 15 "java/lang/IllegalStateException" ∈ lwG := lwG_in (List.mem_of_getElem? (i := 368) (by decide +kernel)) rfl
theorem zk_L_21 : Cond.classLink RL 21 "java/util/NoSuchElementException" ∈ lwG := lwG_in (List.mem_of_getElem? (i := 513) (by decide +kernel)) rfl
theorem zk_L_84 : Cond.classLink RL 84 "HiringHallModel" ∈ lwG := lwG_in (List.mem_of_getElem? (i := 708) (by decide +kernel)) rfl
theorem zin_X3 : Cond.instantiable RX3 26 ∈ lwG := lwG_in (List.mem_of_getElem? (i := 709) (by decide +kernel)) rfl
theorem zw2_L_84 : zNW RL 84 4 RX3 TX3 26 tyX3 := ⟨rfl, zu_X3, tyX3_ok, zk_L_84, zin_X3, zi_RX3⟩
theorem zk_Jx4a65c_7 : Cond.classLink RJx4a65c 7 "java/lang/Object" ∈ lwG := lwG_in (List.mem_of_getElem? (i := 261) (by decide +kernel)) rfl
theorem zk_J7_2 : Cond.classLink RJ7 2 "java/lang/Object" ∈ lwG := lwG_in (List.mem_of_getElem? (i := 253) (by decide +kernel)) rfl
theorem zk_J7_110 : Cond.classLink RJ7 110 "[Ljava/lang/Object;" ∈ lwG := lwG_in (List.mem_of_getElem? (i := 251) (by decide +kernel)) rfl
theorem za_I : Cond.arrayClass .int ∈ lwG := lwG_in (List.mem_of_getElem? (i := 107) (by decide +kernel)) rfl
theorem za_Z : Cond.arrayClass .boolean ∈ lwG := lwG_in (List.mem_of_getElem? (i := 148) (by decide +kernel)) rfl
theorem za_J : Cond.arrayClass .long ∈ lwG := lwG_in (List.mem_of_getElem? (i := 971) (by decide +kernel)) rfl
theorem zco : Cond.constant RJ8 200 2147483639 ∈ lwG := lwG_in (List.mem_of_getElem? (i := 229) (by decide +kernel)) rfl
theorem zoi : Cond.instanceMethod objectInit ∈ lwG := lwG_in (List.mem_of_getElem? (i := 66) (by decide +kernel)) rfl
theorem zoc : Cond.code objectInit ⟨#[0xb1]⟩ 1 none ∈ lwG := lwG_in (List.mem_of_getElem? (i := 67) (by decide +kernel)) rfl
theorem zmath_s_max : Cond.static Lib.Math.max.name ∈ lwG := lwG_in (List.mem_of_getElem? (i := 227) (by decide +kernel)) rfl
theorem zmath_c_max : Cond.code Lib.Math.max.name Lib.Math.max.code 2 (some .int) ∈ lwG := lwG_in (List.mem_of_getElem? (i := 228) (by decide +kernel)) rfl
theorem zmath_s_min : Cond.static Lib.Math.min.name ∈ lwG := lwG_in (List.mem_of_getElem? (i := 255) (by decide +kernel)) rfl
theorem zmath_c_min : Cond.code Lib.Math.min.name Lib.Math.min.code 2 (some .int) ∈ lwG := lwG_in (List.mem_of_getElem? (i := 256) (by decide +kernel)) rfl
theorem zmath_i : Cond.initialized "java/lang/Math" ∈ lwG := lwG_in (List.mem_of_getElem? (i := 56) (by decide +kernel)) rfl
theorem zac_n : Cond.native arraycopyName ∈ lwG := lwG_in (List.mem_of_getElem? (i := 259) (by decide +kernel)) rfl
theorem zac_s : Cond.static arraycopyName ∈ lwG := lwG_in (List.mem_of_getElem? (i := 258) (by decide +kernel)) rfl
theorem zac_i : Cond.initialized "java/lang/System" ∈ lwG := lwG_in (List.mem_of_getElem? (i := 58) (by decide +kernel)) rfl
theorem zgc_s : Cond.selects "[Ljava/lang/Object;" ⟨"java/lang/Object", "getClass", "()Ljava/lang/Class;"⟩ ⟨"java/lang/Object", "getClass", "()Ljava/lang/Class;"⟩ ∈ lwG := lwG_in (List.mem_of_getElem? (i := 984) (by decide +kernel)) rfl
theorem zgc_i : Cond.instanceMethod ⟨"java/lang/Object", "getClass", "()Ljava/lang/Class;"⟩ ∈ lwG := lwG_in (List.mem_of_getElem? (i := 237) (by decide +kernel)) rfl
theorem zgc_n : Cond.native ⟨"java/lang/Object", "getClass", "()Ljava/lang/Class;"⟩ ∈ lwG := lwG_in (List.mem_of_getElem? (i := 247) (by decide +kernel)) rfl
end
section
/-! the throws of the system: class, text, constructor, by their places -/
theorem zi_x_IllegalArgumentException : Cond.initialized "java/lang/IllegalArgumentException" ∈ lwG := lwG_in (List.mem_of_getElem? (i := 50) (by decide +kernel)) rfl
theorem zi_x_IllegalStateException : Cond.initialized "java/lang/IllegalStateException" ∈ lwG := lwG_in (List.mem_of_getElem? (i := 51) (by decide +kernel)) rfl
theorem zi_x_NoSuchElementException : Cond.initialized "java/util/NoSuchElementException" ∈ lwG := lwG_in (List.mem_of_getElem? (i := 59) (by decide +kernel)) rfl
theorem zt_73_71 : zTS RX2 71 73 75 "java/lang/IllegalStateException" "30 workers are signed on" := ⟨by decide +kernel, zk_X2_71, zi_x_IllegalStateException, by decide +kernel, by
  have h : ((vx_atS RX2 75 "java/lang/IllegalStateException" zEN).filter goodWord).all (fun w => decide (w ∈ lw_tbl) && goodWord w) = true := by decide +kernel
  intro w hw
  have h1 := List.all_eq_true.mp h w hw
  simp only [Bool.and_eq_true, decide_eq_true_eq] at h1
  exact lwG_in h1.1 h1.2, by decide +kernel, by decide +kernel, by decide +kernel⟩
theorem zt_117_115 : zTS RX2 115 117 119 "java/lang/IllegalArgumentException" "guaranteed hours are 0 to 400" := ⟨by decide +kernel, zk_X2_115, zi_x_IllegalArgumentException, by decide +kernel, by
  have h : ((vx_atS RX2 119 "java/lang/IllegalArgumentException" zEN).filter goodWord).all (fun w => decide (w ∈ lw_tbl) && goodWord w) = true := by decide +kernel
  intro w hw
  have h1 := List.all_eq_true.mp h w hw
  simp only [Bool.and_eq_true, decide_eq_true_eq] at h1
  exact lwG_in h1.1 h1.2, by decide +kernel, by decide +kernel, by decide +kernel⟩
theorem zt_133_115 : zTS RX2 115 133 119 "java/lang/IllegalArgumentException" "skills are 0 to 4" := ⟨by decide +kernel, zk_X2_115, zi_x_IllegalArgumentException, by decide +kernel, by
  have h : ((vx_atS RX2 119 "java/lang/IllegalArgumentException" zEN).filter goodWord).all (fun w => decide (w ∈ lw_tbl) && goodWord w) = true := by decide +kernel
  intro w hw
  have h1 := List.all_eq_true.mp h w hw
  simp only [Bool.and_eq_true, decide_eq_true_eq] at h1
  exact lwG_in h1.1 h1.2, by decide +kernel, by decide +kernel, by decide +kernel⟩
theorem zt_135_71 : zTS RX2 71 135 75 "java/lang/IllegalStateException" "there are 16 places" := ⟨by decide +kernel, zk_X2_71, zi_x_IllegalStateException, by decide +kernel, by
  have h : ((vx_atS RX2 75 "java/lang/IllegalStateException" zEN).filter goodWord).all (fun w => decide (w ∈ lw_tbl) && goodWord w) = true := by decide +kernel
  intro w hw
  have h1 := List.all_eq_true.mp h w hw
  simp only [Bool.and_eq_true, decide_eq_true_eq] at h1
  exact lwG_in h1.1 h1.2, by decide +kernel, by decide +kernel, by decide +kernel⟩
theorem zt_149_115 : zTS RX2 115 149 119 "java/lang/IllegalArgumentException" "a shift has 1 to 12 hours" := ⟨by decide +kernel, zk_X2_115, zi_x_IllegalArgumentException, by decide +kernel, by
  have h : ((vx_atS RX2 119 "java/lang/IllegalArgumentException" zEN).filter goodWord).all (fun w => decide (w ∈ lw_tbl) && goodWord w) = true := by decide +kernel
  intro w hw
  have h1 := List.all_eq_true.mp h w hw
  simp only [Bool.and_eq_true, decide_eq_true_eq] at h1
  exact lwG_in h1.1 h1.2, by decide +kernel, by decide +kernel, by decide +kernel⟩
theorem zt_154_115 : zTS RX2 115 154 119 "java/lang/IllegalArgumentException" "the shift has no such hour" := ⟨by decide +kernel, zk_X2_115, zi_x_IllegalArgumentException, by decide +kernel, by
  have h : ((vx_atS RX2 119 "java/lang/IllegalArgumentException" zEN).filter goodWord).all (fun w => decide (w ∈ lw_tbl) && goodWord w) = true := by decide +kernel
  intro w hw
  have h1 := List.all_eq_true.mp h w hw
  simp only [Bool.and_eq_true, decide_eq_true_eq] at h1
  exact lwG_in h1.1 h1.2, by decide +kernel, by decide +kernel, by decide +kernel⟩
theorem zt_160_71 : zTS RX2 71 160 75 "java/lang/IllegalStateException" "the worker is not at work, or the hour is past" := ⟨by decide +kernel, zk_X2_71, zi_x_IllegalStateException, by decide +kernel, by
  have h : ((vx_atS RX2 75 "java/lang/IllegalStateException" zEN).filter goodWord).all (fun w => decide (w ∈ lw_tbl) && goodWord w) = true := by decide +kernel
  intro w hw
  have h1 := List.all_eq_true.mp h w hw
  simp only [Bool.and_eq_true, decide_eq_true_eq] at h1
  exact lwG_in h1.1 h1.2, by decide +kernel, by decide +kernel, by decide +kernel⟩
theorem zt_176_71 : zTS RX2 71 176 75 "java/lang/IllegalStateException" "the place is filled" := ⟨by decide +kernel, zk_X2_71, zi_x_IllegalStateException, by decide +kernel, by
  have h : ((vx_atS RX2 75 "java/lang/IllegalStateException" zEN).filter goodWord).all (fun w => decide (w ∈ lw_tbl) && goodWord w) = true := by decide +kernel
  intro w hw
  have h1 := List.all_eq_true.mp h w hw
  simp only [Bool.and_eq_true, decide_eq_true_eq] at h1
  exact lwG_in h1.1 h1.2, by decide +kernel, by decide +kernel, by decide +kernel⟩
theorem zt_217_115 : zTS RX2 115 217 119 "java/lang/IllegalArgumentException" "boards are 0 to 3" := ⟨by decide +kernel, zk_X2_115, zi_x_IllegalArgumentException, by decide +kernel, by
  have h : ((vx_atS RX2 119 "java/lang/IllegalArgumentException" zEN).filter goodWord).all (fun w => decide (w ∈ lw_tbl) && goodWord w) = true := by decide +kernel
  intro w hw
  have h1 := List.all_eq_true.mp h w hw
  simp only [Bool.and_eq_true, decide_eq_true_eq] at h1
  exact lwG_in h1.1 h1.2, by decide +kernel, by decide +kernel, by decide +kernel⟩
theorem zt_219_115 : zTS RX2 115 219 119 "java/lang/IllegalArgumentException" "a set of skills is 0 to 31" := ⟨by decide +kernel, zk_X2_115, zi_x_IllegalArgumentException, by decide +kernel, by
  have h : ((vx_atS RX2 119 "java/lang/IllegalArgumentException" zEN).filter goodWord).all (fun w => decide (w ∈ lw_tbl) && goodWord w) = true := by decide +kernel
  intro w hw
  have h1 := List.all_eq_true.mp h w hw
  simp only [Bool.and_eq_true, decide_eq_true_eq] at h1
  exact lwG_in h1.1 h1.2, by decide +kernel, by decide +kernel, by decide +kernel⟩
theorem zt_221_71 : zTS RX2 71 221 75 "java/lang/IllegalStateException" "the worker is at work" := ⟨by decide +kernel, zk_X2_71, zi_x_IllegalStateException, by decide +kernel, by
  have h : ((vx_atS RX2 75 "java/lang/IllegalStateException" zEN).filter goodWord).all (fun w => decide (w ∈ lw_tbl) && goodWord w) = true := by decide +kernel
  intro w hw
  have h1 := List.all_eq_true.mp h w hw
  simp only [Bool.and_eq_true, decide_eq_true_eq] at h1
  exact lwG_in h1.1 h1.2, by decide +kernel, by decide +kernel, by decide +kernel⟩
theorem zt_223_71 : zTS RX2 71 223 75 "java/lang/IllegalStateException" "somebody is or has been at work in this shift" := ⟨by decide +kernel, zk_X2_71, zi_x_IllegalStateException, by decide +kernel, by
  have h : ((vx_atS RX2 75 "java/lang/IllegalStateException" zEN).filter goodWord).all (fun w => decide (w ∈ lw_tbl) && goodWord w) = true := by decide +kernel
  intro w hw
  have h1 := List.all_eq_true.mp h w hw
  simp only [Bool.and_eq_true, decide_eq_true_eq] at h1
  exact lwG_in h1.1 h1.2, by decide +kernel, by decide +kernel, by decide +kernel⟩
end
section
/-! 'throw new E("text")' where E's own constructor hands its text on by a link of another place than 7 (NoSuchElementException). The two proofs follow the kit's vx_throwS and the library's ctorThrowS with that place as a parameter. -/
def zOwn (own : String) (ic : Nat) (X : String) : List Cond := [.methodLink own ic (Bundle.initS X), .instantiable X 6, .castable X X, .selects X Bundle.tFill0 Bundle.tFill0, .selects X Bundle.tFill Bundle.tFill,
   .lays X Bundle.tN "cause" "Ljava/lang/Throwable;", .lays X Bundle.tN "stackTrace" Bundle.steD, .lays X Bundle.tN "suppressedExceptions" Bundle.listD, .lays X Bundle.tN "detailMessage" "Ljava/lang/String;",
   .isRef (.static Bundle.tN "UNASSIGNED_STACK" Bundle.steD), .isRef (.static Bundle.tN "SUPPRESSED_SENTINEL" Bundle.listD),
   .fieldLink Bundle.tN 198 Bundle.tN "backtrace" "Ljava/lang/Object;", .lays Bundle.tN Bundle.tN "backtrace" "Ljava/lang/Object;", .lays X Bundle.tN "backtrace" "Ljava/lang/Object;"]
def zAll (own : String) (ic : Nat) (X Y : String) (r : List String) (ix : Nat) (rx : ByteArray) : List Cond := (Bundle.throwableAtoms ++ Bundle.throwableSAtoms) ++ ((Bundle.passSAtoms X Y ix rx ++ Bundle.chainSAtoms Y r) ++ zOwn own ic X)
section ZNS
variable {p : Program} {l : Launch} {e : Env} {R : Room} {s : State} {m₀ : MethodId} {args : Array Value} {below : List Frame} {meth : Method} {c : Code} {W : State} {locs : List Loc} {cells slots : Nat}
set_option maxHeartbeats 4000000 in
theorem zx_ctor (X : Stand p l e R s m₀ args below meth c W locs cells slots) (hexec : p.tables.exec = Jvm.exec) (htr : e.platform.stackTraces = false) {own cls Y : String} {r : List String} {ic ix : Nat} {rx : ByteArray}
    (x0 : decode rx 0 = .ok (.aload_n 0, 1)) (x1 : decode rx 1 = .ok (.aload_n 1, 1)) (x2 : decode rx 2 = .ok (.invokespecial ix, 3)) (x5 : decode rx 5 = .ok (.return_, 1))
    (hown : s.vm.findClass own = some m₀.cls) (hcls : Bundle.fit cls = true) (hY : Bundle.fit Y = true) (hnames : ∀ n ∈ r, Bundle.fit n = true)
    (h : ∀ a ∈ zAll own ic cls Y r ix rx, a.before args s = true)
    (hlocs : ∀ x ∈ locs, ∀ cell, s.heap[x.base]? = some cell → cell.vm.isStatics = false)
    {a : Addr} {cX : ClassId} {kX : Class} (hfoundX : s.vm.findClass cls = some cX) (hkX : s.vm.classes[cX]? = some kX) (hcell : W.heap[a]? = some (freshCell cX kX)) (hnew : s.heap.size ≤ a)
    {msg : Value} (hmsg : msg.isRef = true)
    {g : JFrame} (hg : g.method = m₀) (hsize : g.locals.size = c.maxLocals) (hlocked : g.locked = none) (hentered : g.entered = []) {rest : List Value} (hstack : g.stack = msg :: .ref a :: .ref a :: rest)
    (hd6 : decode c.code g.pc = .ok (.invokespecial ic, 3)) (hd9 : decode c.code (g.pc + 3) = .ok (.athrow, 1)) (hout : ∀ x ∈ c.exceptionTable.toList, covers x (g.pc + 3) = false)
    (hRframes : r.length + 4 < R.frames) (hRlocals : 2 * g.monitorRoom + ((Value.ref a :: rest).map fun v => v.category).sum + (13 * (r.length + 2) + 42) ≤ R.locals) (hlocks : meth.locks = false) :
    ∃ U : State, Steps p.tables e below (W.setTop g) U ∧ U.status = .running ∧ Ended U below (.threw a) ∧ s.WarmedH U.vm ∧ s.sameButNew ({ U with vm := s.vm } : State) locs cells slots ∧
      ∃ ce : Cell, U.heap[a]? = some ce ∧ ce.vm = .none ∧ s.vm.findClass cls = some ce.cls := by
  have howns : e.platform.frameOwnsMonitors = true := by rw [X.admits.platform]
  have hfin : e.platform.finalization = false := by rw [X.admits.platform]
  have hpl : e.platform.magicAccessors = ({} : Platform).magicAccessors := by rw [X.admits.platform]
  have hT : ∀ a ∈ Bundle.throwableAtoms, a.before args s = true := fun x hx => h x (List.mem_append_left _ (List.mem_append_left _ hx))
  have hTS : ∀ a ∈ Bundle.throwableSAtoms, a.before args s = true := fun x hx => h x (List.mem_append_left _ (List.mem_append_right _ hx))
  have hPS : ∀ a ∈ Bundle.passSAtoms cls Y ix rx, a.before args s = true := fun x hx => h x (List.mem_append_right _ (List.mem_append_left _ (List.mem_append_left _ hx)))
  have hCS : ∀ a ∈ Bundle.chainSAtoms Y r, a.before args s = true := fun x hx => h x (List.mem_append_right _ (List.mem_append_left _ (List.mem_append_right _ hx)))
  have hO : ∀ a ∈ zOwn own ic cls, a.holds args s none s [] = true := fun x hx => h x (List.mem_append_right _ (List.mem_append_right _ hx))
  obtain ⟨T, Z0, L0, -, Yt⟩ := ThrowableC.of_atoms (args := args) howns hfin hpl hT
  obtain ⟨Z, M, LZ, LM, hnZ⟩ := Init0T.ofS_atoms (args := args) hpl L0 Yt hTS
  obtain ⟨P1, L1, hP1m, hsup1⟩ := PassC.ofS_atoms (args := args) (s := s) hpl (X := cls) (Y := Y) (Bundle.fit_spec hcls).1 (Bundle.fit_spec hY).2 x0 x1 x2 x5 hPS
  obtain ⟨P2, Ps, hlen, L2, hL, hP2m, hlink2, hlink⟩ := Bundle.chainS (args := args) hpl hnZ r Y hY hnames hCS
  have hsup : P1.sup = P2.m := Option.some.inj (hsup1.symm.trans hP2m)
  have hfound : s.vm.findClass cls = some P1.m.cls := findClass_of_methodNamed hP1m
  cases Option.some.inj (hfoundX.symm.trans hfound)
  obtain ⟨c1, kX2, hc1, hk, hord, -, -, hn6⟩ := Cond.instantiable_spec (hO (.instantiable cls 6) (by simp [zOwn]))
  cases Option.some.inj (hc1.symm.trans hfound)
  cases Option.some.inj (hkX.symm.trans hk)
  have hsel0 : selectMethod e.platform s.vm P1.m.cls T.fill0 = .method T.fill0 := by
    obtain ⟨c2, r2, m2, q1, q2, q3, q4, -⟩ := Cond.selects_spec (hO (.selects cls Bundle.tFill0 Bundle.tFill0) (by simp [zOwn]))
    cases Option.some.inj (q1.symm.trans hfound)
    cases Option.some.inj (q2.symm.trans (State.methodFound?_of_named Yt.fill0 (by decide)))
    cases Option.some.inj (q3.symm.trans Yt.fill0)
    rw [Launch.admits_selectMethod X.admits]; exact q4
  have hselF : selectMethod e.platform s.vm P1.m.cls T.fill = .method T.fill := by
    obtain ⟨c2, r2, m2, q1, q2, q3, q4, -⟩ := Cond.selects_spec (hO (.selects cls Bundle.tFill Bundle.tFill) (by simp [zOwn]))
    cases Option.some.inj (q1.symm.trans hfound)
    cases Option.some.inj (q2.symm.trans (State.methodFound?_of_named Yt.fill (by decide)))
    cases Option.some.inj (q3.symm.trans Yt.fill)
    rw [Launch.admits_selectMethod X.admits]; exact q4
  obtain ⟨cellS0, hcS0, hiss⟩ := Yt.statics
  obtain ⟨u0, hu0⟩ := Cond.staticRefV Yt.unassigned L0.unassignedStatic L0.statics hcS0 hiss (hO (.isRef (.static Bundle.tN "UNASSIGNED_STACK" Bundle.steD)) (by simp [zOwn]))
  obtain ⟨sen, hsen⟩ := Cond.staticRefV Yt.sentinel L0.sentinelStatic L0.statics hcS0 hiss (hO (.isRef (.static Bundle.tN "SUPPRESSED_SENTINEL" Bundle.listD)) (by simp [zOwn]))
  obtain ⟨ci198, i198, fB, hk198, hg198, ha198, hsB, -, hnB, htB, hffB⟩ := Cond.ownField (t := .object "java/lang/Object") Yt.found L0.cls (by decide +kernel) (hO (.fieldLink Bundle.tN 198 Bundle.tN "backtrace" "Ljava/lang/Object;") (by simp [zOwn])) (hO (.lays Bundle.tN Bundle.tN "backtrace" "Ljava/lang/Object;") (by simp [zOwn])) e.platform hpl
  obtain ⟨cellS, hcS2, heS, -, hkeep⟩ := X.same.2.2.2.2.2 T.aS cellS0 hcS0
  have hcellS : W.heap[T.aS]? = some cellS := hcS2
  have hout2 : ∀ i, (⟨T.aS, i⟩ : Loc) ∉ locs := fun i hmem => by
    have := hlocs _ hmem cellS0 hcS0
    rw [hiss] at this; cases this
  have hknownS : cellS.vm ≠ .unknown := by
    rw [heS]; intro hu
    rw [show cellS0.vm = .unknown from hu] at hiss
    cases hiss
  have hneS : T.aS ≠ a := Nat.ne_of_lt (Nat.lt_of_lt_of_le (Array.getElem?_eq_some_iff.mp hcS0).1 hnew)
  obtain ⟨iM, hffM⟩ := Yt.msg
  obtain ⟨tyC, dC, hdC, hdnC⟩ := Cond.laysAt hfound hk Yt.cause (hO (.lays cls Bundle.tN "cause" "Ljava/lang/Throwable;") (by simp [zOwn]))
  obtain ⟨tyS, dS, hdS, hdnS⟩ := Cond.laysAt hfound hk Yt.stack (hO (.lays cls Bundle.tN "stackTrace" Bundle.steD) (by simp [zOwn]))
  obtain ⟨tyP, dP, hdP, hdnP⟩ := Cond.laysAt hfound hk Yt.supp (hO (.lays cls Bundle.tN "suppressedExceptions" Bundle.listD) (by simp [zOwn]))
  obtain ⟨tyM, dM, hdM, hdnM⟩ := Cond.laysAt hfound hk hffM (hO (.lays cls Bundle.tN "detailMessage" "Ljava/lang/String;") (by simp [zOwn]))
  obtain ⟨tyB, dB, hdB, hdnB⟩ := Cond.laysAt hfound hk hffB (hO (.lays cls Bundle.tN "backtrace" "Ljava/lang/Object;") (by simp [zOwn]))
  have bC := Cond.laysApart hdB hdC hdnB hdnC (by rw [hnB, Yt.causeName]; decide)
  have bS := Cond.laysApart hdB hdS hdnB hdnS (by rw [hnB, Yt.stackName]; decide)
  have bP := Cond.laysApart hdB hdP hdnB hdnP (by rw [hnB, Yt.suppName]; decide)
  have hskip : SkipFacts T e.platform s (fun u => u) u0 ((preparedCellV T.toThrowableT (freshCell P1.m.cls kX) a u0 sen).withEntry W.cur) :=
    ⟨{ ci198 := ci198, i198 := i198, fBack := fB }, ⟨hk198, hg198, ha198, hsB⟩, by
      have := fresh_default (c := P1.m.cls) tyB
      rw [htB] at this
      simpa [preparedCellV, Cell.setSlot, Cell.withEntry, Array.getElem?_setIfInBounds, bC, bS, bP, bC.symm, bS.symm, bP.symm, defaultValue] using this, fun _ _ => rfl⟩
  have hi1 : (Cond.instanceMethod (Bundle.initS cls)).before args s = true := hPS _ (by simp [Bundle.passSAtoms])
  have hi2 : (Cond.code (Bundle.initS cls) rx 2 none).before args s = true := hPS _ (by simp [Bundle.passSAtoms])
  obtain ⟨tm, methC, cdC, kC, vm₁, hnC, -, -, -, -, -, -, -, hW₁, st1⟩ := Steps.initColdS (tb := p.tables) (e := e) (below := below) (s := s) (U := W) X.here hexec X.warmed hpl hown (t := Bundle.initS cls) rfl rfl (Bundle.fit_spec hcls).2
    (hO (.methodLink own ic (Bundle.initS cls)) (by simp [zOwn])) hi1 (bytes := rx) (maxL := 2) hi2
    (f := g) hg (a := a) (msg := msg) (rest := .ref a :: rest) hstack hd6
  cases Option.some.inj (hnC.symm.trans hP1m)
  have X₁ := X.noted hW₁
  obtain ⟨vm₂, X₂, st2⟩ := X₁.ctorMessageOffV hexec (g := { g with stack := .ref a :: rest }) hg hsize T L0 Z LZ M LM (P1 :: P2 :: Ps)
    (fun P hP => by rcases List.mem_cons.mp hP with rfl | hP; exact L1; rcases List.mem_cons.mp hP with rfl | hP; exact L2; exact hL P hP) ⟨hsup, hlink2, hlink⟩ (u0 := u0) (sen := sen) (self := a) hmsg (cell := freshCell P1.m.cls kX) (cellS := cellS)
    hcell (fun _ => by simp) (by simp) rfl rfl hsel0 hselF hcellS hneS hknownS (by rw [hkeep _ (hout2 _)]; exact hu0) (by rw [hkeep _ (hout2 _)]; exact hsen)
    (Takes.of_laid hk hord tyC (by rw [Yt.causeType]; rfl)) (Takes.of_laid hk hord tyS (by rw [Yt.stackType]; exact fits_refV_array _ u0)) (Takes.of_laid hk hord tyP (by rw [Yt.suppType]; exact fits_refV_object _ sen))
    (Takes.of_laid hk hord tyM (by rw [Yt.msgType]; exact fits_refV_object _ ⟨msg, hmsg⟩)) Yt.objLocals hskip htr [] hd6
    (by simp only [List.length_cons, hlen]; omega) (by simp only [List.length_cons, hlen]; exact hRlocals)
  obtain ⟨hwalk, hrun, hended, hWU, hsame⟩ := X₂.athrowLeaves hexec (g := { g with stack := .ref a :: rest, pc := g.pc + 3 }) hg hlocked hentered hout (a := a) (rest := rest) rfl hd9
  have hlt : a < ((W.setVm vm₁).setVm vm₂).heap.size := (Array.getElem?_eq_some_iff.mp hcell).1
  have hU := heapAt_setCell_self (s := (W.setVm vm₁).setVm vm₂) (plainBareV T.toThrowableT (freshCell P1.m.cls kX) a u0 sen msg) hlt
  refine ⟨_, st1 _ (fun acts => ?_), hrun, hended, hWU, hsame.weaken (fun y hy hlt2 => ?_) (Nat.le_refl _) (Nat.le_refl _), _, hU, rfl, hfound⟩
  · rw [doInvoke_state]
    exact st2 _ hwalk
  · rcases List.mem_append.mp hy with h1 | h1
    · exact h1
    · exfalso
      have hb : y.base = a := by
        simp only [List.mem_cons, List.not_mem_nil, or_false] at h1
        rcases h1 with rfl | rfl | rfl | rfl | rfl <;> rfl
      rw [hb] at hlt2
      exact Nat.not_lt.mpr hnew hlt2
end ZNS
section ZNT
variable {p : Program} {l : Launch} {e : Env} {R : Room} {s : State} {m : MethodId} {args : Array Value} {below : List Frame} {meth : Method} {c : Code} {H : Heap} {locs : List Loc} {cells slots : Nat} {free : Addr → Prop} {ls : Array Slot} {rest : List Value} {Qc : Array Value → State → Outcome → State → Prop} {XC : String → State → State → Prop}
theorem zx_throw {cc : ByteArray} {pc : Nat} (hexec : p.tables.exec = Jvm.exec) (hb : c.code = cc) (hl : l.stackTraces = false) {own cls text Y : String} {r : List String} {ik is ic ix mc ms sa : Nat} {rx : ByteArray} {A : Nat → Prop}
    (x0 : decode rx 0 = .ok (.aload_n 0, 1)) (x1 : decode rx 1 = .ok (.aload_n 1, 1)) (x2 : decode rx 2 = .ok (.invokespecial ix, 3)) (x5 : decode rx 5 = .ok (.return_, 1))
    (hown : s.vm.findClass own = some m.cls) (hcls : Bundle.fit cls = true) (hY : Bundle.fit Y = true) (hnames : ∀ n ∈ r, Bundle.fit n = true)
    (hk : (Cond.classLink own ik cls).before args s = true) (hini : (Cond.initialized cls).before args s = true) (hstr : vk_R own is text sa s) (hat : ∀ w ∈ (zAll own ic cls Y r ix rx).filter vx_no, w.before args s = true)
    (hgood : ∀ w ∈ Cond.classLink own ik cls :: Cond.initialized cls :: (zAll own ic cls Y r ix rx).filter vx_no, vx_ot w = true)
    (hU : vx_Zq Bundle.tN "UNASSIGNED_STACK" Bundle.steD A s s.heap) (hN : vx_Zq Bundle.tN "SUPPRESSED_SENTINEL" Bundle.listD A s s.heap) (hS : va_S A s.heap H locs) (hsize : ls.size = c.maxLocals)
    (d0 : decode cc pc = .ok (.new ik, 3)) (d3 : decode cc (pc + 3) = .ok (.dup, 1)) (d4 : decode cc (pc + 4) = .ok (.ldc is, 2)) (d6 : decode cc (pc + 6) = .ok (.invokespecial ic, 3)) (d9 : decode cc (pc + 9) = .ok (.athrow, 1))
    (hout : ∀ x ∈ c.exceptionTable.toList, covers x (pc + 9) = false)
    (hRframes : r.length + 4 < R.frames) (hRlocals : (rest.map fun v => v.category).sum + (13 * (r.length + 2) + 43) ≤ R.locals) (hRcells : cells + 1 ≤ R.cells) (hRslots : slots + 6 ≤ R.slots) (hlocks : meth.locks = false)
    (hx : ∀ t : State, s.vm.Alike t.vm → H.size ≤ t.heap.size → (∀ q : Nat, q < H.size → t.heap[q]? = H[q]?) → XC cls s t)
    (hf : ∀ z ∈ locs, free z.base) (hc : cells + 1 ≤ mc) (hs : slots + 6 ≤ ms) :
    W p l e R s m args below meth c H locs cells slots (vx_MQ below Qc XC args s mc ms free) (F0 m pc ls rest) := by
  intro T hT X
  have htr : e.platform.stackTraces = false := (show e.platform.stackTraces = l.stackTraces by rw [X.admits.platform]).trans hl
  have Yr := vx_rebase X (R' := { frames := R.frames, locals := R.locals, cells := 1, slots := 6 }) (Nat.le_refl _) (Nat.le_refl _) hRcells hRslots
  obtain ⟨s1, hA⟩ : ∃ z, z = (T.setVm s.vm).setFrames (.invoking m args :: below) := ⟨_, rfl⟩
  rw [← hA] at Yr
  have hvm : s1.vm = s.vm := by rw [hA]; rfl
  have hhp : s1.heap = H := by rw [hA]; exact hT
  have hW0 : s.WarmedH s1.vm := by rw [hvm]; exact State.WarmedH.refl s
  have hat1 : ∀ w ∈ (zAll own ic cls Y r ix rx).filter vx_no, w.before args s1 = true := fun w hw => vx_ot_at hW0 hvm.symm (hgood w (List.mem_cons_of_mem _ (List.mem_cons_of_mem _ hw))) (hat w hw)
  have hk1 : (Cond.classLink own ik cls).before args s1 = true := vx_ot_at hW0 hvm.symm (hgood _ List.mem_cons_self) hk
  have hini1 : (Cond.initialized cls).before args s1 = true := vx_ot_at hW0 hvm.symm (hgood _ (List.mem_cons_of_mem _ List.mem_cons_self)) hini
  have hU1 : vx_Zq Bundle.tN "UNASSIGNED_STACK" Bundle.steD A s1 s1.heap := by rw [hhp]; exact vx_Zq.moved hW0.alike (hU.kept hS.2.1)
  have hN1 : vx_Zq Bundle.tN "SUPPRESSED_SENTINEL" Bundle.listD A s1 s1.heap := by rw [hhp]; exact vx_Zq.moved hW0.alike (hN.kept hS.2.1)
  have h : ∀ w ∈ zAll own ic cls Y r ix rx, w.before args s1 = true := vx_own hat1 (vx_isRefq hU1.1) (vx_isRefq hN1.1) hU1.2.word hN1.2.word
  have hown1 : s1.vm.findClass own = some m.cls := by rw [hvm]; exact hown
  have hins : (Cond.instantiable cls 6).before args s1 = true := h _ (List.mem_append_right _ (List.mem_append_right _ (by simp [zOwn])))
  obtain ⟨vm₁, cX, kX, hfX, hkX, -, -, X₁, st1⟩ := Yr.newCold hexec (own := own) (C := cls) (index := ik) (n := 6) hown1 hk1 hins hini1
    (g := F0 m pc ls rest) rfl (by rw [hb]; exact d0) (Nat.le_refl _) (Nat.le_refl _)
  generalize hT1 : (T.setVm vm₁).pushCell { cls := cX, slots := kX.instanceTypes.map defaultValue, vm := .none } = T1 at X₁ st1
  have hcat : (Value.ref T.heap.size).category = 1 := rfl
  have hcellA : T1.heap[T.heap.size]? = some (freshCell cX kX) := by rw [← hT1]; exact State.heap_pushCell_size _ _
  have d3' : decode c.code (pc + 3) = .ok (.dup, 1) := by rw [hb]; exact d3
  have d4' : decode c.code (pc + 4) = .ok (.ldc is, 2) := by rw [hb]; exact d4
  have hstr1 : vk_R own is text sa s1 := vk_R.warm hW0 hstr
  obtain ⟨U, hsteps, hrun, hend, hW, hsame, ce, hce, hov, hoc⟩ := zx_ctor X₁ hexec htr x0 x1 x2 x5 (own := own) (cls := cls) (ic := ic) hown1 hcls hY hnames h (fun x hx => nomatch hx) hfX hkX hcellA (by rw [hhp, hT]; exact Nat.le_refl _) (msg := .ref sa) rfl
    (g := { method := m, pc := pc + 6, locals := ls, stack := .ref sa :: .ref T.heap.size :: .ref T.heap.size :: rest, locked := none }) rfl hsize rfl rfl (rest := rest) rfl
    (by rw [hb]; exact d6) (by rw [hb]; exact d9) hout hRframes (by simp only [List.map_cons, List.sum_cons, hcat]; show 2 * 0 + _ + _ ≤ _; omega) hlocks
  obtain ⟨f1, f2⟩ := vx_frame hsame
  rw [hhp] at f1 f2
  have hWs : s.WarmedH U.vm := State.WarmedH.trans hW0 hW
  have hcl : s.vm.findClass cls = some ce.cls := by
    rw [hvm] at hoc
    exact hoc
  have hall : s.sameButNew ({ U with vm := s.vm } : State) locs mc ms := by
    subst hA
    obtain ⟨e1, e2⟩ := hsame
    rw [State.setFrames_setFrames] at e1
    have h2 : (T.setVm s.vm).sameButNew ({ U with vm := s.vm } : State) [] (0 + 1) (0 + 6) := ⟨e1, e2⟩
    have h3 := X.same.trans h2
    rw [List.append_nil] at h3
    exact h3.mono hc hs
  refine ⟨U, ?_, .threw T.heap.size, hrun, hend, Or.inr ⟨T.heap.size, rfl, cls, ce, locs, hx U hWs.alike f1 (fun q hq => f2 q hq (fun z hz => nomatch hz)), hce, hov, hcl, hWs, hall, hf⟩⟩
  refine st1 _ ?_
  show Steps p.tables e below (T1.setTop { method := m, pc := pc + 3, locals := ls, stack := .ref T.heap.size :: rest, locked := none }) _
  jvm_step X₁.here [X₁.here.top, hexec, d3', Value.category]
  exact X₁.ldcString hexec (own := own) (text := text) (index := is) (a := sa) hown1 hstr1.1 hstr1.2
    (g := { method := m, pc := pc + 4, locals := ls, stack := .ref T.heap.size :: .ref T.heap.size :: rest, locked := none }) rfl d4' _ hsteps
end ZNT
section ZNU
variable {p : Program} {l : Launch} {e : Env} {R : Room} {s : State} {m : MethodId} {args : Array Value} {below : List Frame} {meth : Method} {c : Code} {cells slots : Nat} {mc ms : Nat} {Qr : Option Value → zW → Prop} {Qx : String → zW → Prop}
variable {z : zT} {cc : ByteArray} {own : String} {nL : Nat} {pc : Nat} {L : List (Option Value)} {w : zW}
abbrev zNS : String := "java/util/NoSuchElementException"
def zAN (own : String) (ic : Nat) : List Cond := (zAll own ic zNS "java/lang/RuntimeException" ["java/lang/Exception"] 13 prog_23_method_4_code).filter vx_no
def zTN (own : String) (ik is ic : Nat) (text : String) : Prop := Cond.classLink own ik zNS ∈ lwG ∧ (own, is, text) ∈ zStr ∧ (∀ w ∈ (zAN own ic).filter goodWord, w ∈ lwG) ∧ (∀ w ∈ (zAN own ic).filter (fun w => !goodWord w), w ∈ Cond.castable zNS zNS :: zDec.map Cond.declares) ∧ (∀ w ∈ Cond.classLink own ik zNS :: Cond.initialized zNS :: zAN own ic, vx_ot w = true)
theorem z_throwN (C : zC z p l s m args meth c cc own nL) {ik is ic : Nat} {text : String} (F : zTN own ik is ic text) (hX : ∀ x ∈ c.exceptionTable.toList, False)
    (d0 : decode cc pc = .ok (.new ik, 3)) (d3 : decode cc (pc + 3) = .ok (.dup, 1)) (d4 : decode cc (pc + 4) = .ok (.ldc is, 2)) (d6 : decode cc (pc + 6) = .ok (.invokespecial ic, 3)) (d9 : decode cc (pc + 9) = .ok (.athrow, 1))
    (hLn : L.length = nL) (hRf : 5 < R.frames) (hRl : 82 ≤ R.locals) (hRc : cells + 1 ≤ R.cells) (hRs : slots + 6 ≤ R.slots) (h1 : cells + 1 ≤ mc) (h2 : slots + 6 ≤ ms) (hq : Qx zNS w) :
    ZJ z p l e R s m args below meth c (vx_MQ below (zQc z Qr) (zXC z Qx) args s mc ms (zA z)) cells slots pc L [] w := by
  intro H locs ls hZ hS hL
  obtain ⟨f2, f4, f5, f6, f8⟩ := F
  obtain ⟨sa, hsa⟩ := C.X.2.2.2.2.2.2.2.2.1 _ f4
  exact zx_throw (Y := "java/lang/RuntimeException") (r := ["java/lang/Exception"]) (ix := 13) (rx := prog_23_method_4_code) C.ex C.cd C.tr (by decide +kernel) (by decide +kernel) (by decide +kernel) (by decide +kernel) C.ow (by decide +kernel) (by decide +kernel) (by decide +kernel) (C.ts _ f2) (C.ts _ zi_x_NoSuchElementException) hsa
    (vx_hat (fun w h => C.ts w (f5 w h)) f6 (vx_c (va_Nw.use rfl (C.X.2.2.2.2.2.2.1 (zNS, zNS) (by decide +kernel))) (fun w h => by obtain ⟨x, hx, e⟩ := List.mem_map.mp h; rw [← e]; exact va_Nw.use rfl (C.X.2.2.2.2.2.2.2.2.2.2.2.2 x hx)))) f8 C.X.2.1 C.X.2.2.1 hS (by rw [C.ml]; exact hL.1.trans hLn) d0 d3 d4 d6 d9 (fun x hx => (hX x hx).elim) (by show 1 + 4 < _; exact hRf) (by show 0 + (13 * (1 + 2) + 43) ≤ _; omega) hRc hRs C.lk
    (fun t _ hz hk => ⟨⟨w, hq, hZ.kept hk⟩, Nat.le_trans hS.1 hz, fun q q1 q2 => (hk q (Nat.lt_of_lt_of_le q1 hS.1)).trans (hS.2.1 q q1 q2)⟩) hS.2.2 h1 h2
theorem zt_212_210 : zTN RX2 210 212 214 "there is no such worker" := ⟨zk_X2_210, by decide +kernel, by
  have h : ((zAN RX2 214).filter goodWord).all (fun w => decide (w ∈ lw_tbl) && goodWord w) = true := by decide +kernel
  intro w hw
  have h1 := List.all_eq_true.mp h w hw
  simp only [Bool.and_eq_true, decide_eq_true_eq] at h1
  exact lwG_in h1.1 h1.2, by decide +kernel, by decide +kernel⟩
theorem zt_215_210 : zTN RX2 210 215 214 "there is no such place" := ⟨zk_X2_210, by decide +kernel, by
  have h : ((zAN RX2 214).filter goodWord).all (fun w => decide (w ∈ lw_tbl) && goodWord w) = true := by decide +kernel
  intro w hw
  have h1 := List.all_eq_true.mp h w hw
  simp only [Bool.and_eq_true, decide_eq_true_eq] at h1
  exact lwG_in h1.1 h1.2, by decide +kernel, by decide +kernel⟩
end ZNU
end
section
/-! rows of the JDK's own: Math, arraycopy, getClass; look-ups; counters -/
theorem zk_eq {w : zW} {k : Nat} {q : zE} : va_up w k (some q) k = some q := va_up_self ..
theorem zk_ne {w : zW} {k j : Nat} {e : Option zE} {q : zE} (h : w j = some q) (hn : j ≠ k) : va_up w k e j = some q := by rw [va_up_ne _ _ hn]; exact h
theorem zinc {i : Nat} : nI i + Int32.ofInt 1 = nI (i + 1) := nI_1 i
theorem zdec {i : Nat} : nI (i + 1) + Int32.ofInt (-1) = nI i := pk_m1 i
theorem znb0 : narrow .boolean (.int 0) = .int 0 := rfl
theorem znb1 : narrow .boolean (.int 1) = .int 1 := rfl
/-- a boolean's number -/
def zb (b : Bool) : Int32 := if b then 1 else 0
theorem zb_nar (b : Bool) : narrow .boolean (.int (zb b)) = .int (zb b) := by cases b <;> rfl
theorem zb_fit (b : Bool) : fits .boolean (.int (zb b)) = true := by cases b <;> rfl
theorem zb_vp (b : Bool) : vp_nar .boolean (zb b) = zb b := by cases b <;> rfl
theorem zb_eq0 {b : Bool} : zb b = 0 ↔ b = false := by cases b <;> simp [zb]
section ZJDK
variable {p : Program} {l : Launch} {e : Env} {R : Room} {s : State} {m : MethodId} {args : Array Value} {below : List Frame} {meth : Method} {c : Code} {cells slots : Nat} {Q : State → Prop}
variable {z : zT} {cc : ByteArray} {own : String} {nL : Nat} {pc : Nat} {L : List (Option Value)} {st : List Value} {w : zW}
theorem z_max (C : zC z p l s m args meth c cc own nL) {index : Nat} {x y : Int32} (hl : Cond.methodLink own index Lib.Math.max.name ∈ lwG) (hdg : decode cc pc = .ok (.invokestatic index, 3)) (hLn : L.length = nL) (hR : 1 ≤ R.frames) (hR2 : (st.map fun v => v.category).sum + 13 ≤ R.locals) (hf : cells ≤ R.cells ∧ slots ≤ R.slots)
    (kk : ZJ z p l e R s m args below meth c Q cells slots (pc + 3) L (.int (if x < y then y else x) :: st) w) : ZJ z p l e R s m args below meth c Q cells slots pc L (.int y :: .int x :: st) w := fun H locs ls hZ hS hL =>
  va_mmax C.ex C.cd (by rw [C.ml]; exact (hL.1.trans hLn).symm) C.ow (C.ts _ hl) (C.ts _ zmath_s_max) (C.ts _ zmath_i) (C.ts _ zmath_c_max) hR hR2 hf.1 hf.2 hdg (kk H locs ls hZ hS hL)
theorem z_min (C : zC z p l s m args meth c cc own nL) {index : Nat} {x y : Int32} (hl : Cond.methodLink own index Lib.Math.min.name ∈ lwG) (hdg : decode cc pc = .ok (.invokestatic index, 3)) (hLn : L.length = nL) (hR : 1 ≤ R.frames) (hR2 : (st.map fun v => v.category).sum + 13 ≤ R.locals) (hf : cells ≤ R.cells ∧ slots ≤ R.slots)
    (kk : ZJ z p l e R s m args below meth c Q cells slots (pc + 3) L (.int (if y < x then y else x) :: st) w) : ZJ z p l e R s m args below meth c Q cells slots pc L (.int y :: .int x :: st) w := fun H locs ls hZ hS hL =>
  va_mmin C.ex C.cd (by rw [C.ml]; exact (hL.1.trans hLn).symm) C.ow (C.ts _ hl) (C.ts _ zmath_s_min) (C.ts _ zmath_i) (C.ts _ zmath_c_min) hR hR2 hf.1 hf.2 hdg (kk H locs ls hZ hS hL)
theorem z_getC (C : zC z p l s m args meth c cc own nL) {index k0 a n : Nat} {f : Nat → Option Nat} (hl : Cond.methodLink own index ⟨"java/lang/Object", "getClass", "()Ljava/lang/Class;"⟩ ∈ lwG) (h2 : Cond.selects "[Ljava/lang/Object;" ⟨"java/lang/Object", "getClass", "()Ljava/lang/Class;"⟩ ⟨"java/lang/Object", "getClass", "()Ljava/lang/Class;"⟩ ∈ lwG) (h3 : Cond.instanceMethod ⟨"java/lang/Object", "getClass", "()Ljava/lang/Class;"⟩ ∈ lwG) (h4 : Cond.native ⟨"java/lang/Object", "getClass", "()Ljava/lang/Class;"⟩ ∈ lwG)
    (hdg : decode cc pc = .ok (.invokevirtual index, 3)) (hk : w k0 = some (a, .inl (z.2.2.1 2, n, .inr (.inr (.inr (.inr f)))))) (hLn : L.length = nL) (hR : 1 ≤ R.frames) (hR2 : (st.map fun v => v.category).sum + 14 ≤ R.locals)
    (kk : ZJ z p l e R s m args below meth c Q cells slots (pc + 3) L (.ref z.2.2.2.2 :: st) w) : ZJ z p l e R s m args below meth c Q cells slots pc L (.ref a :: st) w := fun H locs ls hZ hS hL => by
  obtain ⟨ws, hP, hD, hin, hinj⟩ := id hZ
  obtain ⟨i, hi⟩ := hin _ _ hk
  obtain ⟨kA, comp, e1, e2, e3, e4⟩ := (C.K.2 2 _ rfl).2
  exact va_getC C.ex C.cd (by rw [C.ml]; exact (hL.1.trans hLn).symm) C.ow (C.ts _ hl) (va_Dc.use C.X.2.2.2.2.2.2.2.2.2.2.1) (C.ts _ h2) (C.ts _ h3) (C.ts _ h4) C.X.2.2.2.2.2.1 ⟨_, hP i _ hi, rfl, e4⟩ hR hR2 hdg (kk H locs ls hZ hS hL)
theorem z_copy (C : zC z p l s m args meth c cc own nL) {index k0 k1 a0 a n0 n1 sp dp n : Nat} {x y v : Int32} {f g : Nat → Option Nat} (hl : Cond.methodLink own index arraycopyName ∈ lwG) (hdg : decode cc pc = .ok (.invokestatic index, 3))
    (hk0 : w k0 = some (a0, .inl (z.2.2.1 2, n0, .inr (.inr (.inr (.inr f)))))) (hk1 : w k1 = some (a, .inl (z.2.2.1 2, n1, .inr (.inr (.inr (.inr g)))))) (hx : x = nI sp) (hy : y = nI dp) (hv : v = nI n) (h4 : sp + n ≤ n0) (h5 : dp + n ≤ n1) (hn0 : n0 < 2 ^ 31) (hn1 : n1 < 2 ^ 31)
    (hel : ∀ i : Nat, i < n → ∀ b : Nat, f (sp + i) = some b → ∃ (k : Nat) (vs : List Value), w k = some (b, .inr (2, vs))) (hLn : L.length = nL) (hR : 1 ≤ R.frames) (hR2 : (st.map fun v => v.category).sum + (nativeFrameWords "java/lang/System" "arraycopy" 5 + 11) ≤ R.locals)
    (kk : ZJ z p l e R s m args below meth c Q cells slots (pc + 3) L st (va_up w k1 (some (a, .inl (z.2.2.1 2, n1, .inr (.inr (.inr (.inr (va_cpy f g sp dp n))))))))) : ZJ z p l e R s m args below meth c Q cells slots pc L (.int v :: .int y :: .ref a :: .int x :: .ref a0 :: st) w := by
  intro H locs ls hZ hS hL
  subst hx hy hv
  obtain ⟨ws, hP, hD, hin, hinj⟩ := hZ
  obtain ⟨i0, hi0⟩ := hin _ _ hk0
  obtain ⟨i1, hi1⟩ := hin _ _ hk1
  have e1 : (nI sp).toNatClampNeg = sp := nI_clamp (by omega)
  have e2 : (nI dp).toNatClampNeg = dp := nI_clamp (by omega)
  have e3 : (nI n).toNatClampNeg = n := nI_clamp (by omega)
  refine va_copyM (E0 := "java/lang/Object") (E1 := "java/lang/Object") C.ex C.cd (by rw [C.ml]; exact (hL.1.trans hLn).symm) C.ow (C.ts _ hl) (C.ts _ zac_n) (C.ts _ zac_s) (C.ts _ zac_i) C.K hP hD hS i0 i1 2 2 hi0 hi1 rfl rfl
    (nI_pos (by omega)) (nI_pos (by omega)) (nI_pos (by omega)) (by rw [e1, e3]; exact h4) (by rw [e2, e3]; exact h5) (fun i hi b hb => ?_) hR hR2 hdg (fun H1 locs1 hP1 hD1 hS1 => ?_)
  · rw [e3] at hi
    rw [e1] at hb
    obtain ⟨k, vs, hkv⟩ := hel i hi b hb
    obtain ⟨i2, hi2⟩ := hin _ _ hkv
    exact va_rAny (r := (RX1, TX1, 10)) C.K hP hi2 rfl (fun comp c0 q1 q2 => vb_asgC (C.X.2.2.2.2.2.2.1 (RX1, "java/lang/Object") (by decide +kernel)) comp c0 q1 q2)
  · rw [e1, e2, e3] at hP1 hD1
    exact kk H1 locs1 ls (ZR.put hP1 hD1 hin hinj hi1 hk1) hS1 hL
end ZJDK
end
section
/-! loops over the judgement; small numbers -/
section ZIND
variable {p : Program} {l : Launch} {e : Env} {R : Room} {s : State} {m : MethodId} {args : Array Value} {below : List Frame} {meth : Method} {c : Code} {Q : State → Prop} {z : zT} {pc : Nat} {st : List Value}
theorem z_ind {σ : Type} (I : σ → Prop) (μ : σ → Nat) (cs ss : σ → Nat) (F : σ → List (Option Value)) (G : σ → zW) (x0 : σ) (h0 : I x0)
    (step : ∀ x : σ, I x → (∀ y : σ, I y → μ y < μ x → ZJ z p l e R s m args below meth c Q (cs y) (ss y) pc (F y) st (G y)) → ZJ z p l e R s m args below meth c Q (cs x) (ss x) pc (F x) st (G x)) : ZJ z p l e R s m args below meth c Q (cs x0) (ss x0) pc (F x0) st (G x0) := by
  have h : ∀ (n : Nat) (x : σ), μ x < n → I x → ZJ z p l e R s m args below meth c Q (cs x) (ss x) pc (F x) st (G x) := by
    intro n
    induction n with
    | zero => intro x hx; exact absurd hx (Nat.not_lt_zero _)
    | succ n ih => intro x hx hI; exact step x hI (fun y hy hm => ih y (by omega) hy)
  exact h _ x0 (Nat.lt_succ_self _) h0
/-- the handle a becomes b -/
theorem z_ren {cells slots : Nat} {L : List (Option Value)} {w : zW} (a b : Nat) (kk : ZJ z p l e R s m args below meth c Q cells slots pc L st (fun j => if j = b then w a else if j = a then none else w j)) : ZJ z p l e R s m args below meth c Q cells slots pc L st w := by
  refine z_sub (fun j => if j = b then a else j) (fun k q h => ?_) (fun j k p q h1 h2 h3 => ?_) kk
  · by_cases h1 : k = b
    · simp only [h1, if_true] at h ⊢; exact h
    · by_cases h2 : k = a
      · simp only [h1, h2, if_true, if_false] at h
        split at h
        · rename_i h4; exact absurd (h2.trans h4) h1
        · cases h
      · simp only [h1, h2, if_false] at h ⊢; exact h
  · by_cases e1 : j = b <;> by_cases e2 : k = b
    · rw [e1, e2]
    · simp only [e1, e2, if_true, if_false] at h3
      subst h3
      simp only [e2, if_true, if_false] at h2
      cases h2
    · simp only [e1, e2, if_true, if_false] at h3
      subst h3
      simp only [e1, if_true, if_false] at h1
      cases h1
    · simp only [e1, e2, if_false] at h3
      exact h3
end ZIND
theorem zmaxI {a b : Nat} (ha : a < 2 ^ 31) (hb : b < 2 ^ 31) : (if nI a < nI b then nI b else nI a) = nI (max a b) := by
  by_cases h : a < b
  · rw [if_pos (nI_lt h hb), Nat.max_eq_right (Nat.le_of_lt h)]
  · rw [if_neg (nI_nlt (Nat.le_of_not_lt h) ha), Nat.max_eq_left (Nat.le_of_not_lt h)]
theorem zminI {a b : Nat} (ha : a < 2 ^ 31) (hb : b < 2 ^ 31) : (if nI b < nI a then nI b else nI a) = nI (min a b) := by
  by_cases h : b < a
  · rw [if_pos (nI_lt h ha), Nat.min_eq_right (Nat.le_of_lt h)]
  · rw [if_neg (nI_nlt (Nat.le_of_not_lt h) hb), Nat.min_eq_left (Nat.le_of_not_lt h)]
theorem zhalf {n : Nat} (h : n < 2 ^ 31) : nI n >>> ((1 : Int32) &&& 31) = nI (n / 2) := by
  have k := pk_shrN h ((1 : Int32) &&& 31) 1 (by decide)
  rw [Nat.pow_one] at k
  exact k
end
section
/-! java.util.ArrayList over Worker objects: the list k lies at the handles k (the list) and k + 1 (its row); 99 is a handle for a moment -/
/-- a list object, its row -/
abbrev zLo (md : Int32) (b n : Nat) : va_E := .inr (0, [.int md, .ref b, .int (nI n)])
abbrev zRo (z : zT) (n : Nat) (f : Nat → Option Nat) : va_E := .inl (z.2.2.1 2, n, .inr (.inr (.inr (.inr f))))
def zLs (z : zT) (w : zW) (k a : Nat) (xs : List Nat) : Prop := ∃ (md : Int32) (b : Nat), w k = some (a, zLo md b xs.length) ∧ ((xs = [] ∧ b = z.2.2.2.1) ∨ ∃ (n : Nat) (f : Nat → Option Nat), w (k + 1) = some (b, zRo z n f) ∧ xs.length ≤ n ∧ 10 ≤ n ∧ n ≤ 64 ∧ ∀ i : Nat, i < xs.length → f i = xs[i]?)
/-- what a list's method leaves as it was -/
def zFk (k : Nat) (w w1 : zW) : Prop := ∀ j : Nat, j ≠ k → j ≠ k + 1 → j ≠ 99 → w1 j = w j
/-- the elements are workers of the world -/
def zWk (w : zW) (y : Nat) : Prop := ∃ (j : Nat) (vs : List Value), 100 ≤ j ∧ w j = some (y, .inr (2, vs))
theorem zLs.len {z : zT} {w : zW} {k a : Nat} {xs : List Nat} (h : zLs z w k a xs) : xs.length ≤ 64 := by
  obtain ⟨md, b, h1, ⟨rfl, -⟩ | ⟨n, f, -, h2, -, h3, -⟩⟩ := h
  · decide
  · omega
section ZAL
variable {l : Launch} {z : zT} {w : zW}
theorem c_size (hl : l.stackTraces = false) {k a b : Nat} {md : Int32} {n : Int32} (h : w k = some (a, .inr (0, [.int md, .ref b, .int n]))) : ZM l z mJx4a65c_size_8abf5 0 0 0 [.ref a] w (fun r w1 => r = some (.int n) ∧ w1 = w) zNo := by
  refine zbody (M := mJx4a65c_size_8abf5) (L0 := [_]) hl (by simp [Value.category]) (Nat.le_of_ble_eq_true rfl) (by decide +kernel) rfl ?_
  intro p e s m args below meth c C hX hnm hret
  replace C : zC z p l s m args meth c cJx4a65c_size_8abf5 RJx4a65c 1 := C
  replace hret : meth.sig.returnType = (some .int) := hret
  refine z_aload_n C dJx4a65c_size_8abf5_0 rfl ?_
  refine z_getf C zf_Jx4a65c_48 dJx4a65c_size_8abf5_1 (by first | assumption | exact zk_eq | exact zk_ne (by first | assumption | exact zk_eq | exact zk_ne (by first | assumption | exact zk_eq | exact zk_ne (by first | assumption | exact zk_eq | exact zk_ne (by first | assumption | exact zk_eq | exact zk_ne (by first | assumption | exact zk_eq) (by first | decide | omega)) (by first | decide | omega)) (by first | decide | omega)) (by first | decide | omega)) (by first | decide | omega)) (by rfl) ?_
  refine z_iret C hret dJx4a65c_size_8abf5_4 (by first | exact Nat.le_of_ble_eq_true rfl | omega) (by first | exact Nat.le_of_ble_eq_true rfl | omega) ?_
  exact ⟨rfl, rfl⟩
theorem c_checkIndex3 (hl : l.stackTraces = false) {i n : Nat} (hi : i < n) (hn : n < 2 ^ 31) : ZM l z mJ3_checkIndex_8e157 0 0 0 [.int (nI i), .int (nI n), .null] w (fun r w1 => r = some (.int (nI i)) ∧ w1 = w) zNo := by
  refine zbody (M := mJ3_checkIndex_8e157) (L0 := [_, _, _]) hl (by simp [Value.category]) (Nat.le_of_ble_eq_true rfl) (by decide +kernel) rfl ?_
  intro p e s m args below meth c C hX hnm hret
  replace C : zC z p l s m args meth c cJ3_checkIndex_8e157 RJ3 3 := C
  replace hret : meth.sig.returnType = (some .int) := hret
  refine z_iload_n C dJ3_checkIndex_8e157_0 rfl ?_
  refine z_if_lt C 9 dJ3_checkIndex_8e157_1 (by decide) (fun h1 => ?_) (fun h1 => ?_)
  · exact absurd h1 (nI_pos (by omega))
  refine z_iload_n C dJ3_checkIndex_8e157_4 rfl ?_
  refine z_iload_n C dJ3_checkIndex_8e157_5 rfl ?_
  refine z_icmp_lt C 16 dJ3_checkIndex_8e157_6 (by decide) (fun h2 => ?_) (fun h2 => ?_)
  · refine z_iload_n C dJ3_checkIndex_8e157_16 rfl ?_
    refine z_iret C hret dJ3_checkIndex_8e157_17 (by first | exact Nat.le_of_ble_eq_true rfl | omega) (by first | exact Nat.le_of_ble_eq_true rfl | omega) ?_
    exact ⟨rfl, rfl⟩
  · exact absurd (nI_lt hi hn) h2
theorem c_checkIndex (hl : l.stackTraces = false) {i n : Nat} (hi : i < n) (hn : n < 2 ^ 31) : ZM l z mJ15_checkIndex_7cf53 1 0 0 [.int (nI i), .int (nI n)] w (fun r w1 => r = some (.int (nI i)) ∧ w1 = w) zNo := by
  refine zbody (M := mJ15_checkIndex_7cf53) (L0 := [_, _]) hl (by simp [Value.category]) (Nat.le_of_ble_eq_true rfl) (by decide +kernel) rfl ?_
  intro p e s m args below meth c C hX hnm hret
  replace C : zC z p l s m args meth c cJ15_checkIndex_7cf53 RJ15 2 := C
  replace hret : meth.sig.returnType = (some .int) := hret
  refine z_iload_n C dJ15_checkIndex_7cf53_0 rfl ?_
  refine z_iload_n C dJ15_checkIndex_7cf53_1 rfl ?_
  refine z_null C dJ15_checkIndex_7cf53_2 ?_
  refine z_callS C zm_J3_checkIndex_8e157 zl_J15_105 (c_checkIndex3 hl hi hn) dJ15_checkIndex_7cf53_3 (by rfl) (by rfl) (by exact Nat.le_of_ble_eq_true rfl) rfl (by exact ⟨Nat.le_of_ble_eq_true rfl, Nat.le_of_ble_eq_true rfl⟩) (by first | exact ⟨Nat.le_of_ble_eq_true rfl, Nat.le_of_ble_eq_true rfl⟩ | (simp only [zrm]; omega)) (fun _ _ h => z_xno h) (fun r w1 hq => ?_)
  obtain ⟨rfl, rfl⟩ := hq
  refine z_iret C hret dJ15_checkIndex_7cf53_6 (by first | exact Nat.le_of_ble_eq_true rfl | omega) (by first | exact Nat.le_of_ble_eq_true rfl | omega) ?_
  exact ⟨rfl, rfl⟩
theorem c_elementData (hl : l.stackTraces = false) {k a b n i : Nat} {md sz : Int32} {f : Nat → Option Nat} (h : w k = some (a, .inr (0, [.int md, .ref b, .int sz]))) (h2 : w (k + 1) = some (b, zRo z n f)) (hi : i < n) (hn : n ≤ 64) : ZM l z mJx4a65c_elementData_915e3 0 0 0 [.ref a, .int (nI i)] w (fun r w1 => r = some (va_rf (f i)) ∧ w1 = w) zNo := by
  refine zbody (M := mJx4a65c_elementData_915e3) (L0 := [_, _]) hl (by simp [Value.category]) (Nat.le_of_ble_eq_true rfl) (by decide +kernel) rfl ?_
  intro p e s m args below meth c C hX hnm hret
  replace C : zC z p l s m args meth c cJx4a65c_elementData_915e3 RJx4a65c 2 := C
  replace hret : meth.sig.returnType = (some (.object "java/lang/Object")) := hret
  refine z_aload_n C dJx4a65c_elementData_915e3_0 rfl ?_
  refine z_getf C zf_Jx4a65c_9 dJx4a65c_elementData_915e3_1 (by first | assumption | exact zk_eq | exact zk_ne (by first | assumption | exact zk_eq | exact zk_ne (by first | assumption | exact zk_eq | exact zk_ne (by first | assumption | exact zk_eq | exact zk_ne (by first | assumption | exact zk_eq | exact zk_ne (by first | assumption | exact zk_eq) (by first | decide | omega)) (by first | decide | omega)) (by first | decide | omega)) (by first | decide | omega)) (by first | decide | omega)) (by rfl) ?_
  refine z_iload_n C dJx4a65c_elementData_915e3_4 rfl ?_
  refine z_aald C dJx4a65c_elementData_915e3_5 (by first | assumption | exact zk_eq | exact zk_ne (by first | assumption | exact zk_eq | exact zk_ne (by first | assumption | exact zk_eq | exact zk_ne (by first | assumption | exact zk_eq | exact zk_ne (by first | assumption | exact zk_eq | exact zk_ne (by first | assumption | exact zk_eq) (by first | decide | omega)) (by first | decide | omega)) (by first | decide | omega)) (by first | decide | omega)) (by first | decide | omega)) (by first | rfl | assumption) (by first | assumption | omega | decide) (by first | decide | omega) ?_
  refine z_aret C hret (Or.inl ⟨_, rfl⟩) (by first | exact Or.inr ⟨_, rfl⟩ | exact va_rf_or _ | exact Or.inl rfl) dJx4a65c_elementData_915e3_6 (by first | exact Nat.le_of_ble_eq_true rfl | omega) (by first | exact Nat.le_of_ble_eq_true rfl | omega) ?_
  exact ⟨rfl, rfl⟩
theorem c_get (hl : l.stackTraces = false) {k a i : Nat} {xs : List Nat} (h : zLs z w k a xs) (hi : i < xs.length) : ZM l z mJx4a65c_get_915e3 2 0 0 [.ref a, .int (nI i)] w (fun r w1 => r = some (.ref xs[i]) ∧ w1 = w) zNo := by
  obtain ⟨md, b, h1, ⟨rfl, -⟩ | ⟨n, f, h2, h3, h4, h5, h6⟩⟩ := h
  · exact absurd hi (Nat.not_lt_zero _)
  refine zbody (M := mJx4a65c_get_915e3) (L0 := [_, _]) hl (by simp [Value.category]) (Nat.le_of_ble_eq_true rfl) (by decide +kernel) rfl ?_
  intro p e s m args below meth c C hX hnm hret
  replace C : zC z p l s m args meth c cJx4a65c_get_915e3 RJx4a65c 2 := C
  replace hret : meth.sig.returnType = (some (.object "java/lang/Object")) := hret
  refine z_iload_n C dJx4a65c_get_915e3_0 rfl ?_
  refine z_aload_n C dJx4a65c_get_915e3_1 rfl ?_
  refine z_getf C zf_Jx4a65c_48 dJx4a65c_get_915e3_2 (by first | assumption | exact zk_eq | exact zk_ne (by first | assumption | exact zk_eq | exact zk_ne (by first | assumption | exact zk_eq | exact zk_ne (by first | assumption | exact zk_eq | exact zk_ne (by first | assumption | exact zk_eq | exact zk_ne (by first | assumption | exact zk_eq) (by first | decide | omega)) (by first | decide | omega)) (by first | decide | omega)) (by first | decide | omega)) (by first | decide | omega)) (by rfl) ?_
  refine z_callS C zm_J15_checkIndex_7cf53 zl_Jx4a65c_118 (c_checkIndex hl hi (by omega)) dJx4a65c_get_915e3_5 (by rfl) (by rfl) (by exact Nat.le_of_ble_eq_true rfl) rfl (by exact ⟨Nat.le_of_ble_eq_true rfl, Nat.le_of_ble_eq_true rfl⟩) (by first | exact ⟨Nat.le_of_ble_eq_true rfl, Nat.le_of_ble_eq_true rfl⟩ | (simp only [zrm]; omega)) (fun _ _ h => z_xno h) (fun r w1 hq => ?_)
  obtain ⟨rfl, rfl⟩ := hq
  refine z_pop C dJx4a65c_get_915e3_8 rfl ?_
  refine z_aload_n C dJx4a65c_get_915e3_9 rfl ?_
  refine z_iload_n C dJx4a65c_get_915e3_10 rfl ?_
  refine z_callV C zm_Jx4a65c_elementData_915e3 zl_Jx4a65c_123 (c_elementData (i := i) hl h1 h2 (by omega) h5) dJx4a65c_get_915e3_11 (by first | assumption | exact zk_eq | exact zk_ne (by first | assumption | exact zk_eq | exact zk_ne (by first | assumption | exact zk_eq | exact zk_ne (by first | assumption | exact zk_eq | exact zk_ne (by first | assumption | exact zk_eq | exact zk_ne (by first | assumption | exact zk_eq) (by first | decide | omega)) (by first | decide | omega)) (by first | decide | omega)) (by first | decide | omega)) (by first | decide | omega)) (by rfl) (by rfl) (by rfl) (by exact Nat.le_of_ble_eq_true rfl) rfl (by exact ⟨Nat.le_of_ble_eq_true rfl, Nat.le_of_ble_eq_true rfl⟩) (by first | exact ⟨Nat.le_of_ble_eq_true rfl, Nat.le_of_ble_eq_true rfl⟩ | (simp only [zrm]; omega)) (fun _ _ h => z_xno h) (fun r w1 hq => ?_)
  obtain ⟨rfl, rfl⟩ := hq
  rw [h6 i hi, List.getElem?_eq_getElem hi]
  refine z_aret C hret (Or.inl ⟨_, rfl⟩) (by first | exact Or.inr ⟨_, rfl⟩ | exact va_rf_or _ | exact Or.inl rfl) dJx4a65c_get_915e3_14 (by first | exact Nat.le_of_ble_eq_true rfl | omega) (by first | exact Nat.le_of_ble_eq_true rfl | omega) ?_
  exact ⟨rfl, rfl⟩
theorem c_rangeCheckForAdd (hl : l.stackTraces = false) {k a b i n : Nat} {md : Int32} (h : w k = some (a, zLo md b n)) (hi : i ≤ n) (hn : n < 2 ^ 31) : ZM l z mJx4a65c_rangeCheckForAdd_d00df 0 0 0 [.ref a, .int (nI i)] w (fun r w1 => r = none ∧ w1 = w) zNo := by
  refine zbody (M := mJx4a65c_rangeCheckForAdd_d00df) (L0 := [_, _]) hl (by simp [Value.category]) (Nat.le_of_ble_eq_true rfl) (by decide +kernel) rfl ?_
  intro p e s m args below meth c C hX hnm hret
  replace C : zC z p l s m args meth c cJx4a65c_rangeCheckForAdd_d00df RJx4a65c 2 := C
  replace hret : meth.sig.returnType = none := hret
  refine z_iload_n C dJx4a65c_rangeCheckForAdd_d00df_0 rfl ?_
  refine z_aload_n C dJx4a65c_rangeCheckForAdd_d00df_1 rfl ?_
  refine z_getf C zf_Jx4a65c_48 dJx4a65c_rangeCheckForAdd_d00df_2 (by first | assumption | exact zk_eq | exact zk_ne (by first | assumption | exact zk_eq | exact zk_ne (by first | assumption | exact zk_eq | exact zk_ne (by first | assumption | exact zk_eq | exact zk_ne (by first | assumption | exact zk_eq | exact zk_ne (by first | assumption | exact zk_eq) (by first | decide | omega)) (by first | decide | omega)) (by first | decide | omega)) (by first | decide | omega)) (by first | decide | omega)) (by rfl) ?_
  refine z_icmp_gt C 12 dJx4a65c_rangeCheckForAdd_d00df_5 (by decide) (fun h1 => ?_) (fun h1 => ?_)
  · exact absurd h1 (nI_nlt hi hn)
  refine z_iload_n C dJx4a65c_rangeCheckForAdd_d00df_8 rfl ?_
  refine z_if_ge C 25 dJx4a65c_rangeCheckForAdd_d00df_9 (by decide) (fun h2 => ?_) (fun h2 => ?_)
  · refine z_vret C hret dJx4a65c_rangeCheckForAdd_d00df_25 (by first | exact Nat.le_of_ble_eq_true rfl | omega) (by first | exact Nat.le_of_ble_eq_true rfl | omega) ?_
    exact ⟨rfl, rfl⟩
  · exact absurd (nI_pos' (by omega)) h2
theorem zWk.fk {k : Nat} {w1 : zW} {y : Nat} (h : zWk w y) (hf : zFk k w w1) (hk : k + 1 < 99) : zWk w1 y := by
  obtain ⟨j, vs, h1, h2⟩ := h
  exact ⟨j, vs, h1, (hf j (by omega) (by omega) (by omega)).trans h2⟩
theorem c_set (hl : l.stackTraces = false) {k a i v : Nat} {xs : List Nat} (h : zLs z w k a xs) (hi : i < xs.length) (hv : zWk w v) (hk : k + 1 < 99) : ZM l z mJx4a65c_set_bcc79 2 0 0 [.ref a, .int (nI i), .ref v] w (fun r w1 => r = some (.ref xs[i]) ∧ zLs z w1 k a (xs.set i v) ∧ zFk k w w1) zNo := by
  obtain ⟨md, b, h1, ⟨rfl, -⟩ | ⟨n, f, h2, h3, h4, h5, h6⟩⟩ := h
  · exact absurd hi (Nat.not_lt_zero _)
  obtain ⟨j, vs, hj, hjv⟩ := hv
  refine zbody (M := mJx4a65c_set_bcc79) (L0 := [_, _, _, _]) hl (by simp [Value.category]) (Nat.le_of_ble_eq_true rfl) (by decide +kernel) rfl ?_
  intro p e s m args below meth c C hX hnm hret
  replace C : zC z p l s m args meth c cJx4a65c_set_bcc79 RJx4a65c 4 := C
  replace hret : meth.sig.returnType = (some (.object "java/lang/Object")) := hret
  refine z_iload_n C dJx4a65c_set_bcc79_0 rfl ?_
  refine z_aload_n C dJx4a65c_set_bcc79_1 rfl ?_
  refine z_getf C zf_Jx4a65c_48 dJx4a65c_set_bcc79_2 (by first | assumption | exact zk_eq | exact zk_ne (by first | assumption | exact zk_eq | exact zk_ne (by first | assumption | exact zk_eq | exact zk_ne (by first | assumption | exact zk_eq | exact zk_ne (by first | assumption | exact zk_eq | exact zk_ne (by first | assumption | exact zk_eq) (by first | decide | omega)) (by first | decide | omega)) (by first | decide | omega)) (by first | decide | omega)) (by first | decide | omega)) (by rfl) ?_
  refine z_callS C zm_J15_checkIndex_7cf53 zl_Jx4a65c_118 (c_checkIndex hl hi (by omega)) dJx4a65c_set_bcc79_5 (by rfl) (by rfl) (by exact Nat.le_of_ble_eq_true rfl) rfl (by exact ⟨Nat.le_of_ble_eq_true rfl, Nat.le_of_ble_eq_true rfl⟩) (by first | exact ⟨Nat.le_of_ble_eq_true rfl, Nat.le_of_ble_eq_true rfl⟩ | (simp only [zrm]; omega)) (fun _ _ h => z_xno h) (fun r w1 hq => ?_)
  obtain ⟨rfl, rfl⟩ := hq
  refine z_pop C dJx4a65c_set_bcc79_8 rfl ?_
  refine z_aload_n C dJx4a65c_set_bcc79_9 rfl ?_
  refine z_iload_n C dJx4a65c_set_bcc79_10 rfl ?_
  refine z_callV C zm_Jx4a65c_elementData_915e3 zl_Jx4a65c_123 (c_elementData (i := i) hl h1 h2 (by omega) h5) dJx4a65c_set_bcc79_11 (by first | assumption | exact zk_eq | exact zk_ne (by first | assumption | exact zk_eq | exact zk_ne (by first | assumption | exact zk_eq | exact zk_ne (by first | assumption | exact zk_eq | exact zk_ne (by first | assumption | exact zk_eq | exact zk_ne (by first | assumption | exact zk_eq) (by first | decide | omega)) (by first | decide | omega)) (by first | decide | omega)) (by first | decide | omega)) (by first | decide | omega)) (by rfl) (by rfl) (by rfl) (by exact Nat.le_of_ble_eq_true rfl) rfl (by exact ⟨Nat.le_of_ble_eq_true rfl, Nat.le_of_ble_eq_true rfl⟩) (by first | exact ⟨Nat.le_of_ble_eq_true rfl, Nat.le_of_ble_eq_true rfl⟩ | (simp only [zrm]; omega)) (fun _ _ h => z_xno h) (fun r w1 hq => ?_)
  obtain ⟨rfl, rfl⟩ := hq
  rw [h6 i hi, List.getElem?_eq_getElem hi]
  refine z_astore_n C (L1 := [_, _, _, _]) dJx4a65c_set_bcc79_14 (Nat.le_of_ble_eq_true rfl) rfl ?_
  refine z_aload_n C dJx4a65c_set_bcc79_15 rfl ?_
  refine z_getf C zf_Jx4a65c_9 dJx4a65c_set_bcc79_16 (by first | assumption | exact zk_eq | exact zk_ne (by first | assumption | exact zk_eq | exact zk_ne (by first | assumption | exact zk_eq | exact zk_ne (by first | assumption | exact zk_eq | exact zk_ne (by first | assumption | exact zk_eq | exact zk_ne (by first | assumption | exact zk_eq) (by first | decide | omega)) (by first | decide | omega)) (by first | decide | omega)) (by first | decide | omega)) (by first | decide | omega)) (by rfl) ?_
  refine z_iload_n C dJx4a65c_set_bcc79_19 rfl ?_
  refine z_aload_n C dJx4a65c_set_bcc79_20 rfl ?_
  refine z_aast C dJx4a65c_set_bcc79_21 (by first | assumption | exact zk_eq | exact zk_ne (by first | assumption | exact zk_eq | exact zk_ne (by first | assumption | exact zk_eq | exact zk_ne (by first | assumption | exact zk_eq | exact zk_ne (by first | assumption | exact zk_eq | exact zk_ne (by first | assumption | exact zk_eq) (by first | decide | omega)) (by first | decide | omega)) (by first | decide | omega)) (by first | decide | omega)) (by first | decide | omega)) (by first | assumption | exact zk_eq | exact zk_ne (by first | assumption | exact zk_eq | exact zk_ne (by first | assumption | exact zk_eq | exact zk_ne (by first | assumption | exact zk_eq | exact zk_ne (by first | assumption | exact zk_eq | exact zk_ne (by first | assumption | exact zk_eq) (by first | decide | omega)) (by first | decide | omega)) (by first | decide | omega)) (by first | decide | omega)) (by first | decide | omega)) (by first | rfl | assumption) (by first | assumption | omega | decide) (by first | decide | omega) ?_
  refine z_aload_n C dJx4a65c_set_bcc79_22 rfl ?_
  refine z_aret C hret (Or.inl ⟨_, rfl⟩) (by first | exact Or.inr ⟨_, rfl⟩ | exact va_rf_or _ | exact Or.inl rfl) dJx4a65c_set_bcc79_23 (by first | exact Nat.le_of_ble_eq_true rfl | omega) (by first | exact Nat.le_of_ble_eq_true rfl | omega) ?_
  refine ⟨rfl, ⟨md, b, by rw [List.length_set]; exact (by first | assumption | exact zk_eq | exact zk_ne (by first | assumption | exact zk_eq | exact zk_ne (by first | assumption | exact zk_eq | exact zk_ne (by first | assumption | exact zk_eq | exact zk_ne (by first | assumption | exact zk_eq | exact zk_ne (by first | assumption | exact zk_eq) (by first | decide | omega)) (by first | decide | omega)) (by first | decide | omega)) (by first | decide | omega)) (by first | decide | omega)), Or.inr ⟨n, va_up f i (some v), (by first | assumption | exact zk_eq | exact zk_ne (by first | assumption | exact zk_eq | exact zk_ne (by first | assumption | exact zk_eq | exact zk_ne (by first | assumption | exact zk_eq | exact zk_ne (by first | assumption | exact zk_eq | exact zk_ne (by first | assumption | exact zk_eq) (by first | decide | omega)) (by first | decide | omega)) (by first | decide | omega)) (by first | decide | omega)) (by first | decide | omega)), by simpa using h3, h4, h5, fun q hq => ?_⟩⟩, fun q q1 q2 q3 => by (repeat (refine (va_up_ne _ _ (by first | assumption | omega)).trans ?_)); rfl⟩
  · rw [List.length_set] at hq
    by_cases e : q = i
    · subst e
      rw [va_up_self, List.getElem?_set_self hq]
    · rw [va_up_ne _ _ e, List.getElem?_set_ne (Ne.symm e)]
      exact h6 q hq
theorem c_clear (hl : l.stackTraces = false) {k a : Nat} {xs : List Nat} (h : zLs z w k a xs) : ZM l z mJx4a65c_clear_da8c8 0 0 0 [.ref a] w (fun r w1 => r = none ∧ zLs z w1 k a [] ∧ zFk k w w1) zNo := by
  obtain ⟨md, b, h1, h2⟩ := h
  refine zbody (M := mJx4a65c_clear_da8c8) (L0 := [_, _, _, _]) hl (by simp [Value.category]) (Nat.le_of_ble_eq_true rfl) (by decide +kernel) rfl ?_
  intro p e s m args below meth c C hX hnm hret
  replace C : zC z p l s m args meth c cJx4a65c_clear_da8c8 RJx4a65c 4 := C
  replace hret : meth.sig.returnType = none := hret
  refine z_aload_n C dJx4a65c_clear_da8c8_0 rfl ?_
  refine z_dup C dJx4a65c_clear_da8c8_1 rfl ?_
  refine z_getf C zf_Jx4a65c_63 dJx4a65c_clear_da8c8_2 (by first | assumption | exact zk_eq | exact zk_ne (by first | assumption | exact zk_eq | exact zk_ne (by first | assumption | exact zk_eq | exact zk_ne (by first | assumption | exact zk_eq | exact zk_ne (by first | assumption | exact zk_eq | exact zk_ne (by first | assumption | exact zk_eq) (by first | decide | omega)) (by first | decide | omega)) (by first | decide | omega)) (by first | decide | omega)) (by first | decide | omega)) (by rfl) ?_
  refine z_iconst C (1) dJx4a65c_clear_da8c8_5 (by decide) ?_
  refine z_iadd C dJx4a65c_clear_da8c8_6 ?_
  refine z_putf C (fs1 := [_, _, _]) zp_Jx4a65c_63 dJx4a65c_clear_da8c8_7 (by first | assumption | exact zk_eq | exact zk_ne (by first | assumption | exact zk_eq | exact zk_ne (by first | assumption | exact zk_eq | exact zk_ne (by first | assumption | exact zk_eq | exact zk_ne (by first | assumption | exact zk_eq | exact zk_ne (by first | assumption | exact zk_eq) (by first | decide | omega)) (by first | decide | omega)) (by first | decide | omega)) (by first | decide | omega)) (by first | decide | omega)) (by first | rfl | exact zb_nar _ | assumption) (by first | rfl | exact zb_fit _ | assumption) (by exact Nat.le_of_ble_eq_true rfl) (by rfl) ?_
  refine z_aload_n C dJx4a65c_clear_da8c8_10 rfl ?_
  refine z_getf C zf_Jx4a65c_9 dJx4a65c_clear_da8c8_11 (by first | assumption | exact zk_eq | exact zk_ne (by first | assumption | exact zk_eq | exact zk_ne (by first | assumption | exact zk_eq | exact zk_ne (by first | assumption | exact zk_eq | exact zk_ne (by first | assumption | exact zk_eq | exact zk_ne (by first | assumption | exact zk_eq) (by first | decide | omega)) (by first | decide | omega)) (by first | decide | omega)) (by first | decide | omega)) (by first | decide | omega)) (by rfl) ?_
  refine z_astore_n C (L1 := [_, _, _, _]) dJx4a65c_clear_da8c8_14 (Nat.le_of_ble_eq_true rfl) rfl ?_
  refine z_aload_n C dJx4a65c_clear_da8c8_15 rfl ?_
  refine z_getf C zf_Jx4a65c_48 dJx4a65c_clear_da8c8_16 (by first | assumption | exact zk_eq | exact zk_ne (by first | assumption | exact zk_eq | exact zk_ne (by first | assumption | exact zk_eq | exact zk_ne (by first | assumption | exact zk_eq | exact zk_ne (by first | assumption | exact zk_eq | exact zk_ne (by first | assumption | exact zk_eq) (by first | decide | omega)) (by first | decide | omega)) (by first | decide | omega)) (by first | decide | omega)) (by first | decide | omega)) (by rfl) ?_
  refine z_istore_n C (L1 := [_, _, _, _]) dJx4a65c_clear_da8c8_19 (Nat.le_of_ble_eq_true rfl) rfl ?_
  refine z_aload_n C dJx4a65c_clear_da8c8_20 rfl ?_
  refine z_iconst C (0) dJx4a65c_clear_da8c8_21 (by decide) ?_
  refine z_dup_x1 C dJx4a65c_clear_da8c8_22 rfl rfl ?_
  refine z_putf C (fs1 := [_, _, _]) zp_Jx4a65c_48 dJx4a65c_clear_da8c8_23 (by first | assumption | exact zk_eq | exact zk_ne (by first | assumption | exact zk_eq | exact zk_ne (by first | assumption | exact zk_eq | exact zk_ne (by first | assumption | exact zk_eq | exact zk_ne (by first | assumption | exact zk_eq | exact zk_ne (by first | assumption | exact zk_eq) (by first | decide | omega)) (by first | decide | omega)) (by first | decide | omega)) (by first | decide | omega)) (by first | decide | omega)) (by first | rfl | exact zb_nar _ | assumption) (by first | rfl | exact zb_fit _ | assumption) (by exact Nat.le_of_ble_eq_true rfl) (by rfl) ?_
  refine z_istore_n C (L1 := [_, _, _, _]) dJx4a65c_clear_da8c8_26 (Nat.le_of_ble_eq_true rfl) rfl ?_
  rcases h2 with ⟨rfl, rfl⟩ | ⟨n, f, h2, h3, h4, h5, h6⟩
  · refine z_iload_n C dJx4a65c_clear_da8c8_27 rfl ?_
    refine z_iload_n C dJx4a65c_clear_da8c8_28 rfl ?_
    refine z_icmp_ge C 42 dJx4a65c_clear_da8c8_29 (by decide) (fun h3 => ?_) (fun h3 => ?_)
    · refine z_vret C hret dJx4a65c_clear_da8c8_42 (by first | exact Nat.le_of_ble_eq_true rfl | omega) (by first | exact Nat.le_of_ble_eq_true rfl | omega) ?_
      exact ⟨rfl, ⟨md + 1, _, (by first | assumption | exact zk_eq | exact zk_ne (by first | assumption | exact zk_eq | exact zk_ne (by first | assumption | exact zk_eq | exact zk_ne (by first | assumption | exact zk_eq | exact zk_ne (by first | assumption | exact zk_eq | exact zk_ne (by first | assumption | exact zk_eq) (by first | decide | omega)) (by first | decide | omega)) (by first | decide | omega)) (by first | decide | omega)) (by first | decide | omega)), Or.inl ⟨rfl, rfl⟩⟩, fun q q1 q2 q3 => by (repeat (refine (va_up_ne _ _ (by first | assumption | omega)).trans ?_)); rfl⟩
    · exact absurd (Int32.le_refl 0) h3
  · refine z_ind (σ := Nat × zW × (Nat → Option Nat)) (fun x => x.1 ≤ xs.length ∧ x.2.1 k = some (a, zLo (md + 1) b 0) ∧ x.2.1 (k + 1) = some (b, zRo z n x.2.2) ∧ zFk k w x.2.1) (fun x => xs.length - x.1) (fun _ => 0) (fun _ => 0)
      (fun x => [some (.ref a), some (.ref b), some (.int (nI xs.length)), some (.int (nI x.1))]) (fun x => x.2.1) (0, _, f) ⟨Nat.zero_le _, (by first | assumption | exact zk_eq | exact zk_ne (by first | assumption | exact zk_eq | exact zk_ne (by first | assumption | exact zk_eq | exact zk_ne (by first | assumption | exact zk_eq | exact zk_ne (by first | assumption | exact zk_eq | exact zk_ne (by first | assumption | exact zk_eq) (by first | decide | omega)) (by first | decide | omega)) (by first | decide | omega)) (by first | decide | omega)) (by first | decide | omega)), (by first | assumption | exact zk_eq | exact zk_ne (by first | assumption | exact zk_eq | exact zk_ne (by first | assumption | exact zk_eq | exact zk_ne (by first | assumption | exact zk_eq | exact zk_ne (by first | assumption | exact zk_eq | exact zk_ne (by first | assumption | exact zk_eq) (by first | decide | omega)) (by first | decide | omega)) (by first | decide | omega)) (by first | decide | omega)) (by first | decide | omega)), fun q q1 q2 q3 => by (repeat (refine (va_up_ne _ _ (by first | assumption | omega)).trans ?_)); rfl⟩ ?_
    rintro ⟨i, w2, f2⟩ ⟨g1, g2, g3, g4⟩ ih
    dsimp only at g1 g2 g3 g4 ih ⊢
    refine z_iload_n C dJx4a65c_clear_da8c8_27 rfl ?_
    refine z_iload_n C dJx4a65c_clear_da8c8_28 rfl ?_
    refine z_icmp_ge C 42 dJx4a65c_clear_da8c8_29 (by decide) (fun q3 => ?_) (fun q3 => ?_)
    · refine z_vret C hret dJx4a65c_clear_da8c8_42 (by first | exact Nat.le_of_ble_eq_true rfl | omega) (by first | exact Nat.le_of_ble_eq_true rfl | omega) ?_
      exact ⟨rfl, ⟨md + 1, b, g2, Or.inr ⟨n, f2, g3, Nat.zero_le _, h4, h5, fun q hq => absurd hq (Nat.not_lt_zero _)⟩⟩, g4⟩
    · have hi : i < xs.length := by
        rcases Nat.lt_or_ge i xs.length with q | q
        · exact q
        · exact absurd (nI_le q (by omega)) q3
      refine z_aload_n C dJx4a65c_clear_da8c8_32 rfl ?_
      refine z_iload_n C dJx4a65c_clear_da8c8_33 rfl ?_
      refine z_null C dJx4a65c_clear_da8c8_34 ?_
      refine z_aastN C dJx4a65c_clear_da8c8_35 (by first | assumption | exact zk_eq | exact zk_ne (by first | assumption | exact zk_eq | exact zk_ne (by first | assumption | exact zk_eq | exact zk_ne (by first | assumption | exact zk_eq | exact zk_ne (by first | assumption | exact zk_eq | exact zk_ne (by first | assumption | exact zk_eq) (by first | decide | omega)) (by first | decide | omega)) (by first | decide | omega)) (by first | decide | omega)) (by first | decide | omega)) rfl (show i < n by omega) (by omega) ?_
      refine z_iinc C (L1 := [_, _, _, _]) _ dJx4a65c_clear_da8c8_36 rfl (by first | exact zinc | exact zdec | rfl) rfl ?_
      refine z_goto C 27 dJx4a65c_clear_da8c8_39 (by decide) ?_
      exact ih (i + 1, _, _) ⟨hi, (by first | assumption | exact zk_eq | exact zk_ne (by first | assumption | exact zk_eq | exact zk_ne (by first | assumption | exact zk_eq | exact zk_ne (by first | assumption | exact zk_eq | exact zk_ne (by first | assumption | exact zk_eq | exact zk_ne (by first | assumption | exact zk_eq) (by first | decide | omega)) (by first | decide | omega)) (by first | decide | omega)) (by first | decide | omega)) (by first | decide | omega)), (by first | assumption | exact zk_eq | exact zk_ne (by first | assumption | exact zk_eq | exact zk_ne (by first | assumption | exact zk_eq | exact zk_ne (by first | assumption | exact zk_eq | exact zk_ne (by first | assumption | exact zk_eq | exact zk_ne (by first | assumption | exact zk_eq) (by first | decide | omega)) (by first | decide | omega)) (by first | decide | omega)) (by first | decide | omega)) (by first | decide | omega)), fun q q1 q2 q3 => by (repeat (refine (va_up_ne _ _ (by first | assumption | omega)).trans ?_)); exact g4 q q1 q2 q3⟩ (by show _ - _ < _ - _; omega)
theorem c_newLength (hl : l.stackTraces = false) {n h : Nat} (hn : n + max 1 h ≤ 1000) : ZM l z mJ8_newLength_cabcc 1 0 0 [.int (nI n), .int (nI 1), .int (nI h)] w (fun r w1 => r = some (.int (nI (n + max 1 h))) ∧ w1 = w) zNo := by
  refine zbody (M := mJ8_newLength_cabcc) (L0 := [_, _, _, _]) hl (by simp [Value.category]) (Nat.le_of_ble_eq_true rfl) (by decide +kernel) rfl ?_
  intro p e s m args below meth c C hX hnm hret
  replace C : zC z p l s m args meth c cJ8_newLength_cabcc RJ8 4 := C
  replace hret : meth.sig.returnType = (some .int) := hret
  refine z_iload_n C dJ8_newLength_cabcc_0 rfl ?_
  refine z_iload_n C dJ8_newLength_cabcc_1 rfl ?_
  refine z_iload_n C dJ8_newLength_cabcc_2 rfl ?_
  refine z_max C zl_J8_194 dJ8_newLength_cabcc_3 rfl (by exact Nat.le_of_ble_eq_true rfl) (by exact Nat.le_of_ble_eq_true rfl) (by first | exact ⟨Nat.le_of_ble_eq_true rfl, Nat.le_of_ble_eq_true rfl⟩ | (simp only [zrm]; omega)) ?_
  rw [zmaxI (by decide) (by omega)]
  refine z_iadd C dJ8_newLength_cabcc_6 ?_
  rw [nI_add]
  refine z_istore_n C (L1 := [_, _, _, _]) dJ8_newLength_cabcc_7 (Nat.le_of_ble_eq_true rfl) rfl ?_
  refine z_iconst C (0) dJ8_newLength_cabcc_8 (by decide) ?_
  refine z_iload_n C dJ8_newLength_cabcc_9 rfl ?_
  refine z_icmp_ge C 21 dJ8_newLength_cabcc_10 (by decide) (fun h1 => ?_) (fun h1 => ?_)
  · exact absurd h1 (nI_nle (by omega) (by omega))
  refine z_iload_n C dJ8_newLength_cabcc_13 rfl ?_
  refine z_ldc C (2147483639) dJ8_newLength_cabcc_14 zco ?_
  refine z_icmp_gt C 21 dJ8_newLength_cabcc_16 (by decide) (fun h2 => ?_) (fun h2 => ?_)
  · exact absurd h2 (show ¬ nI 2147483639 < nI _ from nI_nlt (by omega) (by decide))
  refine z_iload_n C dJ8_newLength_cabcc_19 rfl ?_
  refine z_iret C hret dJ8_newLength_cabcc_20 (by first | exact Nat.le_of_ble_eq_true rfl | omega) (by first | exact Nat.le_of_ble_eq_true rfl | omega) ?_
  exact ⟨rfl, rfl⟩
theorem c_copyOf3 (hl : l.stackTraces = false) {k b n n2 : Nat} {f : Nat → Option Nat} (h : w k = some (b, zRo z n f)) (hn : n ≤ n2) (h2 : n2 ≤ 64) (hk : k < 99) (hel : ∀ i : Nat, i < n → ∀ y : Nat, f i = some y → zWk w y) : ZM l z mJ7_copyOf_6403c 2 1 64 [.ref b, .int (nI n2), .ref z.2.2.2.2] w (fun r w1 => ∃ (q : Nat) (g : Nat → Option Nat), r = some (.ref q) ∧ w1 = va_up w 99 (some (q, zRo z n2 g)) ∧ ∀ i : Nat, i < n → g i = f i) zNo := by
  refine zbody (M := mJ7_copyOf_6403c) (L0 := [_, _, _, _]) hl (by simp [Value.category]) (Nat.le_of_ble_eq_true rfl) (by decide +kernel) rfl ?_
  intro p e s m args below meth c C hX hnm hret
  replace C : zC z p l s m args meth c cJ7_copyOf_6403c RJ7 4 := C
  replace hret : meth.sig.returnType = (some (.array (.object "java/lang/Object"))) := hret
  refine z_aload_n C dJ7_copyOf_6403c_0 rfl ?_
  refine z_ldcM C dJ7_copyOf_6403c_1 zk_J7_110 ?_
  refine z_acmp_ne C 13 dJ7_copyOf_6403c_3 (by decide) (fun h1 => ?_) (fun h1 => ?_)
  · exact absurd rfl h1
  refine z_iload_n C dJ7_copyOf_6403c_6 rfl ?_
  refine z_newq C 99 (n := n2) rfl (by omega) zk_J7_2 dJ7_copyOf_6403c_7 (by exact Nat.le_of_ble_eq_true rfl) (by simp only [zrm]; omega) (fun q hq => ?_)
  refine z_goto C 24 dJ7_copyOf_6403c_10 (by decide) ?_
  refine z_astore_n C (L1 := [_, _, _, _]) dJ7_copyOf_6403c_24 (Nat.le_of_ble_eq_true rfl) rfl ?_
  refine z_aload_n C dJ7_copyOf_6403c_25 rfl ?_
  refine z_iconst C (0) dJ7_copyOf_6403c_26 (by decide) ?_
  refine z_aload_n C dJ7_copyOf_6403c_27 rfl ?_
  refine z_iconst C (0) dJ7_copyOf_6403c_28 (by decide) ?_
  refine z_aload_n C dJ7_copyOf_6403c_29 rfl ?_
  refine z_alen C dJ7_copyOf_6403c_30 (by first | assumption | exact zk_eq | exact zk_ne (by first | assumption | exact zk_eq | exact zk_ne (by first | assumption | exact zk_eq | exact zk_ne (by first | assumption | exact zk_eq | exact zk_ne (by first | assumption | exact zk_eq | exact zk_ne (by first | assumption | exact zk_eq) (by first | decide | omega)) (by first | decide | omega)) (by first | decide | omega)) (by first | decide | omega)) (by first | decide | omega)) (by decide) ?_
  refine z_iload_n C dJ7_copyOf_6403c_31 rfl ?_
  refine z_min C zl_J7_304 dJ7_copyOf_6403c_32 rfl (by exact Nat.le_of_ble_eq_true rfl) (by exact Nat.le_of_ble_eq_true rfl) (by simp only [zrm]; omega) ?_
  rw [zminI (by show n < _; omega) (by omega), Nat.min_eq_left hn]
  refine z_copy C (k0 := k) (k1 := 99) (sp := 0) (dp := 0) (n := n) zl_J7_150 dJ7_copyOf_6403c_35 (by first | assumption | exact zk_eq | exact zk_ne (by first | assumption | exact zk_eq | exact zk_ne (by first | assumption | exact zk_eq | exact zk_ne (by first | assumption | exact zk_eq | exact zk_ne (by first | assumption | exact zk_eq | exact zk_ne (by first | assumption | exact zk_eq) (by first | decide | omega)) (by first | decide | omega)) (by first | decide | omega)) (by first | decide | omega)) (by first | decide | omega)) (by first | assumption | exact zk_eq | exact zk_ne (by first | assumption | exact zk_eq | exact zk_ne (by first | assumption | exact zk_eq | exact zk_ne (by first | assumption | exact zk_eq | exact zk_ne (by first | assumption | exact zk_eq | exact zk_ne (by first | assumption | exact zk_eq) (by first | decide | omega)) (by first | decide | omega)) (by first | decide | omega)) (by first | decide | omega)) (by first | decide | omega)) rfl rfl rfl (by omega) (by omega) (by omega) (by omega) (fun i hi y hy => ?_) rfl (by exact Nat.le_of_ble_eq_true rfl) (by exact Nat.le_of_ble_eq_true rfl) ?_
  · rw [Nat.zero_add] at hy
    obtain ⟨j, vs, hj, hjv⟩ := hel i hi y hy
    exact ⟨j, vs, (by first | assumption | exact zk_eq | exact zk_ne (by first | assumption | exact zk_eq | exact zk_ne (by first | assumption | exact zk_eq | exact zk_ne (by first | assumption | exact zk_eq | exact zk_ne (by first | assumption | exact zk_eq | exact zk_ne (by first | assumption | exact zk_eq) (by first | decide | omega)) (by first | decide | omega)) (by first | decide | omega)) (by first | decide | omega)) (by first | decide | omega))⟩
  refine z_aload_n C dJ7_copyOf_6403c_38 rfl ?_
  refine z_widen (c2 := 1) (s2 := 64) (by omega) (by omega) ?_
  refine z_aret C hret (Or.inr ⟨_, rfl⟩) (by first | exact Or.inr ⟨_, rfl⟩ | exact va_rf_or _ | exact Or.inl rfl) dJ7_copyOf_6403c_39 (by first | exact Nat.le_of_ble_eq_true rfl | omega) (by first | exact Nat.le_of_ble_eq_true rfl | omega) ?_
  refine ⟨q, _, rfl, bx_uu _ _ _ _, fun i hi => ?_⟩
  rw [pk_cpy_in (Nat.zero_le _) (by omega)]
  simp
theorem c_copyOf2 (hl : l.stackTraces = false) {k b n n2 : Nat} {f : Nat → Option Nat} (h : w k = some (b, zRo z n f)) (hn : n ≤ n2) (h2 : n2 ≤ 64) (hk : k < 99) (hel : ∀ i : Nat, i < n → ∀ y : Nat, f i = some y → zWk w y) : ZM l z mJ7_copyOf_1904c 3 1 64 [.ref b, .int (nI n2)] w (fun r w1 => ∃ (q : Nat) (g : Nat → Option Nat), r = some (.ref q) ∧ w1 = va_up w 99 (some (q, zRo z n2 g)) ∧ ∀ i : Nat, i < n → g i = f i) zNo := by
  refine zbody (M := mJ7_copyOf_1904c) (L0 := [_, _]) hl (by simp [Value.category]) (Nat.le_of_ble_eq_true rfl) (by decide +kernel) rfl ?_
  intro p e s m args below meth c C hX hnm hret
  replace C : zC z p l s m args meth c cJ7_copyOf_1904c RJ7 2 := C
  replace hret : meth.sig.returnType = (some (.array (.object "java/lang/Object"))) := hret
  refine z_aload_n C dJ7_copyOf_1904c_0 rfl ?_
  refine z_iload_n C dJ7_copyOf_1904c_1 rfl ?_
  refine z_aload_n C dJ7_copyOf_1904c_2 rfl ?_
  refine z_getC C zl_J7_86 zgc_s zgc_i zgc_n dJ7_copyOf_1904c_3 (by first | assumption | exact zk_eq | exact zk_ne (by first | assumption | exact zk_eq | exact zk_ne (by first | assumption | exact zk_eq | exact zk_ne (by first | assumption | exact zk_eq | exact zk_ne (by first | assumption | exact zk_eq | exact zk_ne (by first | assumption | exact zk_eq) (by first | decide | omega)) (by first | decide | omega)) (by first | decide | omega)) (by first | decide | omega)) (by first | decide | omega)) rfl (by exact Nat.le_of_ble_eq_true rfl) (by exact Nat.le_of_ble_eq_true rfl) ?_
  refine z_callS C zm_J7_copyOf_6403c zl_J7_300 (c_copyOf3 hl h hn h2 hk hel) dJ7_copyOf_1904c_6 (by rfl) (by rfl) (by exact Nat.le_of_ble_eq_true rfl) rfl (by exact ⟨Nat.le_of_ble_eq_true rfl, Nat.le_of_ble_eq_true rfl⟩) (by first | exact ⟨Nat.le_of_ble_eq_true rfl, Nat.le_of_ble_eq_true rfl⟩ | (simp only [zrm]; omega)) (fun _ _ h => z_xno h) (fun r w1 hq => ?_)
  obtain ⟨q, g, rfl, rfl, hg⟩ := hq
  refine z_aret C hret (Or.inr ⟨_, rfl⟩) (by first | exact Or.inr ⟨_, rfl⟩ | exact va_rf_or _ | exact Or.inl rfl) dJ7_copyOf_1904c_9 (by first | exact Nat.le_of_ble_eq_true rfl | omega) (by first | exact Nat.le_of_ble_eq_true rfl | omega) ?_
  exact ⟨q, g, rfl, rfl, hg⟩
/-- a list before it grows: full, or the shared row -/
def zFull (z : zT) (w : zW) (k a : Nat) (md : Int32) (b sz : Nat) (f : Nat → Option Nat) : Prop := w k = some (a, zLo md b sz) ∧ ((sz = 0 ∧ b = z.2.2.2.1) ∨ (w (k + 1) = some (b, zRo z sz f) ∧ 10 ≤ sz ∧ sz ≤ 40 ∧ ∀ i : Nat, i < sz → ∀ y : Nat, f i = some y → zWk w y))
theorem c_grow1 (hl : l.stackTraces = false) {k a b sz : Nat} {md : Int32} {f : Nat → Option Nat} (h : zFull z w k a md b sz f) (hk : k + 1 < 99) : ZM l z mJx4a65c_grow_92f84 4 1 64 [.ref a, .int (nI (sz + 1))] w (fun r w1 => ∃ (q n : Nat) (g : Nat → Option Nat), r = some (.ref q) ∧ w1 k = some (a, zLo md q sz) ∧ w1 (k + 1) = some (q, zRo z n g) ∧ sz < n ∧ 10 ≤ n ∧ n ≤ 64 ∧ (∀ i : Nat, i < sz → g i = f i) ∧ zFk k w w1) zNo := by
  obtain ⟨h1, ⟨rfl, rfl⟩ | ⟨h2, h3, h4, h5⟩⟩ := h
  · refine zbody (M := mJx4a65c_grow_92f84) (L0 := [_, _, _, _]) hl (by simp [Value.category]) (Nat.le_of_ble_eq_true rfl) (by decide +kernel) rfl ?_
    intro p e s m args below meth c C hX hnm hret
    replace C : zC z p l s m args meth c cJx4a65c_grow_92f84 RJx4a65c 4 := C
    replace hret : meth.sig.returnType = (some (.array (.object "java/lang/Object"))) := hret
    refine z_aload_n C dJx4a65c_grow_92f84_0 rfl ?_
    refine z_getf C zf_Jx4a65c_9 dJx4a65c_grow_92f84_1 (by first | assumption | exact zk_eq | exact zk_ne (by first | assumption | exact zk_eq | exact zk_ne (by first | assumption | exact zk_eq | exact zk_ne (by first | assumption | exact zk_eq | exact zk_ne (by first | assumption | exact zk_eq | exact zk_ne (by first | assumption | exact zk_eq) (by first | decide | omega)) (by first | decide | omega)) (by first | decide | omega)) (by first | decide | omega)) (by first | decide | omega)) (by rfl) ?_
    refine z_alen0 C dJx4a65c_grow_92f84_4 ?_
    refine z_istore_n C (L1 := [_, _, _, _]) dJx4a65c_grow_92f84_5 (Nat.le_of_ble_eq_true rfl) rfl ?_
    refine z_iload_n C dJx4a65c_grow_92f84_6 rfl ?_
    refine z_if_gt C 20 dJx4a65c_grow_92f84_7 (by decide) (fun q1 => ?_) (fun q1 => ?_)
    · exact absurd q1 (by decide)
    refine z_aload_n C dJx4a65c_grow_92f84_10 rfl ?_
    refine z_getf C zf_Jx4a65c_9 dJx4a65c_grow_92f84_11 (by first | assumption | exact zk_eq | exact zk_ne (by first | assumption | exact zk_eq | exact zk_ne (by first | assumption | exact zk_eq | exact zk_ne (by first | assumption | exact zk_eq | exact zk_ne (by first | assumption | exact zk_eq | exact zk_ne (by first | assumption | exact zk_eq) (by first | decide | omega)) (by first | decide | omega)) (by first | decide | omega)) (by first | decide | omega)) (by first | decide | omega)) (by rfl) ?_
    refine z_gets C zw_Jx4a65c_39 dJx4a65c_grow_92f84_14 ?_
    refine z_acmp_eq C 45 dJx4a65c_grow_92f84_17 (by decide) (fun q2 => ?_) (fun q2 => ?_)
    · refine z_aload_n C dJx4a65c_grow_92f84_45 rfl ?_
      refine z_bipush C (10) dJx4a65c_grow_92f84_46 (by decide) ?_
      refine z_iload_n C dJx4a65c_grow_92f84_48 rfl ?_
      refine z_max C zl_Jx4a65c_79 dJx4a65c_grow_92f84_49 rfl (by exact Nat.le_of_ble_eq_true rfl) (by exact Nat.le_of_ble_eq_true rfl) (by first | exact ⟨Nat.le_of_ble_eq_true rfl, Nat.le_of_ble_eq_true rfl⟩ | (simp only [zrm]; omega)) ?_
      refine z_newq C (k + 1) (n := 10) (by decide) (by omega) zk_Jx4a65c_7 dJx4a65c_grow_92f84_52 (by exact Nat.le_of_ble_eq_true rfl) (by exact Nat.le_of_ble_eq_true rfl) (fun q hq => ?_)
      refine z_dup_x1 C dJx4a65c_grow_92f84_55 rfl rfl ?_
      refine z_putf C (fs1 := [_, _, _]) zp_Jx4a65c_9 dJx4a65c_grow_92f84_56 (by first | assumption | exact zk_eq | exact zk_ne (by first | assumption | exact zk_eq | exact zk_ne (by first | assumption | exact zk_eq | exact zk_ne (by first | assumption | exact zk_eq | exact zk_ne (by first | assumption | exact zk_eq | exact zk_ne (by first | assumption | exact zk_eq) (by first | decide | omega)) (by first | decide | omega)) (by first | decide | omega)) (by first | decide | omega)) (by first | decide | omega)) (by first | rfl | exact zb_nar _ | assumption) (by first | rfl | exact zb_fit _ | assumption) (by exact Nat.le_of_ble_eq_true rfl) (by rfl) ?_
      refine z_widen (c2 := 1) (s2 := 64) (by omega) (by omega) ?_
      refine z_aret C hret (Or.inr ⟨_, rfl⟩) (by first | exact Or.inr ⟨_, rfl⟩ | exact va_rf_or _ | exact Or.inl rfl) dJx4a65c_grow_92f84_59 (by first | exact Nat.le_of_ble_eq_true rfl | omega) (by first | exact Nat.le_of_ble_eq_true rfl | omega) ?_
      exact ⟨q, 10, _, rfl, (by first | assumption | exact zk_eq | exact zk_ne (by first | assumption | exact zk_eq | exact zk_ne (by first | assumption | exact zk_eq | exact zk_ne (by first | assumption | exact zk_eq | exact zk_ne (by first | assumption | exact zk_eq | exact zk_ne (by first | assumption | exact zk_eq) (by first | decide | omega)) (by first | decide | omega)) (by first | decide | omega)) (by first | decide | omega)) (by first | decide | omega)), (by first | assumption | exact zk_eq | exact zk_ne (by first | assumption | exact zk_eq | exact zk_ne (by first | assumption | exact zk_eq | exact zk_ne (by first | assumption | exact zk_eq | exact zk_ne (by first | assumption | exact zk_eq | exact zk_ne (by first | assumption | exact zk_eq) (by first | decide | omega)) (by first | decide | omega)) (by first | decide | omega)) (by first | decide | omega)) (by first | decide | omega)), by omega, by omega, by omega, fun i hi => absurd hi (Nat.not_lt_zero _), fun q q1 q2 q3 => by (repeat (refine (va_up_ne _ _ (by first | assumption | omega)).trans ?_)); rfl⟩
    · exact absurd rfl q2
  · refine zbody (M := mJx4a65c_grow_92f84) (L0 := [_, _, _, _]) hl (by simp [Value.category]) (Nat.le_of_ble_eq_true rfl) (by decide +kernel) rfl ?_
    intro p e s m args below meth c C hX hnm hret
    replace C : zC z p l s m args meth c cJx4a65c_grow_92f84 RJx4a65c 4 := C
    replace hret : meth.sig.returnType = (some (.array (.object "java/lang/Object"))) := hret
    refine z_aload_n C dJx4a65c_grow_92f84_0 rfl ?_
    refine z_getf C zf_Jx4a65c_9 dJx4a65c_grow_92f84_1 (by first | assumption | exact zk_eq | exact zk_ne (by first | assumption | exact zk_eq | exact zk_ne (by first | assumption | exact zk_eq | exact zk_ne (by first | assumption | exact zk_eq | exact zk_ne (by first | assumption | exact zk_eq | exact zk_ne (by first | assumption | exact zk_eq) (by first | decide | omega)) (by first | decide | omega)) (by first | decide | omega)) (by first | decide | omega)) (by first | decide | omega)) (by rfl) ?_
    refine z_alen C dJx4a65c_grow_92f84_4 (by first | assumption | exact zk_eq | exact zk_ne (by first | assumption | exact zk_eq | exact zk_ne (by first | assumption | exact zk_eq | exact zk_ne (by first | assumption | exact zk_eq | exact zk_ne (by first | assumption | exact zk_eq | exact zk_ne (by first | assumption | exact zk_eq) (by first | decide | omega)) (by first | decide | omega)) (by first | decide | omega)) (by first | decide | omega)) (by first | decide | omega)) (by decide) ?_
    refine z_istore_n C (L1 := [_, _, _, _]) dJx4a65c_grow_92f84_5 (Nat.le_of_ble_eq_true rfl) rfl ?_
    refine z_iload_n C dJx4a65c_grow_92f84_6 rfl ?_
    refine z_if_gt C 20 dJx4a65c_grow_92f84_7 (by decide) (fun q1 => ?_) (fun q1 => ?_)
    · refine z_iload_n C dJx4a65c_grow_92f84_20 rfl ?_
      refine z_iload_n C dJx4a65c_grow_92f84_21 rfl ?_
      refine z_iload_n C dJx4a65c_grow_92f84_22 rfl ?_
      refine z_isub C dJx4a65c_grow_92f84_23 ?_
      rw [show nI (sz + 1) - nI sz = nI 1 by rw [pk_sub (by omega), Nat.add_sub_cancel_left]]
      refine z_iload_n C dJx4a65c_grow_92f84_24 rfl ?_
      refine z_iconst C (1) dJx4a65c_grow_92f84_25 (by decide) ?_
      refine z_ishr C dJx4a65c_grow_92f84_26 ?_
      rw [zhalf (by omega)]
      refine z_callS C zm_J8_newLength_cabcc zl_Jx4a65c_73 (c_newLength (n := sz) (h := sz / 2) hl (by omega)) dJx4a65c_grow_92f84_27 (by rfl) (by rfl) (by exact Nat.le_of_ble_eq_true rfl) rfl (by exact ⟨Nat.le_of_ble_eq_true rfl, Nat.le_of_ble_eq_true rfl⟩) (by first | exact ⟨Nat.le_of_ble_eq_true rfl, Nat.le_of_ble_eq_true rfl⟩ | (simp only [zrm]; omega)) (fun _ _ h => z_xno h) (fun r w1 hq => ?_)
      obtain ⟨rfl, rfl⟩ := hq
      refine z_istore_n C (L1 := [_, _, _, _]) dJx4a65c_grow_92f84_30 (Nat.le_of_ble_eq_true rfl) rfl ?_
      refine z_aload_n C dJx4a65c_grow_92f84_31 rfl ?_
      refine z_aload_n C dJx4a65c_grow_92f84_32 rfl ?_
      refine z_getf C zf_Jx4a65c_9 dJx4a65c_grow_92f84_33 (by first | assumption | exact zk_eq | exact zk_ne (by first | assumption | exact zk_eq | exact zk_ne (by first | assumption | exact zk_eq | exact zk_ne (by first | assumption | exact zk_eq | exact zk_ne (by first | assumption | exact zk_eq | exact zk_ne (by first | assumption | exact zk_eq) (by first | decide | omega)) (by first | decide | omega)) (by first | decide | omega)) (by first | decide | omega)) (by first | decide | omega)) (by rfl) ?_
      refine z_iload_n C dJx4a65c_grow_92f84_36 rfl ?_
      refine z_callS C zm_J7_copyOf_1904c zl_Jx4a65c_66 (c_copyOf2 (n2 := sz + max 1 (sz / 2)) hl h2 (by omega) (by omega) hk h5) dJx4a65c_grow_92f84_37 (by rfl) (by rfl) (by exact Nat.le_of_ble_eq_true rfl) rfl (by exact ⟨Nat.le_of_ble_eq_true rfl, Nat.le_of_ble_eq_true rfl⟩) (by first | exact ⟨Nat.le_of_ble_eq_true rfl, Nat.le_of_ble_eq_true rfl⟩ | (simp only [zrm]; omega)) (fun _ _ h => z_xno h) (fun r w1 hq => ?_)
      obtain ⟨q, g, rfl, rfl, hg⟩ := hq
      refine z_dup_x1 C dJx4a65c_grow_92f84_40 rfl rfl ?_
      refine z_putf C (fs1 := [_, _, _]) zp_Jx4a65c_9 dJx4a65c_grow_92f84_41 (by first | assumption | exact zk_eq | exact zk_ne (by first | assumption | exact zk_eq | exact zk_ne (by first | assumption | exact zk_eq | exact zk_ne (by first | assumption | exact zk_eq | exact zk_ne (by first | assumption | exact zk_eq | exact zk_ne (by first | assumption | exact zk_eq) (by first | decide | omega)) (by first | decide | omega)) (by first | decide | omega)) (by first | decide | omega)) (by first | decide | omega)) (by first | rfl | exact zb_nar _ | assumption) (by first | rfl | exact zb_fit _ | assumption) (by exact Nat.le_of_ble_eq_true rfl) (by rfl) ?_
      refine z_ren 99 (k + 1) ?_
      refine z_aret C hret (Or.inr ⟨_, rfl⟩) (by first | exact Or.inr ⟨_, rfl⟩ | exact va_rf_or _ | exact Or.inl rfl) dJx4a65c_grow_92f84_44 (by first | exact Nat.le_of_ble_eq_true rfl | omega) (by first | exact Nat.le_of_ble_eq_true rfl | omega) ?_
      refine ⟨q, sz + max 1 (sz / 2), g, rfl, ?_, ?_, by omega, by omega, by omega, hg, fun j j1 j2 j3 => ?_⟩
      · dsimp only
        rw [if_neg (by omega), if_neg (by omega)]
        exact (by first | assumption | exact zk_eq | exact zk_ne (by first | assumption | exact zk_eq | exact zk_ne (by first | assumption | exact zk_eq | exact zk_ne (by first | assumption | exact zk_eq | exact zk_ne (by first | assumption | exact zk_eq | exact zk_ne (by first | assumption | exact zk_eq) (by first | decide | omega)) (by first | decide | omega)) (by first | decide | omega)) (by first | decide | omega)) (by first | decide | omega))
      · dsimp only
        rw [if_pos rfl]
        exact (by first | assumption | exact zk_eq | exact zk_ne (by first | assumption | exact zk_eq | exact zk_ne (by first | assumption | exact zk_eq | exact zk_ne (by first | assumption | exact zk_eq | exact zk_ne (by first | assumption | exact zk_eq | exact zk_ne (by first | assumption | exact zk_eq) (by first | decide | omega)) (by first | decide | omega)) (by first | decide | omega)) (by first | decide | omega)) (by first | decide | omega))
      · dsimp only
        rw [if_neg j2, if_neg j3]
        (repeat (refine (va_up_ne _ _ (by first | assumption | omega)).trans ?_))
        rfl
    · exact absurd (show 0 < nI sz from nI_lt (a := 0) (by omega) (by omega)) q1
theorem c_grow (hl : l.stackTraces = false) {k a b sz : Nat} {md : Int32} {f : Nat → Option Nat} (h : zFull z w k a md b sz f) (hk : k + 1 < 99) : ZM l z mJx4a65c_grow_d5877 5 1 64 [.ref a] w (fun r w1 => ∃ (q n : Nat) (g : Nat → Option Nat), r = some (.ref q) ∧ w1 k = some (a, zLo md q sz) ∧ w1 (k + 1) = some (q, zRo z n g) ∧ sz < n ∧ 10 ≤ n ∧ n ≤ 64 ∧ (∀ i : Nat, i < sz → g i = f i) ∧ zFk k w w1) zNo := by
  have h1 := h.1
  refine zbody (M := mJx4a65c_grow_d5877) (L0 := [_]) hl (by simp [Value.category]) (Nat.le_of_ble_eq_true rfl) (by decide +kernel) rfl ?_
  intro p e s m args below meth c C hX hnm hret
  replace C : zC z p l s m args meth c cJx4a65c_grow_d5877 RJx4a65c 1 := C
  replace hret : meth.sig.returnType = (some (.array (.object "java/lang/Object"))) := hret
  refine z_aload_n C dJx4a65c_grow_d5877_0 rfl ?_
  refine z_aload_n C dJx4a65c_grow_d5877_1 rfl ?_
  refine z_getf C zf_Jx4a65c_48 dJx4a65c_grow_d5877_2 (by first | assumption | exact zk_eq | exact zk_ne (by first | assumption | exact zk_eq | exact zk_ne (by first | assumption | exact zk_eq | exact zk_ne (by first | assumption | exact zk_eq | exact zk_ne (by first | assumption | exact zk_eq | exact zk_ne (by first | assumption | exact zk_eq) (by first | decide | omega)) (by first | decide | omega)) (by first | decide | omega)) (by first | decide | omega)) (by first | decide | omega)) (by rfl) ?_
  refine z_iconst C (1) dJx4a65c_grow_d5877_5 (by decide) ?_
  refine z_iadd C dJx4a65c_grow_d5877_6 ?_
  rw [show nI sz + 1 = nI (sz + 1) from nI_1 sz]
  refine z_callV C zm_Jx4a65c_grow_92f84 zl_Jx4a65c_69 (c_grow1 hl h hk) dJx4a65c_grow_d5877_7 (by first | assumption | exact zk_eq | exact zk_ne (by first | assumption | exact zk_eq | exact zk_ne (by first | assumption | exact zk_eq | exact zk_ne (by first | assumption | exact zk_eq | exact zk_ne (by first | assumption | exact zk_eq | exact zk_ne (by first | assumption | exact zk_eq) (by first | decide | omega)) (by first | decide | omega)) (by first | decide | omega)) (by first | decide | omega)) (by first | decide | omega)) (by rfl) (by rfl) (by rfl) (by exact Nat.le_of_ble_eq_true rfl) rfl (by exact ⟨Nat.le_of_ble_eq_true rfl, Nat.le_of_ble_eq_true rfl⟩) (by first | exact ⟨Nat.le_of_ble_eq_true rfl, Nat.le_of_ble_eq_true rfl⟩ | (simp only [zrm]; omega)) (fun _ _ h => z_xno h) (fun r w1 hq => ?_)
  obtain ⟨q, n, g, rfl, g1, g2, g3, g4, g5, g6, g7⟩ := hq
  refine z_aret C hret (Or.inr ⟨_, rfl⟩) (by first | exact Or.inr ⟨_, rfl⟩ | exact va_rf_or _ | exact Or.inl rfl) dJx4a65c_grow_d5877_10 (by first | exact Nat.le_of_ble_eq_true rfl | omega) (by first | exact Nat.le_of_ble_eq_true rfl | omega) ?_
  exact ⟨q, n, g, rfl, g1, g2, g3, g4, g5, g6, g7⟩
/-- a list of xs, told by its parts -/
theorem zLs.mk {k a b n : Nat} {md : Int32} {f : Nat → Option Nat} {xs : List Nat} (h1 : w k = some (a, zLo md b xs.length)) (h2 : w (k + 1) = some (b, zRo z n f)) (h3 : xs.length ≤ n) (h4 : 10 ≤ n) (h5 : n ≤ 64) (h6 : ∀ i : Nat, i < xs.length → f i = xs[i]?) : zLs z w k a xs := ⟨md, b, h1, Or.inr ⟨n, f, h2, h3, h4, h5, h6⟩⟩
theorem zLs.elem {k a : Nat} {xs : List Nat} {n : Nat} {f : Nat → Option Nat} (h6 : ∀ i : Nat, i < xs.length → f i = xs[i]?) (hel : ∀ y ∈ xs, zWk w y) : ∀ i : Nat, i < xs.length → ∀ y : Nat, f i = some y → zWk w y := fun i hi y hy => hel y (List.mem_of_getElem? ((h6 i hi).symm.trans hy))
theorem c_add3 (hl : l.stackTraces = false) {k a b x : Nat} {md : Int32} {xs : List Nat} (h1 : w k = some (a, zLo md b xs.length)) (h2 : (xs = [] ∧ b = z.2.2.2.1) ∨ ∃ (n : Nat) (f : Nat → Option Nat), w (k + 1) = some (b, zRo z n f) ∧ xs.length ≤ n ∧ 10 ≤ n ∧ n ≤ 64 ∧ ∀ i : Nat, i < xs.length → f i = xs[i]?) (hlen : xs.length ≤ 40) (hel : ∀ y ∈ xs, zWk w y) (hx : zWk w x) (hk : k + 1 < 99) : ZM l z mJx4a65c_add_72be8 6 1 64 [.ref a, .ref x, .ref b, .int (nI xs.length)] w (fun r w1 => r = none ∧ zLs z w1 k a (xs ++ [x]) ∧ zFk k w w1) zNo := by
  have hlen2 : (xs ++ [x]).length = xs.length + 1 := by simp
  have key : ∀ (n q : Nat) (md : Int32) (f : Nat → Option Nat) (w1 : zW), w1 k = some (a, zLo md q (xs.length + 1)) → w1 (k + 1) = some (q, zRo z n (va_up f xs.length (some x))) → xs.length < n → 10 ≤ n → n ≤ 64 → (∀ i : Nat, i < xs.length → f i = xs[i]?) → zLs z w1 k a (xs ++ [x]) := by
    intro n q md f w1 g1 g2 g3 g4 g5 g6
    refine zLs.mk (by rw [hlen2]; exact g1) g2 (by omega) g4 g5 (fun i hi => ?_)
    by_cases e : i = xs.length
    · subst e
      rw [va_up_self]
      simp
    · rw [va_up_ne _ _ e, List.getElem?_append_left (by omega)]
      exact g6 i (by omega)
  refine zbody (M := mJx4a65c_add_72be8) (L0 := [_, _, _, _]) hl (by simp [Value.category]) (Nat.le_of_ble_eq_true rfl) (by decide +kernel) rfl ?_
  intro p e s m args below meth c C hX hnm hret
  replace C : zC z p l s m args meth c cJx4a65c_add_72be8 RJx4a65c 4 := C
  replace hret : meth.sig.returnType = none := hret
  rcases h2 with ⟨rfl, rfl⟩ | ⟨n, f, h2, h3, h4, h5, h6⟩
  · refine z_iload_n C dJx4a65c_add_72be8_0 rfl ?_
    refine z_aload_n C dJx4a65c_add_72be8_1 rfl ?_
    refine z_alen0 C dJx4a65c_add_72be8_2 ?_
    refine z_icmp_ne C 11 dJx4a65c_add_72be8_3 (by decide) (fun q1 => ?_) (fun q1 => ?_)
    · exact absurd rfl q1
    refine z_aload_n C dJx4a65c_add_72be8_6 rfl ?_
    refine z_callV C zm_Jx4a65c_grow_d5877 zl_Jx4a65c_129 (c_grow (f := fun _ => none) hl ⟨h1, Or.inl ⟨rfl, rfl⟩⟩ hk) dJx4a65c_add_72be8_7 (by first | assumption | exact zk_eq | exact zk_ne (by first | assumption | exact zk_eq | exact zk_ne (by first | assumption | exact zk_eq | exact zk_ne (by first | assumption | exact zk_eq | exact zk_ne (by first | assumption | exact zk_eq | exact zk_ne (by first | assumption | exact zk_eq) (by first | decide | omega)) (by first | decide | omega)) (by first | decide | omega)) (by first | decide | omega)) (by first | decide | omega)) (by rfl) (by rfl) (by rfl) (by exact Nat.le_of_ble_eq_true rfl) rfl (by exact ⟨Nat.le_of_ble_eq_true rfl, Nat.le_of_ble_eq_true rfl⟩) (by first | exact ⟨Nat.le_of_ble_eq_true rfl, Nat.le_of_ble_eq_true rfl⟩ | (simp only [zrm]; omega)) (fun _ _ h => z_xno h) (fun r w1 hq => ?_)
    obtain ⟨q, n, g, rfl, g1, g2, g3, g4, g5, g6, g7⟩ := hq
    obtain ⟨j, vs, hj, hjv⟩ := hx.fk g7 hk
    refine z_astore_n C (L1 := [_, _, _, _]) dJx4a65c_add_72be8_10 (Nat.le_of_ble_eq_true rfl) rfl ?_
    refine z_aload_n C dJx4a65c_add_72be8_11 rfl ?_
    refine z_iload_n C dJx4a65c_add_72be8_12 rfl ?_
    refine z_aload_n C dJx4a65c_add_72be8_13 rfl ?_
    refine z_aast C (j := 0) dJx4a65c_add_72be8_14 (by first | assumption | exact zk_eq | exact zk_ne (by first | assumption | exact zk_eq | exact zk_ne (by first | assumption | exact zk_eq | exact zk_ne (by first | assumption | exact zk_eq | exact zk_ne (by first | assumption | exact zk_eq | exact zk_ne (by first | assumption | exact zk_eq) (by first | decide | omega)) (by first | decide | omega)) (by first | decide | omega)) (by first | decide | omega)) (by first | decide | omega)) (by first | assumption | exact zk_eq | exact zk_ne (by first | assumption | exact zk_eq | exact zk_ne (by first | assumption | exact zk_eq | exact zk_ne (by first | assumption | exact zk_eq | exact zk_ne (by first | assumption | exact zk_eq | exact zk_ne (by first | assumption | exact zk_eq) (by first | decide | omega)) (by first | decide | omega)) (by first | decide | omega)) (by first | decide | omega)) (by first | decide | omega)) rfl (show 0 < n by omega) (by omega) ?_
    refine z_aload_n C dJx4a65c_add_72be8_15 rfl ?_
    refine z_iload_n C dJx4a65c_add_72be8_16 rfl ?_
    refine z_iconst C (1) dJx4a65c_add_72be8_17 (by decide) ?_
    refine z_iadd C dJx4a65c_add_72be8_18 ?_
    refine z_putf C (fs1 := [_, _, _]) zp_Jx4a65c_48 dJx4a65c_add_72be8_19 (by first | assumption | exact zk_eq | exact zk_ne (by first | assumption | exact zk_eq | exact zk_ne (by first | assumption | exact zk_eq | exact zk_ne (by first | assumption | exact zk_eq | exact zk_ne (by first | assumption | exact zk_eq | exact zk_ne (by first | assumption | exact zk_eq) (by first | decide | omega)) (by first | decide | omega)) (by first | decide | omega)) (by first | decide | omega)) (by first | decide | omega)) (by first | rfl | exact zb_nar _ | assumption) (by first | rfl | exact zb_fit _ | assumption) (by exact Nat.le_of_ble_eq_true rfl) (by rfl) ?_
    refine z_vret C hret dJx4a65c_add_72be8_22 (by first | exact Nat.le_of_ble_eq_true rfl | omega) (by first | exact Nat.le_of_ble_eq_true rfl | omega) ?_
    exact ⟨rfl, key n q md g _ (by first | assumption | exact zk_eq | exact zk_ne (by first | assumption | exact zk_eq | exact zk_ne (by first | assumption | exact zk_eq | exact zk_ne (by first | assumption | exact zk_eq | exact zk_ne (by first | assumption | exact zk_eq | exact zk_ne (by first | assumption | exact zk_eq) (by first | decide | omega)) (by first | decide | omega)) (by first | decide | omega)) (by first | decide | omega)) (by first | decide | omega)) (by first | assumption | exact zk_eq | exact zk_ne (by first | assumption | exact zk_eq | exact zk_ne (by first | assumption | exact zk_eq | exact zk_ne (by first | assumption | exact zk_eq | exact zk_ne (by first | assumption | exact zk_eq | exact zk_ne (by first | assumption | exact zk_eq) (by first | decide | omega)) (by first | decide | omega)) (by first | decide | omega)) (by first | decide | omega)) (by first | decide | omega)) (by simp; omega) g4 g5 (fun i hi => absurd hi (Nat.not_lt_zero _)), fun j j1 j2 j3 => by (repeat (refine (va_up_ne _ _ (by first | assumption | omega)).trans ?_)); exact g7 j j1 j2 j3⟩
  · refine z_iload_n C dJx4a65c_add_72be8_0 rfl ?_
    refine z_aload_n C dJx4a65c_add_72be8_1 rfl ?_
    refine z_alen C dJx4a65c_add_72be8_2 (by first | assumption | exact zk_eq | exact zk_ne (by first | assumption | exact zk_eq | exact zk_ne (by first | assumption | exact zk_eq | exact zk_ne (by first | assumption | exact zk_eq | exact zk_ne (by first | assumption | exact zk_eq | exact zk_ne (by first | assumption | exact zk_eq) (by first | decide | omega)) (by first | decide | omega)) (by first | decide | omega)) (by first | decide | omega)) (by first | decide | omega)) (by decide) ?_
    refine z_icmp_ne C 11 dJx4a65c_add_72be8_3 (by decide) (fun q1 => ?_) (fun q1 => ?_)
    · have hlt : xs.length < n := by
        rcases Nat.lt_or_ge xs.length n with q | q
        · exact q
        · exact absurd (congrArg nI (show xs.length = n by omega)) q1
      obtain ⟨j, vs, hj, hjv⟩ := hx
      refine z_aload_n C dJx4a65c_add_72be8_11 rfl ?_
      refine z_iload_n C dJx4a65c_add_72be8_12 rfl ?_
      refine z_aload_n C dJx4a65c_add_72be8_13 rfl ?_
      refine z_aast C (j := xs.length) dJx4a65c_add_72be8_14 (by first | assumption | exact zk_eq | exact zk_ne (by first | assumption | exact zk_eq | exact zk_ne (by first | assumption | exact zk_eq | exact zk_ne (by first | assumption | exact zk_eq | exact zk_ne (by first | assumption | exact zk_eq | exact zk_ne (by first | assumption | exact zk_eq) (by first | decide | omega)) (by first | decide | omega)) (by first | decide | omega)) (by first | decide | omega)) (by first | decide | omega)) (by first | assumption | exact zk_eq | exact zk_ne (by first | assumption | exact zk_eq | exact zk_ne (by first | assumption | exact zk_eq | exact zk_ne (by first | assumption | exact zk_eq | exact zk_ne (by first | assumption | exact zk_eq | exact zk_ne (by first | assumption | exact zk_eq) (by first | decide | omega)) (by first | decide | omega)) (by first | decide | omega)) (by first | decide | omega)) (by first | decide | omega)) rfl hlt (by omega) ?_
      refine z_aload_n C dJx4a65c_add_72be8_15 rfl ?_
      refine z_iload_n C dJx4a65c_add_72be8_16 rfl ?_
      refine z_iconst C (1) dJx4a65c_add_72be8_17 (by decide) ?_
      refine z_iadd C dJx4a65c_add_72be8_18 ?_
      rw [nI_1]
      refine z_putf C (fs1 := [_, _, _]) zp_Jx4a65c_48 dJx4a65c_add_72be8_19 (by first | assumption | exact zk_eq | exact zk_ne (by first | assumption | exact zk_eq | exact zk_ne (by first | assumption | exact zk_eq | exact zk_ne (by first | assumption | exact zk_eq | exact zk_ne (by first | assumption | exact zk_eq | exact zk_ne (by first | assumption | exact zk_eq) (by first | decide | omega)) (by first | decide | omega)) (by first | decide | omega)) (by first | decide | omega)) (by first | decide | omega)) (by first | rfl | exact zb_nar _ | assumption) (by first | rfl | exact zb_fit _ | assumption) (by exact Nat.le_of_ble_eq_true rfl) (by rfl) ?_
      refine z_widen (c2 := 1) (s2 := 64) (by omega) (by omega) ?_
      refine z_vret C hret dJx4a65c_add_72be8_22 (by first | exact Nat.le_of_ble_eq_true rfl | omega) (by first | exact Nat.le_of_ble_eq_true rfl | omega) ?_
      exact ⟨rfl, key n b md f _ (by first | assumption | exact zk_eq | exact zk_ne (by first | assumption | exact zk_eq | exact zk_ne (by first | assumption | exact zk_eq | exact zk_ne (by first | assumption | exact zk_eq | exact zk_ne (by first | assumption | exact zk_eq | exact zk_ne (by first | assumption | exact zk_eq) (by first | decide | omega)) (by first | decide | omega)) (by first | decide | omega)) (by first | decide | omega)) (by first | decide | omega)) (by first | assumption | exact zk_eq | exact zk_ne (by first | assumption | exact zk_eq | exact zk_ne (by first | assumption | exact zk_eq | exact zk_ne (by first | assumption | exact zk_eq | exact zk_ne (by first | assumption | exact zk_eq | exact zk_ne (by first | assumption | exact zk_eq) (by first | decide | omega)) (by first | decide | omega)) (by first | decide | omega)) (by first | decide | omega)) (by first | decide | omega)) hlt h4 h5 h6, fun j j1 j2 j3 => by (repeat (refine (va_up_ne _ _ (by first | assumption | omega)).trans ?_)); rfl⟩
    · have hn : xs.length = n := (nI_eq (by omega) (by omega)).mp q1
      subst hn
      refine z_aload_n C dJx4a65c_add_72be8_6 rfl ?_
      refine z_callV C zm_Jx4a65c_grow_d5877 zl_Jx4a65c_129 (c_grow hl ⟨h1, Or.inr ⟨h2, h4, hlen, zLs.elem (k := k) (a := a) (n := 0) h6 hel⟩⟩ hk) dJx4a65c_add_72be8_7 (by first | assumption | exact zk_eq | exact zk_ne (by first | assumption | exact zk_eq | exact zk_ne (by first | assumption | exact zk_eq | exact zk_ne (by first | assumption | exact zk_eq | exact zk_ne (by first | assumption | exact zk_eq | exact zk_ne (by first | assumption | exact zk_eq) (by first | decide | omega)) (by first | decide | omega)) (by first | decide | omega)) (by first | decide | omega)) (by first | decide | omega)) (by rfl) (by rfl) (by rfl) (by exact Nat.le_of_ble_eq_true rfl) rfl (by exact ⟨Nat.le_of_ble_eq_true rfl, Nat.le_of_ble_eq_true rfl⟩) (by first | exact ⟨Nat.le_of_ble_eq_true rfl, Nat.le_of_ble_eq_true rfl⟩ | (simp only [zrm]; omega)) (fun _ _ h => z_xno h) (fun r w1 hq => ?_)
      obtain ⟨q, n, g, rfl, g1, g2, g3, g4, g5, g6, g7⟩ := hq
      obtain ⟨j, vs, hj, hjv⟩ := hx.fk g7 hk
      refine z_astore_n C (L1 := [_, _, _, _]) dJx4a65c_add_72be8_10 (Nat.le_of_ble_eq_true rfl) rfl ?_
      refine z_aload_n C dJx4a65c_add_72be8_11 rfl ?_
      refine z_iload_n C dJx4a65c_add_72be8_12 rfl ?_
      refine z_aload_n C dJx4a65c_add_72be8_13 rfl ?_
      refine z_aast C (j := xs.length) dJx4a65c_add_72be8_14 (by first | assumption | exact zk_eq | exact zk_ne (by first | assumption | exact zk_eq | exact zk_ne (by first | assumption | exact zk_eq | exact zk_ne (by first | assumption | exact zk_eq | exact zk_ne (by first | assumption | exact zk_eq | exact zk_ne (by first | assumption | exact zk_eq) (by first | decide | omega)) (by first | decide | omega)) (by first | decide | omega)) (by first | decide | omega)) (by first | decide | omega)) (by first | assumption | exact zk_eq | exact zk_ne (by first | assumption | exact zk_eq | exact zk_ne (by first | assumption | exact zk_eq | exact zk_ne (by first | assumption | exact zk_eq | exact zk_ne (by first | assumption | exact zk_eq | exact zk_ne (by first | assumption | exact zk_eq) (by first | decide | omega)) (by first | decide | omega)) (by first | decide | omega)) (by first | decide | omega)) (by first | decide | omega)) rfl g3 (by omega) ?_
      refine z_aload_n C dJx4a65c_add_72be8_15 rfl ?_
      refine z_iload_n C dJx4a65c_add_72be8_16 rfl ?_
      refine z_iconst C (1) dJx4a65c_add_72be8_17 (by decide) ?_
      refine z_iadd C dJx4a65c_add_72be8_18 ?_
      rw [nI_1]
      refine z_putf C (fs1 := [_, _, _]) zp_Jx4a65c_48 dJx4a65c_add_72be8_19 (by first | assumption | exact zk_eq | exact zk_ne (by first | assumption | exact zk_eq | exact zk_ne (by first | assumption | exact zk_eq | exact zk_ne (by first | assumption | exact zk_eq | exact zk_ne (by first | assumption | exact zk_eq | exact zk_ne (by first | assumption | exact zk_eq) (by first | decide | omega)) (by first | decide | omega)) (by first | decide | omega)) (by first | decide | omega)) (by first | decide | omega)) (by first | rfl | exact zb_nar _ | assumption) (by first | rfl | exact zb_fit _ | assumption) (by exact Nat.le_of_ble_eq_true rfl) (by rfl) ?_
      refine z_vret C hret dJx4a65c_add_72be8_22 (by first | exact Nat.le_of_ble_eq_true rfl | omega) (by first | exact Nat.le_of_ble_eq_true rfl | omega) ?_
      exact ⟨rfl, key n q md g _ (by first | assumption | exact zk_eq | exact zk_ne (by first | assumption | exact zk_eq | exact zk_ne (by first | assumption | exact zk_eq | exact zk_ne (by first | assumption | exact zk_eq | exact zk_ne (by first | assumption | exact zk_eq | exact zk_ne (by first | assumption | exact zk_eq) (by first | decide | omega)) (by first | decide | omega)) (by first | decide | omega)) (by first | decide | omega)) (by first | decide | omega)) (by first | assumption | exact zk_eq | exact zk_ne (by first | assumption | exact zk_eq | exact zk_ne (by first | assumption | exact zk_eq | exact zk_ne (by first | assumption | exact zk_eq | exact zk_ne (by first | assumption | exact zk_eq | exact zk_ne (by first | assumption | exact zk_eq) (by first | decide | omega)) (by first | decide | omega)) (by first | decide | omega)) (by first | decide | omega)) (by first | decide | omega)) g3 g4 g5 (fun i hi => (g6 i hi).trans (h6 i hi)), fun j j1 j2 j3 => by (repeat (refine (va_up_ne _ _ (by first | assumption | omega)).trans ?_)); exact g7 j j1 j2 j3⟩
theorem c_addE (hl : l.stackTraces = false) {k a x : Nat} {xs : List Nat} (h : zLs z w k a xs) (hlen : xs.length ≤ 40) (hel : ∀ y ∈ xs, zWk w y) (hx : zWk w x) (hk : k + 1 < 99) : ZM l z mJx4a65c_add_9ea2d 7 1 64 [.ref a, .ref x] w (fun r w1 => r = some (.int 1) ∧ zLs z w1 k a (xs ++ [x]) ∧ zFk k w w1) zNo := by
  obtain ⟨md, b, h1, h2⟩ := h
  refine zbody (M := mJx4a65c_add_9ea2d) (L0 := [_, _]) hl (by simp [Value.category]) (Nat.le_of_ble_eq_true rfl) (by decide +kernel) rfl ?_
  intro p e s m args below meth c C hX hnm hret
  replace C : zC z p l s m args meth c cJx4a65c_add_9ea2d RJx4a65c 2 := C
  replace hret : meth.sig.returnType = (some .boolean) := hret
  refine z_aload_n C dJx4a65c_add_9ea2d_0 rfl ?_
  refine z_dup C dJx4a65c_add_9ea2d_1 rfl ?_
  refine z_getf C zf_Jx4a65c_63 dJx4a65c_add_9ea2d_2 (by first | assumption | exact zk_eq | exact zk_ne (by first | assumption | exact zk_eq | exact zk_ne (by first | assumption | exact zk_eq | exact zk_ne (by first | assumption | exact zk_eq | exact zk_ne (by first | assumption | exact zk_eq | exact zk_ne (by first | assumption | exact zk_eq) (by first | decide | omega)) (by first | decide | omega)) (by first | decide | omega)) (by first | decide | omega)) (by first | decide | omega)) (by rfl) ?_
  refine z_iconst C (1) dJx4a65c_add_9ea2d_5 (by decide) ?_
  refine z_iadd C dJx4a65c_add_9ea2d_6 ?_
  refine z_putf C (fs1 := [_, _, _]) zp_Jx4a65c_63 dJx4a65c_add_9ea2d_7 (by first | assumption | exact zk_eq | exact zk_ne (by first | assumption | exact zk_eq | exact zk_ne (by first | assumption | exact zk_eq | exact zk_ne (by first | assumption | exact zk_eq | exact zk_ne (by first | assumption | exact zk_eq | exact zk_ne (by first | assumption | exact zk_eq) (by first | decide | omega)) (by first | decide | omega)) (by first | decide | omega)) (by first | decide | omega)) (by first | decide | omega)) (by first | rfl | exact zb_nar _ | assumption) (by first | rfl | exact zb_fit _ | assumption) (by exact Nat.le_of_ble_eq_true rfl) (by rfl) ?_
  refine z_aload_n C dJx4a65c_add_9ea2d_10 rfl ?_
  refine z_aload_n C dJx4a65c_add_9ea2d_11 rfl ?_
  refine z_aload_n C dJx4a65c_add_9ea2d_12 rfl ?_
  refine z_getf C zf_Jx4a65c_9 dJx4a65c_add_9ea2d_13 (by first | assumption | exact zk_eq | exact zk_ne (by first | assumption | exact zk_eq | exact zk_ne (by first | assumption | exact zk_eq | exact zk_ne (by first | assumption | exact zk_eq | exact zk_ne (by first | assumption | exact zk_eq | exact zk_ne (by first | assumption | exact zk_eq) (by first | decide | omega)) (by first | decide | omega)) (by first | decide | omega)) (by first | decide | omega)) (by first | decide | omega)) (by rfl) ?_
  refine z_aload_n C dJx4a65c_add_9ea2d_16 rfl ?_
  refine z_getf C zf_Jx4a65c_48 dJx4a65c_add_9ea2d_17 (by first | assumption | exact zk_eq | exact zk_ne (by first | assumption | exact zk_eq | exact zk_ne (by first | assumption | exact zk_eq | exact zk_ne (by first | assumption | exact zk_eq | exact zk_ne (by first | assumption | exact zk_eq | exact zk_ne (by first | assumption | exact zk_eq) (by first | decide | omega)) (by first | decide | omega)) (by first | decide | omega)) (by first | decide | omega)) (by first | decide | omega)) (by rfl) ?_
  have hk2 : ∀ y, zWk w y → zWk (va_up w k (some (a, zLo (md + 1) b xs.length))) y := fun y ⟨j, vs, g1, g2⟩ => ⟨j, vs, g1, zk_ne g2 (by omega)⟩
  have h3 : (xs = [] ∧ b = z.2.2.2.1) ∨ ∃ (n : Nat) (f : Nat → Option Nat), va_up w k (some (a, zLo (md + 1) b xs.length)) (k + 1) = some (b, zRo z n f) ∧ xs.length ≤ n ∧ 10 ≤ n ∧ n ≤ 64 ∧ ∀ i : Nat, i < xs.length → f i = xs[i]? := by
    rcases h2 with h2 | ⟨n, f, h2, h3⟩
    · exact Or.inl h2
    · exact Or.inr ⟨n, f, zk_ne h2 (by omega), h3⟩
  refine z_callV C zm_Jx4a65c_add_72be8 zl_Jx4a65c_131 (c_add3 hl (md := md + 1) zk_eq h3 hlen (fun y hy => hk2 y (hel y hy)) (hk2 x hx) hk) dJx4a65c_add_9ea2d_20 (by first | assumption | exact zk_eq | exact zk_ne (by first | assumption | exact zk_eq | exact zk_ne (by first | assumption | exact zk_eq | exact zk_ne (by first | assumption | exact zk_eq | exact zk_ne (by first | assumption | exact zk_eq | exact zk_ne (by first | assumption | exact zk_eq) (by first | decide | omega)) (by first | decide | omega)) (by first | decide | omega)) (by first | decide | omega)) (by first | decide | omega)) (by rfl) (by rfl) (by rfl) (by exact Nat.le_of_ble_eq_true rfl) rfl (by exact ⟨Nat.le_of_ble_eq_true rfl, Nat.le_of_ble_eq_true rfl⟩) (by first | exact ⟨Nat.le_of_ble_eq_true rfl, Nat.le_of_ble_eq_true rfl⟩ | (simp only [zrm]; omega)) (fun _ _ h => z_xno h) (fun r w1 hq => ?_)
  obtain ⟨rfl, g1, g2⟩ := hq
  refine z_iconst C (1) dJx4a65c_add_9ea2d_23 (by decide) ?_
  refine z_zret C hret dJx4a65c_add_9ea2d_24 (by first | rfl | exact zb_nar _ | assumption) (by first | exact Nat.le_of_ble_eq_true rfl | omega) (by first | exact Nat.le_of_ble_eq_true rfl | omega) ?_
  exact ⟨rfl, g1, fun j j1 j2 j3 => (g2 j j1 j2 j3).trans (va_up_ne _ _ j1)⟩
theorem c_addI (hl : l.stackTraces = false) {k a x i : Nat} {xs : List Nat} (h : zLs z w k a xs) (hi : i ≤ xs.length) (hlen : xs.length ≤ 40) (hel : ∀ y ∈ xs, zWk w y) (hx : zWk w x) (hk : k + 1 < 99) : ZM l z mJx4a65c_add_7a177 6 1 64 [.ref a, .int (nI i), .ref x] w (fun r w1 => r = none ∧ zLs z w1 k a (xs.take i ++ x :: xs.drop i) ∧ zFk k w w1) zNo := by
  have hlen2 : (xs.take i ++ x :: xs.drop i).length = xs.length + 1 := by simp; omega
  have key : ∀ (n q : Nat) (md : Int32) (f : Nat → Option Nat) (w1 : zW), w1 k = some (a, zLo md q (xs.length + 1)) → w1 (k + 1) = some (q, zRo z n (va_up (va_cpy f f i (i + 1) (xs.length - i)) i (some x))) → xs.length < n → 10 ≤ n → n ≤ 64 → (∀ i : Nat, i < xs.length → f i = xs[i]?) → zLs z w1 k a (xs.take i ++ x :: xs.drop i) := by
    intro n q md f w1 g1 g2 g3 g4 g5 g6
    refine zLs.mk (by rw [hlen2]; exact g1) g2 (by omega) g4 g5 (fun t ht => ?_)
    rw [hlen2] at ht
    have htk : (xs.take i).length = i := by rw [List.length_take]; omega
    by_cases e : t = i
    · subst e
      rw [va_up_self, List.getElem?_append_right (by omega), htk, Nat.sub_self]
      rfl
    · rw [va_up_ne _ _ e]
      by_cases e2 : t < i
      · rw [pk_cpy_out (Or.inl (by omega)), List.getElem?_append_left (by omega), List.getElem?_take, if_pos e2]
        exact g6 t (by omega)
      · rw [pk_cpy_in (by omega) (by omega), List.getElem?_append_right (by omega), htk, show t - i = (t - (i + 1)) + 1 by omega, List.getElem?_cons_succ, List.getElem?_drop]
        exact g6 _ (by omega)
  obtain ⟨md, b, h1, h2⟩ := h
  refine zbody (M := mJx4a65c_add_7a177) (L0 := [_, _, _, _, _]) hl (by simp [Value.category]) (Nat.le_of_ble_eq_true rfl) (by decide +kernel) rfl ?_
  intro p e s m args below meth c C hX hnm hret
  replace C : zC z p l s m args meth c cJx4a65c_add_7a177 RJx4a65c 5 := C
  replace hret : meth.sig.returnType = none := hret
  refine z_aload_n C dJx4a65c_add_7a177_0 rfl ?_
  refine z_iload_n C dJx4a65c_add_7a177_1 rfl ?_
  refine z_callV C zm_Jx4a65c_rangeCheckForAdd_d00df zl_Jx4a65c_135 (c_rangeCheckForAdd hl h1 hi (by omega)) dJx4a65c_add_7a177_2 (by first | assumption | exact zk_eq | exact zk_ne (by first | assumption | exact zk_eq | exact zk_ne (by first | assumption | exact zk_eq | exact zk_ne (by first | assumption | exact zk_eq | exact zk_ne (by first | assumption | exact zk_eq | exact zk_ne (by first | assumption | exact zk_eq) (by first | decide | omega)) (by first | decide | omega)) (by first | decide | omega)) (by first | decide | omega)) (by first | decide | omega)) (by rfl) (by rfl) (by rfl) (by exact Nat.le_of_ble_eq_true rfl) rfl (by exact ⟨Nat.le_of_ble_eq_true rfl, Nat.le_of_ble_eq_true rfl⟩) (by first | exact ⟨Nat.le_of_ble_eq_true rfl, Nat.le_of_ble_eq_true rfl⟩ | (simp only [zrm]; omega)) (fun _ _ h => z_xno h) (fun r w1 hq => ?_)
  obtain ⟨rfl, rfl⟩ := hq
  refine z_aload_n C dJx4a65c_add_7a177_5 rfl ?_
  refine z_dup C dJx4a65c_add_7a177_6 rfl ?_
  refine z_getf C zf_Jx4a65c_63 dJx4a65c_add_7a177_7 (by first | assumption | exact zk_eq | exact zk_ne (by first | assumption | exact zk_eq | exact zk_ne (by first | assumption | exact zk_eq | exact zk_ne (by first | assumption | exact zk_eq | exact zk_ne (by first | assumption | exact zk_eq | exact zk_ne (by first | assumption | exact zk_eq) (by first | decide | omega)) (by first | decide | omega)) (by first | decide | omega)) (by first | decide | omega)) (by first | decide | omega)) (by rfl) ?_
  refine z_iconst C (1) dJx4a65c_add_7a177_10 (by decide) ?_
  refine z_iadd C dJx4a65c_add_7a177_11 ?_
  refine z_putf C (fs1 := [_, _, _]) zp_Jx4a65c_63 dJx4a65c_add_7a177_12 (by first | assumption | exact zk_eq | exact zk_ne (by first | assumption | exact zk_eq | exact zk_ne (by first | assumption | exact zk_eq | exact zk_ne (by first | assumption | exact zk_eq | exact zk_ne (by first | assumption | exact zk_eq | exact zk_ne (by first | assumption | exact zk_eq) (by first | decide | omega)) (by first | decide | omega)) (by first | decide | omega)) (by first | decide | omega)) (by first | decide | omega)) (by first | rfl | exact zb_nar _ | assumption) (by first | rfl | exact zb_fit _ | assumption) (by exact Nat.le_of_ble_eq_true rfl) (by rfl) ?_
  refine z_aload_n C dJx4a65c_add_7a177_15 rfl ?_
  refine z_getf C zf_Jx4a65c_48 dJx4a65c_add_7a177_16 (by first | assumption | exact zk_eq | exact zk_ne (by first | assumption | exact zk_eq | exact zk_ne (by first | assumption | exact zk_eq | exact zk_ne (by first | assumption | exact zk_eq | exact zk_ne (by first | assumption | exact zk_eq | exact zk_ne (by first | assumption | exact zk_eq) (by first | decide | omega)) (by first | decide | omega)) (by first | decide | omega)) (by first | decide | omega)) (by first | decide | omega)) (by rfl) ?_
  refine z_dup C dJx4a65c_add_7a177_19 rfl ?_
  refine z_istore_n C (L1 := [_, _, _, _, _]) dJx4a65c_add_7a177_20 (Nat.le_of_ble_eq_true rfl) rfl ?_
  refine z_aload_n C dJx4a65c_add_7a177_21 rfl ?_
  refine z_getf C zf_Jx4a65c_9 dJx4a65c_add_7a177_22 (by first | assumption | exact zk_eq | exact zk_ne (by first | assumption | exact zk_eq | exact zk_ne (by first | assumption | exact zk_eq | exact zk_ne (by first | assumption | exact zk_eq | exact zk_ne (by first | assumption | exact zk_eq | exact zk_ne (by first | assumption | exact zk_eq) (by first | decide | omega)) (by first | decide | omega)) (by first | decide | omega)) (by first | decide | omega)) (by first | decide | omega)) (by rfl) ?_
  refine z_dup C dJx4a65c_add_7a177_25 rfl ?_
  refine z_astore C (L1 := [_, _, _, _, _]) dJx4a65c_add_7a177_26 (Nat.le_of_ble_eq_true rfl) rfl ?_
  have tail : ∀ (w : zW) (n q : Nat) (f : Nat → Option Nat) (w0 : zW), w k = some (a, zLo (md + 1) q xs.length) → w (k + 1) = some (q, zRo z n f) → xs.length < n → 10 ≤ n → n ≤ 64 → (∀ i : Nat, i < xs.length → f i = xs[i]?) → (∀ y ∈ xs, zWk w y) → zWk w x → zFk k w1 w →
      ZJ z p l e (zrm 6 1 64) s m args below meth c (vx_MQ below (zQc z (fun r w2 => r = none ∧ zLs z w2 k a (xs.take i ++ x :: xs.drop i) ∧ zFk k w1 w2)) (zXC z zNo) args s 1 64 (zA z)) 1 64 38 [some (.ref a), some (.int (nI i)), some (.ref x), some (.int (nI xs.length)), some (.ref q)] [] w := by
    intro w n q f w0 g1 g2 g3 g4 g5 g6 hel hx g7
    obtain ⟨j, vs, hj, hjv⟩ := hx
    refine z_aload C dJx4a65c_add_7a177_38 rfl ?_
    refine z_iload_n C dJx4a65c_add_7a177_40 rfl ?_
    refine z_aload C dJx4a65c_add_7a177_41 rfl ?_
    refine z_iload_n C dJx4a65c_add_7a177_43 rfl ?_
    refine z_iconst C (1) dJx4a65c_add_7a177_44 (by decide) ?_
    refine z_iadd C dJx4a65c_add_7a177_45 ?_
    rw [nI_1]
    refine z_iload_n C dJx4a65c_add_7a177_46 rfl ?_
    refine z_iload_n C dJx4a65c_add_7a177_47 rfl ?_
    refine z_isub C dJx4a65c_add_7a177_48 ?_
    rw [pk_sub hi]
    refine z_copy C (k0 := k + 1) (k1 := k + 1) (sp := i) (dp := i + 1) (n := xs.length - i) zl_Jx4a65c_112 dJx4a65c_add_7a177_49 (by first | assumption | exact zk_eq | exact zk_ne (by first | assumption | exact zk_eq | exact zk_ne (by first | assumption | exact zk_eq | exact zk_ne (by first | assumption | exact zk_eq | exact zk_ne (by first | assumption | exact zk_eq | exact zk_ne (by first | assumption | exact zk_eq) (by first | decide | omega)) (by first | decide | omega)) (by first | decide | omega)) (by first | decide | omega)) (by first | decide | omega)) (by first | assumption | exact zk_eq | exact zk_ne (by first | assumption | exact zk_eq | exact zk_ne (by first | assumption | exact zk_eq | exact zk_ne (by first | assumption | exact zk_eq | exact zk_ne (by first | assumption | exact zk_eq | exact zk_ne (by first | assumption | exact zk_eq) (by first | decide | omega)) (by first | decide | omega)) (by first | decide | omega)) (by first | decide | omega)) (by first | decide | omega)) rfl rfl rfl (by omega) (by omega) (by omega) (by omega) (fun t ht y hy => ?_) rfl (by exact Nat.le_of_ble_eq_true rfl) (by exact Nat.le_of_ble_eq_true rfl) ?_
    · obtain ⟨j2, vs2, -, hjv2⟩ := hel y (List.mem_of_getElem? ((g6 (i + t) (by omega)).symm.trans hy))
      exact ⟨j2, vs2, hjv2⟩
    refine z_aload C dJx4a65c_add_7a177_52 rfl ?_
    refine z_iload_n C dJx4a65c_add_7a177_54 rfl ?_
    refine z_aload_n C dJx4a65c_add_7a177_55 rfl ?_
    refine z_aast C (j := i) dJx4a65c_add_7a177_56 (by first | assumption | exact zk_eq | exact zk_ne (by first | assumption | exact zk_eq | exact zk_ne (by first | assumption | exact zk_eq | exact zk_ne (by first | assumption | exact zk_eq | exact zk_ne (by first | assumption | exact zk_eq | exact zk_ne (by first | assumption | exact zk_eq) (by first | decide | omega)) (by first | decide | omega)) (by first | decide | omega)) (by first | decide | omega)) (by first | decide | omega)) (by first | assumption | exact zk_eq | exact zk_ne (by first | assumption | exact zk_eq | exact zk_ne (by first | assumption | exact zk_eq | exact zk_ne (by first | assumption | exact zk_eq | exact zk_ne (by first | assumption | exact zk_eq | exact zk_ne (by first | assumption | exact zk_eq) (by first | decide | omega)) (by first | decide | omega)) (by first | decide | omega)) (by first | decide | omega)) (by first | decide | omega)) rfl (show i < n by omega) (by omega) ?_
    refine z_aload_n C dJx4a65c_add_7a177_57 rfl ?_
    refine z_iload_n C dJx4a65c_add_7a177_58 rfl ?_
    refine z_iconst C (1) dJx4a65c_add_7a177_59 (by decide) ?_
    refine z_iadd C dJx4a65c_add_7a177_60 ?_
    rw [nI_1]
    refine z_putf C (fs1 := [_, _, _]) zp_Jx4a65c_48 dJx4a65c_add_7a177_61 (by first | assumption | exact zk_eq | exact zk_ne (by first | assumption | exact zk_eq | exact zk_ne (by first | assumption | exact zk_eq | exact zk_ne (by first | assumption | exact zk_eq | exact zk_ne (by first | assumption | exact zk_eq | exact zk_ne (by first | assumption | exact zk_eq) (by first | decide | omega)) (by first | decide | omega)) (by first | decide | omega)) (by first | decide | omega)) (by first | decide | omega)) (by first | rfl | exact zb_nar _ | assumption) (by first | rfl | exact zb_fit _ | assumption) (by exact Nat.le_of_ble_eq_true rfl) (by rfl) ?_
    refine z_vret C hret dJx4a65c_add_7a177_64 (by first | exact Nat.le_of_ble_eq_true rfl | omega) (by first | exact Nat.le_of_ble_eq_true rfl | omega) ?_
    exact ⟨rfl, key n q _ f _ (by first | assumption | exact zk_eq | exact zk_ne (by first | assumption | exact zk_eq | exact zk_ne (by first | assumption | exact zk_eq | exact zk_ne (by first | assumption | exact zk_eq | exact zk_ne (by first | assumption | exact zk_eq | exact zk_ne (by first | assumption | exact zk_eq) (by first | decide | omega)) (by first | decide | omega)) (by first | decide | omega)) (by first | decide | omega)) (by first | decide | omega)) (by first | assumption | exact zk_eq | exact zk_ne (by first | assumption | exact zk_eq | exact zk_ne (by first | assumption | exact zk_eq | exact zk_ne (by first | assumption | exact zk_eq | exact zk_ne (by first | assumption | exact zk_eq | exact zk_ne (by first | assumption | exact zk_eq) (by first | decide | omega)) (by first | decide | omega)) (by first | decide | omega)) (by first | decide | omega)) (by first | decide | omega)) g3 g4 g5 g6, fun j j1 j2 j3 => by (repeat (refine (va_up_ne _ _ (by first | assumption | omega)).trans ?_)); exact g7 j j1 j2 j3⟩
  have hk2 : ∀ y, zWk w1 y → zWk (va_up w1 k (some (a, zLo (md + 1) b xs.length))) y := fun y ⟨j, vs, g1, g2⟩ => ⟨j, vs, g1, zk_ne g2 (by omega)⟩
  rcases h2 with ⟨rfl, rfl⟩ | ⟨n, f, h2, h3, h4, h5, h6⟩
  · refine z_alen0 C dJx4a65c_add_7a177_28 ?_
    refine z_icmp_ne C 38 dJx4a65c_add_7a177_29 (by decide) (fun q1 => ?_) (fun q1 => ?_)
    · exact absurd rfl q1
    refine z_aload_n C dJx4a65c_add_7a177_32 rfl ?_
    refine z_callV C zm_Jx4a65c_grow_d5877 zl_Jx4a65c_129 (c_grow (f := fun _ => none) hl ⟨zk_eq, Or.inl ⟨rfl, rfl⟩⟩ hk) dJx4a65c_add_7a177_33 (by first | assumption | exact zk_eq | exact zk_ne (by first | assumption | exact zk_eq | exact zk_ne (by first | assumption | exact zk_eq | exact zk_ne (by first | assumption | exact zk_eq | exact zk_ne (by first | assumption | exact zk_eq | exact zk_ne (by first | assumption | exact zk_eq) (by first | decide | omega)) (by first | decide | omega)) (by first | decide | omega)) (by first | decide | omega)) (by first | decide | omega)) (by rfl) (by rfl) (by rfl) (by exact Nat.le_of_ble_eq_true rfl) rfl (by exact ⟨Nat.le_of_ble_eq_true rfl, Nat.le_of_ble_eq_true rfl⟩) (by first | exact ⟨Nat.le_of_ble_eq_true rfl, Nat.le_of_ble_eq_true rfl⟩ | (simp only [zrm]; omega)) (fun _ _ h => z_xno h) (fun r w1 hq => ?_)
    obtain ⟨q, n, g, rfl, g1, g2, g3, g4, g5, g6, g7⟩ := hq
    refine z_astore C (L1 := [_, _, _, _, _]) dJx4a65c_add_7a177_36 (Nat.le_of_ble_eq_true rfl) rfl ?_
    exact tail _ n q g w1 g1 g2 g3 g4 g5 (fun i hi => absurd hi (Nat.not_lt_zero _)) (fun y hy => absurd hy List.not_mem_nil) ((hk2 x hx).fk g7 hk) (fun j j1 j2 j3 => (g7 j j1 j2 j3).trans (va_up_ne _ _ j1))
  · refine z_alen C dJx4a65c_add_7a177_28 (by first | assumption | exact zk_eq | exact zk_ne (by first | assumption | exact zk_eq | exact zk_ne (by first | assumption | exact zk_eq | exact zk_ne (by first | assumption | exact zk_eq | exact zk_ne (by first | assumption | exact zk_eq | exact zk_ne (by first | assumption | exact zk_eq) (by first | decide | omega)) (by first | decide | omega)) (by first | decide | omega)) (by first | decide | omega)) (by first | decide | omega)) (by decide) ?_
    refine z_icmp_ne C 38 dJx4a65c_add_7a177_29 (by decide) (fun q1 => ?_) (fun q1 => ?_)
    · have hlt : xs.length < n := by
        rcases Nat.lt_or_ge xs.length n with q | q
        · exact q
        · exact absurd (congrArg nI (show xs.length = n by omega)) q1
      refine z_widen (c2 := 1) (s2 := 64) (by omega) (by omega) ?_
      exact tail _ n b f w1 zk_eq (zk_ne h2 (by omega)) hlt h4 h5 h6 (fun y hy => hk2 y (hel y hy)) (hk2 x hx) (fun j j1 j2 j3 => va_up_ne _ _ j1)
    · have hn : xs.length = n := (nI_eq (by omega) (by omega)).mp q1
      subst hn
      refine z_aload_n C dJx4a65c_add_7a177_32 rfl ?_
      refine z_callV C zm_Jx4a65c_grow_d5877 zl_Jx4a65c_129 (c_grow (f := f) hl ⟨zk_eq, Or.inr ⟨zk_ne h2 (by omega), h4, hlen, zLs.elem (k := k) (a := a) (n := 0) h6 (fun y hy => hk2 y (hel y hy))⟩⟩ hk) dJx4a65c_add_7a177_33 (by first | assumption | exact zk_eq | exact zk_ne (by first | assumption | exact zk_eq | exact zk_ne (by first | assumption | exact zk_eq | exact zk_ne (by first | assumption | exact zk_eq | exact zk_ne (by first | assumption | exact zk_eq | exact zk_ne (by first | assumption | exact zk_eq) (by first | decide | omega)) (by first | decide | omega)) (by first | decide | omega)) (by first | decide | omega)) (by first | decide | omega)) (by rfl) (by rfl) (by rfl) (by exact Nat.le_of_ble_eq_true rfl) rfl (by exact ⟨Nat.le_of_ble_eq_true rfl, Nat.le_of_ble_eq_true rfl⟩) (by first | exact ⟨Nat.le_of_ble_eq_true rfl, Nat.le_of_ble_eq_true rfl⟩ | (simp only [zrm]; omega)) (fun _ _ h => z_xno h) (fun r w1 hq => ?_)
      obtain ⟨q, n, g, rfl, g1, g2, g3, g4, g5, g6, g7⟩ := hq
      refine z_astore C (L1 := [_, _, _, _, _]) dJx4a65c_add_7a177_36 (Nat.le_of_ble_eq_true rfl) rfl ?_
      exact tail _ n q g w1 g1 g2 g3 g4 g5 (fun i hi => (g6 i hi).trans (h6 i hi)) (fun y hy => (hk2 y (hel y hy)).fk g7 hk) ((hk2 x hx).fk g7 hk) (fun j j1 j2 j3 => (g7 j j1 j2 j3).trans (va_up_ne _ _ j1))
theorem c_fastRemove (hl : l.stackTraces = false) {k a b n i : Nat} {md : Int32} {xs : List Nat} {f : Nat → Option Nat} (h1 : w k = some (a, zLo md b xs.length)) (h2 : w (k + 1) = some (b, zRo z n f)) (h3 : xs.length ≤ n) (h4 : 10 ≤ n) (h5 : n ≤ 64) (h6 : ∀ i : Nat, i < xs.length → f i = xs[i]?) (hi : i < xs.length) (hel : ∀ y ∈ xs, zWk w y) (hk : k + 1 < 99) : ZM l z mJx4a65c_fastRemove_b59b0 2 0 0 [.ref a, .ref b, .int (nI i)] w (fun r w1 => r = none ∧ zLs z w1 k a (xs.eraseIdx i) ∧ zFk k w w1) zNo := by
  have hlen2 : (xs.eraseIdx i).length = xs.length - 1 := List.length_eraseIdx_of_lt hi
  have key : ∀ (w1 : zW) (g : Nat → Option Nat), w1 k = some (a, zLo (md + 1) b (xs.length - 1)) → w1 (k + 1) = some (b, zRo z n (va_up g (xs.length - 1) none)) → (∀ t : Nat, t < i → g t = f t) → (∀ t : Nat, i ≤ t → t < xs.length - 1 → g t = f (t + 1)) → zLs z w1 k a (xs.eraseIdx i) := by
    intro w1 g g1 g2 g3 g4
    refine zLs.mk (by rw [hlen2]; exact g1) g2 (by omega) h4 h5 (fun t ht => ?_)
    rw [hlen2] at ht
    rw [va_up_ne _ _ (by omega)]
    by_cases e : t < i
    · rw [g3 t e, List.getElem?_eraseIdx_of_lt e]
      exact h6 t (by omega)
    · rw [g4 t (by omega) ht, List.getElem?_eraseIdx_of_ge (by omega)]
      exact h6 _ (by omega)
  refine zbody (M := mJx4a65c_fastRemove_b59b0) (L0 := [_, _, _, _]) hl (by simp [Value.category]) (Nat.le_of_ble_eq_true rfl) (by decide +kernel) rfl ?_
  intro p e s m args below meth c C hX hnm hret
  replace C : zC z p l s m args meth c cJx4a65c_fastRemove_b59b0 RJx4a65c 4 := C
  replace hret : meth.sig.returnType = none := hret
  refine z_aload_n C dJx4a65c_fastRemove_b59b0_0 rfl ?_
  refine z_dup C dJx4a65c_fastRemove_b59b0_1 rfl ?_
  refine z_getf C zf_Jx4a65c_63 dJx4a65c_fastRemove_b59b0_2 (by first | assumption | exact zk_eq | exact zk_ne (by first | assumption | exact zk_eq | exact zk_ne (by first | assumption | exact zk_eq | exact zk_ne (by first | assumption | exact zk_eq | exact zk_ne (by first | assumption | exact zk_eq | exact zk_ne (by first | assumption | exact zk_eq) (by first | decide | omega)) (by first | decide | omega)) (by first | decide | omega)) (by first | decide | omega)) (by first | decide | omega)) (by rfl) ?_
  refine z_iconst C (1) dJx4a65c_fastRemove_b59b0_5 (by decide) ?_
  refine z_iadd C dJx4a65c_fastRemove_b59b0_6 ?_
  refine z_putf C (fs1 := [_, _, _]) zp_Jx4a65c_63 dJx4a65c_fastRemove_b59b0_7 (by first | assumption | exact zk_eq | exact zk_ne (by first | assumption | exact zk_eq | exact zk_ne (by first | assumption | exact zk_eq | exact zk_ne (by first | assumption | exact zk_eq | exact zk_ne (by first | assumption | exact zk_eq | exact zk_ne (by first | assumption | exact zk_eq) (by first | decide | omega)) (by first | decide | omega)) (by first | decide | omega)) (by first | decide | omega)) (by first | decide | omega)) (by first | rfl | exact zb_nar _ | assumption) (by first | rfl | exact zb_fit _ | assumption) (by exact Nat.le_of_ble_eq_true rfl) (by rfl) ?_
  refine z_aload_n C dJx4a65c_fastRemove_b59b0_10 rfl ?_
  refine z_getf C zf_Jx4a65c_48 dJx4a65c_fastRemove_b59b0_11 (by first | assumption | exact zk_eq | exact zk_ne (by first | assumption | exact zk_eq | exact zk_ne (by first | assumption | exact zk_eq | exact zk_ne (by first | assumption | exact zk_eq | exact zk_ne (by first | assumption | exact zk_eq | exact zk_ne (by first | assumption | exact zk_eq) (by first | decide | omega)) (by first | decide | omega)) (by first | decide | omega)) (by first | decide | omega)) (by first | decide | omega)) (by rfl) ?_
  refine z_iconst C (1) dJx4a65c_fastRemove_b59b0_14 (by decide) ?_
  refine z_isub C dJx4a65c_fastRemove_b59b0_15 ?_
  rw [show nI xs.length - 1 = nI (xs.length - 1) from pk_sub (b := 1) (by omega)]
  refine z_dup C dJx4a65c_fastRemove_b59b0_16 rfl ?_
  refine z_istore_n C (L1 := [_, _, _, _]) dJx4a65c_fastRemove_b59b0_17 (Nat.le_of_ble_eq_true rfl) rfl ?_
  refine z_iload_n C dJx4a65c_fastRemove_b59b0_18 rfl ?_
  refine z_icmp_le C 34 dJx4a65c_fastRemove_b59b0_19 (by decide) (fun q1 => ?_) (fun q1 => ?_)
  · have he : xs.length - 1 ≤ i := (nI_leI (by omega) (by omega)).mp q1
    refine z_aload_n C dJx4a65c_fastRemove_b59b0_34 rfl ?_
    refine z_aload_n C dJx4a65c_fastRemove_b59b0_35 rfl ?_
    refine z_iload_n C dJx4a65c_fastRemove_b59b0_36 rfl ?_
    refine z_dup_x1 C dJx4a65c_fastRemove_b59b0_37 rfl rfl ?_
    refine z_putf C (fs1 := [_, _, _]) zp_Jx4a65c_48 dJx4a65c_fastRemove_b59b0_38 (by first | assumption | exact zk_eq | exact zk_ne (by first | assumption | exact zk_eq | exact zk_ne (by first | assumption | exact zk_eq | exact zk_ne (by first | assumption | exact zk_eq | exact zk_ne (by first | assumption | exact zk_eq | exact zk_ne (by first | assumption | exact zk_eq) (by first | decide | omega)) (by first | decide | omega)) (by first | decide | omega)) (by first | decide | omega)) (by first | decide | omega)) (by first | rfl | exact zb_nar _ | assumption) (by first | rfl | exact zb_fit _ | assumption) (by exact Nat.le_of_ble_eq_true rfl) (by rfl) ?_
    refine z_null C dJx4a65c_fastRemove_b59b0_41 ?_
    refine z_aastN C (j := xs.length - 1) dJx4a65c_fastRemove_b59b0_42 (by first | assumption | exact zk_eq | exact zk_ne (by first | assumption | exact zk_eq | exact zk_ne (by first | assumption | exact zk_eq | exact zk_ne (by first | assumption | exact zk_eq | exact zk_ne (by first | assumption | exact zk_eq | exact zk_ne (by first | assumption | exact zk_eq) (by first | decide | omega)) (by first | decide | omega)) (by first | decide | omega)) (by first | decide | omega)) (by first | decide | omega)) rfl (show _ < n by omega) (by omega) ?_
    refine z_vret C hret dJx4a65c_fastRemove_b59b0_43 (by first | exact Nat.le_of_ble_eq_true rfl | omega) (by first | exact Nat.le_of_ble_eq_true rfl | omega) ?_
    exact ⟨rfl, key _ f (by first | assumption | exact zk_eq | exact zk_ne (by first | assumption | exact zk_eq | exact zk_ne (by first | assumption | exact zk_eq | exact zk_ne (by first | assumption | exact zk_eq | exact zk_ne (by first | assumption | exact zk_eq | exact zk_ne (by first | assumption | exact zk_eq) (by first | decide | omega)) (by first | decide | omega)) (by first | decide | omega)) (by first | decide | omega)) (by first | decide | omega)) (by first | assumption | exact zk_eq | exact zk_ne (by first | assumption | exact zk_eq | exact zk_ne (by first | assumption | exact zk_eq | exact zk_ne (by first | assumption | exact zk_eq | exact zk_ne (by first | assumption | exact zk_eq | exact zk_ne (by first | assumption | exact zk_eq) (by first | decide | omega)) (by first | decide | omega)) (by first | decide | omega)) (by first | decide | omega)) (by first | decide | omega)) (fun _ _ => rfl) (fun t t1 t2 => absurd t2 (by omega)), fun j j1 j2 j3 => by (repeat (refine (va_up_ne _ _ (by first | assumption | omega)).trans ?_)); rfl⟩
  · have he : i < xs.length - 1 := by
      rcases Nat.lt_or_ge i (xs.length - 1) with q | q
      · exact q
      · exact absurd ((nI_leI (by omega) (by omega)).mpr q) q1
    refine z_aload_n C dJx4a65c_fastRemove_b59b0_22 rfl ?_
    refine z_iload_n C dJx4a65c_fastRemove_b59b0_23 rfl ?_
    refine z_iconst C (1) dJx4a65c_fastRemove_b59b0_24 (by decide) ?_
    refine z_iadd C dJx4a65c_fastRemove_b59b0_25 ?_
    rw [show nI i + 1 = nI (i + 1) from nI_1 i]
    refine z_aload_n C dJx4a65c_fastRemove_b59b0_26 rfl ?_
    refine z_iload_n C dJx4a65c_fastRemove_b59b0_27 rfl ?_
    refine z_iload_n C dJx4a65c_fastRemove_b59b0_28 rfl ?_
    refine z_iload_n C dJx4a65c_fastRemove_b59b0_29 rfl ?_
    refine z_isub C dJx4a65c_fastRemove_b59b0_30 ?_
    rw [pk_sub (Nat.le_of_lt he)]
    refine z_copy C (k0 := k + 1) (k1 := k + 1) (sp := i + 1) (dp := i) (n := xs.length - 1 - i) zl_Jx4a65c_112 dJx4a65c_fastRemove_b59b0_31 (by first | assumption | exact zk_eq | exact zk_ne (by first | assumption | exact zk_eq | exact zk_ne (by first | assumption | exact zk_eq | exact zk_ne (by first | assumption | exact zk_eq | exact zk_ne (by first | assumption | exact zk_eq | exact zk_ne (by first | assumption | exact zk_eq) (by first | decide | omega)) (by first | decide | omega)) (by first | decide | omega)) (by first | decide | omega)) (by first | decide | omega)) (by first | assumption | exact zk_eq | exact zk_ne (by first | assumption | exact zk_eq | exact zk_ne (by first | assumption | exact zk_eq | exact zk_ne (by first | assumption | exact zk_eq | exact zk_ne (by first | assumption | exact zk_eq | exact zk_ne (by first | assumption | exact zk_eq) (by first | decide | omega)) (by first | decide | omega)) (by first | decide | omega)) (by first | decide | omega)) (by first | decide | omega)) rfl rfl rfl (by omega) (by omega) (by omega) (by omega) (fun t ht y hy => ?_) rfl (by exact Nat.le_of_ble_eq_true rfl) (by exact Nat.le_of_ble_eq_true rfl) ?_
    · obtain ⟨j2, vs2, j3, hjv2⟩ := hel y (List.mem_of_getElem? ((h6 (i + 1 + t) (by omega)).symm.trans hy))
      exact ⟨j2, vs2, (by first | assumption | exact zk_eq | exact zk_ne (by first | assumption | exact zk_eq | exact zk_ne (by first | assumption | exact zk_eq | exact zk_ne (by first | assumption | exact zk_eq | exact zk_ne (by first | assumption | exact zk_eq | exact zk_ne (by first | assumption | exact zk_eq) (by first | decide | omega)) (by first | decide | omega)) (by first | decide | omega)) (by first | decide | omega)) (by first | decide | omega))⟩
    refine z_aload_n C dJx4a65c_fastRemove_b59b0_34 rfl ?_
    refine z_aload_n C dJx4a65c_fastRemove_b59b0_35 rfl ?_
    refine z_iload_n C dJx4a65c_fastRemove_b59b0_36 rfl ?_
    refine z_dup_x1 C dJx4a65c_fastRemove_b59b0_37 rfl rfl ?_
    refine z_putf C (fs1 := [_, _, _]) zp_Jx4a65c_48 dJx4a65c_fastRemove_b59b0_38 (by first | assumption | exact zk_eq | exact zk_ne (by first | assumption | exact zk_eq | exact zk_ne (by first | assumption | exact zk_eq | exact zk_ne (by first | assumption | exact zk_eq | exact zk_ne (by first | assumption | exact zk_eq | exact zk_ne (by first | assumption | exact zk_eq) (by first | decide | omega)) (by first | decide | omega)) (by first | decide | omega)) (by first | decide | omega)) (by first | decide | omega)) (by first | rfl | exact zb_nar _ | assumption) (by first | rfl | exact zb_fit _ | assumption) (by exact Nat.le_of_ble_eq_true rfl) (by rfl) ?_
    refine z_null C dJx4a65c_fastRemove_b59b0_41 ?_
    refine z_aastN C (j := xs.length - 1) dJx4a65c_fastRemove_b59b0_42 (by first | assumption | exact zk_eq | exact zk_ne (by first | assumption | exact zk_eq | exact zk_ne (by first | assumption | exact zk_eq | exact zk_ne (by first | assumption | exact zk_eq | exact zk_ne (by first | assumption | exact zk_eq | exact zk_ne (by first | assumption | exact zk_eq) (by first | decide | omega)) (by first | decide | omega)) (by first | decide | omega)) (by first | decide | omega)) (by first | decide | omega)) rfl (show _ < n by omega) (by omega) ?_
    refine z_vret C hret dJx4a65c_fastRemove_b59b0_43 (by first | exact Nat.le_of_ble_eq_true rfl | omega) (by first | exact Nat.le_of_ble_eq_true rfl | omega) ?_
    refine ⟨rfl, key _ _ (by first | assumption | exact zk_eq | exact zk_ne (by first | assumption | exact zk_eq | exact zk_ne (by first | assumption | exact zk_eq | exact zk_ne (by first | assumption | exact zk_eq | exact zk_ne (by first | assumption | exact zk_eq | exact zk_ne (by first | assumption | exact zk_eq) (by first | decide | omega)) (by first | decide | omega)) (by first | decide | omega)) (by first | decide | omega)) (by first | decide | omega)) (by first | assumption | exact zk_eq | exact zk_ne (by first | assumption | exact zk_eq | exact zk_ne (by first | assumption | exact zk_eq | exact zk_ne (by first | assumption | exact zk_eq | exact zk_ne (by first | assumption | exact zk_eq | exact zk_ne (by first | assumption | exact zk_eq) (by first | decide | omega)) (by first | decide | omega)) (by first | decide | omega)) (by first | decide | omega)) (by first | decide | omega)) (fun t t1 => pk_cpy_out (Or.inl t1)) (fun t t1 t2 => ?_), fun j j1 j2 j3 => by (repeat (refine (va_up_ne _ _ (by first | assumption | omega)).trans ?_)); rfl⟩
    rw [pk_cpy_in t1 (by omega)]
    congr 1
    omega
theorem c_remove (hl : l.stackTraces = false) {k a i : Nat} {xs : List Nat} (h : zLs z w k a xs) (hi : i < xs.length) (hel : ∀ y ∈ xs, zWk w y) (hk : k + 1 < 99) : ZM l z mJx4a65c_remove_915e3 3 0 0 [.ref a, .int (nI i)] w (fun r w1 => r = some (.ref xs[i]) ∧ zLs z w1 k a (xs.eraseIdx i) ∧ zFk k w w1) zNo := by
  obtain ⟨md, b, h1, ⟨rfl, -⟩ | ⟨n, f, h2, h3, h4, h5, h6⟩⟩ := h
  · exact absurd hi (Nat.not_lt_zero _)
  refine zbody (M := mJx4a65c_remove_915e3) (L0 := [_, _, _, _]) hl (by simp [Value.category]) (Nat.le_of_ble_eq_true rfl) (by decide +kernel) rfl ?_
  intro p e s m args below meth c C hX hnm hret
  replace C : zC z p l s m args meth c cJx4a65c_remove_915e3 RJx4a65c 4 := C
  replace hret : meth.sig.returnType = (some (.object "java/lang/Object")) := hret
  refine z_iload_n C dJx4a65c_remove_915e3_0 rfl ?_
  refine z_aload_n C dJx4a65c_remove_915e3_1 rfl ?_
  refine z_getf C zf_Jx4a65c_48 dJx4a65c_remove_915e3_2 (by first | assumption | exact zk_eq | exact zk_ne (by first | assumption | exact zk_eq | exact zk_ne (by first | assumption | exact zk_eq | exact zk_ne (by first | assumption | exact zk_eq | exact zk_ne (by first | assumption | exact zk_eq | exact zk_ne (by first | assumption | exact zk_eq) (by first | decide | omega)) (by first | decide | omega)) (by first | decide | omega)) (by first | decide | omega)) (by first | decide | omega)) (by rfl) ?_
  refine z_callS C zm_J15_checkIndex_7cf53 zl_Jx4a65c_118 (c_checkIndex hl hi (by omega)) dJx4a65c_remove_915e3_5 (by rfl) (by rfl) (by exact Nat.le_of_ble_eq_true rfl) rfl (by exact ⟨Nat.le_of_ble_eq_true rfl, Nat.le_of_ble_eq_true rfl⟩) (by first | exact ⟨Nat.le_of_ble_eq_true rfl, Nat.le_of_ble_eq_true rfl⟩ | (simp only [zrm]; omega)) (fun _ _ h => z_xno h) (fun r w1 hq => ?_)
  obtain ⟨rfl, rfl⟩ := hq
  refine z_pop C dJx4a65c_remove_915e3_8 rfl ?_
  refine z_aload_n C dJx4a65c_remove_915e3_9 rfl ?_
  refine z_getf C zf_Jx4a65c_9 dJx4a65c_remove_915e3_10 (by first | assumption | exact zk_eq | exact zk_ne (by first | assumption | exact zk_eq | exact zk_ne (by first | assumption | exact zk_eq | exact zk_ne (by first | assumption | exact zk_eq | exact zk_ne (by first | assumption | exact zk_eq | exact zk_ne (by first | assumption | exact zk_eq) (by first | decide | omega)) (by first | decide | omega)) (by first | decide | omega)) (by first | decide | omega)) (by first | decide | omega)) (by rfl) ?_
  refine z_astore_n C (L1 := [_, _, _, _]) dJx4a65c_remove_915e3_13 (Nat.le_of_ble_eq_true rfl) rfl ?_
  refine z_aload_n C dJx4a65c_remove_915e3_14 rfl ?_
  refine z_iload_n C dJx4a65c_remove_915e3_15 rfl ?_
  refine z_aald C (j := i) dJx4a65c_remove_915e3_16 (by first | assumption | exact zk_eq | exact zk_ne (by first | assumption | exact zk_eq | exact zk_ne (by first | assumption | exact zk_eq | exact zk_ne (by first | assumption | exact zk_eq | exact zk_ne (by first | assumption | exact zk_eq | exact zk_ne (by first | assumption | exact zk_eq) (by first | decide | omega)) (by first | decide | omega)) (by first | decide | omega)) (by first | decide | omega)) (by first | decide | omega)) rfl (show i < n by omega) (by omega) ?_
  rw [h6 i hi, List.getElem?_eq_getElem hi]
  refine z_astore_n C (L1 := [_, _, _, _]) dJx4a65c_remove_915e3_17 (Nat.le_of_ble_eq_true rfl) rfl ?_
  refine z_aload_n C dJx4a65c_remove_915e3_18 rfl ?_
  refine z_aload_n C dJx4a65c_remove_915e3_19 rfl ?_
  refine z_iload_n C dJx4a65c_remove_915e3_20 rfl ?_
  refine z_callV C zm_Jx4a65c_fastRemove_b59b0 zl_Jx4a65c_144 (c_fastRemove hl h1 h2 h3 h4 h5 h6 hi hel hk) dJx4a65c_remove_915e3_21 (by first | assumption | exact zk_eq | exact zk_ne (by first | assumption | exact zk_eq | exact zk_ne (by first | assumption | exact zk_eq | exact zk_ne (by first | assumption | exact zk_eq | exact zk_ne (by first | assumption | exact zk_eq | exact zk_ne (by first | assumption | exact zk_eq) (by first | decide | omega)) (by first | decide | omega)) (by first | decide | omega)) (by first | decide | omega)) (by first | decide | omega)) (by rfl) (by rfl) (by rfl) (by exact Nat.le_of_ble_eq_true rfl) rfl (by exact ⟨Nat.le_of_ble_eq_true rfl, Nat.le_of_ble_eq_true rfl⟩) (by first | exact ⟨Nat.le_of_ble_eq_true rfl, Nat.le_of_ble_eq_true rfl⟩ | (simp only [zrm]; omega)) (fun _ _ h => z_xno h) (fun r w1 hq => ?_)
  obtain ⟨rfl, g1, g2⟩ := hq
  refine z_aload_n C dJx4a65c_remove_915e3_24 rfl ?_
  refine z_aret C hret (Or.inl ⟨_, rfl⟩) (by first | exact Or.inr ⟨_, rfl⟩ | exact va_rf_or _ | exact Or.inl rfl) dJx4a65c_remove_915e3_25 (by first | exact Nat.le_of_ble_eq_true rfl | omega) (by first | exact Nat.le_of_ble_eq_true rfl | omega) ?_
  exact ⟨rfl, g1, g2⟩
theorem c_ACinit (hl : l.stackTraces = false) {a : Nat} : ZM l z mJxa1e45_init_da8c8 1 0 0 [.ref a] w (fun r w1 => r = none ∧ w1 = w) zNo := by
  refine zbody (M := mJxa1e45_init_da8c8) (L0 := [_]) hl (by simp [Value.category]) (Nat.le_of_ble_eq_true rfl) (by decide +kernel) rfl ?_
  intro p e s m args below meth c C hX hnm hret
  replace C : zC z p l s m args meth c cJxa1e45_init_da8c8 RJxa1e45 1 := C
  replace hret : meth.sig.returnType = none := hret
  refine z_aload_n C dJxa1e45_init_da8c8_0 rfl ?_
  refine z_obj C zl_Jxa1e45_1 zoi zoc dJxa1e45_init_da8c8_1 rfl (by exact Nat.le_of_ble_eq_true rfl) (by exact Nat.le_of_ble_eq_true rfl) ?_
  refine z_vret C hret dJxa1e45_init_da8c8_4 (by first | exact Nat.le_of_ble_eq_true rfl | omega) (by first | exact Nat.le_of_ble_eq_true rfl | omega) ?_
  exact ⟨rfl, rfl⟩
theorem c_ABinit (hl : l.stackTraces = false) {k a : Nat} {v1 v2 v3 : Value} (h : w k = some (a, .inr (0, [v1, v2, v3]))) : ZM l z mJxc12de_init_da8c8 2 0 0 [.ref a] w (fun r w1 => r = none ∧ w1 = va_up w k (some (a, .inr (0, [.int 0, v2, v3])))) zNo := by
  refine zbody (M := mJxc12de_init_da8c8) (L0 := [_]) hl (by simp [Value.category]) (Nat.le_of_ble_eq_true rfl) (by decide +kernel) rfl ?_
  intro p e s m args below meth c C hX hnm hret
  replace C : zC z p l s m args meth c cJxc12de_init_da8c8 RJxc12de 1 := C
  replace hret : meth.sig.returnType = none := hret
  refine z_aload_n C dJxc12de_init_da8c8_0 rfl ?_
  refine z_callI C zm_Jxa1e45_init_da8c8 zl_Jxc12de_1 (c_ACinit hl) dJxc12de_init_da8c8_1 (by rfl) (by rfl) (by exact Nat.le_of_ble_eq_true rfl) rfl (by exact ⟨Nat.le_of_ble_eq_true rfl, Nat.le_of_ble_eq_true rfl⟩) (by first | exact ⟨Nat.le_of_ble_eq_true rfl, Nat.le_of_ble_eq_true rfl⟩ | (simp only [zrm]; omega)) (fun _ _ h => z_xno h) (fun r w1 hq => ?_)
  obtain ⟨rfl, rfl⟩ := hq
  refine z_aload_n C dJxc12de_init_da8c8_4 rfl ?_
  refine z_iconst C (0) dJxc12de_init_da8c8_5 (by decide) ?_
  refine z_putf C (fs1 := [_, _, _]) zp_Jxc12de_7 dJxc12de_init_da8c8_6 (by first | assumption | exact zk_eq | exact zk_ne (by first | assumption | exact zk_eq | exact zk_ne (by first | assumption | exact zk_eq | exact zk_ne (by first | assumption | exact zk_eq | exact zk_ne (by first | assumption | exact zk_eq | exact zk_ne (by first | assumption | exact zk_eq) (by first | decide | omega)) (by first | decide | omega)) (by first | decide | omega)) (by first | decide | omega)) (by first | decide | omega)) (by first | rfl | exact zb_nar _ | assumption) (by first | rfl | exact zb_fit _ | assumption) (by exact Nat.le_of_ble_eq_true rfl) (by rfl) ?_
  refine z_vret C hret dJxc12de_init_da8c8_9 (by first | exact Nat.le_of_ble_eq_true rfl | omega) (by first | exact Nat.le_of_ble_eq_true rfl | omega) ?_
  exact ⟨rfl, rfl⟩
theorem c_ALinit (hl : l.stackTraces = false) {k a : Nat} {v1 v2 : Value} (h : w k = some (a, .inr (0, [v1, v2, .int 0]))) : ZM l z mJx4a65c_init_da8c8 3 0 0 [.ref a] w (fun r w1 => r = none ∧ zLs z w1 k a [] ∧ ∀ j : Nat, j ≠ k → w1 j = w j) zNo := by
  refine zbody (M := mJx4a65c_init_da8c8) (L0 := [_]) hl (by simp [Value.category]) (Nat.le_of_ble_eq_true rfl) (by decide +kernel) rfl ?_
  intro p e s m args below meth c C hX hnm hret
  replace C : zC z p l s m args meth c cJx4a65c_init_da8c8 RJx4a65c 1 := C
  replace hret : meth.sig.returnType = none := hret
  refine z_aload_n C dJx4a65c_init_da8c8_0 rfl ?_
  refine z_callI C zm_Jxc12de_init_da8c8 zl_Jx4a65c_1 (c_ABinit hl h) dJx4a65c_init_da8c8_1 (by rfl) (by rfl) (by exact Nat.le_of_ble_eq_true rfl) rfl (by exact ⟨Nat.le_of_ble_eq_true rfl, Nat.le_of_ble_eq_true rfl⟩) (by first | exact ⟨Nat.le_of_ble_eq_true rfl, Nat.le_of_ble_eq_true rfl⟩ | (simp only [zrm]; omega)) (fun _ _ h => z_xno h) (fun r w1 hq => ?_)
  obtain ⟨rfl, rfl⟩ := hq
  refine z_aload_n C dJx4a65c_init_da8c8_4 rfl ?_
  refine z_gets C zw_Jx4a65c_39 dJx4a65c_init_da8c8_5 ?_
  refine z_putf C (fs1 := [_, _, _]) zp_Jx4a65c_9 dJx4a65c_init_da8c8_8 (by first | assumption | exact zk_eq | exact zk_ne (by first | assumption | exact zk_eq | exact zk_ne (by first | assumption | exact zk_eq | exact zk_ne (by first | assumption | exact zk_eq | exact zk_ne (by first | assumption | exact zk_eq | exact zk_ne (by first | assumption | exact zk_eq) (by first | decide | omega)) (by first | decide | omega)) (by first | decide | omega)) (by first | decide | omega)) (by first | decide | omega)) (by first | rfl | exact zb_nar _ | assumption) (by first | rfl | exact zb_fit _ | assumption) (by exact Nat.le_of_ble_eq_true rfl) (by rfl) ?_
  refine z_vret C hret dJx4a65c_init_da8c8_11 (by first | exact Nat.le_of_ble_eq_true rfl | omega) (by first | exact Nat.le_of_ble_eq_true rfl | omega) ?_
  exact ⟨rfl, ⟨0, _, (by first | assumption | exact zk_eq | exact zk_ne (by first | assumption | exact zk_eq | exact zk_ne (by first | assumption | exact zk_eq | exact zk_ne (by first | assumption | exact zk_eq | exact zk_ne (by first | assumption | exact zk_eq | exact zk_ne (by first | assumption | exact zk_eq) (by first | decide | omega)) (by first | decide | omega)) (by first | decide | omega)) (by first | decide | omega)) (by first | decide | omega)), Or.inl ⟨rfl, rfl⟩⟩, fun j j1 => by (repeat (refine (va_up_ne _ _ (by first | assumption | omega)).trans ?_)); rfl⟩
end ZAL
end
