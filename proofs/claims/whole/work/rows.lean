section
-- ===== PART A: goes FIRST, ahead of the names: the tables' words, and 'selects' of the private methods out of them =====
/-- a private method of a class that the tables say can be made, by its rows of tables_1 -/
def lw_okq (q : MethodName × Nat) : Prop := (q.1.cls ≠ "java/lang/invoke/MethodHandle" ∧ q.1.cls ≠ "java/lang/invoke/VarHandle") ∧ Cond.instantiable q.1.cls q.2 ∈ tables_1 ∧ Cond.privateMethod q.1 ∈ tables_1 ∧ Cond.instanceMethod q.1 ∈ tables_1
theorem lw_p0 : lw_okq (⟨"SessionHost", "singletonAt", "(I)LSessionHost$Singleton;"⟩, 10) := ⟨⟨by decide +kernel, by decide +kernel⟩, List.mem_of_getElem? (i := 23) (by decide +kernel), List.mem_of_getElem? (i := 304) (by decide +kernel), List.mem_of_getElem? (i := 305) (by decide +kernel)⟩
theorem lw_p1 : lw_okq (⟨"SessionHost", "targetAt", "(I)LSessionHost$Target;"⟩, 10) := ⟨⟨by decide +kernel, by decide +kernel⟩, List.mem_of_getElem? (i := 23) (by decide +kernel), List.mem_of_getElem? (i := 308) (by decide +kernel), List.mem_of_getElem? (i := 309) (by decide +kernel)⟩
theorem lw_p2 : lw_okq (⟨"java/util/ArrayList", "add", "(Ljava/lang/Object;[Ljava/lang/Object;I)V"⟩, 3) := ⟨⟨by decide +kernel, by decide +kernel⟩, List.mem_of_getElem? (i := 80) (by decide +kernel), List.mem_of_getElem? (i := 343) (by decide +kernel), List.mem_of_getElem? (i := 344) (by decide +kernel)⟩
theorem lw_p3 : lw_okq (⟨"java/util/ArrayList", "grow", "()[Ljava/lang/Object;"⟩, 3) := ⟨⟨by decide +kernel, by decide +kernel⟩, List.mem_of_getElem? (i := 80) (by decide +kernel), List.mem_of_getElem? (i := 347) (by decide +kernel), List.mem_of_getElem? (i := 348) (by decide +kernel)⟩
theorem lw_p4 : lw_okq (⟨"java/util/ArrayList", "grow", "(I)[Ljava/lang/Object;"⟩, 3) := ⟨⟨by decide +kernel, by decide +kernel⟩, List.mem_of_getElem? (i := 80) (by decide +kernel), List.mem_of_getElem? (i := 351) (by decide +kernel), List.mem_of_getElem? (i := 352) (by decide +kernel)⟩
theorem lw_p5 : lw_okq (⟨"SessionHost$Singleton", "begin", "(I)V"⟩, 12) := ⟨⟨by decide +kernel, by decide +kernel⟩, List.mem_of_getElem? (i := 259) (by decide +kernel), List.mem_of_getElem? (i := 410) (by decide +kernel), List.mem_of_getElem? (i := 411) (by decide +kernel)⟩
theorem lw_p6 : lw_okq (⟨"SessionHost", "countBegun", "()I"⟩, 10) := ⟨⟨by decide +kernel, by decide +kernel⟩, List.mem_of_getElem? (i := 23) (by decide +kernel), List.mem_of_getElem? (i := 423) (by decide +kernel), List.mem_of_getElem? (i := 424) (by decide +kernel)⟩
theorem lw_p7 : lw_okq (⟨"SessionHost$Session", "markUsed", "()V"⟩, 11) := ⟨⟨by decide +kernel, by decide +kernel⟩, List.mem_of_getElem? (i := 432) (by decide +kernel), List.mem_of_getElem? (i := 474) (by decide +kernel), List.mem_of_getElem? (i := 475) (by decide +kernel)⟩
theorem lw_p8 : lw_okq (⟨"SessionHost", "settle", "()V"⟩, 10) := ⟨⟨by decide +kernel, by decide +kernel⟩, List.mem_of_getElem? (i := 23) (by decide +kernel), List.mem_of_getElem? (i := 482) (by decide +kernel), List.mem_of_getElem? (i := 483) (by decide +kernel)⟩
theorem lw_p9 : lw_okq (⟨"SessionHost", "settleLine", "(LSessionHost$Target;)V"⟩, 10) := ⟨⟨by decide +kernel, by decide +kernel⟩, List.mem_of_getElem? (i := 23) (by decide +kernel), List.mem_of_getElem? (i := 486) (by decide +kernel), List.mem_of_getElem? (i := 487) (by decide +kernel)⟩
theorem lw_p10 : lw_okq (⟨"java/util/ArrayList", "fastRemove", "([Ljava/lang/Object;I)V"⟩, 3) := ⟨⟨by decide +kernel, by decide +kernel⟩, List.mem_of_getElem? (i := 80) (by decide +kernel), List.mem_of_getElem? (i := 526) (by decide +kernel), List.mem_of_getElem? (i := 527) (by decide +kernel)⟩
theorem lw_p11 : lw_okq (⟨"SessionHost", "enter", "(LSessionHost$Caller;LSessionHost$Target;I)V"⟩, 10) := ⟨⟨by decide +kernel, by decide +kernel⟩, List.mem_of_getElem? (i := 23) (by decide +kernel), List.mem_of_getElem? (i := 531) (by decide +kernel), List.mem_of_getElem? (i := 532) (by decide +kernel)⟩
theorem lw_p12 : lw_okq (⟨"SessionHost", "handOut", "(LSessionHost$Task;)V"⟩, 10) := ⟨⟨by decide +kernel, by decide +kernel⟩, List.mem_of_getElem? (i := 23) (by decide +kernel), List.mem_of_getElem? (i := 563) (by decide +kernel), List.mem_of_getElem? (i := 564) (by decide +kernel)⟩
theorem lw_p13 : lw_okq (⟨"SessionHost", "freeWorker", "()LSessionHost$Caller;"⟩, 10) := ⟨⟨by decide +kernel, by decide +kernel⟩, List.mem_of_getElem? (i := 23) (by decide +kernel), List.mem_of_getElem? (i := 571) (by decide +kernel), List.mem_of_getElem? (i := 572) (by decide +kernel)⟩
theorem lw_p14 : lw_okq (⟨"SessionHost", "makeCall", "(LSessionHost$Caller;LSessionHost$Target;I)I"⟩, 10) := ⟨⟨by decide +kernel, by decide +kernel⟩, List.mem_of_getElem? (i := 23) (by decide +kernel), List.mem_of_getElem? (i := 575) (by decide +kernel), List.mem_of_getElem? (i := 576) (by decide +kernel)⟩
theorem lw_p15 : lw_okq (⟨"SessionHost$Stateful", "longestUnused", "()LSessionHost$Session;"⟩, 4) := ⟨⟨by decide +kernel, by decide +kernel⟩, List.mem_of_getElem? (i := 188) (by decide +kernel), List.mem_of_getElem? (i := 595) (by decide +kernel), List.mem_of_getElem? (i := 596) (by decide +kernel)⟩
def lw_privs_1 : List (MethodName × Nat) := [(⟨"SessionHost", "singletonAt", "(I)LSessionHost$Singleton;"⟩, 10), (⟨"SessionHost", "targetAt", "(I)LSessionHost$Target;"⟩, 10), (⟨"java/util/ArrayList", "add", "(Ljava/lang/Object;[Ljava/lang/Object;I)V"⟩, 3), (⟨"java/util/ArrayList", "grow", "()[Ljava/lang/Object;"⟩, 3), (⟨"java/util/ArrayList", "grow", "(I)[Ljava/lang/Object;"⟩, 3), (⟨"SessionHost$Singleton", "begin", "(I)V"⟩, 12), (⟨"SessionHost", "countBegun", "()I"⟩, 10), (⟨"SessionHost$Session", "markUsed", "()V"⟩, 11), (⟨"SessionHost", "settle", "()V"⟩, 10), (⟨"SessionHost", "settleLine", "(LSessionHost$Target;)V"⟩, 10), (⟨"java/util/ArrayList", "fastRemove", "([Ljava/lang/Object;I)V"⟩, 3), (⟨"SessionHost", "enter", "(LSessionHost$Caller;LSessionHost$Target;I)V"⟩, 10), (⟨"SessionHost", "handOut", "(LSessionHost$Task;)V"⟩, 10), (⟨"SessionHost", "freeWorker", "()LSessionHost$Caller;"⟩, 10), (⟨"SessionHost", "makeCall", "(LSessionHost$Caller;LSessionHost$Target;I)I"⟩, 10), (⟨"SessionHost$Stateful", "longestUnused", "()LSessionHost$Session;"⟩, 4)]
theorem lw_r1 : ∀ q ∈ lw_privs_1, lw_okq q := List.forall_mem_cons.mpr ⟨lw_p0, List.forall_mem_cons.mpr ⟨lw_p1, List.forall_mem_cons.mpr ⟨lw_p2, List.forall_mem_cons.mpr ⟨lw_p3, List.forall_mem_cons.mpr ⟨lw_p4, List.forall_mem_cons.mpr ⟨lw_p5, List.forall_mem_cons.mpr ⟨lw_p6, List.forall_mem_cons.mpr ⟨lw_p7, List.forall_mem_cons.mpr ⟨lw_p8, List.forall_mem_cons.mpr ⟨lw_p9, List.forall_mem_cons.mpr ⟨lw_p10, List.forall_mem_cons.mpr ⟨lw_p11, List.forall_mem_cons.mpr ⟨lw_p12, List.forall_mem_cons.mpr ⟨lw_p13, List.forall_mem_cons.mpr ⟨lw_p14, List.forall_mem_cons.mpr ⟨lw_p15, fun _ h => absurd h List.not_mem_nil⟩⟩⟩⟩⟩⟩⟩⟩⟩⟩⟩⟩⟩⟩⟩⟩
theorem lw_p16 : lw_okq (⟨"SessionHost", "callerAt", "(I)LSessionHost$Caller;"⟩, 10) := ⟨⟨by decide +kernel, by decide +kernel⟩, List.mem_of_getElem? (i := 23) (by decide +kernel), List.mem_of_getElem? (i := 607) (by decide +kernel), List.mem_of_getElem? (i := 608) (by decide +kernel)⟩
theorem lw_p17 : lw_okq (⟨"SessionHost", "endMethod", "(LSessionHost$Caller;I)I"⟩, 10) := ⟨⟨by decide +kernel, by decide +kernel⟩, List.mem_of_getElem? (i := 23) (by decide +kernel), List.mem_of_getElem? (i := 634) (by decide +kernel), List.mem_of_getElem? (i := 635) (by decide +kernel)⟩
theorem lw_p18 : lw_okq (⟨"SessionHost$Session", "vanish", "(I)V"⟩, 11) := ⟨⟨by decide +kernel, by decide +kernel⟩, List.mem_of_getElem? (i := 432) (by decide +kernel), List.mem_of_getElem? (i := 652) (by decide +kernel), List.mem_of_getElem? (i := 653) (by decide +kernel)⟩
theorem lw_p19 : lw_okq (⟨"SessionHost", "endIfNoMethodIsLeft", "()V"⟩, 10) := ⟨⟨by decide +kernel, by decide +kernel⟩, List.mem_of_getElem? (i := 23) (by decide +kernel), List.mem_of_getElem? (i := 659) (by decide +kernel), List.mem_of_getElem? (i := 660) (by decide +kernel)⟩
theorem lw_p20 : lw_okq (⟨"SessionHost", "endAll", "()V"⟩, 10) := ⟨⟨by decide +kernel, by decide +kernel⟩, List.mem_of_getElem? (i := 23) (by decide +kernel), List.mem_of_getElem? (i := 663) (by decide +kernel), List.mem_of_getElem? (i := 664) (by decide +kernel)⟩
theorem lw_p21 : lw_okq (⟨"SessionHost$Pool", "takeLowest", "()I"⟩, 8) := ⟨⟨by decide +kernel, by decide +kernel⟩, List.mem_of_getElem? (i := 212) (by decide +kernel), List.mem_of_getElem? (i := 675) (by decide +kernel), List.mem_of_getElem? (i := 676) (by decide +kernel)⟩
theorem lw_p22 : lw_okq (⟨"SessionHost", "latestBegun", "()LSessionHost$Singleton;"⟩, 10) := ⟨⟨by decide +kernel, by decide +kernel⟩, List.mem_of_getElem? (i := 23) (by decide +kernel), List.mem_of_getElem? (i := 679) (by decide +kernel), List.mem_of_getElem? (i := 680) (by decide +kernel)⟩
theorem lw_p23 : lw_okq (⟨"SessionHost", "timeOutCallers", "()I"⟩, 10) := ⟨⟨by decide +kernel, by decide +kernel⟩, List.mem_of_getElem? (i := 23) (by decide +kernel), List.mem_of_getElem? (i := 692) (by decide +kernel), List.mem_of_getElem? (i := 693) (by decide +kernel)⟩
theorem lw_p24 : lw_okq (⟨"SessionHost", "retireIdleSessions", "()I"⟩, 10) := ⟨⟨by decide +kernel, by decide +kernel⟩, List.mem_of_getElem? (i := 23) (by decide +kernel), List.mem_of_getElem? (i := 700) (by decide +kernel), List.mem_of_getElem? (i := 701) (by decide +kernel)⟩
theorem lw_p25 : lw_okq (⟨"SessionHostModel", "isSingleton", "(I)Z"⟩, 46) := ⟨⟨by decide +kernel, by decide +kernel⟩, List.mem_of_getElem? (i := 801) (by decide +kernel), List.mem_of_getElem? (i := 955) (by decide +kernel), List.mem_of_getElem? (i := 956) (by decide +kernel)⟩
theorem lw_p26 : lw_okq (⟨"SessionHostModel", "below", "(I)I"⟩, 46) := ⟨⟨by decide +kernel, by decide +kernel⟩, List.mem_of_getElem? (i := 801) (by decide +kernel), List.mem_of_getElem? (i := 959) (by decide +kernel), List.mem_of_getElem? (i := 960) (by decide +kernel)⟩
theorem lw_p27 : lw_okq (⟨"SessionHostModel", "begin", "(I)V"⟩, 46) := ⟨⟨by decide +kernel, by decide +kernel⟩, List.mem_of_getElem? (i := 801) (by decide +kernel), List.mem_of_getElem? (i := 971) (by decide +kernel), List.mem_of_getElem? (i := 972) (by decide +kernel)⟩
theorem lw_p28 : lw_okq (⟨"SessionHostModel", "fresh", "()I"⟩, 46) := ⟨⟨by decide +kernel, by decide +kernel⟩, List.mem_of_getElem? (i := 801) (by decide +kernel), List.mem_of_getElem? (i := 975) (by decide +kernel), List.mem_of_getElem? (i := 976) (by decide +kernel)⟩
theorem lw_p29 : lw_okq (⟨"SessionHostModel", "note", "(III)V"⟩, 46) := ⟨⟨by decide +kernel, by decide +kernel⟩, List.mem_of_getElem? (i := 801) (by decide +kernel), List.mem_of_getElem? (i := 979) (by decide +kernel), List.mem_of_getElem? (i := 980) (by decide +kernel)⟩
theorem lw_p30 : lw_okq (⟨"SessionHostModel", "use", "(I)V"⟩, 46) := ⟨⟨by decide +kernel, by decide +kernel⟩, List.mem_of_getElem? (i := 801) (by decide +kernel), List.mem_of_getElem? (i := 987) (by decide +kernel), List.mem_of_getElem? (i := 988) (by decide +kernel)⟩
theorem lw_p31 : lw_okq (⟨"SessionHostModel", "settle", "()V"⟩, 46) := ⟨⟨by decide +kernel, by decide +kernel⟩, List.mem_of_getElem? (i := 801) (by decide +kernel), List.mem_of_getElem? (i := 991) (by decide +kernel), List.mem_of_getElem? (i := 992) (by decide +kernel)⟩
def lw_privs_2 : List (MethodName × Nat) := [(⟨"SessionHost", "callerAt", "(I)LSessionHost$Caller;"⟩, 10), (⟨"SessionHost", "endMethod", "(LSessionHost$Caller;I)I"⟩, 10), (⟨"SessionHost$Session", "vanish", "(I)V"⟩, 11), (⟨"SessionHost", "endIfNoMethodIsLeft", "()V"⟩, 10), (⟨"SessionHost", "endAll", "()V"⟩, 10), (⟨"SessionHost$Pool", "takeLowest", "()I"⟩, 8), (⟨"SessionHost", "latestBegun", "()LSessionHost$Singleton;"⟩, 10), (⟨"SessionHost", "timeOutCallers", "()I"⟩, 10), (⟨"SessionHost", "retireIdleSessions", "()I"⟩, 10), (⟨"SessionHostModel", "isSingleton", "(I)Z"⟩, 46), (⟨"SessionHostModel", "below", "(I)I"⟩, 46), (⟨"SessionHostModel", "begin", "(I)V"⟩, 46), (⟨"SessionHostModel", "fresh", "()I"⟩, 46), (⟨"SessionHostModel", "note", "(III)V"⟩, 46), (⟨"SessionHostModel", "use", "(I)V"⟩, 46), (⟨"SessionHostModel", "settle", "()V"⟩, 46)]
theorem lw_r2 : ∀ q ∈ lw_privs_2, lw_okq q := List.forall_mem_cons.mpr ⟨lw_p16, List.forall_mem_cons.mpr ⟨lw_p17, List.forall_mem_cons.mpr ⟨lw_p18, List.forall_mem_cons.mpr ⟨lw_p19, List.forall_mem_cons.mpr ⟨lw_p20, List.forall_mem_cons.mpr ⟨lw_p21, List.forall_mem_cons.mpr ⟨lw_p22, List.forall_mem_cons.mpr ⟨lw_p23, List.forall_mem_cons.mpr ⟨lw_p24, List.forall_mem_cons.mpr ⟨lw_p25, List.forall_mem_cons.mpr ⟨lw_p26, List.forall_mem_cons.mpr ⟨lw_p27, List.forall_mem_cons.mpr ⟨lw_p28, List.forall_mem_cons.mpr ⟨lw_p29, List.forall_mem_cons.mpr ⟨lw_p30, List.forall_mem_cons.mpr ⟨lw_p31, fun _ h => absurd h List.not_mem_nil⟩⟩⟩⟩⟩⟩⟩⟩⟩⟩⟩⟩⟩⟩⟩⟩
theorem lw_p32 : lw_okq (⟨"SessionHostModel", "lines", "()V"⟩, 46) := ⟨⟨by decide +kernel, by decide +kernel⟩, List.mem_of_getElem? (i := 801) (by decide +kernel), List.mem_of_getElem? (i := 995) (by decide +kernel), List.mem_of_getElem? (i := 996) (by decide +kernel)⟩
theorem lw_p33 : lw_okq (⟨"SessionHostModel", "firstIn", "(I)I"⟩, 46) := ⟨⟨by decide +kernel, by decide +kernel⟩, List.mem_of_getElem? (i := 801) (by decide +kernel), List.mem_of_getElem? (i := 999) (by decide +kernel), List.mem_of_getElem? (i := 1000) (by decide +kernel)⟩
theorem lw_p34 : lw_okq (⟨"SessionHostModel", "open", "(II)Z"⟩, 46) := ⟨⟨by decide +kernel, by decide +kernel⟩, List.mem_of_getElem? (i := 801) (by decide +kernel), List.mem_of_getElem? (i := 1003) (by decide +kernel), List.mem_of_getElem? (i := 1004) (by decide +kernel)⟩
theorem lw_p35 : lw_okq (⟨"SessionHostModel", "componentOf", "(I)I"⟩, 46) := ⟨⟨by decide +kernel, by decide +kernel⟩, List.mem_of_getElem? (i := 801) (by decide +kernel), List.mem_of_getElem? (i := 1007) (by decide +kernel), List.mem_of_getElem? (i := 1008) (by decide +kernel)⟩
theorem lw_p36 : lw_okq (⟨"SessionHostModel", "freeCell", "(I)I"⟩, 46) := ⟨⟨by decide +kernel, by decide +kernel⟩, List.mem_of_getElem? (i := 801) (by decide +kernel), List.mem_of_getElem? (i := 1011) (by decide +kernel), List.mem_of_getElem? (i := 1012) (by decide +kernel)⟩
theorem lw_p37 : lw_okq (⟨"SessionHostModel", "instanceInUse", "(I)Z"⟩, 46) := ⟨⟨by decide +kernel, by decide +kernel⟩, List.mem_of_getElem? (i := 801) (by decide +kernel), List.mem_of_getElem? (i := 1015) (by decide +kernel), List.mem_of_getElem? (i := 1016) (by decide +kernel)⟩
theorem lw_p38 : lw_okq (⟨"SessionHostModel", "pooled", "(I)I"⟩, 46) := ⟨⟨by decide +kernel, by decide +kernel⟩, List.mem_of_getElem? (i := 801) (by decide +kernel), List.mem_of_getElem? (i := 1019) (by decide +kernel), List.mem_of_getElem? (i := 1020) (by decide +kernel)⟩
theorem lw_p39 : lw_okq (⟨"SessionHostModel", "methodsIn", "(IIII)I"⟩, 46) := ⟨⟨by decide +kernel, by decide +kernel⟩, List.mem_of_getElem? (i := 801) (by decide +kernel), List.mem_of_getElem? (i := 1023) (by decide +kernel), List.mem_of_getElem? (i := 1024) (by decide +kernel)⟩
theorem lw_p40 : lw_okq (⟨"SessionHostModel", "give", "(II)V"⟩, 46) := ⟨⟨by decide +kernel, by decide +kernel⟩, List.mem_of_getElem? (i := 801) (by decide +kernel), List.mem_of_getElem? (i := 1027) (by decide +kernel), List.mem_of_getElem? (i := 1028) (by decide +kernel)⟩
theorem lw_p41 : lw_okq (⟨"SessionHostModel", "enter", "(III)I"⟩, 46) := ⟨⟨by decide +kernel, by decide +kernel⟩, List.mem_of_getElem? (i := 801) (by decide +kernel), List.mem_of_getElem? (i := 1031) (by decide +kernel), List.mem_of_getElem? (i := 1032) (by decide +kernel)⟩
theorem lw_p42 : lw_okq (⟨"SessionHostModel", "pooledInstance", "(I)I"⟩, 46) := ⟨⟨by decide +kernel, by decide +kernel⟩, List.mem_of_getElem? (i := 801) (by decide +kernel), List.mem_of_getElem? (i := 1035) (by decide +kernel), List.mem_of_getElem? (i := 1036) (by decide +kernel)⟩
theorem lw_p43 : lw_okq (⟨"SessionHostModel", "work", "()V"⟩, 46) := ⟨⟨by decide +kernel, by decide +kernel⟩, List.mem_of_getElem? (i := 801) (by decide +kernel), List.mem_of_getElem? (i := 1039) (by decide +kernel), List.mem_of_getElem? (i := 1040) (by decide +kernel)⟩
theorem lw_p44 : lw_okq (⟨"SessionHostModel", "attempt", "(III)I"⟩, 46) := ⟨⟨by decide +kernel, by decide +kernel⟩, List.mem_of_getElem? (i := 801) (by decide +kernel), List.mem_of_getElem? (i := 1043) (by decide +kernel), List.mem_of_getElem? (i := 1044) (by decide +kernel)⟩
theorem lw_p45 : lw_okq (⟨"SessionHostModel", "answer", "(II)I"⟩, 46) := ⟨⟨by decide +kernel, by decide +kernel⟩, List.mem_of_getElem? (i := 801) (by decide +kernel), List.mem_of_getElem? (i := 1047) (by decide +kernel), List.mem_of_getElem? (i := 1048) (by decide +kernel)⟩
theorem lw_p46 : lw_okq (⟨"SessionHostModel", "refuse", "(III)I"⟩, 46) := ⟨⟨by decide +kernel, by decide +kernel⟩, List.mem_of_getElem? (i := 801) (by decide +kernel), List.mem_of_getElem? (i := 1051) (by decide +kernel), List.mem_of_getElem? (i := 1052) (by decide +kernel)⟩
theorem lw_p47 : lw_okq (⟨"SessionHostModel", "putAway", "(I)V"⟩, 46) := ⟨⟨by decide +kernel, by decide +kernel⟩, List.mem_of_getElem? (i := 801) (by decide +kernel), List.mem_of_getElem? (i := 1055) (by decide +kernel), List.mem_of_getElem? (i := 1056) (by decide +kernel)⟩
def lw_privs_3 : List (MethodName × Nat) := [(⟨"SessionHostModel", "lines", "()V"⟩, 46), (⟨"SessionHostModel", "firstIn", "(I)I"⟩, 46), (⟨"SessionHostModel", "open", "(II)Z"⟩, 46), (⟨"SessionHostModel", "componentOf", "(I)I"⟩, 46), (⟨"SessionHostModel", "freeCell", "(I)I"⟩, 46), (⟨"SessionHostModel", "instanceInUse", "(I)Z"⟩, 46), (⟨"SessionHostModel", "pooled", "(I)I"⟩, 46), (⟨"SessionHostModel", "methodsIn", "(IIII)I"⟩, 46), (⟨"SessionHostModel", "give", "(II)V"⟩, 46), (⟨"SessionHostModel", "enter", "(III)I"⟩, 46), (⟨"SessionHostModel", "pooledInstance", "(I)I"⟩, 46), (⟨"SessionHostModel", "work", "()V"⟩, 46), (⟨"SessionHostModel", "attempt", "(III)I"⟩, 46), (⟨"SessionHostModel", "answer", "(II)I"⟩, 46), (⟨"SessionHostModel", "refuse", "(III)I"⟩, 46), (⟨"SessionHostModel", "putAway", "(I)V"⟩, 46)]
theorem lw_r3 : ∀ q ∈ lw_privs_3, lw_okq q := List.forall_mem_cons.mpr ⟨lw_p32, List.forall_mem_cons.mpr ⟨lw_p33, List.forall_mem_cons.mpr ⟨lw_p34, List.forall_mem_cons.mpr ⟨lw_p35, List.forall_mem_cons.mpr ⟨lw_p36, List.forall_mem_cons.mpr ⟨lw_p37, List.forall_mem_cons.mpr ⟨lw_p38, List.forall_mem_cons.mpr ⟨lw_p39, List.forall_mem_cons.mpr ⟨lw_p40, List.forall_mem_cons.mpr ⟨lw_p41, List.forall_mem_cons.mpr ⟨lw_p42, List.forall_mem_cons.mpr ⟨lw_p43, List.forall_mem_cons.mpr ⟨lw_p44, List.forall_mem_cons.mpr ⟨lw_p45, List.forall_mem_cons.mpr ⟨lw_p46, List.forall_mem_cons.mpr ⟨lw_p47, fun _ h => absurd h List.not_mem_nil⟩⟩⟩⟩⟩⟩⟩⟩⟩⟩⟩⟩⟩⟩⟩⟩
theorem lw_p48 : lw_okq (⟨"SessionHostModel", "inMemory", "(I)I"⟩, 46) := ⟨⟨by decide +kernel, by decide +kernel⟩, List.mem_of_getElem? (i := 801) (by decide +kernel), List.mem_of_getElem? (i := 1059) (by decide +kernel), List.mem_of_getElem? (i := 1060) (by decide +kernel)⟩
theorem lw_p49 : lw_okq (⟨"SessionHostModel", "isTarget", "(I)Z"⟩, 46) := ⟨⟨by decide +kernel, by decide +kernel⟩, List.mem_of_getElem? (i := 801) (by decide +kernel), List.mem_of_getElem? (i := 1067) (by decide +kernel), List.mem_of_getElem? (i := 1068) (by decide +kernel)⟩
theorem lw_p50 : lw_okq (⟨"SessionHostModel", "isMode", "(II)Z"⟩, 46) := ⟨⟨by decide +kernel, by decide +kernel⟩, List.mem_of_getElem? (i := 801) (by decide +kernel), List.mem_of_getElem? (i := 1071) (by decide +kernel), List.mem_of_getElem? (i := 1072) (by decide +kernel)⟩
theorem lw_p51 : lw_okq (⟨"SessionHostModel", "isSystem", "(I)Z"⟩, 46) := ⟨⟨by decide +kernel, by decide +kernel⟩, List.mem_of_getElem? (i := 801) (by decide +kernel), List.mem_of_getElem? (i := 1079) (by decide +kernel), List.mem_of_getElem? (i := 1080) (by decide +kernel)⟩
theorem lw_p52 : lw_okq (⟨"SessionHostModel", "leave", "(IIIZZ)V"⟩, 46) := ⟨⟨by decide +kernel, by decide +kernel⟩, List.mem_of_getElem? (i := 801) (by decide +kernel), List.mem_of_getElem? (i := 1083) (by decide +kernel), List.mem_of_getElem? (i := 1084) (by decide +kernel)⟩
theorem lw_p53 : lw_okq (⟨"SessionHostModel", "quiet", "()Z"⟩, 46) := ⟨⟨by decide +kernel, by decide +kernel⟩, List.mem_of_getElem? (i := 801) (by decide +kernel), List.mem_of_getElem? (i := 1087) (by decide +kernel), List.mem_of_getElem? (i := 1088) (by decide +kernel)⟩
theorem lw_p54 : lw_okq (⟨"SessionHostModel", "end", "()V"⟩, 46) := ⟨⟨by decide +kernel, by decide +kernel⟩, List.mem_of_getElem? (i := 801) (by decide +kernel), List.mem_of_getElem? (i := 1091) (by decide +kernel), List.mem_of_getElem? (i := 1092) (by decide +kernel)⟩
theorem lw_p55 : lw_okq (⟨"SessionHostModel", "goAway", "(I)V"⟩, 46) := ⟨⟨by decide +kernel, by decide +kernel⟩, List.mem_of_getElem? (i := 801) (by decide +kernel), List.mem_of_getElem? (i := 1095) (by decide +kernel), List.mem_of_getElem? (i := 1096) (by decide +kernel)⟩
theorem lw_p56 : lw_okq (⟨"SessionHostModel", "takeLeast", "(I)I"⟩, 46) := ⟨⟨by decide +kernel, by decide +kernel⟩, List.mem_of_getElem? (i := 801) (by decide +kernel), List.mem_of_getElem? (i := 1099) (by decide +kernel), List.mem_of_getElem? (i := 1100) (by decide +kernel)⟩
theorem lw_p57 : lw_okq (⟨"SessionHostModel", "lapse", "()I"⟩, 46) := ⟨⟨by decide +kernel, by decide +kernel⟩, List.mem_of_getElem? (i := 801) (by decide +kernel), List.mem_of_getElem? (i := 1107) (by decide +kernel), List.mem_of_getElem? (i := 1108) (by decide +kernel)⟩
theorem lw_p58 : lw_okq (⟨"SessionHostModel", "fade", "()I"⟩, 46) := ⟨⟨by decide +kernel, by decide +kernel⟩, List.mem_of_getElem? (i := 801) (by decide +kernel), List.mem_of_getElem? (i := 1111) (by decide +kernel), List.mem_of_getElem? (i := 1112) (by decide +kernel)⟩
def lw_privs_4 : List (MethodName × Nat) := [(⟨"SessionHostModel", "inMemory", "(I)I"⟩, 46), (⟨"SessionHostModel", "isTarget", "(I)Z"⟩, 46), (⟨"SessionHostModel", "isMode", "(II)Z"⟩, 46), (⟨"SessionHostModel", "isSystem", "(I)Z"⟩, 46), (⟨"SessionHostModel", "leave", "(IIIZZ)V"⟩, 46), (⟨"SessionHostModel", "quiet", "()Z"⟩, 46), (⟨"SessionHostModel", "end", "()V"⟩, 46), (⟨"SessionHostModel", "goAway", "(I)V"⟩, 46), (⟨"SessionHostModel", "takeLeast", "(I)I"⟩, 46), (⟨"SessionHostModel", "lapse", "()I"⟩, 46), (⟨"SessionHostModel", "fade", "()I"⟩, 46)]
theorem lw_r4 : ∀ q ∈ lw_privs_4, lw_okq q := List.forall_mem_cons.mpr ⟨lw_p48, List.forall_mem_cons.mpr ⟨lw_p49, List.forall_mem_cons.mpr ⟨lw_p50, List.forall_mem_cons.mpr ⟨lw_p51, List.forall_mem_cons.mpr ⟨lw_p52, List.forall_mem_cons.mpr ⟨lw_p53, List.forall_mem_cons.mpr ⟨lw_p54, List.forall_mem_cons.mpr ⟨lw_p55, List.forall_mem_cons.mpr ⟨lw_p56, List.forall_mem_cons.mpr ⟨lw_p57, List.forall_mem_cons.mpr ⟨lw_p58, fun _ h => absurd h List.not_mem_nil⟩⟩⟩⟩⟩⟩⟩⟩⟩⟩⟩
def lw_privs : List (MethodName × Nat) := lw_privs_1 ++ (lw_privs_2 ++ (lw_privs_3 ++ (lw_privs_4)))
def lw_tbl : List Cond := k2_sels lw_privs ++ tables_1
theorem lw_privs_ok : ∀ q ∈ lw_privs, lw_okq q := by
  show ∀ q ∈ lw_privs_1 ++ (lw_privs_2 ++ (lw_privs_3 ++ (lw_privs_4))), lw_okq q
  exact List.forall_mem_append.mpr ⟨lw_r1, List.forall_mem_append.mpr ⟨lw_r2, List.forall_mem_append.mpr ⟨lw_r3, lw_r4⟩⟩⟩
end
section
/-! Printed by wip/whole/gen.py: classes, fields, methods. -/
def x_T0 : u_T := fun k => match k with
  | 0 => ("SessionHost$Journal", "latest", "[I", true)
  | 1 => ("SessionHost$Journal", "count", "I", false)
  | _ => ("SessionHost$Journal", "instancesMade", "I", false)
def x_t0 : Nat → FieldType := fun k => match k with
  | 0 => .array (.int)
  | 1 => .int
  | _ => .int
def x_T1 : u_T := fun k => match k with
  | 0 => ("SessionHost$Clock", "now", "I", false)
  | _ => ("SessionHost$Clock", "uses", "I", false)
def x_t1 : Nat → FieldType := fun k => match k with
  | 0 => .int
  | _ => .int
def x_T2 : u_T := fun k => match k with
  | _ => ("SessionHost$ExceptionTypes", "marks", "[I", true)
def x_t2 : Nat → FieldType := fun k => match k with
  | _ => .array (.int)
def x_T3 : u_T := fun k => match k with
  | 0 => ("java/util/AbstractList", "modCount", "I", false)
  | 1 => ("java/util/ArrayList", "elementData", "[Ljava/lang/Object;", false)
  | _ => ("java/util/ArrayList", "size", "I", false)
def x_t3 : Nat → FieldType := fun k => match k with
  | 0 => .int
  | 1 => .array (.object "java/lang/Object")
  | _ => .int
def x_T4 : u_T := fun k => match k with
  | 0 => ("SessionHost$Caller", "number", "I", true)
  | 1 => ("SessionHost$Caller", "targets", "[LSessionHost$Target;", true)
  | 2 => ("SessionHost$Caller", "instances", "[I", true)
  | 3 => ("SessionHost$Caller", "modes", "[I", true)
  | 4 => ("SessionHost$Caller", "depth", "I", false)
  | 5 => ("SessionHost$Caller", "lineTarget", "LSessionHost$Target;", false)
  | 6 => ("SessionHost$Caller", "lineMode", "I", false)
  | 7 => ("SessionHost$Caller", "waitsSince", "I", false)
  | 8 => ("SessionHost$Caller", "latestResult", "I", false)
  | _ => ("SessionHost$Caller", "work", "LSessionHost$Task;", false)
def x_t4 : Nat → FieldType := fun k => match k with
  | 0 => .int
  | 1 => .array (.object "SessionHost$Target")
  | 2 => .array (.int)
  | 3 => .array (.int)
  | 4 => .int
  | 5 => .object "SessionHost$Target"
  | 6 => .int
  | 7 => .int
  | 8 => .int
  | _ => .object "SessionHost$Task"
def x_T5 : u_T := fun k => match k with
  | 0 => ("SessionHost$Stateful", "sessions", "Ljava/util/ArrayList;", true)
  | 1 => ("SessionHost$Stateful", "size", "I", true)
  | 2 => ("SessionHost$Stateful", "timeout", "I", true)
  | _ => ("SessionHost$Stateful", "idle", "I", true)
def x_t5 : Nat → FieldType := fun k => match k with
  | 0 => .object "java/util/ArrayList"
  | 1 => .int
  | 2 => .int
  | _ => .int
def x_T6 : u_T := fun k => match k with
  | 0 => ("SessionHost$Target", "line", "Ljava/util/ArrayList;", true)
  | 1 => ("SessionHost$Target", "journal", "LSessionHost$Journal;", true)
  | 2 => ("SessionHost$Target", "timeout", "I", true)
  | 3 => ("SessionHost$Target", "modes", "I", true)
  | 4 => ("SessionHost$Pool", "size", "I", true)
  | 5 => ("SessionHost$Pool", "free", "[I", true)
  | 6 => ("SessionHost$Pool", "freeCount", "I", false)
  | _ => ("SessionHost$Pool", "total", "I", false)
def x_t6 : Nat → FieldType := fun k => match k with
  | 0 => .object "java/util/ArrayList"
  | 1 => .object "SessionHost$Journal"
  | 2 => .int
  | 3 => .int
  | 4 => .int
  | 5 => .array (.int)
  | 6 => .int
  | _ => .int
def x_T7 : u_T := fun k => match k with
  | 0 => ("SessionHost$Target", "line", "Ljava/util/ArrayList;", true)
  | 1 => ("SessionHost$Target", "journal", "LSessionHost$Journal;", true)
  | 2 => ("SessionHost$Target", "timeout", "I", true)
  | 3 => ("SessionHost$Target", "modes", "I", true)
  | 4 => ("SessionHost$Singleton", "needs", "Ljava/util/ArrayList;", true)
  | 5 => ("SessionHost$Singleton", "eager", "Z", true)
  | 6 => ("SessionHost$Singleton", "cannotBegin", "Z", true)
  | 7 => ("SessionHost$Singleton", "begun", "Z", false)
  | 8 => ("SessionHost$Singleton", "failed", "Z", false)
  | 9 => ("SessionHost$Singleton", "instance", "I", false)
  | 10 => ("SessionHost$Singleton", "methods", "I", false)
  | _ => ("SessionHost$Singleton", "writingMethods", "I", false)
def x_t7 : Nat → FieldType := fun k => match k with
  | 0 => .object "java/util/ArrayList"
  | 1 => .object "SessionHost$Journal"
  | 2 => .int
  | 3 => .int
  | 4 => .object "java/util/ArrayList"
  | 5 => .boolean
  | 6 => .boolean
  | 7 => .boolean
  | 8 => .boolean
  | 9 => .int
  | 10 => .int
  | _ => .int
def x_T8 : u_T := fun k => match k with
  | 0 => ("SessionHost$Target", "line", "Ljava/util/ArrayList;", true)
  | 1 => ("SessionHost$Target", "journal", "LSessionHost$Journal;", true)
  | 2 => ("SessionHost$Target", "timeout", "I", true)
  | 3 => ("SessionHost$Target", "modes", "I", true)
  | 4 => ("SessionHost$Session", "home", "LSessionHost$Stateful;", true)
  | 5 => ("SessionHost$Session", "clock", "LSessionHost$Clock;", true)
  | 6 => ("SessionHost$Session", "instance", "I", false)
  | 7 => ("SessionHost$Session", "place", "I", false)
  | 8 => ("SessionHost$Session", "inUse", "Z", false)
  | 9 => ("SessionHost$Session", "latestUse", "I", false)
  | _ => ("SessionHost$Session", "latestUseTime", "I", false)
def x_t8 : Nat → FieldType := fun k => match k with
  | 0 => .object "java/util/ArrayList"
  | 1 => .object "SessionHost$Journal"
  | 2 => .int
  | 3 => .int
  | 4 => .object "SessionHost$Stateful"
  | 5 => .object "SessionHost$Clock"
  | 6 => .int
  | 7 => .int
  | 8 => .boolean
  | 9 => .int
  | _ => .int
def x_T9 : u_T := fun k => match k with
  | 0 => ("SessionHost$Task", "target", "LSessionHost$Target;", true)
  | 1 => ("SessionHost$Task", "mode", "I", true)
  | 2 => ("SessionHost$Task", "wanted", "Z", true)
  | 3 => ("SessionHost$Task", "stage", "I", false)
  | 4 => ("SessionHost$Task", "noted", "Z", false)
  | _ => ("SessionHost$Task", "outcome", "I", false)
def x_t9 : Nat → FieldType := fun k => match k with
  | 0 => .object "SessionHost$Target"
  | 1 => .int
  | 2 => .boolean
  | 3 => .int
  | 4 => .boolean
  | _ => .int
def x_T10 : u_T := fun k => match k with
  | 0 => ("SessionHost", "journal", "LSessionHost$Journal;", true)
  | 1 => ("SessionHost", "clock", "LSessionHost$Clock;", true)
  | 2 => ("SessionHost", "types", "LSessionHost$ExceptionTypes;", true)
  | 3 => ("SessionHost", "callers", "[LSessionHost$Caller;", true)
  | 4 => ("SessionHost", "targets", "[LSessionHost$Target;", true)
  | 5 => ("SessionHost", "statefuls", "[LSessionHost$Stateful;", true)
  | 6 => ("SessionHost", "sessions", "Ljava/util/ArrayList;", true)
  | 7 => ("SessionHost", "tasks", "Ljava/util/ArrayList;", true)
  | 8 => ("SessionHost", "componentCount", "I", false)
  | _ => ("SessionHost", "phase", "I", false)
def x_t10 : Nat → FieldType := fun k => match k with
  | 0 => .object "SessionHost$Journal"
  | 1 => .object "SessionHost$Clock"
  | 2 => .object "SessionHost$ExceptionTypes"
  | 3 => .array (.object "SessionHost$Caller")
  | 4 => .array (.object "SessionHost$Target")
  | 5 => .array (.object "SessionHost$Stateful")
  | 6 => .object "java/util/ArrayList"
  | 7 => .object "java/util/ArrayList"
  | 8 => .int
  | _ => .int
def x_T11 : u_T := fun k => match k with
  | 0 => ("SessionHostModel", "phase", "I", false)
  | 1 => ("SessionHostModel", "now", "I", false)
  | 2 => ("SessionHostModel", "components", "I", false)
  | 3 => ("SessionHostModel", "kind", "[I", true)
  | 4 => ("SessionHostModel", "size", "[I", true)
  | 5 => ("SessionHostModel", "timeout", "[I", true)
  | 6 => ("SessionHostModel", "idle", "[I", true)
  | 7 => ("SessionHostModel", "needs", "[I", true)
  | 8 => ("SessionHostModel", "needCount", "[I", true)
  | 9 => ("SessionHostModel", "begun", "[I", true)
  | 10 => ("SessionHostModel", "only", "[I", true)
  | 11 => ("SessionHostModel", "order", "[I", true)
  | 12 => ("SessionHostModel", "orders", "I", false)
  | 13 => ("SessionHostModel", "todo", "[I", true)
  | 14 => ("SessionHostModel", "nextNeed", "[I", true)
  | 15 => ("SessionHostModel", "pool", "[I", true)
  | 16 => ("SessionHostModel", "cameBack", "[I", true)
  | 17 => ("SessionHostModel", "marks", "[I", true)
  | 18 => ("SessionHostModel", "sessions", "I", false)
  | 19 => ("SessionHostModel", "sComponent", "[I", true)
  | 20 => ("SessionHostModel", "sInstance", "[I", true)
  | 21 => ("SessionHostModel", "sState", "[I", true)
  | 22 => ("SessionHostModel", "sUsed", "[I", true)
  | 23 => ("SessionHostModel", "sClock", "[I", true)
  | 24 => ("SessionHostModel", "uses", "I", false)
  | 25 => ("SessionHostModel", "depth", "[I", true)
  | 26 => ("SessionHostModel", "mTarget", "[I", true)
  | 27 => ("SessionHostModel", "mInstance", "[I", true)
  | 28 => ("SessionHostModel", "mMode", "[I", true)
  | 29 => ("SessionHostModel", "line", "[I", true)
  | 30 => ("SessionHostModel", "lineMode", "[I", true)
  | 31 => ("SessionHostModel", "lineClock", "[I", true)
  | 32 => ("SessionHostModel", "lineOrder", "[I", true)
  | 33 => ("SessionHostModel", "waits", "I", false)
  | 34 => ("SessionHostModel", "latest", "[I", true)
  | 35 => ("SessionHostModel", "tasks", "I", false)
  | 36 => ("SessionHostModel", "tState", "[I", true)
  | 37 => ("SessionHostModel", "tTarget", "[I", true)
  | 38 => ("SessionHostModel", "tMode", "[I", true)
  | 39 => ("SessionHostModel", "tResult", "[I", true)
  | 40 => ("SessionHostModel", "tWanted", "[Z", true)
  | 41 => ("SessionHostModel", "tNoted", "[Z", true)
  | 42 => ("SessionHostModel", "job", "[I", true)
  | 43 => ("SessionHostModel", "instanceCount", "I", false)
  | 44 => ("SessionHostModel", "eventCount", "I", false)
  | _ => ("SessionHostModel", "log", "[I", true)
def x_t11 : Nat → FieldType := fun k => match k with
  | 0 => .int
  | 1 => .int
  | 2 => .int
  | 3 => .array (.int)
  | 4 => .array (.int)
  | 5 => .array (.int)
  | 6 => .array (.int)
  | 7 => .array (.int)
  | 8 => .array (.int)
  | 9 => .array (.int)
  | 10 => .array (.int)
  | 11 => .array (.int)
  | 12 => .int
  | 13 => .array (.int)
  | 14 => .array (.int)
  | 15 => .array (.int)
  | 16 => .array (.int)
  | 17 => .array (.int)
  | 18 => .int
  | 19 => .array (.int)
  | 20 => .array (.int)
  | 21 => .array (.int)
  | 22 => .array (.int)
  | 23 => .array (.int)
  | 24 => .int
  | 25 => .array (.int)
  | 26 => .array (.int)
  | 27 => .array (.int)
  | 28 => .array (.int)
  | 29 => .array (.int)
  | 30 => .array (.int)
  | 31 => .array (.int)
  | 32 => .array (.int)
  | 33 => .int
  | 34 => .array (.int)
  | 35 => .int
  | 36 => .array (.int)
  | 37 => .array (.int)
  | 38 => .array (.int)
  | 39 => .array (.int)
  | 40 => .array (.boolean)
  | 41 => .array (.boolean)
  | 42 => .array (.int)
  | 43 => .int
  | 44 => .int
  | _ => .array (.int)
def x_cl : List vw_C := [("SessionHost$Journal", x_T0, 3), ("SessionHost$Clock", x_T1, 2), ("SessionHost$ExceptionTypes", x_T2, 1), ("java/util/ArrayList", x_T3, 3), ("SessionHost$Caller", x_T4, 10), ("SessionHost$Stateful", x_T5, 4), ("SessionHost$Pool", x_T6, 8), ("SessionHost$Singleton", x_T7, 12), ("SessionHost$Session", x_T8, 11), ("SessionHost$Task", x_T9, 6), ("SessionHost", x_T10, 10), ("SessionHostModel", x_T11, 46)]
def x_ty : List FieldType := [.int, .boolean, .object "SessionHost$Caller", .object "SessionHost$Target", .object "SessionHost$Stateful", .object "java/lang/Object"]
def x_ao : List String := ["SessionHost$Caller", "SessionHost$Target", "SessionHost$Stateful", "java/lang/Object"]
def x_nc : List (String × String) := [("SessionHost", "SessionHost$Singleton"), ("SessionHost$Journal", "SessionHost$Singleton"), ("SessionHost$Clock", "SessionHost$Singleton"), ("SessionHost$ExceptionTypes", "SessionHost$Singleton"), ("java/util/ArrayList", "SessionHost$Singleton"), ("SessionHost$Caller", "SessionHost$Singleton"), ("SessionHostModel", "SessionHost$Singleton"), ("SessionHost$Stateful", "SessionHost$Singleton"), ("SessionHost$Pool", "SessionHost$Singleton"), ("SessionHost$Session", "SessionHost$Singleton"), ("SessionHost$Task", "SessionHost$Singleton"), ("SessionHost", "SessionHost$Pool"), ("SessionHost$Journal", "SessionHost$Pool"), ("SessionHost$Clock", "SessionHost$Pool"), ("SessionHost$ExceptionTypes", "SessionHost$Pool"), ("java/util/ArrayList", "SessionHost$Pool"), ("SessionHost$Caller", "SessionHost$Pool"), ("SessionHostModel", "SessionHost$Pool"), ("SessionHost$Stateful", "SessionHost$Pool"), ("SessionHost$Singleton", "SessionHost$Pool"), ("SessionHost$Session", "SessionHost$Pool"), ("SessionHost$Task", "SessionHost$Pool")]
def x_df (c : Nat) : List Value := match c with
  | 0 => [.null, .int 0, .int 0]
  | 1 => [.int 0, .int 0]
  | 2 => [.null]
  | 3 => [.int 0, .null, .int 0]
  | 4 => [.int 0, .null, .null, .null, .int 0, .null, .int 0, .int 0, .int 0, .null]
  | 5 => [.null, .int 0, .int 0, .int 0]
  | 6 => [.null, .null, .int 0, .int 0, .int 0, .null, .int 0, .int 0]
  | 7 => [.null, .null, .int 0, .int 0, .null, .int 0, .int 0, .int 0, .int 0, .int 0, .int 0, .int 0]
  | 8 => [.null, .null, .int 0, .int 0, .null, .null, .int 0, .int 0, .int 0, .int 0, .int 0]
  | 9 => [.null, .int 0, .int 0, .int 0, .int 0, .int 0]
  | 10 => [.null, .null, .null, .null, .null, .null, .null, .null, .int 0, .int 0]
  | 11 => [.int 0, .int 0, .int 0, .null, .null, .null, .null, .null, .null, .null, .null, .null, .int 0, .null, .null, .null, .null, .null, .int 0, .null, .null, .null, .null, .null, .int 0, .null, .null, .null, .null, .null, .null, .null, .null, .int 0, .null, .int 0, .null, .null, .null, .null, .null, .null, .null, .int 0, .int 0, .null]
  | _ => []
def x_mtl : List (MethodName × ByteArray × Nat × Option FieldType) := [
  (⟨"SessionHost", "<init>", "()V"⟩, prog_1_method_1_code, 2, none),
  (⟨"java/lang/Object", "<init>", "()V"⟩, object_method_1_code, 1, none),
  (⟨"SessionHost$Journal", "<init>", "()V"⟩, prog_5_method_1_code, 1, none),
  (⟨"SessionHost$Clock", "<init>", "()V"⟩, prog_3_method_1_code, 1, none),
  (⟨"SessionHost$ExceptionTypes", "<init>", "()V"⟩, prog_4_method_1_code, 1, none),
  (⟨"java/util/ArrayList", "<init>", "()V"⟩, prog_21_method_2_code, 1, none),
  (⟨"java/util/AbstractList", "<init>", "()V"⟩, prog_20_method_1_code, 1, none),
  (⟨"java/util/AbstractCollection", "<init>", "()V"⟩, prog_19_method_1_code, 1, none),
  (⟨"SessionHost$Caller", "<init>", "(I)V"⟩, prog_2_method_1_code, 2, none),
  (⟨"SessionHost", "component", "(IIII)I"⟩, prog_1_method_2_code, 6, some (.int)),
  (⟨"SessionHost", "isSizeOfKind", "(II)Z"⟩, prog_1_method_22_code, 2, some (.boolean)),
  (⟨"SessionHost$Stateful", "<init>", "(III)V"⟩, prog_9_method_1_code, 4, none),
  (⟨"SessionHost$Pool", "<init>", "(IILSessionHost$Journal;)V"⟩, prog_6_method_1_code, 4, none),
  (⟨"SessionHost$Target", "<init>", "(LSessionHost$Journal;II)V"⟩, prog_10_method_1_code, 4, none),
  (⟨"SessionHost$Singleton", "<init>", "(IILSessionHost$Journal;)V"⟩, prog_8_method_1_code, 4, none),
  (⟨"SessionHost", "depends", "(II)Z"⟩, prog_1_method_3_code, 5, some (.boolean)),
  (⟨"SessionHost", "singletonAt", "(I)LSessionHost$Singleton;"⟩, prog_1_method_25_code, 4, some (.object "SessionHost$Singleton")),
  (⟨"SessionHost", "targetAt", "(I)LSessionHost$Target;"⟩, prog_1_method_24_code, 2, some (.object "SessionHost$Target")),
  (⟨"SessionHost$Singleton", "needsDirectly", "(LSessionHost$Singleton;)Z"⟩, prog_8_method_2_code, 3, some (.boolean)),
  (⟨"java/util/ArrayList", "size", "()I"⟩, prog_21_method_8_code, 1, some (.int)),
  (⟨"java/util/ArrayList", "get", "(I)Ljava/lang/Object;"⟩, prog_21_method_20_code, 2, some (.object "java/lang/Object")),
  (⟨"java/util/Objects", "checkIndex", "(II)I"⟩, prog_25_method_17_code, 2, some (.int)),
  (⟨"jdk/internal/util/Preconditions", "checkIndex", "(IILjava/util/function/BiFunction;)I"⟩, prog_29_method_11_code, 3, some (.int)),
  (⟨"java/util/ArrayList", "elementData", "(I)Ljava/lang/Object;"⟩, prog_21_method_18_code, 2, some (.object "java/lang/Object")),
  (⟨"SessionHost$Singleton", "leadsTo", "(LSessionHost$Singleton;LSessionHost$Singleton;I)Z"⟩, prog_8_method_3_code, 4, some (.boolean)),
  (⟨"java/util/ArrayList", "add", "(Ljava/lang/Object;)Z"⟩, prog_21_method_25_code, 2, some (.boolean)),
  (⟨"java/util/ArrayList", "add", "(Ljava/lang/Object;[Ljava/lang/Object;I)V"⟩, prog_21_method_24_code, 4, none),
  (⟨"java/util/ArrayList", "grow", "()[Ljava/lang/Object;"⟩, prog_21_method_7_code, 1, some (.array (.object "java/lang/Object"))),
  (⟨"java/util/ArrayList", "grow", "(I)[Ljava/lang/Object;"⟩, prog_21_method_6_code, 4, some (.array (.object "java/lang/Object"))),
  (⟨"jdk/internal/util/ArraysSupport", "newLength", "(III)I"⟩, prog_28_method_27_code, 4, some (.int)),
  (⟨"java/lang/Math", "max", "(II)I"⟩, prog_17_method_65_code, 2, some (.int)),
  (⟨"jdk/internal/util/ArraysSupport", "hugeLength", "(II)I"⟩, prog_28_method_28_code, 3, some (.int)),
  (⟨"java/util/Arrays", "copyOf", "([Ljava/lang/Object;I)[Ljava/lang/Object;"⟩, prog_22_method_119_code, 2, some (.array (.object "java/lang/Object"))),
  (⟨"java/util/Arrays", "copyOf", "([Ljava/lang/Object;ILjava/lang/Class;)[Ljava/lang/Object;"⟩, prog_22_method_120_code, 4, some (.array (.object "java/lang/Object"))),
  (⟨"java/lang/Math", "min", "(II)I"⟩, prog_17_method_69_code, 2, some (.int)),
  (⟨"SessionHost", "application", "(IZ)Z"⟩, prog_1_method_4_code, 3, some (.boolean)),
  (⟨"SessionHost$ExceptionTypes", "mark", "(IZ)Z"⟩, prog_4_method_2_code, 3, some (.boolean)),
  (⟨"SessionHost", "start", "()I"⟩, prog_1_method_5_code, 3, some (.int)),
  (⟨"SessionHost$Singleton", "begin", "(I)V"⟩, prog_8_method_4_code, 4, none),
  (⟨"SessionHost$Journal", "newInstance", "()I"⟩, prog_5_method_3_code, 2, some (.int)),
  (⟨"SessionHost$Journal", "note", "(III)V"⟩, prog_5_method_2_code, 4, none),
  (⟨"SessionHost", "countBegun", "()I"⟩, prog_1_method_26_code, 4, some (.int)),
  (⟨"SessionHost", "create", "(I)I"⟩, prog_1_method_6_code, 5, some (.int)),
  (⟨"SessionHost$Session", "<init>", "(LSessionHost$Stateful;LSessionHost$Journal;LSessionHost$Clock;)V"⟩, prog_7_method_1_code, 4, none),
  (⟨"SessionHost$Session", "comeToBe", "()V"⟩, prog_7_method_2_code, 1, none),
  (⟨"SessionHost$Session", "markUsed", "()V"⟩, prog_7_method_3_code, 1, none),
  (⟨"SessionHost$Clock", "nextUse", "()I"⟩, prog_3_method_2_code, 1, some (.int)),
  (⟨"SessionHost", "settle", "()V"⟩, prog_1_method_30_code, 2, none),
  (⟨"SessionHost", "settleLine", "(LSessionHost$Target;)V"⟩, prog_1_method_31_code, 6, none),
  (⟨"java/util/ArrayList", "isEmpty", "()Z"⟩, prog_21_method_9_code, 1, some (.boolean)),
  (⟨"SessionHost$Pool", "judge", "(LSessionHost$Caller;IZ)I"⟩, prog_6_method_2_code, 4, some (.int)),
  (⟨"SessionHost$Session", "judge", "(LSessionHost$Caller;IZ)I"⟩, prog_7_method_4_code, 4, some (.int)),
  (⟨"SessionHost$Caller", "hasMethodIn", "(LSessionHost$Target;)Z"⟩, prog_2_method_5_code, 3, some (.boolean)),
  (⟨"SessionHost$Singleton", "judge", "(LSessionHost$Caller;IZ)I"⟩, prog_8_method_5_code, 5, some (.int)),
  (⟨"SessionHost$Caller", "writesIn", "(LSessionHost$Target;)Z"⟩, prog_2_method_6_code, 3, some (.boolean)),
  (⟨"SessionHost$Caller", "leaveLine", "()V"⟩, prog_2_method_9_code, 3, none),
  (⟨"java/util/ArrayList", "remove", "(I)Ljava/lang/Object;"⟩, prog_21_method_29_code, 4, some (.object "java/lang/Object")),
  (⟨"java/util/ArrayList", "fastRemove", "([Ljava/lang/Object;I)V"⟩, prog_21_method_39_code, 4, none),
  (⟨"SessionHost", "enter", "(LSessionHost$Caller;LSessionHost$Target;I)V"⟩, prog_1_method_28_code, 5, none),
  (⟨"SessionHost$Pool", "take", "(I)I"⟩, prog_6_method_3_code, 2, some (.int)),
  (⟨"SessionHost$Session", "take", "(I)I"⟩, prog_7_method_5_code, 2, some (.int)),
  (⟨"SessionHost$Singleton", "take", "(I)I"⟩, prog_8_method_6_code, 2, some (.int)),
  (⟨"SessionHost$Caller", "push", "(LSessionHost$Target;II)V"⟩, prog_2_method_7_code, 4, none),
  (⟨"SessionHost$Caller", "gets", "(I)V"⟩, prog_2_method_11_code, 2, none),
  (⟨"SessionHost$Task", "endWith", "(I)V"⟩, prog_11_method_5_code, 2, none),
  (⟨"SessionHost", "handOut", "(LSessionHost$Task;)V"⟩, prog_1_method_32_code, 3, none),
  (⟨"SessionHost$Task", "isWaiting", "()Z"⟩, prog_11_method_2_code, 1, some (.boolean)),
  (⟨"SessionHost", "freeWorker", "()LSessionHost$Caller;"⟩, prog_1_method_33_code, 2, some (.object "SessionHost$Caller")),
  (⟨"SessionHost", "makeCall", "(LSessionHost$Caller;LSessionHost$Target;I)I"⟩, prog_1_method_27_code, 6, some (.int)),
  (⟨"SessionHost$Caller", "joinLine", "(LSessionHost$Target;II)V"⟩, prog_2_method_8_code, 4, none),
  (⟨"SessionHost$Stateful", "putAwayBeyondSize", "()V"⟩, prog_9_method_3_code, 4, none),
  (⟨"SessionHost$Stateful", "countInMemory", "()I"⟩, prog_9_method_2_code, 3, some (.int)),
  (⟨"SessionHost$Stateful", "longestUnused", "()LSessionHost$Session;"⟩, prog_9_method_4_code, 4, some (.object "SessionHost$Session")),
  (⟨"SessionHost$Session", "putAway", "()V"⟩, prog_7_method_7_code, 1, none),
  (⟨"SessionHost", "call", "(III)I"⟩, prog_1_method_7_code, 7, some (.int)),
  (⟨"SessionHost", "callerAt", "(I)LSessionHost$Caller;"⟩, prog_1_method_23_code, 2, some (.object "SessionHost$Caller")),
  (⟨"SessionHost$Caller", "mayCall", "()Z"⟩, prog_2_method_3_code, 2, some (.boolean)),
  (⟨"SessionHost$Caller", "waits", "()Z"⟩, prog_2_method_2_code, 1, some (.boolean)),
  (⟨"SessionHost$Target", "hasMode", "(I)Z"⟩, prog_10_method_2_code, 2, some (.boolean)),
  (⟨"SessionHost", "finish", "(II)I"⟩, prog_1_method_8_code, 5, some (.int)),
  (⟨"SessionHost$Caller", "mayEnd", "()Z"⟩, prog_2_method_4_code, 1, some (.boolean)),
  (⟨"SessionHost", "endMethod", "(LSessionHost$Caller;I)I"⟩, prog_1_method_29_code, 8, some (.int)),
  (⟨"SessionHost$ExceptionTypes", "isApplication", "(I)Z"⟩, prog_4_method_3_code, 3, some (.boolean)),
  (⟨"SessionHost$Pool", "giveBack", "(IIIZ)V"⟩, prog_6_method_4_code, 5, none),
  (⟨"SessionHost$Session", "giveBack", "(IIIZ)V"⟩, prog_7_method_6_code, 5, none),
  (⟨"SessionHost$Session", "vanish", "(I)V"⟩, prog_7_method_10_code, 2, none),
  (⟨"SessionHost$Singleton", "giveBack", "(IIIZ)V"⟩, prog_8_method_7_code, 5, none),
  (⟨"SessionHost", "endIfNoMethodIsLeft", "()V"⟩, prog_1_method_36_code, 2, none),
  (⟨"SessionHost", "endAll", "()V"⟩, prog_1_method_37_code, 4, none),
  (⟨"SessionHost$Session", "retire", "()V"⟩, prog_7_method_9_code, 1, none),
  (⟨"SessionHost$Pool", "destroyAll", "()V"⟩, prog_6_method_5_code, 2, none),
  (⟨"SessionHost$Pool", "takeLowest", "()I"⟩, prog_6_method_6_code, 3, some (.int)),
  (⟨"SessionHost", "latestBegun", "()LSessionHost$Singleton;"⟩, prog_1_method_38_code, 4, some (.object "SessionHost$Singleton")),
  (⟨"SessionHost$Singleton", "destroy", "()V"⟩, prog_8_method_8_code, 1, none),
  (⟨"SessionHost", "tick", "(I)I"⟩, prog_1_method_9_code, 5, some (.int)),
  (⟨"SessionHost", "timeOutCallers", "()I"⟩, prog_1_method_34_code, 3, some (.int)),
  (⟨"SessionHost$Caller", "hasWaitedOut", "(I)Z"⟩, prog_2_method_10_code, 2, some (.boolean)),
  (⟨"SessionHost", "retireIdleSessions", "()I"⟩, prog_1_method_35_code, 3, some (.int)),
  (⟨"SessionHost$Session", "isIdleTooLong", "()Z"⟩, prog_7_method_8_code, 1, some (.boolean)),
  (⟨"SessionHost", "submit", "(IIZ)I"⟩, prog_1_method_10_code, 6, some (.int)),
  (⟨"SessionHost$Task", "<init>", "(LSessionHost$Target;IZ)V"⟩, prog_11_method_1_code, 4, none),
  (⟨"SessionHost", "cancel", "(I)I"⟩, prog_1_method_11_code, 2, some (.int)),
  (⟨"SessionHost$Task", "calledOff", "()I"⟩, prog_11_method_4_code, 1, some (.int)),
  (⟨"SessionHost", "shutdown", "()I"⟩, prog_1_method_12_code, 3, some (.int)),
  (⟨"SessionHost$Task", "dropIfWaiting", "()V"⟩, prog_11_method_3_code, 1, none),
  (⟨"SessionHost", "state", "(I)I"⟩, prog_1_method_13_code, 3, some (.int)),
  (⟨"SessionHost", "result", "(I)I"⟩, prog_1_method_14_code, 3, some (.int)),
  (⟨"SessionHost", "instance", "(I)I"⟩, prog_1_method_15_code, 3, some (.int)),
  (⟨"SessionHost", "session", "(I)I"⟩, prog_1_method_16_code, 3, some (.int)),
  (⟨"SessionHost", "task", "(I)I"⟩, prog_1_method_17_code, 2, some (.int)),
  (⟨"SessionHost$Task", "describe", "()I"⟩, prog_11_method_6_code, 2, some (.int)),
  (⟨"SessionHost", "instances", "(I)I"⟩, prog_1_method_18_code, 4, some (.int)),
  (⟨"SessionHost", "waiting", "(I)I"⟩, prog_1_method_19_code, 3, some (.int)),
  (⟨"SessionHost", "events", "()I"⟩, prog_1_method_20_code, 1, some (.int)),
  (⟨"SessionHost", "event", "(I)I"⟩, prog_1_method_21_code, 2, some (.int)),
  (⟨"SessionHost$Journal", "back", "(I)I"⟩, prog_5_method_4_code, 2, some (.int)),
  (⟨"SessionHostModel", "<init>", "()V"⟩, prog_13_method_1_code, 2, none),
  (⟨"SessionHostModel", "component", "(IIII)I"⟩, prog_13_method_4_code, 7, some (.int)),
  (⟨"SessionHostModel", "depends", "(II)Z"⟩, prog_13_method_7_code, 4, some (.boolean)),
  (⟨"SessionHostModel", "isSingleton", "(I)Z"⟩, prog_13_method_5_code, 2, some (.boolean)),
  (⟨"SessionHostModel", "below", "(I)I"⟩, prog_13_method_6_code, 6, some (.int)),
  (⟨"SessionHostModel", "application", "(IZ)Z"⟩, prog_13_method_8_code, 3, some (.boolean)),
  (⟨"SessionHostModel", "start", "()I"⟩, prog_13_method_11_code, 2, some (.int)),
  (⟨"SessionHostModel", "begin", "(I)V"⟩, prog_13_method_10_code, 6, none),
  (⟨"SessionHostModel", "fresh", "()I"⟩, prog_13_method_3_code, 2, some (.int)),
  (⟨"SessionHostModel", "note", "(III)V"⟩, prog_13_method_2_code, 4, none),
  (⟨"SessionHostModel", "create", "(I)I"⟩, prog_13_method_33_code, 3, some (.int)),
  (⟨"SessionHostModel", "use", "(I)V"⟩, prog_13_method_32_code, 2, none),
  (⟨"SessionHostModel", "settle", "()V"⟩, prog_13_method_31_code, 2, none),
  (⟨"SessionHostModel", "lines", "()V"⟩, prog_13_method_27_code, 6, none),
  (⟨"SessionHostModel", "firstIn", "(I)I"⟩, prog_13_method_19_code, 4, some (.int)),
  (⟨"SessionHostModel", "open", "(II)Z"⟩, prog_13_method_20_code, 4, some (.boolean)),
  (⟨"SessionHostModel", "componentOf", "(I)I"⟩, prog_13_method_13_code, 2, some (.int)),
  (⟨"SessionHostModel", "freeCell", "(I)I"⟩, prog_13_method_17_code, 4, some (.int)),
  (⟨"SessionHostModel", "instanceInUse", "(I)Z"⟩, prog_13_method_16_code, 5, some (.boolean)),
  (⟨"SessionHostModel", "pooled", "(I)I"⟩, prog_13_method_18_code, 4, some (.int)),
  (⟨"SessionHostModel", "methodsIn", "(IIII)I"⟩, prog_13_method_15_code, 8, some (.int)),
  (⟨"SessionHostModel", "give", "(II)V"⟩, prog_13_method_21_code, 3, none),
  (⟨"SessionHostModel", "enter", "(III)I"⟩, prog_13_method_24_code, 7, some (.int)),
  (⟨"SessionHostModel", "pooledInstance", "(I)I"⟩, prog_13_method_23_code, 5, some (.int)),
  (⟨"SessionHostModel", "work", "()V"⟩, prog_13_method_28_code, 3, none),
  (⟨"SessionHostModel", "attempt", "(III)I"⟩, prog_13_method_26_code, 6, some (.int)),
  (⟨"SessionHostModel", "answer", "(II)I"⟩, prog_13_method_22_code, 3, some (.int)),
  (⟨"SessionHostModel", "refuse", "(III)I"⟩, prog_13_method_25_code, 4, some (.int)),
  (⟨"SessionHostModel", "putAway", "(I)V"⟩, prog_13_method_30_code, 6, none),
  (⟨"SessionHostModel", "inMemory", "(I)I"⟩, prog_13_method_29_code, 4, some (.int)),
  (⟨"SessionHostModel", "call", "(III)I"⟩, prog_13_method_34_code, 5, some (.int)),
  (⟨"SessionHostModel", "isTarget", "(I)Z"⟩, prog_13_method_12_code, 2, some (.boolean)),
  (⟨"SessionHostModel", "isMode", "(II)Z"⟩, prog_13_method_14_code, 4, some (.boolean)),
  (⟨"SessionHostModel", "finish", "(II)I"⟩, prog_13_method_37_code, 6, some (.int)),
  (⟨"SessionHostModel", "isSystem", "(I)Z"⟩, prog_13_method_9_code, 4, some (.boolean)),
  (⟨"SessionHostModel", "leave", "(IIIZZ)V"⟩, prog_13_method_35_code, 8, none),
  (⟨"SessionHostModel", "quiet", "()Z"⟩, prog_13_method_36_code, 3, some (.boolean)),
  (⟨"SessionHostModel", "end", "()V"⟩, prog_13_method_40_code, 3, none),
  (⟨"SessionHostModel", "goAway", "(I)V"⟩, prog_13_method_38_code, 2, none),
  (⟨"SessionHostModel", "takeLeast", "(I)I"⟩, prog_13_method_39_code, 4, some (.int)),
  (⟨"SessionHostModel", "tick", "(I)I"⟩, prog_13_method_43_code, 4, some (.int)),
  (⟨"SessionHostModel", "lapse", "()I"⟩, prog_13_method_41_code, 4, some (.int)),
  (⟨"SessionHostModel", "fade", "()I"⟩, prog_13_method_42_code, 4, some (.int)),
  (⟨"SessionHostModel", "submit", "(IIZ)I"⟩, prog_13_method_44_code, 5, some (.int)),
  (⟨"SessionHostModel", "cancel", "(I)I"⟩, prog_13_method_45_code, 3, some (.int)),
  (⟨"SessionHostModel", "shutdown", "()I"⟩, prog_13_method_46_code, 3, some (.int)),
  (⟨"SessionHostModel", "state", "(I)I"⟩, prog_13_method_47_code, 2, some (.int)),
  (⟨"SessionHostModel", "result", "(I)I"⟩, prog_13_method_48_code, 2, some (.int)),
  (⟨"SessionHostModel", "instance", "(I)I"⟩, prog_13_method_49_code, 2, some (.int)),
  (⟨"SessionHostModel", "session", "(I)I"⟩, prog_13_method_50_code, 2, some (.int)),
  (⟨"SessionHostModel", "task", "(I)I"⟩, prog_13_method_51_code, 2, some (.int)),
  (⟨"SessionHostModel", "instances", "(I)I"⟩, prog_13_method_52_code, 2, some (.int)),
  (⟨"SessionHostModel", "waiting", "(I)I"⟩, prog_13_method_53_code, 4, some (.int)),
  (⟨"SessionHostModel", "events", "()I"⟩, prog_13_method_54_code, 1, some (.int)),
  (⟨"SessionHostModel", "event", "(I)I"⟩, prog_13_method_55_code, 2, some (.int))]
def x_mt (y : Nat) : MethodName × ByteArray × Nat × Option FieldType := x_mtl.getD y (⟨"", "", ""⟩, ⟨#[]⟩, 0, none)
def x_on (k : Nat) : String := match k with
  | 0 => "SessionHost"
  | 1 => "java/lang/Object"
  | 2 => "SessionHost$Journal"
  | 3 => "SessionHost$Clock"
  | 4 => "SessionHost$ExceptionTypes"
  | 5 => "java/util/ArrayList"
  | 6 => "java/util/AbstractList"
  | 7 => "java/util/AbstractCollection"
  | 8 => "SessionHost$Caller"
  | 9 => "SessionHost$Stateful"
  | 10 => "SessionHost$Pool"
  | 11 => "SessionHost$Target"
  | 12 => "SessionHost$Singleton"
  | 13 => "java/util/Objects"
  | 14 => "jdk/internal/util/Preconditions"
  | 15 => "jdk/internal/util/ArraysSupport"
  | 16 => "java/lang/Math"
  | 17 => "java/util/Arrays"
  | 18 => "SessionHost$Session"
  | 19 => "SessionHost$Task"
  | 20 => "SessionHostModel"
  | _ => ""
abbrev y_H_init : Nat := 0
abbrev y_Object_init : Nat := 1
abbrev y_Journal_init : Nat := 2
abbrev y_Clock_init : Nat := 3
abbrev y_ExceptionTypes_init : Nat := 4
abbrev y_ArrayList_init : Nat := 5
abbrev y_AbstractList_init : Nat := 6
abbrev y_AbstractCollection_init : Nat := 7
abbrev y_Caller_init : Nat := 8
abbrev y_H_component : Nat := 9
abbrev y_H_isSizeOfKind : Nat := 10
abbrev y_Stateful_init : Nat := 11
abbrev y_Pool_init : Nat := 12
abbrev y_Target_init : Nat := 13
abbrev y_Singleton_init : Nat := 14
abbrev y_H_depends : Nat := 15
abbrev y_H_singletonAt : Nat := 16
abbrev y_H_targetAt : Nat := 17
abbrev y_Singleton_needsDirectly : Nat := 18
abbrev y_ArrayList_size : Nat := 19
abbrev y_ArrayList_get : Nat := 20
abbrev y_Objects_checkIndex : Nat := 21
abbrev y_Preconditions_checkIndex : Nat := 22
abbrev y_ArrayList_elementData : Nat := 23
abbrev y_Singleton_leadsTo : Nat := 24
abbrev y_ArrayList_add : Nat := 25
abbrev y_ArrayList_add2 : Nat := 26
abbrev y_ArrayList_grow : Nat := 27
abbrev y_ArrayList_grow2 : Nat := 28
abbrev y_ArraysSupport_newLength : Nat := 29
abbrev y_Math_max : Nat := 30
abbrev y_ArraysSupport_hugeLength : Nat := 31
abbrev y_Arrays_copyOf : Nat := 32
abbrev y_Arrays_copyOf2 : Nat := 33
abbrev y_Math_min : Nat := 34
abbrev y_H_application : Nat := 35
abbrev y_ExceptionTypes_mark : Nat := 36
abbrev y_H_start : Nat := 37
abbrev y_Singleton_begin : Nat := 38
abbrev y_Journal_newInstance : Nat := 39
abbrev y_Journal_note : Nat := 40
abbrev y_H_countBegun : Nat := 41
abbrev y_H_create : Nat := 42
abbrev y_Session_init : Nat := 43
abbrev y_Session_comeToBe : Nat := 44
abbrev y_Session_markUsed : Nat := 45
abbrev y_Clock_nextUse : Nat := 46
abbrev y_H_settle : Nat := 47
abbrev y_H_settleLine : Nat := 48
abbrev y_ArrayList_isEmpty : Nat := 49
abbrev y_Pool_judge : Nat := 50
abbrev y_Session_judge : Nat := 51
abbrev y_Caller_hasMethodIn : Nat := 52
abbrev y_Singleton_judge : Nat := 53
abbrev y_Caller_writesIn : Nat := 54
abbrev y_Caller_leaveLine : Nat := 55
abbrev y_ArrayList_remove : Nat := 56
abbrev y_ArrayList_fastRemove : Nat := 57
abbrev y_H_enter : Nat := 58
abbrev y_Pool_take : Nat := 59
abbrev y_Session_take : Nat := 60
abbrev y_Singleton_take : Nat := 61
abbrev y_Caller_push : Nat := 62
abbrev y_Caller_gets : Nat := 63
abbrev y_Task_endWith : Nat := 64
abbrev y_H_handOut : Nat := 65
abbrev y_Task_isWaiting : Nat := 66
abbrev y_H_freeWorker : Nat := 67
abbrev y_H_makeCall : Nat := 68
abbrev y_Caller_joinLine : Nat := 69
abbrev y_Stateful_putAwayBeyondSize : Nat := 70
abbrev y_Stateful_countInMemory : Nat := 71
abbrev y_Stateful_longestUnused : Nat := 72
abbrev y_Session_putAway : Nat := 73
abbrev y_H_call : Nat := 74
abbrev y_H_callerAt : Nat := 75
abbrev y_Caller_mayCall : Nat := 76
abbrev y_Caller_waits : Nat := 77
abbrev y_Target_hasMode : Nat := 78
abbrev y_H_finish : Nat := 79
abbrev y_Caller_mayEnd : Nat := 80
abbrev y_H_endMethod : Nat := 81
abbrev y_ExceptionTypes_isApplication : Nat := 82
abbrev y_Pool_giveBack : Nat := 83
abbrev y_Session_giveBack : Nat := 84
abbrev y_Session_vanish : Nat := 85
abbrev y_Singleton_giveBack : Nat := 86
abbrev y_H_endIfNoMethodIsLeft : Nat := 87
abbrev y_H_endAll : Nat := 88
abbrev y_Session_retire : Nat := 89
abbrev y_Pool_destroyAll : Nat := 90
abbrev y_Pool_takeLowest : Nat := 91
abbrev y_H_latestBegun : Nat := 92
abbrev y_Singleton_destroy : Nat := 93
abbrev y_H_tick : Nat := 94
abbrev y_H_timeOutCallers : Nat := 95
abbrev y_Caller_hasWaitedOut : Nat := 96
abbrev y_H_retireIdleSessions : Nat := 97
abbrev y_Session_isIdleTooLong : Nat := 98
abbrev y_H_submit : Nat := 99
abbrev y_Task_init : Nat := 100
abbrev y_H_cancel : Nat := 101
abbrev y_Task_calledOff : Nat := 102
abbrev y_H_shutdown : Nat := 103
abbrev y_Task_dropIfWaiting : Nat := 104
abbrev y_H_state : Nat := 105
abbrev y_H_result : Nat := 106
abbrev y_H_instance : Nat := 107
abbrev y_H_session : Nat := 108
abbrev y_H_task : Nat := 109
abbrev y_Task_describe : Nat := 110
abbrev y_H_instances : Nat := 111
abbrev y_H_waiting : Nat := 112
abbrev y_H_events : Nat := 113
abbrev y_H_event : Nat := 114
abbrev y_Journal_back : Nat := 115
abbrev y_R_init : Nat := 116
abbrev y_R_component : Nat := 117
abbrev y_R_depends : Nat := 118
abbrev y_R_isSingleton : Nat := 119
abbrev y_R_below : Nat := 120
abbrev y_R_application : Nat := 121
abbrev y_R_start : Nat := 122
abbrev y_R_begin : Nat := 123
abbrev y_R_fresh : Nat := 124
abbrev y_R_note : Nat := 125
abbrev y_R_create : Nat := 126
abbrev y_R_use : Nat := 127
abbrev y_R_settle : Nat := 128
abbrev y_R_lines : Nat := 129
abbrev y_R_firstIn : Nat := 130
abbrev y_R_open : Nat := 131
abbrev y_R_componentOf : Nat := 132
abbrev y_R_freeCell : Nat := 133
abbrev y_R_instanceInUse : Nat := 134
abbrev y_R_pooled : Nat := 135
abbrev y_R_methodsIn : Nat := 136
abbrev y_R_give : Nat := 137
abbrev y_R_enter : Nat := 138
abbrev y_R_pooledInstance : Nat := 139
abbrev y_R_work : Nat := 140
abbrev y_R_attempt : Nat := 141
abbrev y_R_answer : Nat := 142
abbrev y_R_refuse : Nat := 143
abbrev y_R_putAway : Nat := 144
abbrev y_R_inMemory : Nat := 145
abbrev y_R_call : Nat := 146
abbrev y_R_isTarget : Nat := 147
abbrev y_R_isMode : Nat := 148
abbrev y_R_finish : Nat := 149
abbrev y_R_isSystem : Nat := 150
abbrev y_R_leave : Nat := 151
abbrev y_R_quiet : Nat := 152
abbrev y_R_end : Nat := 153
abbrev y_R_goAway : Nat := 154
abbrev y_R_takeLeast : Nat := 155
abbrev y_R_tick : Nat := 156
abbrev y_R_lapse : Nat := 157
abbrev y_R_fade : Nat := 158
abbrev y_R_submit : Nat := 159
abbrev y_R_cancel : Nat := 160
abbrev y_R_shutdown : Nat := 161
abbrev y_R_state : Nat := 162
abbrev y_R_result : Nat := 163
abbrev y_R_instance : Nat := 164
abbrev y_R_session : Nat := 165
abbrev y_R_task : Nat := 166
abbrev y_R_instances : Nat := 167
abbrev y_R_waiting : Nat := 168
abbrev y_R_events : Nat := 169
abbrev y_R_event : Nat := 170
def x_good (w : Cond) : Bool := (w.onTables && w.keeps) || (match w with
  | .arrayClass _ => true
  | _ => false)
/-- the words that every method takes along -/
def x_ws : List Cond := lw_tbl.filter x_good
theorem x_in {w : Cond} (h : w ∈ lw_tbl) (hg : x_good w = true) : w ∈ x_ws := List.mem_filter.mpr ⟨h, hg⟩
theorem x_w {w : Cond} (i : Nat) (h : lw_tbl[i]? = some w) (hg : x_good w = true) : w ∈ x_ws := x_in (List.mem_of_getElem? h) hg
def x_clf (C : String) (T : u_T) (N : Nat) : Prop := (∀ w ∈ u_ws C T N, w ∈ x_ws) ∧ (∃ ty0 : Nat → FieldType, ∀ k, k < N → parseFieldDescriptor (T k).2.2.1 = some (ty0 k)) ∧ ∀ a, a < N → ∀ b, b < N → a ≠ b → (T a).2.1 ≠ (T b).2.1
theorem x_l0 : ∀ k, k < 3 → u_lay "SessionHost$Journal" x_T0 k ∈ x_ws := fun k hk => match k, hk with
  | 0, _ => x_w 99 (by decide +kernel) (by decide +kernel)
  | 1, _ => x_w 101 (by decide +kernel) (by decide +kernel)
  | 2, _ => x_w 103 (by decide +kernel) (by decide +kernel)
  | k + 3, h => absurd h (by omega)
theorem x_y0 : ∀ k, k < 3 → parseFieldDescriptor (x_T0 k).2.2.1 = some (x_t0 k) := by decide +kernel
theorem x_f0 : x_clf "SessionHost$Journal" x_T0 3 := ⟨fun w hw => by
    obtain ⟨k, hk, rfl⟩ := List.mem_map.mp hw
    exact x_l0 k (List.mem_range.mp hk), ⟨x_t0, x_y0⟩, by decide +kernel⟩
theorem x_l1 : ∀ k, k < 2 → u_lay "SessionHost$Clock" x_T1 k ∈ x_ws := fun k hk => match k, hk with
  | 0, _ => x_w 117 (by decide +kernel) (by decide +kernel)
  | 1, _ => x_w 119 (by decide +kernel) (by decide +kernel)
  | k + 2, h => absurd h (by omega)
theorem x_y1 : ∀ k, k < 2 → parseFieldDescriptor (x_T1 k).2.2.1 = some (x_t1 k) := by decide +kernel
theorem x_f1 : x_clf "SessionHost$Clock" x_T1 2 := ⟨fun w hw => by
    obtain ⟨k, hk, rfl⟩ := List.mem_map.mp hw
    exact x_l1 k (List.mem_range.mp hk), ⟨x_t1, x_y1⟩, by decide +kernel⟩
theorem x_l2 : ∀ k, k < 1 → u_lay "SessionHost$ExceptionTypes" x_T2 k ∈ x_ws := fun k hk => match k, hk with
  | 0, _ => x_w 129 (by decide +kernel) (by decide +kernel)
  | k + 1, h => absurd h (by omega)
theorem x_y2 : ∀ k, k < 1 → parseFieldDescriptor (x_T2 k).2.2.1 = some (x_t2 k) := by decide +kernel
theorem x_f2 : x_clf "SessionHost$ExceptionTypes" x_T2 1 := ⟨fun w hw => by
    obtain ⟨k, hk, rfl⟩ := List.mem_map.mp hw
    exact x_l2 k (List.mem_range.mp hk), ⟨x_t2, x_y2⟩, by decide +kernel⟩
theorem x_l3 : ∀ k, k < 3 → u_lay "java/util/ArrayList" x_T3 k ∈ x_ws := fun k hk => match k, hk with
  | 0, _ => x_w 161 (by decide +kernel) (by decide +kernel)
  | 1, _ => x_w 157 (by decide +kernel) (by decide +kernel)
  | 2, _ => x_w 159 (by decide +kernel) (by decide +kernel)
  | k + 3, h => absurd h (by omega)
theorem x_y3 : ∀ k, k < 3 → parseFieldDescriptor (x_T3 k).2.2.1 = some (x_t3 k) := by decide +kernel
theorem x_f3 : x_clf "java/util/ArrayList" x_T3 3 := ⟨fun w hw => by
    obtain ⟨k, hk, rfl⟩ := List.mem_map.mp hw
    exact x_l3 k (List.mem_range.mp hk), ⟨x_t3, x_y3⟩, by decide +kernel⟩
theorem x_l4 : ∀ k, k < 10 → u_lay "SessionHost$Caller" x_T4 k ∈ x_ws := fun k hk => match k, hk with
  | 0, _ => x_w 188 (by decide +kernel) (by decide +kernel)
  | 1, _ => x_w 190 (by decide +kernel) (by decide +kernel)
  | 2, _ => x_w 192 (by decide +kernel) (by decide +kernel)
  | 3, _ => x_w 194 (by decide +kernel) (by decide +kernel)
  | 4, _ => x_w 196 (by decide +kernel) (by decide +kernel)
  | 5, _ => x_w 198 (by decide +kernel) (by decide +kernel)
  | 6, _ => x_w 200 (by decide +kernel) (by decide +kernel)
  | 7, _ => x_w 202 (by decide +kernel) (by decide +kernel)
  | 8, _ => x_w 204 (by decide +kernel) (by decide +kernel)
  | 9, _ => x_w 206 (by decide +kernel) (by decide +kernel)
  | k + 10, h => absurd h (by omega)
theorem x_y4 : ∀ k, k < 10 → parseFieldDescriptor (x_T4 k).2.2.1 = some (x_t4 k) := by decide +kernel
theorem x_f4 : x_clf "SessionHost$Caller" x_T4 10 := ⟨fun w hw => by
    obtain ⟨k, hk, rfl⟩ := List.mem_map.mp hw
    exact x_l4 k (List.mem_range.mp hk), ⟨x_t4, x_y4⟩, by decide +kernel⟩
theorem x_l5 : ∀ k, k < 4 → u_lay "SessionHost$Stateful" x_T5 k ∈ x_ws := fun k hk => match k, hk with
  | 0, _ => x_w 261 (by decide +kernel) (by decide +kernel)
  | 1, _ => x_w 263 (by decide +kernel) (by decide +kernel)
  | 2, _ => x_w 265 (by decide +kernel) (by decide +kernel)
  | 3, _ => x_w 267 (by decide +kernel) (by decide +kernel)
  | k + 4, h => absurd h (by omega)
theorem x_y5 : ∀ k, k < 4 → parseFieldDescriptor (x_T5 k).2.2.1 = some (x_t5 k) := by decide +kernel
theorem x_f5 : x_clf "SessionHost$Stateful" x_T5 4 := ⟨fun w hw => by
    obtain ⟨k, hk, rfl⟩ := List.mem_map.mp hw
    exact x_l5 k (List.mem_range.mp hk), ⟨x_t5, x_y5⟩, by decide +kernel⟩
theorem x_l6 : ∀ k, k < 8 → u_lay "SessionHost$Pool" x_T6 k ∈ x_ws := fun k hk => match k, hk with
  | 0, _ => x_w 308 (by decide +kernel) (by decide +kernel)
  | 1, _ => x_w 310 (by decide +kernel) (by decide +kernel)
  | 2, _ => x_w 312 (by decide +kernel) (by decide +kernel)
  | 3, _ => x_w 314 (by decide +kernel) (by decide +kernel)
  | 4, _ => x_w 300 (by decide +kernel) (by decide +kernel)
  | 5, _ => x_w 302 (by decide +kernel) (by decide +kernel)
  | 6, _ => x_w 304 (by decide +kernel) (by decide +kernel)
  | 7, _ => x_w 306 (by decide +kernel) (by decide +kernel)
  | k + 8, h => absurd h (by omega)
theorem x_y6 : ∀ k, k < 8 → parseFieldDescriptor (x_T6 k).2.2.1 = some (x_t6 k) := by decide +kernel
theorem x_f6 : x_clf "SessionHost$Pool" x_T6 8 := ⟨fun w hw => by
    obtain ⟨k, hk, rfl⟩ := List.mem_map.mp hw
    exact x_l6 k (List.mem_range.mp hk), ⟨x_t6, x_y6⟩, by decide +kernel⟩
theorem x_l7 : ∀ k, k < 12 → u_lay "SessionHost$Singleton" x_T7 k ∈ x_ws := fun k hk => match k, hk with
  | 0, _ => x_w 353 (by decide +kernel) (by decide +kernel)
  | 1, _ => x_w 354 (by decide +kernel) (by decide +kernel)
  | 2, _ => x_w 355 (by decide +kernel) (by decide +kernel)
  | 3, _ => x_w 356 (by decide +kernel) (by decide +kernel)
  | 4, _ => x_w 337 (by decide +kernel) (by decide +kernel)
  | 5, _ => x_w 339 (by decide +kernel) (by decide +kernel)
  | 6, _ => x_w 341 (by decide +kernel) (by decide +kernel)
  | 7, _ => x_w 343 (by decide +kernel) (by decide +kernel)
  | 8, _ => x_w 345 (by decide +kernel) (by decide +kernel)
  | 9, _ => x_w 347 (by decide +kernel) (by decide +kernel)
  | 10, _ => x_w 349 (by decide +kernel) (by decide +kernel)
  | 11, _ => x_w 351 (by decide +kernel) (by decide +kernel)
  | k + 12, h => absurd h (by omega)
theorem x_y7 : ∀ k, k < 12 → parseFieldDescriptor (x_T7 k).2.2.1 = some (x_t7 k) := by decide +kernel
theorem x_f7 : x_clf "SessionHost$Singleton" x_T7 12 := ⟨fun w hw => by
    obtain ⟨k, hk, rfl⟩ := List.mem_map.mp hw
    exact x_l7 k (List.mem_range.mp hk), ⟨x_t7, x_y7⟩, by decide +kernel⟩
theorem x_l8 : ∀ k, k < 11 → u_lay "SessionHost$Session" x_T8 k ∈ x_ws := fun k hk => match k, hk with
  | 0, _ => x_w 522 (by decide +kernel) (by decide +kernel)
  | 1, _ => x_w 523 (by decide +kernel) (by decide +kernel)
  | 2, _ => x_w 524 (by decide +kernel) (by decide +kernel)
  | 3, _ => x_w 525 (by decide +kernel) (by decide +kernel)
  | 4, _ => x_w 508 (by decide +kernel) (by decide +kernel)
  | 5, _ => x_w 510 (by decide +kernel) (by decide +kernel)
  | 6, _ => x_w 512 (by decide +kernel) (by decide +kernel)
  | 7, _ => x_w 514 (by decide +kernel) (by decide +kernel)
  | 8, _ => x_w 516 (by decide +kernel) (by decide +kernel)
  | 9, _ => x_w 518 (by decide +kernel) (by decide +kernel)
  | 10, _ => x_w 520 (by decide +kernel) (by decide +kernel)
  | k + 11, h => absurd h (by omega)
theorem x_y8 : ∀ k, k < 11 → parseFieldDescriptor (x_T8 k).2.2.1 = some (x_t8 k) := by decide +kernel
theorem x_f8 : x_clf "SessionHost$Session" x_T8 11 := ⟨fun w hw => by
    obtain ⟨k, hk, rfl⟩ := List.mem_map.mp hw
    exact x_l8 k (List.mem_range.mp hk), ⟨x_t8, x_y8⟩, by decide +kernel⟩
theorem x_l9 : ∀ k, k < 6 → u_lay "SessionHost$Task" x_T9 k ∈ x_ws := fun k hk => match k, hk with
  | 0, _ => x_w 784 (by decide +kernel) (by decide +kernel)
  | 1, _ => x_w 786 (by decide +kernel) (by decide +kernel)
  | 2, _ => x_w 788 (by decide +kernel) (by decide +kernel)
  | 3, _ => x_w 790 (by decide +kernel) (by decide +kernel)
  | 4, _ => x_w 792 (by decide +kernel) (by decide +kernel)
  | 5, _ => x_w 794 (by decide +kernel) (by decide +kernel)
  | k + 6, h => absurd h (by omega)
theorem x_y9 : ∀ k, k < 6 → parseFieldDescriptor (x_T9 k).2.2.1 = some (x_t9 k) := by decide +kernel
theorem x_f9 : x_clf "SessionHost$Task" x_T9 6 := ⟨fun w hw => by
    obtain ⟨k, hk, rfl⟩ := List.mem_map.mp hw
    exact x_l9 k (List.mem_range.mp hk), ⟨x_t9, x_y9⟩, by decide +kernel⟩
theorem x_l10 : ∀ k, k < 10 → u_lay "SessionHost" x_T10 k ∈ x_ws := fun k hk => match k, hk with
  | 0, _ => x_w 219 (by decide +kernel) (by decide +kernel)
  | 1, _ => x_w 221 (by decide +kernel) (by decide +kernel)
  | 2, _ => x_w 223 (by decide +kernel) (by decide +kernel)
  | 3, _ => x_w 225 (by decide +kernel) (by decide +kernel)
  | 4, _ => x_w 227 (by decide +kernel) (by decide +kernel)
  | 5, _ => x_w 229 (by decide +kernel) (by decide +kernel)
  | 6, _ => x_w 231 (by decide +kernel) (by decide +kernel)
  | 7, _ => x_w 233 (by decide +kernel) (by decide +kernel)
  | 8, _ => x_w 235 (by decide +kernel) (by decide +kernel)
  | 9, _ => x_w 237 (by decide +kernel) (by decide +kernel)
  | k + 10, h => absurd h (by omega)
theorem x_y10 : ∀ k, k < 10 → parseFieldDescriptor (x_T10 k).2.2.1 = some (x_t10 k) := by decide +kernel
theorem x_f10 : x_clf "SessionHost" x_T10 10 := ⟨fun w hw => by
    obtain ⟨k, hk, rfl⟩ := List.mem_map.mp hw
    exact x_l10 k (List.mem_range.mp hk), ⟨x_t10, x_y10⟩, by decide +kernel⟩
theorem x_l11 : ∀ k, k < 46 → u_lay "SessionHostModel" x_T11 k ∈ x_ws := fun k hk => match k, hk with
  | 0, _ => x_w 911 (by decide +kernel) (by decide +kernel)
  | 1, _ => x_w 913 (by decide +kernel) (by decide +kernel)
  | 2, _ => x_w 915 (by decide +kernel) (by decide +kernel)
  | 3, _ => x_w 917 (by decide +kernel) (by decide +kernel)
  | 4, _ => x_w 919 (by decide +kernel) (by decide +kernel)
  | 5, _ => x_w 921 (by decide +kernel) (by decide +kernel)
  | 6, _ => x_w 923 (by decide +kernel) (by decide +kernel)
  | 7, _ => x_w 925 (by decide +kernel) (by decide +kernel)
  | 8, _ => x_w 927 (by decide +kernel) (by decide +kernel)
  | 9, _ => x_w 929 (by decide +kernel) (by decide +kernel)
  | 10, _ => x_w 931 (by decide +kernel) (by decide +kernel)
  | 11, _ => x_w 933 (by decide +kernel) (by decide +kernel)
  | 12, _ => x_w 935 (by decide +kernel) (by decide +kernel)
  | 13, _ => x_w 937 (by decide +kernel) (by decide +kernel)
  | 14, _ => x_w 939 (by decide +kernel) (by decide +kernel)
  | 15, _ => x_w 941 (by decide +kernel) (by decide +kernel)
  | 16, _ => x_w 943 (by decide +kernel) (by decide +kernel)
  | 17, _ => x_w 945 (by decide +kernel) (by decide +kernel)
  | 18, _ => x_w 947 (by decide +kernel) (by decide +kernel)
  | 19, _ => x_w 949 (by decide +kernel) (by decide +kernel)
  | 20, _ => x_w 951 (by decide +kernel) (by decide +kernel)
  | 21, _ => x_w 953 (by decide +kernel) (by decide +kernel)
  | 22, _ => x_w 955 (by decide +kernel) (by decide +kernel)
  | 23, _ => x_w 957 (by decide +kernel) (by decide +kernel)
  | 24, _ => x_w 959 (by decide +kernel) (by decide +kernel)
  | 25, _ => x_w 961 (by decide +kernel) (by decide +kernel)
  | 26, _ => x_w 963 (by decide +kernel) (by decide +kernel)
  | 27, _ => x_w 965 (by decide +kernel) (by decide +kernel)
  | 28, _ => x_w 967 (by decide +kernel) (by decide +kernel)
  | 29, _ => x_w 969 (by decide +kernel) (by decide +kernel)
  | 30, _ => x_w 971 (by decide +kernel) (by decide +kernel)
  | 31, _ => x_w 973 (by decide +kernel) (by decide +kernel)
  | 32, _ => x_w 975 (by decide +kernel) (by decide +kernel)
  | 33, _ => x_w 977 (by decide +kernel) (by decide +kernel)
  | 34, _ => x_w 979 (by decide +kernel) (by decide +kernel)
  | 35, _ => x_w 981 (by decide +kernel) (by decide +kernel)
  | 36, _ => x_w 983 (by decide +kernel) (by decide +kernel)
  | 37, _ => x_w 985 (by decide +kernel) (by decide +kernel)
  | 38, _ => x_w 987 (by decide +kernel) (by decide +kernel)
  | 39, _ => x_w 989 (by decide +kernel) (by decide +kernel)
  | 40, _ => x_w 991 (by decide +kernel) (by decide +kernel)
  | 41, _ => x_w 993 (by decide +kernel) (by decide +kernel)
  | 42, _ => x_w 995 (by decide +kernel) (by decide +kernel)
  | 43, _ => x_w 997 (by decide +kernel) (by decide +kernel)
  | 44, _ => x_w 999 (by decide +kernel) (by decide +kernel)
  | 45, _ => x_w 1001 (by decide +kernel) (by decide +kernel)
  | k + 46, h => absurd h (by omega)
theorem x_y11 : ∀ k, k < 46 → parseFieldDescriptor (x_T11 k).2.2.1 = some (x_t11 k) := by decide +kernel
theorem x_f11 : x_clf "SessionHostModel" x_T11 46 := ⟨fun w hw => by
    obtain ⟨k, hk, rfl⟩ := List.mem_map.mp hw
    exact x_l11 k (List.mem_range.mp hk), ⟨x_t11, x_y11⟩, by decide +kernel⟩
theorem x_cl_ok (ci : Nat) (C : String) (T : u_T) (N : Nat) (h : x_cl[ci]? = some (C, T, N)) : x_clf C T N := match ci, h with
  | 0, h => by cases h; exact x_f0
  | 1, h => by cases h; exact x_f1
  | 2, h => by cases h; exact x_f2
  | 3, h => by cases h; exact x_f3
  | 4, h => by cases h; exact x_f4
  | 5, h => by cases h; exact x_f5
  | 6, h => by cases h; exact x_f6
  | 7, h => by cases h; exact x_f7
  | 8, h => by cases h; exact x_f8
  | 9, h => by cases h; exact x_f9
  | 10, h => by cases h; exact x_f10
  | 11, h => by cases h; exact x_f11
  | n + 12, h => by cases h
def x_ob : List Nat := [0, 1, 2, 4, 5, 6, 7, 8, 9, 10, 11]
theorem x_ob_ok (ci : Nat) (h : ci ∈ x_ob) : ∃ r : vw_C, x_cl[ci]? = some r ∧ Cond.castable r.1 "java/lang/Object" ∈ lw_tbl := by
  simp only [x_ob, List.mem_cons, List.not_mem_nil, or_false] at h
  rcases h with rfl | rfl | rfl | rfl | rfl | rfl | rfl | rfl | rfl | rfl | rfl
  · exact ⟨_, rfl, List.mem_of_getElem? (i := 1230) (by decide +kernel)⟩
  · exact ⟨_, rfl, List.mem_of_getElem? (i := 1231) (by decide +kernel)⟩
  · exact ⟨_, rfl, List.mem_of_getElem? (i := 1232) (by decide +kernel)⟩
  · exact ⟨_, rfl, List.mem_of_getElem? (i := 1233) (by decide +kernel)⟩
  · exact ⟨_, rfl, List.mem_of_getElem? (i := 1235) (by decide +kernel)⟩
  · exact ⟨_, rfl, List.mem_of_getElem? (i := 1236) (by decide +kernel)⟩
  · exact ⟨_, rfl, List.mem_of_getElem? (i := 1237) (by decide +kernel)⟩
  · exact ⟨_, rfl, List.mem_of_getElem? (i := 1238) (by decide +kernel)⟩
  · exact ⟨_, rfl, List.mem_of_getElem? (i := 1239) (by decide +kernel)⟩
  · exact ⟨_, rfl, List.mem_of_getElem? (i := 1229) (by decide +kernel)⟩
  · exact ⟨_, rfl, List.mem_of_getElem? (i := 1234) (by decide +kernel)⟩
end
section
/-! The executor: a method's straight pieces of code as lists of operations (an instruction, its length, a number, a list of pairs, a constant); 'x_run' turns such a piece into the proposition that must hold at its start; 'x_sound' says that this is enough for the machine. The heap is a partial function from addresses to objects (class number, fields) and arrays (type number, length, contents). -/
abbrev XE : Type := (Nat × List Value) ⊕ (Nat × Nat × (Nat → Value))
abbrev XH : Type := Nat → Option XE
abbrev XL : Type := Nat → Option Value
abbrev XJ : Type := Nat → XL → List Value → XH → Nat → Nat → Prop
abbrev XK : Type := XL → List Value → XH → Nat → Nat → Prop
abbrev XO : Type := ClassFile.Instr × Nat × Nat × List (Nat × Nat) × Int32
-- the launch, where classes and fields lie, the array classes, the heap's size at the start, the cell of ArrayList's empty array, the addresses of constants (0: that array, 1: the class object of Object[])
abbrev XC : Type := Launch × va_G × (Nat → ClassId) × Nat × Cell × (Nat → Nat)
abbrev x_z (X : XC) : Nat := X.2.2.2.1
abbrev x_c0 (X : XC) : Cell := X.2.2.2.2.1
abbrev x_k (X : XC) : Nat → Nat := X.2.2.2.2.2
-- what the stack and the heap hold
abbrev x_int (v : Value) (k : Int32 → Prop) : Prop := match v with
  | .int x => k x
  | _ => False
abbrev x_i1 (st : List Value) (k : Int32 → List Value → Prop) : Prop := match st with
  | .int x :: t => k x t
  | _ => False
abbrev x_i2 (st : List Value) (k : Int32 → Int32 → List Value → Prop) : Prop := match st with
  | .int y :: .int x :: t => k x y t
  | _ => False
abbrev x_v1 (st : List Value) (k : Value → List Value → Prop) : Prop := match st with
  | v :: t => k v t
  | _ => False
abbrev x_v2 (st : List Value) (k : Value → Value → List Value → Prop) : Prop := match st with
  | v :: w :: t => k v w t
  | _ => False
abbrev x_r1 (st : List Value) (k : Nat → List Value → Prop) : Prop := match st with
  | .ref a :: t => k a t
  | _ => False
/-- a value over a reference -/
abbrev x_vr (st : List Value) (k : Value → Nat → List Value → Prop) : Prop := match st with
  | v :: .ref a :: t => k v a t
  | _ => False
/-- an index over a reference -/
abbrev x_ir (st : List Value) (k : Int32 → Nat → List Value → Prop) : Prop := match st with
  | .int i :: .ref a :: t => k i a t
  | _ => False
/-- a value over an index over a reference -/
abbrev x_vir (st : List Value) (k : Value → Int32 → Nat → List Value → Prop) : Prop := match st with
  | v :: .int i :: .ref a :: t => k v i a t
  | _ => False
def x_isr (v : Value) : Prop := match v with
  | .ref _ => True
  | .null => True
  | _ => False
def x_one (v : Value) : Prop := match v with
  | .int _ => True
  | .ref _ => True
  | .null => True
  | _ => False
noncomputable abbrev x_som {α : Type} (o : Option α) (k : α → Prop) : Prop := Option.rec (motive := fun _ => Prop) False k o
noncomputable abbrev x_tru (b : Bool) (P : Prop) : Prop := Bool.rec (motive := fun _ => Prop) False P b
/-- a reference, or a value of one slot: else nothing is said -/
abbrev x_rfv (v : Value) (P : Prop) : Prop := match v with
  | .ref _ => P
  | .null => P
  | _ => False
abbrev x_onv (v : Value) (P : Prop) : Prop := match v with
  | .int _ => P
  | .ref _ => P
  | .null => P
  | _ => False
/-- a value of a kind: 0 an int, 1 a boolean, 2 a reference -/
abbrev x_okv (kd : Nat) (v : Value) (P : Prop) : Prop := match kd, v with
  | 0, .int _ => P
  | 1, .int x => (x = 0 ∨ x = 1) ∧ P
  | 2, .ref _ => P
  | 2, .null => P
  | _, _ => False
abbrev x_nil (t : List Value) (P : Prop) : Prop := match t with
  | [] => P
  | _ => False
abbrev x_le4 (t : List Value) (P : Prop) : Prop := match t with
  | [] => P
  | [_] => P
  | [_, _] => P
  | [_, _, _] => P
  | [_, _, _, _] => P
  | _ => False
/-- n values off the stack, the last one first -/
def x_pop : Nat → List Value → List Value → (List Value → List Value → Prop) → Prop
  | 0, st, acc, k => k acc st
  | n + 1, st, acc, k => match st with
    | v :: t => x_pop n t (v :: acc) k
    | [] => False
/-- there is room; two numbers are one -/
noncomputable abbrev x_leb (a b : Nat) (P : Prop) : Prop := x_tru (Nat.ble a b) P
noncomputable abbrev x_eqn (a b : Nat) (P : Prop) : Prop := x_tru (Nat.beq a b) P
def x_obj (e : Option XE) (k : Nat → List Value → Prop) : Prop := ∃ (ci : Nat) (fs : List Value), e = some (.inl (ci, fs)) ∧ k ci fs
def x_arr (e : Option XE) (k : Nat → Nat → (Nat → Value) → Prop) : Prop := ∃ (ti n : Nat) (g : Nat → Value), e = some (.inr (ti, n, g)) ∧ k ti n g
abbrev x_nul (st : List Value) (kn kr : List Value → Prop) : Prop := match st with
  | .null :: t => kn t
  | .ref _ :: t => kr t
  | _ => False
def x_br (o : ClassFile.Cond) (x y : Int32) (kt kf : Prop) : Prop := match o with
  | .eq => (x = y → kt) ∧ (¬ x = y → kf)
  | .ne => (¬ x = y → kt) ∧ (x = y → kf)
  | .lt => (x < y → kt) ∧ (¬ x < y → kf)
  | .ge => (y ≤ x → kt) ∧ (¬ y ≤ x → kf)
  | .gt => (y < x → kt) ∧ (¬ y < x → kf)
  | .le => (x ≤ y → kt) ∧ (¬ x ≤ y → kf)
def x_ab (o : ClassFile.ACond) (x y : Value) (kt kf : Prop) : Prop := match o with
  | .eq => (x = y → kt) ∧ (¬ x = y → kf)
  | .ne => (¬ x = y → kt) ∧ (x = y → kf)
-- the world: what a method finds, and what it leaves
def x_at (X : XC) (a : Nat) (e : XE) (H : Heap) : Prop := match e with
  | .inl o => ∃ r : vw_C, x_cl[o.1]? = some r ∧ t_OB a (X.2.1.1 o.1) r.2.2 (X.2.1.2 o.1) H (vp_V o.2)
  | .inr o => (o.1 < x_ty.length ∧ H[a]? = some (arrV (X.2.2.1 o.1) o.2.1 o.2.2)) ∨ (o.1 = 99 ∧ o.2.1 = 0 ∧ H[a]? = some (x_c0 X))
def x_P (X : XC) (f : XH) (H : Heap) : Prop := ∀ (a : Nat) (e : XE), f a = some e → x_at X a e H
def x_A (X : XC) : Nat → Prop := fun q => x_z X ≤ q
def x_D (X : XC) (f : XH) : Prop := ∀ (a : Nat) (e : XE), f a = some e → x_A X a ∨ ∃ g, e = .inr (99, 0, g)
/-- words that ride with the world -/
def x_isN (w : Cond) : Bool := match w with
  | .fieldLinkNest _ _ _ _ _ _ => true
  | .methodLinkNest _ _ _ _ => true
  | .declares _ => true
  | .castable _ _ => true
  | _ => false
def x_K (X : XC) (U : State) : Prop := (∀ (c : Nat) (q : vw_C), x_cl[c]? = some q → u_Kn U q.1 q.2.1 q.2.2 (X.2.1.1 c) (X.2.1.2 c)) ∧ (∀ (k : Nat) (ty : FieldType), x_ty[k]? = some ty → ArrOfT U (X.2.2.1 k) ty ∧ va_RA U (X.2.2.1 k) ty) ∧ (∀ w ∈ lw_tbl, x_isN w = true → va_Nw w U) ∧ (∀ C ∈ x_ao, va_AO C U) ∧ (∀ q ∈ x_nc, va_Nc q.1 q.2 U) ∧ (U.isArrayOf (x_c0 X) (.object "java/lang/Object") ∧ (x_c0 X).slots.size = 0) ∧ va_Mi "[Ljava/lang/Object;" (x_k X 1) U
theorem x_K.warm {X : XC} {s U : State} (hW : s.WarmedH U.vm) (h : x_K X s) : x_K X U := by
  have hvm := hW.alike
  refine ⟨fun c q hq => u_Kn_moved hvm (h.1 c q hq), fun k ty hk => ⟨arrOfT_moved hvm (h.2.1 k ty hk).1, (h.2.1 k ty hk).2.moved hvm⟩, fun w hw hn => ?_, fun C hC => (h.2.2.2.1 C hC).moved hvm, fun q hq => (h.2.2.2.2.1 q hq).moved hvm, ⟨State.isArrayOf_alike hvm h.2.2.2.2.2.1.1, h.2.2.2.2.2.1.2⟩, h.2.2.2.2.2.2.moved hvm⟩
  have h1 := h.2.2.1 w hw hn
  cases w <;> first | exact va_Nw.warmF hW h1 | exact va_Nw.warmM hW h1 | exact va_Nw.warmD hW h1 | exact va_Nw.warmC hW h1 | (exact absurd hn (by decide)) | (cases hn)
/-- the static that holds ArrayList's empty array -/
def x_Z (X : XC) (U : State) (H : Heap) : Prop := va_Z "java/util/ArrayList" "DEFAULTCAPACITY_EMPTY_ELEMENTDATA" "[Ljava/lang/Object;" (.ref (x_k X 0)) (x_A X) U H
theorem x_good_or {w : Cond} (h : x_good w = true) : (w.onTables && w.keeps) = true ∨ ∃ ty, w = .arrayClass ty := by
  unfold x_good at h
  rcases Bool.or_eq_true_iff.mp h with h | h
  · exact Or.inl h
  · right
    cases w <;> first | exact ⟨_, rfl⟩ | (cases h)
abbrev x_mw (y : Nat) : List Cond := .code (x_mt y).1 (x_mt y).2.1 (x_mt y).2.2.1 (x_mt y).2.2.2 :: x_ws
abbrev x_mc (y : Nat) : Cond := .code (x_mt y).1 (x_mt y).2.1 (x_mt y).2.2.1 (x_mt y).2.2.2
theorem x_goodIn {a b : Cond} (hb : b ∈ lw_tbl) (hg : x_good b = true) : GoodIn (a :: x_ws) (b :: x_ws) := by
  intro w hw
  rcases List.mem_cons.mp hw with h | h
  · subst h
    exact ⟨List.mem_cons_of_mem _ (x_in hb hg), x_good_or hg⟩
  · exact ⟨List.mem_cons_of_mem _ h, x_good_or (List.mem_filter.mp h).2⟩
def x_pre (X : XC) (av : List Value) (f : XH) : Array Value → State → Prop := fun v U => v = av.toArray ∧ x_P X f U.heap ∧ x_D X f ∧ x_K X U ∧ x_z X ≤ U.heap.size ∧ x_Z X U U.heap
def x_post (X : XC) (Q : Option Value → XH → Prop) : Array Value → State → Outcome → State → Prop := fun _ st oc t => (∃ (r : Option Value) (f : XH), oc = .returned r ∧ Q r f ∧ x_P X f t.heap ∧ x_D X f) ∧ va_F (x_A X) st t
/-- method y, called with av in the heap f, comes back, with Q of its answer and of the heap: the contract -/
def Holds (X : XC) (y : Nat) (av : List Value) (f : XH) (fr lo mc ms : Nat) (Q : Option Value → XH → Prop) : Prop :=
  Met X.1 (x_mt y).1 (x_mw y) { frames := fr, cells := mc, slots := ms, locals := lo } (x_pre X av f) (x_post X Q) mc ms (x_A X)
def x_call (X : XC) (fr lo mc ms y : Nat) (av : List Value) (f : XH) (nc ns : Nat) (k : Option Value → XH → Nat → Nat → Prop) : Prop :=
  ∃ (fr' lo' mc' ms' : Nat) (Q : Option Value → XH → Prop), Holds X y av f fr' lo' mc' ms' Q ∧ (fr' + 1 ≤ fr ∧ 8 + ((x_mt y).2.2.1 + 11) + lo' ≤ lo ∧ nc + mc' ≤ mc ∧ ns + ms' ≤ ms) ∧ ∀ r f', Q r f' → k r f' (nc + mc') (ns + ms')
/-- an element for an array of references, a cast, a question for the class: by the classes that a table names -/
noncomputable abbrev x_sto (al : List (Nat × Nat)) (ti : Nat) (f : XH) (v : Value) (P : Prop) : Prop := match v with
  | .null => x_som (al.lookup ti) fun _ => P
  | .ref w => x_obj (f w) fun ci _ => x_tru (al.contains (ti, ci)) P
  | _ => False
noncomputable abbrev x_cst (al : List (Nat × Nat)) (f : XH) (v : Value) (P : Prop) : Prop := match v with
  | .null => P
  | .ref w => x_obj (f w) fun ci _ => x_som (al.lookup ci) fun _ => P
  | _ => False
abbrev x_bit (b : Nat) (k : Int32 → Prop) : Prop := match b with
  | 0 => k 0
  | 1 => k 1
  | _ => False
noncomputable abbrev x_ins (al : List (Nat × Nat)) (f : XH) (v : Value) (k : Int32 → Prop) : Prop := match v with
  | .null => k 0
  | .ref w => x_obj (f w) fun ci _ => x_som (al.lookup ci) fun b => x_bit b k
  | _ => False
/-- what an array of Objects takes from another -/
def x_elo (f : XH) (v : Value) : Prop := v = .null ∨ ∃ (w ci : Nat) (fs : List Value), v = .ref w ∧ f w = some (.inl (ci, fs)) ∧ ci ∈ x_ob
abbrev x_cpy (st : List Value) (k : Int32 → Int32 → Nat → Int32 → Nat → List Value → Prop) : Prop := match st with
  | .int n :: .int dp :: .ref d :: .int sp :: .ref s :: t => k n dp d sp s t
  | _ => False
def x_swt (pc : Nat) (d lo hi : Int) (os : List Int) (x : Int32) : Nat := if x.toInt < lo ∨ hi < x.toInt then ((pc : Int) + d).toNat else ((pc : Int) + os.getD (x.toInt - lo).toNat 0).toNat
/-- one instruction -/
noncomputable def x_step (X : XC) (fr lo mc ms : Nat) (J : XJ) (RQ : Option Value → XH → Prop) (o : XO) (pc : Nat) (ls : XL) (st : List Value) (f : XH) (nc ns : Nat) (K : XK) : Prop := match o.1 with
  | .iconst _ => K ls (.int o.2.2.2.2 :: st) f nc ns
  | .bipush _ => K ls (.int o.2.2.2.2 :: st) f nc ns
  | .sipush _ => K ls (.int o.2.2.2.2 :: st) f nc ns
  | .aconst_null => K ls (.null :: st) f nc ns
  | .getstatic _ => K ls (.ref (x_k X 0) :: st) f nc ns
  | .iload _ => x_som (ls o.2.2.1) fun v => x_int v fun x => K ls (.int x :: st) f nc ns
  | .iload_n _ => x_som (ls o.2.2.1) fun v => x_int v fun x => K ls (.int x :: st) f nc ns
  | .aload _ => x_som (ls o.2.2.1) fun v => x_rfv v (K ls (v :: st) f nc ns)
  | .aload_n _ => x_som (ls o.2.2.1) fun v => x_rfv v (K ls (v :: st) f nc ns)
  | .istore _ => x_i1 st fun x t => K (va_up ls o.2.2.1 (some (.int x))) t f nc ns
  | .istore_n _ => x_i1 st fun x t => K (va_up ls o.2.2.1 (some (.int x))) t f nc ns
  | .astore _ => x_v1 st fun v t => x_rfv v (K (va_up ls o.2.2.1 (some v)) t f nc ns)
  | .astore_n _ => x_v1 st fun v t => x_rfv v (K (va_up ls o.2.2.1 (some v)) t f nc ns)
  | .iinc _ _ => x_som (ls o.2.2.1) fun v => x_int v fun x => K (va_up ls o.2.2.1 (some (.int (x + o.2.2.2.2)))) st f nc ns
  | .iadd => x_i2 st fun x y t => K ls (.int (x + y) :: t) f nc ns
  | .isub => x_i2 st fun x y t => K ls (.int (x - y) :: t) f nc ns
  | .imul => x_i2 st fun x y t => K ls (.int (x * y) :: t) f nc ns
  | .iand => x_i2 st fun x y t => K ls (.int (x &&& y) :: t) f nc ns
  | .ior => x_i2 st fun x y t => K ls (.int (x ||| y) :: t) f nc ns
  | .ixor => x_i2 st fun x y t => K ls (.int (x ^^^ y) :: t) f nc ns
  | .idiv => x_i2 st fun x y t => ¬ y = 0 ∧ K ls (.int (x / y) :: t) f nc ns
  | .irem => x_i2 st fun x y t => ¬ y = 0 ∧ K ls (.int (x - x / y * y) :: t) f nc ns
  | .ishl => x_i2 st fun x y t => K ls (.int (x <<< (y &&& 31)) :: t) f nc ns
  | .ishr => x_i2 st fun x y t => K ls (.int (x >>> (y &&& 31)) :: t) f nc ns
  | .ineg => x_i1 st fun x t => K ls (.int (-x) :: t) f nc ns
  | .dup => x_v1 st fun v t => x_onv v (K ls (v :: v :: t) f nc ns)
  | .dup_x1 => x_v2 st fun v w t => x_onv v (x_onv w (K ls (v :: w :: v :: t) f nc ns))
  | .dup2 => x_v2 st fun v w t => x_onv v (x_onv w (K ls (v :: w :: v :: w :: t) f nc ns))
  | .pop => x_v1 st fun v t => x_onv v (K ls t f nc ns)
  | .ifCond c _ => x_i1 st fun x t => x_br c x 0 (J o.2.2.1 ls t f nc ns) (K ls t f nc ns)
  | .if_icmp c _ => x_i2 st fun x y t => x_br c x y (J o.2.2.1 ls t f nc ns) (K ls t f nc ns)
  | .if_acmp c _ => x_v2 st fun y x t => x_rfv x (x_rfv y (x_ab c x y (J o.2.2.1 ls t f nc ns) (K ls t f nc ns)))
  | .ifnull _ => x_nul st (fun t => J o.2.2.1 ls t f nc ns) (fun t => K ls t f nc ns)
  | .ifnonnull _ => x_nul st (fun t => K ls t f nc ns) (fun t => J o.2.2.1 ls t f nc ns)
  | .goto _ => J o.2.2.1 ls st f nc ns
  | .tableswitch d l h os => x_i1 st fun x t => J (x_swt pc d l h os.toList x) ls t f nc ns
  | .ireturn => x_i1 st fun x t => x_nil t (x_okv o.2.2.1 (.int x) (x_leb nc mc (x_leb ns ms (RQ (some (.int x)) f))))
  | .areturn => x_v1 st fun v t => x_nil t (x_rfv v (x_leb nc mc (x_leb ns ms (RQ (some v) f))))
  | .return_ => x_nil st (x_leb nc mc (x_leb ns ms (RQ none f)))
  | .getfield _ => x_r1 st fun a t => x_obj (f a) fun ci fs => x_som (o.2.2.2.1.lookup ci) fun _ => x_som (fs[o.2.2.1]?) fun v => K ls (v :: t) f nc ns
  | .putfield _ => x_vr st fun v a t => x_obj (f a) fun ci fs => x_som (o.2.2.2.1.lookup ci) fun kd => x_som (fs[o.2.2.1]?) fun _ => x_okv kd v (K ls t (va_up f a (some (.inl (ci, fs.set o.2.2.1 v)))) nc ns)
  | .arraylength => x_r1 st fun a t => x_arr (f a) fun _ n _ => K ls (.int (nI n) :: t) f nc ns
  | .iaload => x_ir st fun i a t => x_arr (f a) fun ti n g => x_eqn ti o.2.2.1 (vp_in i n ∧ K ls (g i.toNatClampNeg :: t) f nc ns)
  | .baload => x_ir st fun i a t => x_arr (f a) fun ti n g => x_eqn ti o.2.2.1 (vp_in i n ∧ K ls (g i.toNatClampNeg :: t) f nc ns)
  | .aaload => x_ir st fun i a t => x_arr (f a) fun ti n g => x_som (o.2.2.2.1.lookup ti) fun _ => vp_in i n ∧ K ls (g i.toNatClampNeg :: t) f nc ns
  | .iastore => x_vir st fun v i a t => x_arr (f a) fun ti n g => x_eqn ti o.2.2.1 (vp_in i n ∧ x_okv 0 v (K ls t (va_up f a (some (.inr (ti, n, va_up g i.toNatClampNeg v)))) nc ns))
  | .bastore => x_vir st fun v i a t => x_arr (f a) fun ti n g => x_eqn ti o.2.2.1 (vp_in i n ∧ x_okv 1 v (K ls t (va_up f a (some (.inr (ti, n, va_up g i.toNatClampNeg v)))) nc ns))
  | .aastore => x_vir st fun v i a t => x_arr (f a) fun ti n g => vp_in i n ∧ x_sto o.2.2.2.1 ti f v (K ls t (va_up f a (some (.inr (ti, n, va_up g i.toNatClampNeg v)))) nc ns)
  | .new _ => x_leb (nc + 1) mc (x_leb (ns + (x_df o.2.2.1).length) ms (∀ q : Nat, f q = none → K ls (.ref q :: st) (va_up f q (some (.inl (o.2.2.1, x_df o.2.2.1)))) (nc + 1) (ns + (x_df o.2.2.1).length)))
  | .newarray _ => x_i1 st fun n t => ¬ n < 0 ∧ n.toNatClampNeg ≤ 1000000 ∧ nc + 1 ≤ mc ∧ ns + n.toNatClampNeg ≤ ms ∧ ∀ q : Nat, f q = none → K ls (.ref q :: t) (va_up f q (some (.inr (o.2.2.1, n.toNatClampNeg, fun _ => .int 0)))) (nc + 1) (ns + n.toNatClampNeg)
  | .anewarray _ => x_i1 st fun n t => ¬ n < 0 ∧ n.toNatClampNeg ≤ 1000000 ∧ nc + 1 ≤ mc ∧ ns + n.toNatClampNeg ≤ ms ∧ ∀ q : Nat, f q = none → K ls (.ref q :: t) (va_up f q (some (.inr (o.2.2.1, n.toNatClampNeg, fun _ => .null)))) (nc + 1) (ns + n.toNatClampNeg)
  | .checkcast _ => x_v1 st fun v t => x_cst o.2.2.2.1 f v (K ls (v :: t) f nc ns)
  | .instanceof _ => x_v1 st fun v t => x_ins o.2.2.2.1 f v fun b => K ls (.int b :: t) f nc ns
  | .ldc _ => match o.2.2.2.1 with
    | [] => K ls (.int o.2.2.2.2 :: st) f nc ns
    | _ :: _ => K ls (.ref (x_k X 1) :: st) f nc ns
  | .invokestatic _ => x_som (o.2.2.2.1[0]?) fun q => match q.2 with
    | 0 => x_pop q.1 st [] fun av t => x_le4 t (x_call X fr lo mc ms o.2.2.1 av f nc ns fun r f' nc' ns' => K ls (r.toList ++ t) f' nc' ns')
    | 3 => x_cpy st fun n dp d sp s0 t => x_le4 t (x_leb 1 fr (x_leb 60 lo (x_arr (f s0) fun ti0 n0 g0 => x_arr (f d) fun ti1 n1 g1 => x_eqn ti0 o.2.2.1 (x_eqn ti1 o.2.2.1 ((¬ sp < 0 ∧ ¬ dp < 0 ∧ ¬ n < 0 ∧ sp.toNatClampNeg + n.toNatClampNeg ≤ n0 ∧ dp.toNatClampNeg + n.toNatClampNeg ≤ n1 ∧ ∀ j, j < n.toNatClampNeg → x_elo f (g0 (sp.toNatClampNeg + j))) ∧ K ls t (va_up f d (some (.inr (ti1, n1, va_cpy g0 g1 sp.toNatClampNeg dp.toNatClampNeg n.toNatClampNeg)))) nc ns)))))
    | _ => False
  | .invokespecial _ => match o.2.2.2.1 with
    | [] => x_r1 st fun _ t => x_le4 t (x_leb 1 fr (x_leb 20 lo (K ls t f nc ns)))
    | q :: _ => x_pop q.1 st [] fun av u => x_r1 u fun b t => x_le4 t (x_call X fr lo mc ms o.2.2.1 (.ref b :: av) f nc ns fun r f' nc' ns' => K ls (r.toList ++ t) f' nc' ns')
  | .invokevirtual _ => match o.2.2.2.1 with
    | [] => x_r1 st fun a t => x_le4 t (x_leb 1 fr (x_leb 30 lo (x_arr (f a) fun ti _ _ => x_eqn ti o.2.2.1 (K ls (.ref (x_k X 1) :: t) f nc ns))))
    | _ :: _ => x_pop o.2.2.1 st [] fun av u => x_r1 u fun b t => x_le4 t (x_obj (f b) fun ci _ => x_som (o.2.2.2.1.lookup ci) fun y => x_call X fr lo mc ms y (.ref b :: av) f nc ns fun r f' nc' ns' => K ls (r.toList ++ t) f' nc' ns')
  | _ => False
noncomputable def x_run (X : XC) (fr lo mc ms : Nat) (J : XJ) (RQ : Option Value → XH → Prop) : List XO → Nat → XL → List Value → XH → Nat → Nat → Prop
  | [], pc, ls, st, f, nc, ns => J pc ls st f nc ns
  | o :: r, pc, ls, st, f, nc, ns => x_step X fr lo mc ms J RQ o pc ls st f nc ns (fun ls st f nc ns => x_run X fr lo mc ms J RQ r (pc + o.2.1) ls st f nc ns)
end
section
/-! The executor is sound: each instruction by a row of the kit. -/
theorem x_at.kept {X : XC} {a : Nat} {e : XE} {H H1 : Heap} (h : x_at X a e H) (hq : H1[a]? = H[a]?) : x_at X a e H1 := by
  cases e with
  | inl o =>
    obtain ⟨r, h1, h2⟩ := h
    exact ⟨r, h1, h2.kept hq⟩
  | inr o => exact h.elim (fun z => Or.inl ⟨z.1, hq.trans z.2⟩) (fun z => Or.inr ⟨z.1, z.2.1, hq.trans z.2.2⟩)
theorem x_at.lt {X : XC} {a : Nat} {e : XE} {H : Heap} (h : x_at X a e H) : a < H.size := by
  cases e with
  | inl o =>
    obtain ⟨r, h1, cell, h2, -⟩ := h
    exact (Array.getElem?_eq_some_iff.mp h2).1
  | inr o => exact h.elim (fun z => (Array.getElem?_eq_some_iff.mp z.2).1) (fun z => (Array.getElem?_eq_some_iff.mp z.2.2).1)
theorem x_P.put {X : XC} {f : XH} {H H1 : Heap} {a : Nat} {e : XE} (h : x_P X f H) (he : x_at X a e H1) (oq : ∀ q : Nat, q ≠ a → H1[q]? = H[q]?) : x_P X (va_up f a (some e)) H1 := by
  intro b e' hb
  by_cases hba : b = a
  · subst hba
    rw [va_up_self] at hb
    cases hb
    exact he
  · rw [va_up_ne _ _ hba] at hb
    exact (h b e' hb).kept (oq b hba)
theorem x_P.new {X : XC} {f : XH} {H H1 : Heap} {e : XE} (h : x_P X f H) (he : x_at X H.size e H1) (oq : ∀ q : Nat, q < H.size → H1[q]? = H[q]?) : x_P X (va_up f H.size (some e)) H1 := by
  intro b e' hb
  by_cases hba : b = H.size
  · subst hba
    rw [va_up_self] at hb
    cases hb
    exact he
  · rw [va_up_ne _ _ hba] at hb
    exact (h b e' hb).kept (oq b (h b e' hb).lt)
theorem x_P.fresh {X : XC} {f : XH} {H : Heap} (h : x_P X f H) : f H.size = none := by
  cases hf : f H.size with
  | none => rfl
  | some e => exact absurd (h _ e hf).lt (Nat.lt_irrefl _)
theorem x_D.put {X : XC} {f : XH} {a : Nat} {e : XE} (h : x_D X f) (ha : x_A X a) : x_D X (va_up f a (some e)) := by
  intro b e' hb
  by_cases hba : b = a
  · subst hba
    exact Or.inl ha
  · rw [va_up_ne _ _ hba] at hb
    exact h b e' hb
theorem x_D.obj {X : XC} {f : XH} (h : x_D X f) {a ci : Nat} {fs : List Value} (hf : f a = some (.inl (ci, fs))) : x_A X a := by
  rcases h a _ hf with h | ⟨g, h⟩
  · exact h
  · cases h
theorem x_D.arr {X : XC} {f : XH} (h : x_D X f) {a ti n : Nat} {g : Nat → Value} {i : Int32} (hf : f a = some (.inr (ti, n, g))) (hi : vp_in i n) : x_A X a := by
  rcases h a _ hf with h | ⟨g, h⟩
  · exact h
  · cases h
    exact absurd (Or.inr (Nat.zero_le _)) hi
theorem x_P.arr {X : XC} {f : XH} {H : Heap} (h : x_P X f H) {a ti n : Nat} {g : Nat → Value} {i : Int32} (hf : f a = some (.inr (ti, n, g))) (hi : vp_in i n) : ti < x_ty.length ∧ H[a]? = some (arrV (X.2.2.1 ti) n g) := by
  rcases h a _ hf with h | ⟨-, h, -⟩
  · exact h
  · have h : n = 0 := h
    subst h
    exact absurd (Or.inr (Nat.zero_le _)) hi
/-- the locals that a function names -/
def x_has (lsA : Array Slot) (nL : Nat) (ls : XL) : Prop := lsA.size = nL ∧ lv_wf lsA ∧ ∀ (i : Nat) (v : Value), ls i = some v → lsA[i]? = some (.val v) ∧ v.category = 1
def x_lst (nL : Nat) (ls : XL) : List (Nat × Value) := (List.range nL).filterMap fun i => (ls i).map fun v => (i, v)
theorem x_has.lt {lsA : Array Slot} {nL : Nat} {ls : XL} (h : x_has lsA nL ls) {i : Nat} {v : Value} (hi : ls i = some v) : i < nL := by
  rw [← h.1]
  exact lv_lt (h.2.2 i v hi).1
theorem x_lst_mem {nL : Nat} {ls : XL} {q : Nat × Value} : q ∈ x_lst nL ls ↔ q.1 < nL ∧ ls q.1 = some q.2 := by
  unfold x_lst
  rw [List.mem_filterMap]
  constructor
  · rintro ⟨i, hi, hq⟩
    obtain ⟨v, hv, rfl⟩ := Option.map_eq_some_iff.mp hq
    exact ⟨List.mem_range.mp hi, hv⟩
  · rintro ⟨h1, h2⟩
    exact ⟨q.1, List.mem_range.mpr h1, by rw [h2]; rfl⟩
theorem x_has.lst {lsA : Array Slot} {nL : Nat} {ls : XL} (h : x_has lsA nL ls) : lv_has lsA nL (x_lst nL ls) :=
  ⟨h.1, h.2.1, fun q hq => (h.2.2 q.1 q.2 (x_lst_mem.mp hq).2).1⟩
theorem x_has.up {lsA lsB : Array Slot} {nL i : Nat} {ls : XL} {v : Value} (h : x_has lsA nL ls) (hc : v.category = 1) (hB : lv_has lsB nL ((i, v) :: (x_lst nL ls).filter (fun q => !(q.1 == i) && !(q.1 + 1 == i && q.2.category == 2)))) : x_has lsB nL (va_up ls i (some v)) := by
  refine ⟨hB.1, hB.2.1, fun j w hj => ?_⟩
  by_cases hji : j = i
  · subst hji
    rw [va_up_self] at hj
    cases hj
    exact ⟨hB.2.2 (j, v) List.mem_cons_self, hc⟩
  · rw [va_up_ne _ _ hji] at hj
    have hw := (h.2.2 j w hj).2
    refine ⟨hB.2.2 (j, w) (List.mem_cons_of_mem _ (List.mem_filter.mpr ⟨x_lst_mem.mpr ⟨h.lt hj, hj⟩, ?_⟩)), hw⟩
    have h1 : (j == i) = false := by simpa using hji
    have h2 : (w.category == 2) = false := by rw [hw]; rfl
    simp [h1, h2]
theorem x_isr_c {v : Value} (h : x_isr v) : v.category = 1 := by cases v <;> first | rfl | exact h.elim
theorem x_one_c {v : Value} (h : x_one v) : v.category = 1 := by cases v <;> first | rfl | exact h.elim
theorem x_isr_rf {v : Value} (h : x_isr v) : ∃ r, v = va_rf r := by
  cases v <;> first | exact ⟨some _, rfl⟩ | exact ⟨none, rfl⟩ | exact h.elim
theorem x_rf_inj {r q : Option Nat} (h : va_rf r = va_rf q) : r = q := by
  cases r <;> cases q <;> first | rfl | (cases h; rfl) | cases h
theorem x_room {m : MethodId} {pc : Nat} {ls : Array Slot} {rest st : List Value} (h : st.length ≤ 4) : 2 * (F0 m pc ls rest).monitorRoom + (st.map fun v => v.category).sum ≤ 8 := by
  refine lv_room ?_
  have h1 : ∀ l : List Value, (l.map fun v => v.category).sum ≤ 2 * l.length := by
    intro l
    induction l with
    | nil => exact Nat.le_refl _
    | cons v t ih =>
      have := lv_cat v
      simp only [List.map_cons, List.sum_cons, List.length_cons]
      omega
  have := h1 st
  omega
/-- what stands fixed while a method runs -/
def x_ctx (X : XC) (p : Program) (R : Room) (s : State) (m : MethodId) (args : Array Value) (meth : Method) (c : Code) (cc : ByteArray) (nL : Nat) (own : String) (ini : Bool) (rt : Option FieldType) (fr lo mc ms : Nat) : Prop :=
  p.tables.exec = Jvm.exec ∧ c.code = cc ∧ c.maxLocals = nL ∧ s.vm.findClass own = some m.cls ∧ (∀ w ∈ x_ws, w.before args s = true) ∧ x_K X s ∧ x_z X ≤ s.heap.size ∧ meth.sig.returnType = rt ∧ meth.locks = false ∧ (ini = true → meth.name = "<init>") ∧ x_Z X s s.heap ∧ R = { frames := fr, cells := mc, slots := ms, locals := lo }
/-- the machine, at a place of the method, comes to its end -/
def x_go (X : XC) (p : Program) (e : Env) (R : Room) (s : State) (m : MethodId) (args : Array Value) (below : List Frame) (meth : Method) (c : Code) (nL mc ms : Nat) (RQ : Option Value → XH → Prop) : XJ := fun pc ls st f nc ns =>
  ∀ (H : Heap) (locs : List Loc) (lsA : Array Slot), x_P X f H → x_D X f → va_S (x_A X) s.heap H locs → x_has lsA nL ls → W p X.1 e R s m args below meth c H locs nc ns (MQ below (x_post X RQ) args s mc ms (x_A X)) (F0 m pc lsA st)
section XS
variable {X : XC} {p : Program} {e : Env} {R : Room} {s : State} {m : MethodId} {args : Array Value} {below : List Frame} {meth : Method} {c : Code} {cc : ByteArray} {nL : Nat} {own : String} {ini : Bool} {rt : Option FieldType} {fr lo mc ms : Nat} {RQ : Option Value → XH → Prop}
variable {pc : Nat} {ls : XL} {st t : List Value} {f : XH} {nc ns : Nat}
theorem x_s_const (G : x_ctx X p R s m args meth c cc nL own ini rt fr lo mc ms) {i : ClassFile.Instr} {len : Nat} {v : Int32} (hd : decode cc pc = .ok (i, len))
    (hi : (∃ n, i = .iconst n ∧ Int32.ofInt n = v ∧ len = 1) ∨ (∃ n, i = .bipush n ∧ (Int8.ofInt n).toInt32 = v ∧ len = 2) ∨ (∃ n, i = .sipush n ∧ (Int16.ofInt n).toInt32 = v ∧ len = 3))
    (k : x_go X p e R s m args below meth c nL mc ms RQ (pc + len) ls (.int v :: st) f nc ns) : x_go X p e R s m args below meth c nL mc ms RQ pc ls st f nc ns := by
  intro H locs lsA hP hD hS hl
  rcases hi with ⟨n, rfl, hv, rfl⟩ | ⟨n, rfl, hv, rfl⟩ | ⟨n, rfl, hv, rfl⟩
  · exact lv_iconst G.1 G.2.1 hd hv (k H locs lsA hP hD hS hl)
  · exact lv_bipush G.1 G.2.1 hd hv (k H locs lsA hP hD hS hl)
  · exact lv_sipush G.1 G.2.1 hd hv (k H locs lsA hP hD hS hl)
theorem x_s_null (G : x_ctx X p R s m args meth c cc nL own ini rt fr lo mc ms) (hd : decode cc pc = .ok (.aconst_null, 1))
    (k : x_go X p e R s m args below meth c nL mc ms RQ (pc + 1) ls (.null :: st) f nc ns) : x_go X p e R s m args below meth c nL mc ms RQ pc ls st f nc ns :=
  fun H locs lsA hP hD hS hl => lv_null G.1 G.2.1 hd (k H locs lsA hP hD hS hl)
theorem x_s_iload (G : x_ctx X p R s m args meth c cc nL own ini rt fr lo mc ms) {i : ClassFile.Instr} {len j : Nat} {x : Int32} (hd : decode cc pc = .ok (i, len)) (hi : (i = .iload j ∧ len = 2) ∨ (∃ q, i = .iload_n q ∧ (q : Nat) = j ∧ len = 1)) (hx : ls j = some (.int x))
    (k : x_go X p e R s m args below meth c nL mc ms RQ (pc + len) ls (.int x :: st) f nc ns) : x_go X p e R s m args below meth c nL mc ms RQ pc ls st f nc ns := by
  intro H locs lsA hP hD hS hl
  rcases hi with ⟨rfl, rfl⟩ | ⟨q, rfl, hq, rfl⟩
  · exact lv_iload G.1 G.2.1 hd (hl.2.2 j _ hx).1 (k H locs lsA hP hD hS hl)
  · exact lv_iload_n G.1 G.2.1 hd hq (hl.2.2 j _ hx).1 (k H locs lsA hP hD hS hl)
theorem x_s_aload (G : x_ctx X p R s m args meth c cc nL own ini rt fr lo mc ms) {i : ClassFile.Instr} {len j : Nat} {v : Value} (hd : decode cc pc = .ok (i, len)) (hi : (i = .aload j ∧ len = 2) ∨ (∃ q, i = .aload_n q ∧ (q : Nat) = j ∧ len = 1)) (hx : ls j = some v) (hv : x_isr v)
    (k : x_go X p e R s m args below meth c nL mc ms RQ (pc + len) ls (v :: st) f nc ns) : x_go X p e R s m args below meth c nL mc ms RQ pc ls st f nc ns := by
  intro H locs lsA hP hD hS hl
  obtain ⟨r, rfl⟩ := x_isr_rf hv
  cases r with
  | none =>
    rcases hi with ⟨rfl, rfl⟩ | ⟨q, rfl, hq, rfl⟩
    · exact lv_aloadN G.1 G.2.1 hd (hl.2.2 j _ hx).1 (k H locs lsA hP hD hS hl)
    · exact lv_aload_nN G.1 G.2.1 hd hq (hl.2.2 j _ hx).1 (k H locs lsA hP hD hS hl)
  | some a =>
    rcases hi with ⟨rfl, rfl⟩ | ⟨q, rfl, hq, rfl⟩
    · exact lv_aload G.1 G.2.1 hd (hl.2.2 j _ hx).1 (k H locs lsA hP hD hS hl)
    · exact lv_aload_n G.1 G.2.1 hd hq (hl.2.2 j _ hx).1 (k H locs lsA hP hD hS hl)
theorem x_s_istore (G : x_ctx X p R s m args meth c cc nL own ini rt fr lo mc ms) {i : ClassFile.Instr} {len j : Nat} {x : Int32} (hd : decode cc pc = .ok (i, len)) (hi : (i = .istore j ∧ len = 2) ∨ (∃ q, i = .istore_n q ∧ (q : Nat) = j ∧ len = 1)) (hj : j < nL)
    (k : x_go X p e R s m args below meth c nL mc ms RQ (pc + len) (va_up ls j (some (.int x))) t f nc ns) : x_go X p e R s m args below meth c nL mc ms RQ pc ls (.int x :: t) f nc ns := by
  intro H locs lsA hP hD hS hl
  rcases hi with ⟨rfl, rfl⟩ | ⟨q, rfl, hq, rfl⟩
  · exact lv_istore G.1 G.2.1 hd hl.lst hj rfl fun lsB hB => k H locs lsB hP hD hS (hl.up rfl hB)
  · exact lv_istore_n G.1 G.2.1 hd hq hl.lst hj rfl fun lsB hB => k H locs lsB hP hD hS (hl.up rfl hB)
theorem x_s_astore (G : x_ctx X p R s m args meth c cc nL own ini rt fr lo mc ms) {i : ClassFile.Instr} {len j : Nat} {v : Value} (hd : decode cc pc = .ok (i, len)) (hi : (i = .astore j ∧ len = 2) ∨ (∃ q, i = .astore_n q ∧ (q : Nat) = j ∧ len = 1)) (hj : j < nL) (hv : x_isr v)
    (k : x_go X p e R s m args below meth c nL mc ms RQ (pc + len) (va_up ls j (some v)) t f nc ns) : x_go X p e R s m args below meth c nL mc ms RQ pc ls (v :: t) f nc ns := by
  intro H locs lsA hP hD hS hl
  obtain ⟨r, rfl⟩ := x_isr_rf hv
  cases r with
  | none =>
    rcases hi with ⟨rfl, rfl⟩ | ⟨q, rfl, hq, rfl⟩
    · exact lv_astoreN G.1 G.2.1 hd hl.lst hj rfl fun lsB hB => k H locs lsB hP hD hS (hl.up rfl hB)
    · exact lv_astore_nN G.1 G.2.1 hd hq hl.lst hj rfl fun lsB hB => k H locs lsB hP hD hS (hl.up rfl hB)
  | some a =>
    rcases hi with ⟨rfl, rfl⟩ | ⟨q, rfl, hq, rfl⟩
    · exact lv_astore G.1 G.2.1 hd hl.lst hj rfl fun lsB hB => k H locs lsB hP hD hS (hl.up rfl hB)
    · exact lv_astore_n G.1 G.2.1 hd hq hl.lst hj rfl fun lsB hB => k H locs lsB hP hD hS (hl.up rfl hB)
theorem x_s_iinc (G : x_ctx X p R s m args meth c cc nL own ini rt fr lo mc ms) {j : Nat} {n : Int} {x v : Int32} (hd : decode cc pc = .ok (.iinc j n, 3)) (hn : Int32.ofInt n = v) (hx : ls j = some (.int x))
    (k : x_go X p e R s m args below meth c nL mc ms RQ (pc + 3) (va_up ls j (some (.int (x + v)))) st f nc ns) : x_go X p e R s m args below meth c nL mc ms RQ pc ls st f nc ns := by
  intro H locs lsA hP hD hS hl
  obtain ⟨q, hq⟩ := List.getElem?_of_mem (x_lst_mem (q := (j, Value.int x)).mpr ⟨hl.lt hx, hx⟩)
  exact lv_iinc G.1 G.2.1 hd hl.lst hq (by rw [hn]) (hl.lt hx) rfl fun lsB hB => k H locs lsB hP hD hS (hl.up rfl hB)
/-- a branch -/
theorem x_s_if (G : x_ctx X p R s m args meth c cc nL own ini rt fr lo mc ms) {o : ClassFile.Cond} {off : Int} {tgt : Nat} {x : Int32} (hd : decode cc pc = .ok (.ifCond o off, 3)) (ht : (pc : Int) + off = (tgt : Int))
    (h : x_br o x 0 (x_go X p e R s m args below meth c nL mc ms RQ tgt ls t f nc ns) (x_go X p e R s m args below meth c nL mc ms RQ (pc + 3) ls t f nc ns)) : x_go X p e R s m args below meth c nL mc ms RQ pc ls (.int x :: t) f nc ns := by
  intro H locs lsA hP hD hS hl
  cases o
  · exact lv_if_eq G.1 G.2.1 hd ht (fun z => h.1 z H locs lsA hP hD hS hl) (fun z => h.2 z H locs lsA hP hD hS hl)
  · exact lv_if_ne G.1 G.2.1 hd ht (fun z => h.1 z H locs lsA hP hD hS hl) (fun z => h.2 z H locs lsA hP hD hS hl)
  · exact lv_if_lt G.1 G.2.1 hd ht (fun z => h.1 z H locs lsA hP hD hS hl) (fun z => h.2 z H locs lsA hP hD hS hl)
  · exact lv_if_ge G.1 G.2.1 hd ht (fun z => h.1 z H locs lsA hP hD hS hl) (fun z => h.2 z H locs lsA hP hD hS hl)
  · exact lv_if_gt G.1 G.2.1 hd ht (fun z => h.1 z H locs lsA hP hD hS hl) (fun z => h.2 z H locs lsA hP hD hS hl)
  · exact lv_if_le G.1 G.2.1 hd ht (fun z => h.1 z H locs lsA hP hD hS hl) (fun z => h.2 z H locs lsA hP hD hS hl)
theorem x_s_icmp (G : x_ctx X p R s m args meth c cc nL own ini rt fr lo mc ms) {o : ClassFile.Cond} {off : Int} {tgt : Nat} {x y : Int32} (hd : decode cc pc = .ok (.if_icmp o off, 3)) (ht : (pc : Int) + off = (tgt : Int))
    (h : x_br o x y (x_go X p e R s m args below meth c nL mc ms RQ tgt ls t f nc ns) (x_go X p e R s m args below meth c nL mc ms RQ (pc + 3) ls t f nc ns)) : x_go X p e R s m args below meth c nL mc ms RQ pc ls (.int y :: .int x :: t) f nc ns := by
  intro H locs lsA hP hD hS hl
  cases o
  · exact lv_icmp_eq G.1 G.2.1 hd ht (fun z => h.1 z H locs lsA hP hD hS hl) (fun z => h.2 z H locs lsA hP hD hS hl)
  · exact lv_icmp_ne G.1 G.2.1 hd ht (fun z => h.1 z H locs lsA hP hD hS hl) (fun z => h.2 z H locs lsA hP hD hS hl)
  · exact lv_icmp_lt G.1 G.2.1 hd ht (fun z => h.1 z H locs lsA hP hD hS hl) (fun z => h.2 z H locs lsA hP hD hS hl)
  · exact lv_icmp_ge G.1 G.2.1 hd ht (fun z => h.1 z H locs lsA hP hD hS hl) (fun z => h.2 z H locs lsA hP hD hS hl)
  · exact lv_icmp_gt G.1 G.2.1 hd ht (fun z => h.1 z H locs lsA hP hD hS hl) (fun z => h.2 z H locs lsA hP hD hS hl)
  · exact lv_icmp_le G.1 G.2.1 hd ht (fun z => h.1 z H locs lsA hP hD hS hl) (fun z => h.2 z H locs lsA hP hD hS hl)
theorem x_s_acmp (G : x_ctx X p R s m args meth c cc nL own ini rt fr lo mc ms) {o : ClassFile.ACond} {off : Int} {tgt : Nat} {x y : Value} (hd : decode cc pc = .ok (.if_acmp o off, 3)) (ht : (pc : Int) + off = (tgt : Int)) (hx : x_isr x) (hy : x_isr y)
    (h : x_ab o x y (x_go X p e R s m args below meth c nL mc ms RQ tgt ls t f nc ns) (x_go X p e R s m args below meth c nL mc ms RQ (pc + 3) ls t f nc ns)) : x_go X p e R s m args below meth c nL mc ms RQ pc ls (y :: x :: t) f nc ns := by
  intro H locs lsA hP hD hS hl
  obtain ⟨rx, rfl⟩ := x_isr_rf hx
  obtain ⟨ry, rfl⟩ := x_isr_rf hy
  cases o
  · exact lv_acmp_eq G.1 G.2.1 hd ht (fun z => h.1 (by rw [z]) H locs lsA hP hD hS hl) (fun z => h.2 (fun w => z (x_rf_inj w)) H locs lsA hP hD hS hl)
  · exact lv_acmp_ne G.1 G.2.1 hd ht (fun z => h.1 (fun w => z (x_rf_inj w)) H locs lsA hP hD hS hl) (fun z => h.2 (by rw [z]) H locs lsA hP hD hS hl)
/-- a field is read -/
def x_same (s : State) (ref : String) (t : String × String × String × Bool) : Prop := ∀ x, s.fieldFound? t.1 t.2.1 t.2.2.1 = some x → s.fieldFound? ref t.2.1 t.2.2.1 = some x
def x_lnk (own : String) (i : Nat) (t : String × String × String × Bool) : Prop :=
  ∃ ref, (Cond.fieldLink own i ref t.2.1 t.2.2.1 ∈ x_ws ∨ ∃ host, Cond.fieldLinkNest own i ref t.2.1 t.2.2.1 host ∈ lw_tbl) ∧ (ref = t.1 ∨ Cond.sameField ref t.1 t.2.1 t.2.2.1 ∈ x_ws)
theorem x_same_of {ref : String} {t : String × String × String × Bool} (hts : ∀ w ∈ x_ws, w.before args s = true) (h : ref = t.1 ∨ Cond.sameField ref t.1 t.2.1 t.2.2.1 ∈ x_ws) : x_same s ref t := by
  intro x hx
  rcases h with h | h
  · rw [h]; exact hx
  · exact u_same (hts _ h) x hx
theorem x_one_P {a ci : Nat} {fs : List Value} {H : Heap} (h : x_at X a (.inl (ci, fs)) H) : va_P X.2.1 x_cl [(a, .inr (ci, fs))] H := by
  intro k q hk
  cases k with
  | zero =>
    cases hk
    exact h
  | succ n => cases hk
theorem x_K.va (hK : x_K X s) : va_K X.2.1 x_cl [] s := ⟨hK.1, fun k q hk => by cases hk⟩
theorem x_s_get (G : x_ctx X p R s m args meth c cc nL own ini rt fr lo mc ms) {i k ci : Nat} {C : String} {T : u_T} {N : Nat} {a : Nat} {fs : List Value} {v : Value} (hd : decode cc pc = .ok (.getfield i, 3)) (hc : x_cl[ci]? = some (C, T, N)) (hk : k < N) (hlk : x_lnk own i (T k))
    (hf : f a = some (.inl (ci, fs))) (hv : fs[k]? = some v) (kk : x_go X p e R s m args below meth c nL mc ms RQ (pc + 3) ls (v :: t) f nc ns) : x_go X p e R s m args below meth c nL mc ms RQ pc ls (.ref a :: t) f nc ns := by
  intro H locs lsA hP hD hS hl
  obtain ⟨hx, hb, hml, hown, hts, hK, hz, -⟩ := G
  obtain ⟨ref, hlk, hsm⟩ := hlk
  rcases hlk with hlk | ⟨host, hlk⟩
  · exact va_get (D := X.2.1) (cl := x_cl) (tys := []) (ci := ci) (v := v) (C := C) (T := T) (N := N) hx hb hts (x_cl_ok ci C T N hc).1 hown hK.va (x_one_P (hP a _ hf)) 0 rfl hc k hk (hts _ hlk) (x_same_of hts hsm) hv hd (kk H locs lsA hP hD hS hl)
  · exact va_getN (D := X.2.1) (cl := x_cl) (tys := []) (ci := ci) (v := v) (C := C) (T := T) (N := N) hx hb hts (x_cl_ok ci C T N hc).1 hown hK.va (x_one_P (hP a _ hf)) 0 rfl hc k hk (va_Nw.use rfl (hK.2.2.1 _ hlk rfl)) (x_same_of hts hsm) hv hd (kk H locs lsA hP hD hS hl)
def x_ok (kd : Nat) (v : Value) : Prop := match v with
  | .int x => kd = 0 ∨ (kd = 1 ∧ (x = 0 ∨ x = 1))
  | .ref _ => kd = 2
  | .null => kd = 2
  | _ => False
/-- kinds of types -/
def x_kd (ty : FieldType) : Nat := match ty with
  | .int => 0
  | .boolean => 1
  | .object _ => 2
  | .array _ => 2
  | _ => 9
theorem x_ok_fits {ty : FieldType} {v : Value} (h : x_ok (x_kd ty) v) : narrow ty v = v ∧ fits ty v = true := by
  cases v with
  | int x =>
    have h : x_kd ty = 0 ∨ (x_kd ty = 1 ∧ (x = 0 ∨ x = 1)) := h
    cases ty <;> first
      | exact ⟨rfl, rfl⟩
      | (rcases h with h | ⟨-, rfl | rfl⟩
         · exact absurd h (by simp [x_kd])
         · exact ⟨by decide, by decide⟩
         · exact ⟨by decide, by decide⟩)
      | (rcases h with h | ⟨h, -⟩ <;> exact absurd h (by simp [x_kd]))
  | ref a =>
    have h : x_kd ty = 2 := h
    cases ty <;> first | exact ⟨rfl, rfl⟩ | exact absurd h (by simp [x_kd])
  | null =>
    have h : x_kd ty = 2 := h
    cases ty <;> first | exact ⟨rfl, rfl⟩ | exact absurd h (by simp [x_kd])
  | _ => exact h.elim
theorem x_s_put (G : x_ctx X p R s m args meth c cc nL own ini rt fr lo mc ms) {i k ci : Nat} {C : String} {T : u_T} {N : Nat} {a : Nat} {fs : List Value} {v : Value} {ty : FieldType} (hd : decode cc pc = .ok (.putfield i, 3)) (hc : x_cl[ci]? = some (C, T, N)) (hk : k < N) (hlk : x_lnk own i (T k))
    (hfin : (T k).2.2.2 = false ∨ ((T k).2.2.2 = true ∧ (T k).1 = own ∧ ini = true ∧ Cond.fieldLink own i own (T k).2.1 (T k).2.2.1 ∈ x_ws))
    (hty : parseFieldDescriptor (T k).2.2.1 = some ty) (hv : x_ok (x_kd ty) v) (hf : f a = some (.inl (ci, fs))) (hl0 : k < fs.length)
    (kk : x_go X p e R s m args below meth c nL mc ms RQ (pc + 3) ls t (va_up f a (some (.inl (ci, fs.set k v)))) nc ns) : x_go X p e R s m args below meth c nL mc ms RQ pc ls (v :: .ref a :: t) f nc ns := by
  intro H locs lsA hP hD hS hl
  obtain ⟨hx, hb, hml, hown, hts, hK, hz, -, -, hini, -⟩ := G
  obtain ⟨hin, ⟨ty0, hty0⟩, hnm⟩ := x_cl_ok ci C T N hc
  obtain ⟨hn, hfit⟩ := x_ok_fits hv
  have hap := va_apart (own := own) hts hin ty0 hty0 hnm hK.va hc
  obtain ⟨r, h1, cell, q1, q2, q3, q4⟩ := hP a _ hf
  have hr : r = (C, T, N) := Option.some.inj (h1.symm.trans hc)
  subst hr
  obtain ⟨hSl, hfc, kC, hkC, hkind⟩ := hK.1 ci _ hc
  obtain ⟨cf, kf, fi, fd, hi, hsl⟩ := hSl k hk
  have hlay := hts _ (hin _ (u_in_lay hk))
  have hst := (u_facts hfc hkC (u_lays hts hin hk) hi).1
  have hend : ∀ H1 : Heap, H1[a]? = some (cell.setSlot fd.slot v) → H1.size = H.size → (∀ q, q ≠ a → H1[q]? = H[q]?) → W p X.1 e R s m args below meth c H1 (locs ++ [⟨a, fd.slot⟩]) nc ns (MQ below (x_post X RQ) args s mc ms (x_A X)) (F0 m (pc + 3) lsA t) := by
    intro H1 e1 e2 e3
    rw [hsl] at e1 ⊢
    exact kk H1 _ lsA (hP.put ⟨_, hc, t_OB.to (V := updV (vp_V fs) k v) ⟨_, e1, q2, q3, t_set q4 hap hk v⟩ (fun j _ => vp_updV_set hl0 v j)⟩ e3) (hD.put (hD.obj hf)) (hS.put e2 e3 (hD.obj hf)) hl
  rcases hfin with hfin | ⟨hfin, hdecl, hin1, hlk1⟩
  · unfold u_lay at hlay
    rw [if_neg (by rw [hfin]; decide)] at hlay
    have h6 := u_store hfc hkC hkind hlay hi hty hn hfit
    obtain ⟨ref, hlk, hsm⟩ := hlk
    rcases hlk with hlk | ⟨host, hlk⟩
    · exact W.putK hx hb (f := fd) ⟨hown, hts _ hlk, ⟨_, _, _, x_same_of hts hsm _ hi⟩, hst⟩ (by rw [q2]; exact h6) q1 q3 (by rw [hsl]; exact k2_hasslot (q4 k hk)) rfl rfl hd hend
    · exact va_WputK hx hb (f := fd) hown (va_Nw.use rfl (hK.2.2.1 _ hlk rfl)) (x_same_of hts hsm _ hi) hst (by rw [q2]; exact h6) q1 q3 (by rw [hsl]; exact k2_hasslot (q4 k hk)) rfl rfl hd hend
  · unfold u_lay at hlay
    rw [if_pos hfin] at hlay
    have hcf : m.cls = cf := by
      obtain ⟨_, _, c', _, _, _, -, -, hf', -, -, -, hown2, -⟩ := Cond.laysFinal_spec hlay
      have e1 : c' = cf := by have := hi.symm.trans hf'; simp at this; exact this.1.symm
      rw [hdecl] at hown2
      rw [← e1]; exact Option.some.inj (hown.symm.trans hown2)
    have h6 := u_fits hfc hkC hkind (Or.inr hlay) hi hty hn hfit
    exact W.putFinK hx hb hown (hts _ hlk1) (by rw [← hdecl]; exact hi) hst hcf (hini hin1) (by rw [q2]; exact h6) q1 q3 (by rw [hsl]; exact k2_hasslot (q4 k hk)) rfl rfl hd hend
/-- arrays -/
theorem x_arr_in {i : Int32} {n : Nat} {cA : ClassId} {g : Nat → Value} (h : vp_in i n) : ¬ (i < 0 ∨ (arrV cA n g).slots.size ≤ i.toNatClampNeg) := by rw [arrV_size]; exact h
theorem x_arr_rd {i : Int32} {n : Nat} {cA : ClassId} {g : Nat → Value} (h : vp_in i n) : (arrV cA n g).slots[i.toNatClampNeg]? = some (g i.toNatClampNeg) := arrV_read _ _ (Nat.not_le.mp fun q => h (Or.inr q))
theorem x_s_alen (G : x_ctx X p R s m args meth c cc nL own ini rt fr lo mc ms) {a ti n : Nat} {g : Nat → Value} (hd : decode cc pc = .ok (.arraylength, 1)) (hf : f a = some (.inr (ti, n, g)))
    (kk : x_go X p e R s m args below meth c nL mc ms RQ (pc + 1) ls (.int (nI n) :: t) f nc ns) : x_go X p e R s m args below meth c nL mc ms RQ pc ls (.ref a :: t) f nc ns := by
  intro H locs lsA hP hD hS hl
  obtain ⟨hx, hb, hml, hown, hts, hK, hz, -⟩ := G
  rcases hP a _ hf with ⟨h1, h2⟩ | ⟨-, h3, h2⟩
  · exact W.alen hx hb h2 ((hK.2.1 ti _ (List.getElem?_eq_getElem h1)).1 n g) (by rw [arrV_size]; rfl) rfl rfl hd (kk H locs lsA hP hD hS hl)
  · have h3 : n = 0 := h3
    subst h3
    exact W.alen hx hb h2 hK.2.2.2.2.2.1.1 (by rw [hK.2.2.2.2.2.1.2]; rfl) rfl rfl hd (kk H locs lsA hP hD hS hl)
theorem x_s_ald (G : x_ctx X p R s m args meth c cc nL own ini rt fr lo mc ms) {q : ClassFile.Instr} {a ti n : Nat} {g : Nat → Value} {i : Int32} (hd : decode cc pc = .ok (q, 1)) (hf : f a = some (.inr (ti, n, g)))
    (hq : (q = .iaload ∧ x_ty[ti]? = some .int) ∨ (q = .baload ∧ x_ty[ti]? = some .boolean) ∨ (q = .aaload ∧ ∃ C, x_ty[ti]? = some (.object C))) (hi : vp_in i n)
    (kk : x_go X p e R s m args below meth c nL mc ms RQ (pc + 1) ls (g i.toNatClampNeg :: t) f nc ns) : x_go X p e R s m args below meth c nL mc ms RQ pc ls (.int i :: .ref a :: t) f nc ns := by
  intro H locs lsA hP hD hS hl
  obtain ⟨hx, hb, hml, hown, hts, hK, hz, -⟩ := G
  obtain ⟨h1, h2⟩ := hP.arr hf hi
  rcases hq with ⟨rfl, hty⟩ | ⟨rfl, hty⟩ | ⟨rfl, C, hty⟩
  · exact W.iald hx hb h2 ((hK.2.1 ti _ hty).1 n g) (fun q => by cases q) (x_arr_in hi) (x_arr_rd hi) rfl rfl hd (kk H locs lsA hP hD hS hl)
  · exact W.zald hx hb h2 ((hK.2.1 ti _ hty).1 n g) (fun q => by cases q) (x_arr_in hi) (x_arr_rd hi) rfl rfl hd (kk H locs lsA hP hD hS hl)
  · exact W.aald hx hb h2 ((hK.2.1 ti _ hty).1 n g) rfl (fun q => by cases q) (x_arr_in hi) (x_arr_rd hi) rfl rfl hd (kk H locs lsA hP hD hS hl)
theorem x_s_iast (G : x_ctx X p R s m args meth c cc nL own ini rt fr lo mc ms) {a ti n : Nat} {g : Nat → Value} {i x : Int32} (hd : decode cc pc = .ok (.iastore, 1)) (hf : f a = some (.inr (ti, n, g))) (hty : x_ty[ti]? = some .int) (hi : vp_in i n)
    (kk : x_go X p e R s m args below meth c nL mc ms RQ (pc + 1) ls t (va_up f a (some (.inr (ti, n, va_up g i.toNatClampNeg (.int x))))) nc ns) : x_go X p e R s m args below meth c nL mc ms RQ pc ls (.int x :: .int i :: .ref a :: t) f nc ns := by
  intro H locs lsA hP hD hS hl
  obtain ⟨hx, hb, hml, hown, hts, hK, hz, -⟩ := G
  obtain ⟨h1, h2⟩ := hP.arr hf hi
  refine W.iast hx hb h2 ((hK.2.1 ti _ hty).1 n g) (fun q => by cases q) (x_arr_in hi) rfl rfl hd fun H1 e1 z oq => ?_
  rw [arrV_store] at e1
  exact kk H1 _ lsA (hP.put (Or.inl ⟨h1, e1⟩) oq) (hD.put (hD.arr hf hi)) (hS.put z oq (hD.arr hf hi)) hl
theorem x_s_bast (G : x_ctx X p R s m args meth c cc nL own ini rt fr lo mc ms) {a ti n : Nat} {g : Nat → Value} {i x : Int32} (hd : decode cc pc = .ok (.bastore, 1)) (hf : f a = some (.inr (ti, n, g))) (hty : x_ty[ti]? = some .boolean) (hi : vp_in i n) (hv : x = 0 ∨ x = 1)
    (kk : x_go X p e R s m args below meth c nL mc ms RQ (pc + 1) ls t (va_up f a (some (.inr (ti, n, va_up g i.toNatClampNeg (.int x))))) nc ns) : x_go X p e R s m args below meth c nL mc ms RQ pc ls (.int x :: .int i :: .ref a :: t) f nc ns := by
  intro H locs lsA hP hD hS hl
  obtain ⟨hx, hb, hml, hown, hts, hK, hz, -⟩ := G
  obtain ⟨h1, h2⟩ := hP.arr hf hi
  have hn : narrow .boolean (.int x) = .int x := by rcases hv with rfl | rfl <;> decide
  refine W.zast hx hb h2 ((hK.2.1 ti _ hty).1 n g) (fun q => by cases q) (x_arr_in hi) rfl rfl hd fun H1 e1 z oq => ?_
  rw [hn, arrV_store] at e1
  exact kk H1 _ lsA (hP.put (Or.inl ⟨h1, e1⟩) oq) (hD.put (hD.arr hf hi)) (hS.put z oq (hD.arr hf hi)) hl
theorem x_s_aastN (G : x_ctx X p R s m args meth c cc nL own ini rt fr lo mc ms) {a ti n : Nat} {g : Nat → Value} {i : Int32} {C : String} (hd : decode cc pc = .ok (.aastore, 1)) (hf : f a = some (.inr (ti, n, g))) (hty : x_ty[ti]? = some (.object C)) (hi : vp_in i n)
    (kk : x_go X p e R s m args below meth c nL mc ms RQ (pc + 1) ls t (va_up f a (some (.inr (ti, n, va_up g i.toNatClampNeg .null)))) nc ns) : x_go X p e R s m args below meth c nL mc ms RQ pc ls (.null :: .int i :: .ref a :: t) f nc ns := by
  intro H locs lsA hP hD hS hl
  obtain ⟨hx, hb, hml, hown, hts, hK, hz, -⟩ := G
  obtain ⟨h1, h2⟩ := hP.arr hf hi
  refine va_WaastN (C := C) hx hb h2 ((hK.2.1 ti _ hty).1 n g) (fun q => by cases q) (x_arr_in hi) rfl rfl hd fun H1 e1 z oq => ?_
  rw [arrV_store] at e1
  exact kk H1 _ lsA (hP.put (Or.inl ⟨h1, e1⟩) oq) (hD.put (hD.arr hf hi)) (hS.put z oq (hD.arr hf hi)) hl
theorem x_s_aast (G : x_ctx X p R s m args meth c cc nL own ini rt fr lo mc ms) {a b ti n ci : Nat} {g : Nat → Value} {fs : List Value} {i : Int32} {E : String} {r : vw_C} (hd : decode cc pc = .ok (.aastore, 1)) (hf : f a = some (.inr (ti, n, g))) (hty : x_ty[ti]? = some (.object E)) (hi : vp_in i n) (hb0 : f b = some (.inl (ci, fs))) (hc : x_cl[ci]? = some r) (hca : r.1 = E ∨ Cond.castable r.1 E ∈ lw_tbl)
    (kk : x_go X p e R s m args below meth c nL mc ms RQ (pc + 1) ls t (va_up f a (some (.inr (ti, n, va_up g i.toNatClampNeg (.ref b))))) nc ns) : x_go X p e R s m args below meth c nL mc ms RQ pc ls (.ref b :: .int i :: .ref a :: t) f nc ns := by
  intro H locs lsA hP hD hS hl
  obtain ⟨hx, hb, hml, hown, hts, hK, hz, -⟩ := G
  obtain ⟨h1, h2⟩ := hP.arr hf hi
  obtain ⟨r', hr', cellV, g1, g2, g3, -⟩ := hP b _ hb0
  have hcls := (hK.1 ci r hc).2
  obtain ⟨kA, comp, k1, k2, k3, -⟩ := (hK.2.1 ti _ hty).2
  obtain ⟨kE, hkE, -⟩ := Vm.findClass_spec k3
  obtain ⟨kC, hkC, -⟩ := hcls.2
  have hasg : s.vm.assignable (X.2.1.1 ci) comp = true := by
    rcases hca with h | h
    · exact vb_asgS comp _ k3 (h ▸ hcls.1)
    · exact vb_asgC (hK.2.2.1 _ h rfl) comp _ k3 hcls.1
  refine W.aast hx hb h2 (fun q h => by cases h) (fun h => by cases h) k1 k2 rfl hkE ⟨fun q => hi (Or.inl q), by rw [arrV_size]; exact Nat.not_le.mp fun q => hi (Or.inr q)⟩ g1 (fun q h => by rw [g3] at h; cases h) (by rw [g2]; exact hkC) (by rw [g2]; exact hasg) rfl rfl hd fun H1 e1 z oq => ?_
  rw [arrV_store] at e1
  exact kk H1 _ lsA (hP.put (Or.inl ⟨h1, e1⟩) oq) (hD.put (hD.arr hf hi)) (hS.put z oq (hD.arr hf hi)) hl
/-- new cells -/
theorem x_up_S {H H1 : Heap} {locs : List Loc} (hS : va_S (x_A X) s.heap H locs) (hz1 : H1.size = H.size + 1) (oq : ∀ q, q < H.size → H1[q]? = H[q]?) : va_S (x_A X) s.heap H1 locs :=
  ⟨Nat.le_trans hS.1 (by omega), fun x h1 h2 => (oq x (Nat.lt_of_lt_of_le h1 hS.1)).trans (hS.2.1 x h1 h2), hS.2.2⟩
theorem x_s_new (G : x_ctx X p R s m args meth c cc nL own ini rt fr lo mc ms) {i ci : Nat} {C : String} {T : u_T} {N : Nat} {fs : List Value} (hd : decode cc pc = .ok (.new i, 3)) (hc : x_cl[ci]? = some (C, T, N)) (hcl : Cond.classLink own i C ∈ x_ws) (hinst : Cond.instantiable C N ∈ x_ws) (hini : Cond.initialized C ∈ x_ws)
    (ty : Nat → FieldType) (hty : ∀ k, k < N → parseFieldDescriptor (T k).2.2.1 = some (ty k)) (hfs : ∀ j, j < N → defaultValue (ty j) = vp_V fs j) (hlen : fs.length = N) (h1 : nc + 1 ≤ mc) (h2 : ns + fs.length ≤ ms)
    (kk : ∀ q : Nat, f q = none → x_go X p e R s m args below meth c nL mc ms RQ (pc + 3) ls (.ref q :: st) (va_up f q (some (.inl (ci, fs)))) (nc + 1) (ns + fs.length)) : x_go X p e R s m args below meth c nL mc ms RQ pc ls st f nc ns := by
  intro H locs lsA hP hD hS hl
  obtain ⟨hx, hb, hml, hown, hts, hK, hz, -, -, -, hZ, rfl⟩ := G
  subst hlen
  have hKn := hK.1 ci _ hc
  refine W.newcK hx hb hown (hts _ hcl) (hts _ hinst) (hts _ hini) rfl hd h1 h2 hKn.2.1 rfl fun H1 kC hkC e1 z1 o1 => ?_
  exact kk H.size hP.fresh H1 locs lsA (hP.new ⟨_, hc, (u_born ty hts (x_cl_ok ci C T _ hc).1 hKn hkC e1 hty).to hfs⟩ o1) (hD.put (Nat.le_trans hz hS.1)) (x_up_S hS z1 o1) hl
theorem x_s_newa (G : x_ctx X p R s m args meth c cc nL own ini rt fr lo mc ms) {ti : Nat} {aty : ClassFile.ArrayType} {n : Int32} (hd : decode cc pc = .ok (.newarray aty, 2)) (hty : x_ty[ti]? = some (newarray.typeOf aty)) (haty : aty = .int ∨ aty = .boolean) (hac : Cond.arrayClass (newarray.typeOf aty) ∈ x_ws) (hn : ¬ n < 0) (hn2 : n.toNatClampNeg ≤ 1000000) (h1 : nc + 1 ≤ mc) (h2 : ns + n.toNatClampNeg ≤ ms)
    (kk : ∀ q : Nat, f q = none → x_go X p e R s m args below meth c nL mc ms RQ (pc + 2) ls (.ref q :: t) (va_up f q (some (.inr (ti, n.toNatClampNeg, fun _ => .int 0)))) (nc + 1) (ns + n.toNatClampNeg)) : x_go X p e R s m args below meth c nL mc ms RQ pc ls (.int n :: t) f nc ns := by
  intro H locs lsA hP hD hS hl
  obtain ⟨hx, hb, hml, hown, hts, hK, hz, -, -, -, hZ, rfl⟩ := G
  have hlt : ti < x_ty.length := (List.getElem?_eq_some_iff.mp hty).1
  refine va_newaK hx hb (hts _ hac) rfl hd rfl hn rfl (by rcases haty with rfl | rfl <;> (show _ * _ ≤ _; simp only [componentBytes, newarray.typeOf]; omega)) h1 h2 rfl fun H1 cA e1 z1 o1 hAr hNm => ?_
  have hcA : cA = X.2.2.1 ti := by
    have h := (hK.2.1 ti _ hty).2
    rcases haty with rfl | rfl <;> exact Option.some.inj (hNm.symm.trans h)
  subst hcA
  exact kk H.size hP.fresh H1 locs lsA (hP.new (Or.inl ⟨hlt, by rcases haty with rfl | rfl <;> exact e1⟩) o1) (hD.put (Nat.le_trans hz hS.1)) (x_up_S hS z1 o1) hl
theorem x_s_newq (G : x_ctx X p R s m args meth c cc nL own ini rt fr lo mc ms) {i ti : Nat} {C : String} {n : Int32} (hd : decode cc pc = .ok (.anewarray i, 3)) (hty : x_ty[ti]? = some (.object C)) (hcl : Cond.classLink own i C ∈ x_ws) (hao : C ∈ x_ao) (hn : ¬ n < 0) (hn2 : n.toNatClampNeg ≤ 1000000) (h1 : nc + 1 ≤ mc) (h2 : ns + n.toNatClampNeg ≤ ms)
    (kk : ∀ q : Nat, f q = none → x_go X p e R s m args below meth c nL mc ms RQ (pc + 3) ls (.ref q :: t) (va_up f q (some (.inr (ti, n.toNatClampNeg, fun _ => .null)))) (nc + 1) (ns + n.toNatClampNeg)) : x_go X p e R s m args below meth c nL mc ms RQ pc ls (.int n :: t) f nc ns := by
  intro H locs lsA hP hD hS hl
  obtain ⟨hx, hb, hml, hown, hts, hK, hz, -, -, -, hZ, rfl⟩ := G
  have hlt : ti < x_ty.length := (List.getElem?_eq_some_iff.mp hty).1
  refine W.anew hx hb hown (hts _ hcl) (va_AO.use (hK.2.2.2.1 C hao)) rfl hd rfl hn (by omega) h1 h2 fun cA kA comp f1 f2 f3 f4 => ?_
  obtain ⟨kA', comp', k1, k2, k3, k4⟩ := (hK.2.1 ti _ hty).2
  have hcA : cA = X.2.2.1 ti := Option.some.inj (f1.symm.trans k4)
  subst hcA
  generalize hH1 : H.push ({ cls := X.2.2.1 ti, slots := Array.replicate n.toNatClampNeg .null, vm := .none } : Cell) = H1
  have z1 : H1.size = H.size + 1 := by rw [← hH1, Array.size_push]
  have e1 : H1[H.size]? = some (arrV (X.2.2.1 ti) n.toNatClampNeg (fun _ => .null)) := by rw [← hH1, Array.getElem?_push_size, ← arrV_new]
  have o1 : ∀ q : Nat, q < H.size → H1[q]? = H[q]? := fun q hq => by rw [← hH1, Array.getElem?_push, if_neg (Nat.ne_of_lt hq)]
  exact kk H.size hP.fresh H1 locs lsA (hP.new (Or.inl ⟨hlt, e1⟩) o1) (hD.put (Nat.le_trans hz hS.1)) (x_up_S hS z1 o1) hl
/-- casts -/
theorem x_recv {a ci : Nat} {fs : List Value} {H : Heap} {r : vw_C} (hK : x_K X s) (h : x_at X a (.inl (ci, fs)) H) (hc : x_cl[ci]? = some r) : ∃ cell : Cell, H[a]? = some cell ∧ cell.vm.isStatics = false ∧ s.vm.findClass r.1 = some cell.cls := by
  obtain ⟨r', h1, cell, g1, g2, g3, -⟩ := h
  exact ⟨cell, g1, by rw [g3]; rfl, by rw [g2]; exact (hK.1 ci r hc).2.1⟩
theorem x_s_cast (G : x_ctx X p R s m args meth c cc nL own ini rt fr lo mc ms) {i a ci : Nat} {fs : List Value} {nm : String} {r : vw_C} (hd : decode cc pc = .ok (.checkcast i, 3)) (hcl : Cond.classLink own i nm ∈ x_ws) (hf : f a = some (.inl (ci, fs))) (hc : x_cl[ci]? = some r) (hca : r.1 = nm ∨ Cond.castable r.1 nm ∈ lw_tbl)
    (kk : x_go X p e R s m args below meth c nL mc ms RQ (pc + 3) ls (.ref a :: t) f nc ns) : x_go X p e R s m args below meth c nL mc ms RQ pc ls (.ref a :: t) f nc ns := by
  intro H locs lsA hP hD hS hl
  obtain ⟨hx, hb, hml, hown, hts, hK, hz, -⟩ := G
  have hr := x_recv hK (hP a _ hf) hc
  rcases hca with h | h
  · subst h
    exact va_castS hx hb hown (hts _ hcl) (hK.1 ci r hc).2 hr hd (kk H locs lsA hP hD hS hl)
  · exact va_castY hx hb hown (hts _ hcl) (hK.2.2.1 _ h rfl) hr hd (kk H locs lsA hP hD hS hl)
theorem x_s_inst (G : x_ctx X p R s m args meth c cc nL own ini rt fr lo mc ms) {i a ci : Nat} {fs : List Value} {nm : String} {r : vw_C} (hd : decode cc pc = .ok (.instanceof i, 3)) (hcl : Cond.classLink own i nm ∈ x_ws) (hf : f a = some (.inl (ci, fs))) (hc : x_cl[ci]? = some r)
    (hk : ((r.1 = nm ∨ Cond.castable r.1 nm ∈ lw_tbl) ∧ x_go X p e R s m args below meth c nL mc ms RQ (pc + 3) ls (.int 1 :: t) f nc ns) ∨ ((r.1, nm) ∈ x_nc ∧ x_go X p e R s m args below meth c nL mc ms RQ (pc + 3) ls (.int 0 :: t) f nc ns)) : x_go X p e R s m args below meth c nL mc ms RQ pc ls (.ref a :: t) f nc ns := by
  intro H locs lsA hP hD hS hl
  obtain ⟨hx, hb, hml, hown, hts, hK, hz, -⟩ := G
  have hr := x_recv hK (hP a _ hf) hc
  rcases hk with ⟨h | h, kk⟩ | ⟨h, kk⟩
  · subst h
    exact va_instS hx hb hown (hts _ hcl) (hK.1 ci r hc).2 hr hd (kk H locs lsA hP hD hS hl)
  · exact va_instY hx hb hown (hts _ hcl) (hK.2.2.1 _ h rfl) hr hd (kk H locs lsA hP hD hS hl)
  · exact va_instNo hx hb hown (hts _ hcl) (hK.2.2.2.2.1 _ h) hr hd (kk H locs lsA hP hD hS hl)
/-- calls -/
theorem x_blind {av : List Value} {f : XH} : FrameBlind (x_pre X av f) := fun a U g mk q => ⟨q.1, q.2.1, q.2.2.1, x_K.warm (s := U) (U := U.calling g mk a) (State.WarmedH.refl U) q.2.2.2.1, q.2.2.2.2.1, va_Z.moved (u := U) (U := U.calling g mk a) (Vm.Alike.refl U.vm) q.2.2.2.2.2⟩
theorem x_after {H : Heap} {locs : List Loc} {lsA : Array Slot} {mc' ms' : Nat} {st0 rest : List Value} {a : Array Value} {Q' : Option Value → XH → Prop} (hr : va_Run p X.1 e R s m args below meth c H locs nc ns mc' ms' (F0 m pc lsA st0) rest (x_post X Q' a) (x_A X)) (hS : va_S (x_A X) s.heap H locs) (hl : x_has lsA nL ls)
    (kk : ∀ r f', Q' r f' → x_go X p e R s m args below meth c nL mc ms RQ (pc + 3) ls (r.toList ++ rest) f' (nc + mc') (ns + ms')) : W p X.1 e R s m args below meth c H locs nc ns (MQ below (x_post X RQ) args s mc ms (x_A X)) (F0 m pc lsA st0) := by
  intro T hT X0
  obtain ⟨v, st₀, t, T', L, h0, X', hL, e1, e2, ⟨⟨r, f', hv, hq, hp, hd⟩, hz, hk⟩, st⟩ := hr T hT X0
  cases hv
  rw [h0] at hz hk
  have hS' : va_S (x_A X) s.heap T'.heap (locs ++ L) := by
    refine ⟨Nat.le_trans hS.1 (by rw [e1]; exact hz), fun q h1 h2 => ?_, fun q hq => ?_⟩
    · rw [e1, hk q (Nat.lt_of_lt_of_le h1 hS.1) h2]
      exact hS.2.1 q h1 h2
    · rcases List.mem_append.mp hq with h | h
      · exact hS.2.2 q h
      · exact hL q h
  obtain ⟨t2, a1, b1⟩ := kk _ f' hq T'.heap (locs ++ L) lsA (by rw [e1]; exact hp) hd hS' hl T' rfl X'
  exact ⟨t2, st t2 a1, b1⟩
theorem x_goodC {y : Nat} (h : x_mc y ∈ x_ws) : GoodIn x_ws (x_mw y) := by
  intro w hw
  rcases List.mem_cons.mp hw with h1 | h1
  · subst h1
    exact ⟨h, x_good_or (List.mem_filter.mp h).2⟩
  · exact ⟨h1, x_good_or (List.mem_filter.mp h1).2⟩
def x_ms (y n : Nat) : Prop := x_mc y ∈ x_ws ∧ Cond.initialized (x_mt y).1.cls ∈ x_ws ∧ ((x_mt y).1.cls ≠ "java/lang/invoke/MethodHandle" ∧ (x_mt y).1.cls ≠ "java/lang/invoke/VarHandle" ∧ (parseMethodDescriptor (x_mt y).1.desc).map (fun d => d.parameters.length) = some n)
def x_ml (own : String) (i y : Nat) : Prop := Cond.methodLink own i (x_mt y).1 ∈ x_ws ∨ ∃ host, Cond.methodLinkNest own i (x_mt y).1 host ∈ lw_tbl
def x_ss (own : String) (i y n : Nat) : Prop := x_ms y n ∧ Cond.static (x_mt y).1 ∈ x_ws ∧ x_ml own i y
def x_si (own : String) (i y n : Nat) : Prop := x_ms y n ∧ ((x_mt y).1.name = "<init>" ∧ (x_mt y).2.2.2 = none) ∧ Cond.instanceMethod (x_mt y).1 ∈ x_ws ∧ x_ml own i y
def x_sv (own : String) (i n ci y : Nat) : Prop := x_ms y n ∧ Cond.instanceMethod (x_mt y).1 ∈ x_ws ∧ ∃ r : vw_C, x_cl[ci]? = some r ∧ ((Cond.selects r.1 (x_mt y).1 (x_mt y).1 ∈ x_ws ∧ x_ml own i y) ∨
  ∃ (x : MethodName) (owner : String), Cond.methodLink own i x ∈ x_ws ∧ Cond.sameMethod x.cls owner x.name x.desc ∈ x_ws ∧ Cond.selects r.1 x (x_mt y).1 ∈ x_ws ∧ (owner ≠ "java/lang/invoke/MethodHandle" ∧ owner ≠ "java/lang/invoke/VarHandle" ∧ (parseMethodDescriptor x.desc).map (fun d => d.parameters.length) = some n) ∧ ((x_mt y).1 = ⟨owner, x.name, x.desc⟩ ∨ Cond.declares ⟨owner, x.name, x.desc⟩ ∈ lw_tbl))
theorem x_preS {av : List Value} {H : Heap} {locs : List Loc} (hK : x_K X s) (hZ : x_Z X s s.heap) (hz : x_z X ≤ s.heap.size) (hP : x_P X f H) (hD : x_D X f) (hS : va_S (x_A X) s.heap H locs) : PreS s H (x_pre X av f) av :=
  ⟨x_blind, fun U hU hW => ⟨rfl, by rw [hU]; exact hP, hD, hK.warm hW, by rw [hU]; exact Nat.le_trans hz hS.1, by rw [hU]; exact (va_Z.moved hW.alike hZ).kept hS.2.1⟩⟩
theorem x_s_static (G : x_ctx X p R s m args meth c cc nL own ini rt fr lo mc ms) {i y n : Nat} (hd : decode cc pc = .ok (.invokestatic i, 3)) (hs : x_ss own i y n) (hn : n ≤ st.length) (h4 : (st.drop n).length ≤ 4)
    (h : x_call X fr lo mc ms y (st.take n).reverse f nc ns fun r f' nc' ns' => x_go X p e R s m args below meth c nL mc ms RQ (pc + 3) ls (r.toList ++ st.drop n) f' nc' ns') : x_go X p e R s m args below meth c nL mc ms RQ pc ls st f nc ns := by
  intro H locs lsA hP hD hS hl
  obtain ⟨fr', lo', mc', ms', Q', hM, ⟨h1, h2, h3, h5⟩, kk⟩ := h
  obtain ⟨hx, hb, hml, hown, hts, hK, hz, -, -, -, hZ, rfl⟩ := G
  obtain ⟨⟨hcode, hini, hpar⟩, hst, hlk⟩ := hs
  have hstk : st = (st.take n).reverse.reverse ++ st.drop n := by rw [List.reverse_reverse, List.take_append_drop]
  rcases hlk with hlk | ⟨host, hlk⟩
  · exact x_after (va_runS (g := F0 m pc lsA st) ⟨hx, hb, hml, hown, hts⟩ hM ⟨callB_of n hts (x_goodC hcode) rfl rfl rfl (hts _ hini) (hts _ hlk) hpar ⟨h1, h2⟩, hts _ hst⟩ (x_preS hK hZ hz hP hD hS) rfl (by simp [hn]) hl.1 hstk (x_room h4) hd ⟨h3, h5⟩) hS hl kk
  · exact x_after (va_runSN (g := F0 m pc lsA st) ⟨hx, hb, hml, hown, hts⟩ hM ⟨va_cnB n hts (x_goodC hcode) rfl rfl rfl (hK.2.2.1 _ hlk rfl) (hts _ hini) hpar ⟨h1, h2⟩, hts _ hst, trivial⟩ (x_preS hK hZ hz hP hD hS) rfl (by simp [hn]) hl.1 hstk (x_room h4) hd ⟨h3, h5⟩) hS hl kk
theorem x_s_init (G : x_ctx X p R s m args meth c cc nL own ini rt fr lo mc ms) {i y n b : Nat} {rest : List Value} (hd : decode cc pc = .ok (.invokespecial i, 3)) (hs : x_si own i y n) (hn : n ≤ st.length) (hr : st.drop n = .ref b :: rest) (h4 : rest.length ≤ 4)
    (h : x_call X fr lo mc ms y (.ref b :: (st.take n).reverse) f nc ns fun r f' nc' ns' => x_go X p e R s m args below meth c nL mc ms RQ (pc + 3) ls (r.toList ++ rest) f' nc' ns') : x_go X p e R s m args below meth c nL mc ms RQ pc ls st f nc ns := by
  intro H locs lsA hP hD hS hl
  obtain ⟨fr', lo', mc', ms', Q', hM, ⟨h1, h2, h3, h5⟩, kk⟩ := h
  obtain ⟨hx, hb, hml, hown, hts, hK, hz, -, -, -, hZ, rfl⟩ := G
  obtain ⟨⟨hcode, hini, hpar⟩, ⟨hnm, hret⟩, hinst, hlk⟩ := hs
  have hstk : st = (st.take n).reverse.reverse ++ .ref b :: rest := by rw [List.reverse_reverse, ← hr, List.take_append_drop]
  have hw : x_mw y = Cond.code (x_mt y).1 (x_mt y).2.1 (x_mt y).2.2.1 none :: x_ws := by unfold x_mw; rw [hret]
  rcases hlk with hlk | ⟨host, hlk⟩
  · exact x_after (va_runI (g := F0 m pc lsA st) ⟨hx, hb, hml, hown, hts⟩ hM ⟨callB_of n hts (x_goodC hcode) hw rfl rfl (hts _ hini) (hts _ hlk) hpar ⟨h1, h2⟩, hnm, hts _ hinst⟩ (x_preS hK hZ hz hP hD hS) rfl (by simp [hn]) hl.1 hstk (x_room h4) hd ⟨h3, h5⟩) hS hl kk
  · exact x_after (va_runIN (g := F0 m pc lsA st) ⟨hx, hb, hml, hown, hts⟩ hM ⟨va_cnB n hts (x_goodC hcode) hw rfl rfl (hK.2.2.1 _ hlk rfl) (hts _ hini) hpar ⟨h1, h2⟩, hnm, hts _ hinst⟩ (x_preS hK hZ hz hP hD hS) rfl (by simp [hn]) hl.1 hstk (x_room h4) hd ⟨h3, h5⟩) hS hl kk
theorem x_s_virt (G : x_ctx X p R s m args meth c cc nL own ini rt fr lo mc ms) {i y n b ci : Nat} {fs rest : List Value} (hd : decode cc pc = .ok (.invokevirtual i, 3)) (hs : x_sv own i n ci y) (hn : n ≤ st.length) (hr : st.drop n = .ref b :: rest) (h4 : rest.length ≤ 4) (hf : f b = some (.inl (ci, fs)))
    (h : x_call X fr lo mc ms y (.ref b :: (st.take n).reverse) f nc ns fun r f' nc' ns' => x_go X p e R s m args below meth c nL mc ms RQ (pc + 3) ls (r.toList ++ rest) f' nc' ns') : x_go X p e R s m args below meth c nL mc ms RQ pc ls st f nc ns := by
  intro H locs lsA hP hD hS hl
  obtain ⟨fr', lo', mc', ms', Q', hM, ⟨h1, h2, h3, h5⟩, kk⟩ := h
  obtain ⟨hx, hb, hml, hown, hts, hK, hz, -, -, -, hZ, rfl⟩ := G
  obtain ⟨⟨hcode, hini, hpar⟩, hinst, r, hc, hs⟩ := hs
  have hstk : st = (st.take n).reverse.reverse ++ .ref b :: rest := by rw [List.reverse_reverse, ← hr, List.take_append_drop]
  have hpS := x_preS (av := .ref b :: (st.take n).reverse) hK hZ hz hP hD hS
  have hpV : PreV s H r.1 b (x_pre X (.ref b :: (st.take n).reverse) f) (st.take n).reverse := ⟨hpS.1, x_recv hK (hP b _ hf) hc, hpS.2⟩
  rcases hs with ⟨hsel, hlk | ⟨host, hlk⟩⟩ | ⟨x, owner, hlk, hsm, hsel, hpar2, hdecl⟩
  · exact x_after (va_runV (g := F0 m pc lsA st) ⟨hx, hb, hml, hown, hts⟩ hM ⟨callB_of n hts (x_goodC hcode) rfl rfl rfl (hts _ hini) (hts _ hlk) hpar ⟨h1, h2⟩, hts _ hinst, hts _ hsel⟩ hpV rfl (by simp [hn]) hl.1 hstk (x_room h4) hd ⟨h3, h5⟩) hS hl kk
  · exact x_after (va_runVN (g := F0 m pc lsA st) ⟨hx, hb, hml, hown, hts⟩ hM ⟨va_cnB n hts (x_goodC hcode) rfl rfl rfl (hK.2.2.1 _ hlk rfl) (hts _ hini) hpar ⟨h1, h2⟩, hts _ hinst, hts _ hsel⟩ hpV rfl (by simp [hn]) hl.1 hstk (x_room h4) hd ⟨h3, h5⟩) hS hl kk
  · have hDc : va_Decl s ⟨owner, x.name, x.desc⟩ := by
      rcases hdecl with h | h
      · rw [← h]; exact va_Decl.of (hts _ hinst) (hts _ hcode)
      · exact va_Decl.abs (hK.2.2.1 _ h rfl)
    exact x_after (va_runU (g := F0 m pc lsA st) (owner := owner) (x := x) ⟨hx, hb, hml, hown, hts⟩ hM ⟨⟨rfl, rfl, h1, h2, pay_in hts (x_goodC hcode), List.mem_cons_self⟩, hts _ hcode, hts _ hini, ⟨hpar2.1, hpar2.2.1⟩, fun sig hsg => by have h9 := hpar2.2.2; rw [hsg] at h9; exact (Option.some.inj h9).symm, hts _ hlk, hts _ hsm, hDc, hts _ hsel, hts _ hinst⟩ hpV rfl (by simp [hn]) hl.1 hstk (x_room h4) hd ⟨h3, h5⟩) hS hl kk
/-- System.arraycopy, getClass() of an array of Objects -/
def x_sc (own : String) (i ti : Nat) : Prop := x_ty[ti]? = some (.object "java/lang/Object") ∧ Cond.methodLink own i arraycopyName ∈ x_ws ∧ Cond.native arraycopyName ∈ x_ws ∧ Cond.static arraycopyName ∈ x_ws ∧ Cond.initialized "java/lang/System" ∈ x_ws
def x_gcn : MethodName := ⟨"java/lang/Object", "getClass", "()Ljava/lang/Class;"⟩
def x_sg (own : String) (i ti : Nat) : Prop := x_ty[ti]? = some (.object "java/lang/Object") ∧ Cond.methodLink own i x_gcn ∈ x_ws ∧ Cond.declares x_gcn ∈ lw_tbl ∧ Cond.selects "[Ljava/lang/Object;" x_gcn x_gcn ∈ x_ws ∧ Cond.instanceMethod x_gcn ∈ x_ws ∧ Cond.native x_gcn ∈ x_ws
theorem x_99 : x_ty[99]? = none := by decide
theorem x_P.arrT {H : Heap} (h : x_P X f H) {a ti n : Nat} {g : Nat → Value} {ty : FieldType} (hf : f a = some (.inr (ti, n, g))) (hty : x_ty[ti]? = some ty) : ti < x_ty.length ∧ H[a]? = some (arrV (X.2.2.1 ti) n g) := by
  rcases h a _ hf with h | ⟨h, -, -⟩
  · exact h
  · have h : ti = 99 := h
    subst h
    rw [x_99] at hty
    cases hty
theorem x_D.arrT (h : x_D X f) {a ti n : Nat} {g : Nat → Value} {ty : FieldType} (hf : f a = some (.inr (ti, n, g))) (hty : x_ty[ti]? = some ty) : x_A X a := by
  rcases h a _ hf with h | ⟨g, h⟩
  · exact h
  · cases h
    rw [x_99] at hty
    cases hty
theorem x_s_getC (G : x_ctx X p R s m args meth c cc nL own ini rt fr lo mc ms) {i a ti n : Nat} {g : Nat → Value} (hd : decode cc pc = .ok (.invokevirtual i, 3)) (hs : x_sg own i ti) (hf : f a = some (.inr (ti, n, g))) (h4 : t.length ≤ 4) (hfr : 1 ≤ fr) (hlo : 30 ≤ lo)
    (kk : x_go X p e R s m args below meth c nL mc ms RQ (pc + 3) ls (.ref (x_k X 1) :: t) f nc ns) : x_go X p e R s m args below meth c nL mc ms RQ pc ls (.ref a :: t) f nc ns := by
  intro H locs lsA hP hD hS hl
  obtain ⟨hx, hb, hml, hown, hts, hK, hz, -, -, -, hZ, rfl⟩ := G
  obtain ⟨hty, g1, g2, g3, g4, g5⟩ := hs
  obtain ⟨h1, h2⟩ := hP.arrT hf hty
  have hn := va_nmO (nm := "[Ljava/lang/Object;") (hK.2.1 ti _ hty).2 (by decide +kernel)
  have h5 := x_room (m := m) (pc := pc) (ls := lsA) (rest := t) h4
  exact va_getC hx hb (by rw [hml]; exact hl.1.symm) hown (hts _ g1) (va_Nw.use rfl (hK.2.2.1 _ g2 rfl)) (hts _ g3) (hts _ g4) (hts _ g5) hK.2.2.2.2.2.2 ⟨_, h2, rfl, hn⟩ hfr (by show _ ≤ lo; have : 2 * (F0 m pc lsA t).monitorRoom = 0 := rfl; omega) hd (kk H locs lsA hP hD hS hl)
theorem x_s_cpy (G : x_ctx X p R s m args meth c cc nL own ini rt fr lo mc ms) {i d s0 ti n0 n1 : Nat} {g0 g1 : Nat → Value} {sp dp n : Int32} (hd : decode cc pc = .ok (.invokestatic i, 3)) (hs : x_sc own i ti) (hf0 : f s0 = some (.inr (ti, n0, g0))) (hf1 : f d = some (.inr (ti, n1, g1)))
    (h1 : ¬ sp < 0) (h2 : ¬ dp < 0) (h3 : ¬ n < 0) (h4 : sp.toNatClampNeg + n.toNatClampNeg ≤ n0) (h5 : dp.toNatClampNeg + n.toNatClampNeg ≤ n1) (hel : ∀ j, j < n.toNatClampNeg → x_elo f (g0 (sp.toNatClampNeg + j))) (ht4 : t.length ≤ 4) (hfr : 1 ≤ fr) (hlo : 60 ≤ lo)
    (kk : x_go X p e R s m args below meth c nL mc ms RQ (pc + 3) ls t (va_up f d (some (.inr (ti, n1, va_cpy g0 g1 sp.toNatClampNeg dp.toNatClampNeg n.toNatClampNeg)))) nc ns) : x_go X p e R s m args below meth c nL mc ms RQ pc ls (.int n :: .int dp :: .ref d :: .int sp :: .ref s0 :: t) f nc ns := by
  have nn : ∀ z : Int32, ¬ z < 0 → z.toInt = (z.toNatClampNeg : Int) := by
    intro z hz
    have hz0 : (0 : Int) ≤ z.toInt := by
      have := Int32.not_lt.mp hz
      simpa using Int32.le_iff_toInt_le.mp this
    show z.toInt = ((z.toInt.toNat : Nat) : Int)
    omega
  intro H locs lsA hP hD hS hl T hT X0
  obtain ⟨hx, hb, hml, hown, hts, hK, hz, -, -, -, hZ, rfl⟩ := G
  obtain ⟨hty, w1, w2, w3, w4⟩ := hs
  obtain ⟨hl0, hc0⟩ := hP.arrT hf0 hty
  obtain ⟨hl1, hc1⟩ := hP.arrT hf1 hty
  have hAd := hD.arrT hf1 hty
  obtain ⟨kA, comp, r1, r2, r3, -⟩ := (hK.2.1 ti _ hty).2
  obtain ⟨kE, hkE, -⟩ := Vm.findClass_spec r3
  have h6 := x_room (m := m) (pc := pc) (ls := lsA) (rest := t) ht4
  have hw : nativeFrameWords "java/lang/System" "arraycopy" 5 + 11 ≤ 40 := by decide
  obtain ⟨vm', X', step⟩ := X0.arraycopy hx hown (hts _ w1) (hts _ w2) (hts _ w3) (hts _ w4) (src := s0) (dst := d) (cs := arrV (X.2.2.1 ti) n0 g0) (cd := arrV (X.2.2.1 ti) n1 g1) (srcPos := sp) (destPos := dp) (n := n) (by rw [hT]; exact hc0) (by rw [hT]; exact hc1)
    (fun _ h => by cases h) (fun _ h => by cases h) (fun h => by cases h) (fun h => by cases h) r1 r1 r2 r2 rfl h1 h2 h3
    (by rw [nn sp h1, nn n h3, arrV_size]; omega) (by rw [nn dp h2, nn n h3, arrV_size]; omega)
    (fun vm₁ hal j hj => by
      have e1 : (arrV (X.2.2.1 ti) n0 g0).slots.getD (sp.toNatClampNeg + j) .null = g0 (sp.toNatClampNeg + j) := by
        rw [Array.getD_eq_getD_getElem?, arrV_read _ _ (by omega)]
        rfl
      rw [e1]
      rcases hel j hj with h | ⟨w, ci, fs, h, hw, hob⟩
      · rw [h]; exact ⟨rfl, trivial⟩
      · rw [h]
        obtain ⟨r, hc, hca⟩ := x_ob_ok ci hob
        obtain ⟨cell, q1, q2, q3⟩ := x_recv hK (hP w _ hw) hc
        obtain ⟨kC, hkC, -⟩ := Vm.findClass_spec q3
        obtain ⟨kC', hkC', -⟩ := hal.2.2 _ _ hkC
        obtain ⟨kE', hkE', -⟩ := hal.2.2 _ _ hkE
        refine ⟨rfl, cell, (show T.heap[w]? = some cell by rw [hT]; exact q1), (fun q h => by rw [h] at q2; cases q2), ⟨kC', hkC'⟩, ⟨kE', hkE'⟩, ?_⟩
        show vm₁.assignable _ _ = true
        rw [hal.assignable]
        exact vb_asgC (hK.2.2.1 _ hca rfl) comp _ r3 q3)
    (g := F0 m pc lsA (.int n :: .int dp :: .ref d :: .int sp :: .ref s0 :: t)) rfl (by rw [hml]; exact hl.1) (rest := t) rfl (by rw [hb]; exact hd) hfr (by show 2 * 0 + _ + _ ≤ lo; have : 2 * (F0 m pc lsA t).monitorRoom = 0 := rfl; omega)
  have e1 : copied (arrV (X.2.2.1 ti) n0 g0) (arrV (X.2.2.1 ti) n1 g1) sp dp n = arrV (X.2.2.1 ti) n1 (va_cpy g0 g1 sp.toNatClampNeg dp.toNatClampNeg n.toNatClampNeg) := va_copied (fun z => z) _ _ g0 g1 h4
  rw [e1] at X' step
  have hlt : d < H.size := (Array.getElem?_eq_some_iff.mp hc1).1
  generalize hA : arrV (X.2.2.1 ti) n1 (va_cpy g0 g1 sp.toNatClampNeg dp.toNatClampNeg n.toNatClampNeg) = A1 at X' step e1
  have hheap : ((T.setVm vm').setCell d A1).heap = H.setIfInBounds d A1 := by rw [← hT]; rfl
  have oq : ∀ q : Nat, q ≠ d → (H.setIfInBounds d A1)[q]? = H[q]? := fun q hq => by simp [Array.getElem?_setIfInBounds, Ne.symm hq]
  have e2 : (H.setIfInBounds d A1)[d]? = some A1 := by simp [Array.getElem?_setIfInBounds, hlt]
  obtain ⟨t2, a1, b1⟩ := kk (H.setIfInBounds d A1) _ lsA (hP.put (Or.inl ⟨hl1, e2.trans (congrArg some hA.symm)⟩) oq) (hD.put hAd) ⟨by simp; exact hS.1, fun q g1 g2 => by
      rw [oq q (fun e => g2 (by rw [e]; exact hAd))]
      exact hS.2.1 q g1 g2, fun q hq => by
      rcases List.mem_append.mp hq with h | h
      · exact hS.2.2 q h
      · obtain ⟨z, -, hz⟩ := List.mem_map.mp h
        rw [← hz]
        exact hAd⟩ hl _ hheap X'
  exact ⟨t2, step t2 a1, b1⟩
/-- the end -/
theorem x_s_iret (G : x_ctx X p R s m args meth c cc nL own ini rt fr lo mc ms) {ty : FieldType} {x : Int32} (hd : decode cc pc = .ok (.ireturn, 1)) (hrt : rt = some ty) (hn : narrow ty (.int x) = .int x) (h1 : nc ≤ mc) (h2 : ns ≤ ms) (hq : RQ (some (.int x)) f) : x_go X p e R s m args below meth c nL mc ms RQ pc ls [.int x] f nc ns := by
  intro H locs lsA hP hD hS hl
  obtain ⟨hx, hb, hml, hown, hts, hK, hz, hr, hlk, -⟩ := G
  exact W.widen h1 h2 (W.zret hx hb (hr.trans hrt) hn (fun t ht hW => ⟨⟨_, f, rfl, hq, by rw [ht]; exact hP, hD⟩, hS.F ht⟩) hS.2.2 hd hlk)
theorem x_s_aret (G : x_ctx X p R s m args meth c cc nL own ini rt fr lo mc ms) {ty : FieldType} {v : Value} (hd : decode cc pc = .ok (.areturn, 1)) (hrt : rt = some ty) (hty : (∃ n, ty = .object n) ∨ ∃ t, ty = .array t) (hv : x_isr v) (h1 : nc ≤ mc) (h2 : ns ≤ ms) (hq : RQ (some v) f) : x_go X p e R s m args below meth c nL mc ms RQ pc ls [v] f nc ns := by
  intro H locs lsA hP hD hS hl
  obtain ⟨hx, hb, hml, hown, hts, hK, hz, hr, hlk, -⟩ := G
  obtain ⟨r, rfl⟩ := x_isr_rf hv
  exact W.widen h1 h2 (W.aret hx hb (hr.trans hrt) hty (va_rf_or r) (fun t ht hW => ⟨⟨_, f, rfl, hq, by rw [ht]; exact hP, hD⟩, hS.F ht⟩) hS.2.2 hd hlk)
theorem x_s_vret (G : x_ctx X p R s m args meth c cc nL own ini rt fr lo mc ms) (hd : decode cc pc = .ok (.return_, 1)) (hrt : rt = none) (h1 : nc ≤ mc) (h2 : ns ≤ ms) (hq : RQ none f) : x_go X p e R s m args below meth c nL mc ms RQ pc ls [] f nc ns := by
  intro H locs lsA hP hD hS hl
  obtain ⟨hx, hb, hml, hown, hts, hK, hz, hr, hlk, -⟩ := G
  exact W.widen h1 h2 (W.vret hx hb (hr.trans hrt) (fun t ht hW => ⟨⟨_, f, rfl, hq, by rw [ht]; exact hP, hD⟩, hS.F ht⟩) hS.2.2 hd hlk)
/-- what the tables must say of an operation -/
def x_fld (own : String) (i k : Nat) (al : List (Nat × Nat)) : Prop := ∀ q ∈ al, ∃ (C : String) (T : u_T) (N : Nat), x_cl[q.1]? = some (C, T, N) ∧ k < N ∧ x_lnk own i (T k)
def x_fwr (own : String) (ini : Bool) (i k : Nat) (al : List (Nat × Nat)) : Prop := ∀ q ∈ al, ∃ (C : String) (T : u_T) (N : Nat) (ty : FieldType), x_cl[q.1]? = some (C, T, N) ∧ k < N ∧ x_lnk own i (T k) ∧ ((T k).2.2.2 = false ∨ ((T k).2.2.2 = true ∧ (T k).1 = own ∧ ini = true ∧ Cond.fieldLink own i own (T k).2.1 (T k).2.2.1 ∈ x_ws)) ∧ parseFieldDescriptor (T k).2.2.1 = some ty ∧ x_kd ty = q.2
def x_fit (own : String) (nL : Nat) (rt : Option FieldType) (ini : Bool) (pc : Nat) (o : XO) : Prop := match o.1 with
  | .iconst n => Int32.ofInt n = o.2.2.2.2 ∧ o.2.1 = 1
  | .bipush n => (Int8.ofInt n).toInt32 = o.2.2.2.2 ∧ o.2.1 = 2
  | .sipush n => (Int16.ofInt n).toInt32 = o.2.2.2.2 ∧ o.2.1 = 3
  | .aconst_null => o.2.1 = 1
  | .getstatic i => o.2.1 = 3 ∧ Cond.fieldLink own i "java/util/ArrayList" "DEFAULTCAPACITY_EMPTY_ELEMENTDATA" "[Ljava/lang/Object;" ∈ x_ws
  | .iload j => j = o.2.2.1 ∧ o.2.1 = 2
  | .iload_n q => (q : Nat) = o.2.2.1 ∧ o.2.1 = 1
  | .aload j => j = o.2.2.1 ∧ o.2.1 = 2
  | .aload_n q => (q : Nat) = o.2.2.1 ∧ o.2.1 = 1
  | .istore j => (j = o.2.2.1 ∧ o.2.1 = 2) ∧ o.2.2.1 < nL
  | .istore_n q => ((q : Nat) = o.2.2.1 ∧ o.2.1 = 1) ∧ o.2.2.1 < nL
  | .astore j => (j = o.2.2.1 ∧ o.2.1 = 2) ∧ o.2.2.1 < nL
  | .astore_n q => ((q : Nat) = o.2.2.1 ∧ o.2.1 = 1) ∧ o.2.2.1 < nL
  | .iinc j n => j = o.2.2.1 ∧ Int32.ofInt n = o.2.2.2.2 ∧ o.2.1 = 3
  | .iadd => o.2.1 = 1
  | .isub => o.2.1 = 1
  | .imul => o.2.1 = 1
  | .iand => o.2.1 = 1
  | .ior => o.2.1 = 1
  | .ixor => o.2.1 = 1
  | .idiv => o.2.1 = 1
  | .irem => o.2.1 = 1
  | .ishl => o.2.1 = 1
  | .ishr => o.2.1 = 1
  | .ineg => o.2.1 = 1
  | .dup => o.2.1 = 1
  | .dup_x1 => o.2.1 = 1
  | .dup2 => o.2.1 = 1
  | .pop => o.2.1 = 1
  | .ifCond _ off => o.2.1 = 3 ∧ (pc : Int) + off = (o.2.2.1 : Int)
  | .if_icmp _ off => o.2.1 = 3 ∧ (pc : Int) + off = (o.2.2.1 : Int)
  | .if_acmp _ off => o.2.1 = 3 ∧ (pc : Int) + off = (o.2.2.1 : Int)
  | .ifnull off => o.2.1 = 3 ∧ (pc : Int) + off = (o.2.2.1 : Int)
  | .ifnonnull off => o.2.1 = 3 ∧ (pc : Int) + off = (o.2.2.1 : Int)
  | .goto off => o.2.1 = 3 ∧ (pc : Int) + off = (o.2.2.1 : Int)
  | .tableswitch d l h os => 0 ≤ (pc : Int) + d ∧ (os.toList.length : Int) = h - l + 1 ∧ ∀ z ∈ os.toList, 0 ≤ (pc : Int) + z
  | .ireturn => o.2.1 = 1 ∧ ∃ ty, rt = some ty ∧ x_kd ty = o.2.2.1
  | .areturn => o.2.1 = 1 ∧ ∃ ty, rt = some ty ∧ x_kd ty = 2
  | .return_ => o.2.1 = 1 ∧ rt = none
  | .getfield i => o.2.1 = 3 ∧ x_fld own i o.2.2.1 o.2.2.2.1
  | .putfield i => o.2.1 = 3 ∧ x_fwr own ini i o.2.2.1 o.2.2.2.1
  | .arraylength => o.2.1 = 1
  | .iaload => o.2.1 = 1 ∧ x_ty[o.2.2.1]? = some .int
  | .baload => o.2.1 = 1 ∧ x_ty[o.2.2.1]? = some .boolean
  | .aaload => o.2.1 = 1 ∧ ∀ q ∈ o.2.2.2.1, ∃ C, x_ty[q.1]? = some (.object C)
  | .iastore => o.2.1 = 1 ∧ x_ty[o.2.2.1]? = some .int
  | .bastore => o.2.1 = 1 ∧ x_ty[o.2.2.1]? = some .boolean
  | .aastore => o.2.1 = 1 ∧ ∀ q ∈ o.2.2.2.1, ∃ (E : String) (r : vw_C), x_ty[q.1]? = some (.object E) ∧ x_cl[q.2]? = some r ∧ (r.1 = E ∨ Cond.castable r.1 E ∈ lw_tbl)
  | .new i => o.2.1 = 3 ∧ ∃ (C : String) (T : u_T) (N : Nat) (ty : Nat → FieldType), x_cl[o.2.2.1]? = some (C, T, N) ∧ Cond.classLink own i C ∈ x_ws ∧ Cond.instantiable C N ∈ x_ws ∧ Cond.initialized C ∈ x_ws ∧ (∀ k, k < N → parseFieldDescriptor (T k).2.2.1 = some (ty k)) ∧ (∀ j, j < N → defaultValue (ty j) = vp_V (x_df o.2.2.1) j) ∧ (x_df o.2.2.1).length = N
  | .newarray aty => o.2.1 = 2 ∧ x_ty[o.2.2.1]? = some (newarray.typeOf aty) ∧ (aty = .int ∨ aty = .boolean) ∧ Cond.arrayClass (newarray.typeOf aty) ∈ x_ws
  | .anewarray i => o.2.1 = 3 ∧ ∃ C, x_ty[o.2.2.1]? = some (.object C) ∧ Cond.classLink own i C ∈ x_ws ∧ C ∈ x_ao
  | .checkcast i => o.2.1 = 3 ∧ ∃ nm, Cond.classLink own i nm ∈ x_ws ∧ ∀ q ∈ o.2.2.2.1, ∃ r : vw_C, x_cl[q.1]? = some r ∧ (r.1 = nm ∨ Cond.castable r.1 nm ∈ lw_tbl)
  | .instanceof i => o.2.1 = 3 ∧ ∃ nm, Cond.classLink own i nm ∈ x_ws ∧ ∀ q ∈ o.2.2.2.1, ∃ r : vw_C, x_cl[q.1]? = some r ∧ ((q.2 = 1 ∧ (r.1 = nm ∨ Cond.castable r.1 nm ∈ lw_tbl)) ∨ (q.2 = 0 ∧ (r.1, nm) ∈ x_nc))
  | .ldc i => o.2.1 = 2 ∧ ((o.2.2.2.1 = [] ∧ Cond.constant own i o.2.2.2.2 ∈ x_ws) ∨ (o.2.2.2.1 ≠ [] ∧ Cond.classLink own i "[Ljava/lang/Object;" ∈ x_ws))
  | .invokestatic i => o.2.1 = 3 ∧ ∀ q ∈ o.2.2.2.1, (q.2 = 0 ∧ x_ss own i o.2.2.1 q.1) ∨ (q.2 = 3 ∧ x_sc own i o.2.2.1)
  | .invokespecial i => o.2.1 = 3 ∧ ((o.2.2.2.1 = [] ∧ Cond.methodLink own i Lib.objectInit ∈ x_ws ∧ Cond.instanceMethod Lib.objectInit ∈ x_ws ∧ Cond.code Lib.objectInit ⟨#[0xb1]⟩ 1 none ∈ x_ws) ∨ (o.2.2.2.1 ≠ [] ∧ ∀ q ∈ o.2.2.2.1, x_si own i o.2.2.1 q.1))
  | .invokevirtual i => o.2.1 = 3 ∧ (o.2.2.2.1 = [] → x_sg own i o.2.2.1) ∧ ∀ q ∈ o.2.2.2.1, x_sv own i o.2.2.1 q.1 q.2
  | _ => False
theorem x_lookup {al : List (Nat × Nat)} {a b : Nat} (h : al.lookup a = some b) : (a, b) ∈ al := by
  induction al with
  | nil => cases h
  | cons q l ih =>
    obtain ⟨u, v⟩ := q
    rw [List.lookup_cons] at h
    by_cases hu : a = u
    · subst hu
      simp at h
      subst h
      exact List.mem_cons_self
    · have : (a == u) = false := by simpa using hu
      rw [this] at h
      exact List.mem_cons_of_mem _ (ih h)
theorem x_lookupB {B : List (Nat × List XO)} {a : Nat} {b : List XO} (h : B.lookup a = some b) : (a, b) ∈ B := by
  induction B with
  | nil => cases h
  | cons q l ih =>
    obtain ⟨u, v⟩ := q
    rw [List.lookup_cons] at h
    by_cases hu : a = u
    · subst hu
      simp at h
      subst h
      exact List.mem_cons_self
    · have : (a == u) = false := by simpa using hu
      rw [this] at h
      exact List.mem_cons_of_mem _ (ih h)
theorem x_som_e {α : Type} {o : Option α} {k : α → Prop} (h : x_som o k) : ∃ v, o = some v ∧ k v := by
  cases o with
  | none => exact h.elim
  | some v => exact ⟨v, rfl, h⟩
theorem x_int_e {v : Value} {k : Int32 → Prop} (h : x_int v k) : ∃ x, v = .int x ∧ k x := by
  cases v <;> first | exact ⟨_, rfl, h⟩ | exact h.elim
theorem x_i1_e {st : List Value} {k : Int32 → List Value → Prop} (h : x_i1 st k) : ∃ x t, st = .int x :: t ∧ k x t := by
  unfold x_i1 at h
  split at h
  · exact ⟨_, _, rfl, h⟩
  · exact h.elim
theorem x_i2_e {st : List Value} {k : Int32 → Int32 → List Value → Prop} (h : x_i2 st k) : ∃ x y t, st = .int y :: .int x :: t ∧ k x y t := by
  unfold x_i2 at h
  split at h
  · exact ⟨_, _, _, rfl, h⟩
  · exact h.elim
theorem x_v1_e {st : List Value} {k : Value → List Value → Prop} (h : x_v1 st k) : ∃ v t, st = v :: t ∧ k v t := by
  unfold x_v1 at h
  split at h
  · exact ⟨_, _, rfl, h⟩
  · exact h.elim
theorem x_v2_e {st : List Value} {k : Value → Value → List Value → Prop} (h : x_v2 st k) : ∃ v w t, st = v :: w :: t ∧ k v w t := by
  unfold x_v2 at h
  split at h
  · exact ⟨_, _, _, rfl, h⟩
  · exact h.elim
theorem x_r1_e {st : List Value} {k : Nat → List Value → Prop} (h : x_r1 st k) : ∃ a t, st = .ref a :: t ∧ k a t := by
  unfold x_r1 at h
  split at h
  · exact ⟨_, _, rfl, h⟩
  · exact h.elim
theorem x_vr_e {st : List Value} {k : Value → Nat → List Value → Prop} (h : x_vr st k) : ∃ v a t, st = v :: .ref a :: t ∧ k v a t := by
  unfold x_vr at h
  split at h
  · exact ⟨_, _, _, rfl, h⟩
  · exact h.elim
theorem x_ir_e {st : List Value} {k : Int32 → Nat → List Value → Prop} (h : x_ir st k) : ∃ i a t, st = .int i :: .ref a :: t ∧ k i a t := by
  unfold x_ir at h
  split at h
  · exact ⟨_, _, _, rfl, h⟩
  · exact h.elim
theorem x_vir_e {st : List Value} {k : Value → Int32 → Nat → List Value → Prop} (h : x_vir st k) : ∃ v i a t, st = v :: .int i :: .ref a :: t ∧ k v i a t := by
  unfold x_vir at h
  split at h
  · exact ⟨_, _, _, _, rfl, h⟩
  · exact h.elim
theorem x_obj_e {e : Option XE} {k : Nat → List Value → Prop} (h : x_obj e k) : ∃ ci fs, e = some (.inl (ci, fs)) ∧ k ci fs := h
theorem x_arr_e {e : Option XE} {k : Nat → Nat → (Nat → Value) → Prop} (h : x_arr e k) : ∃ ti n g, e = some (.inr (ti, n, g)) ∧ k ti n g := h
theorem x_rfv_e {v : Value} {P : Prop} (h : x_rfv v P) : x_isr v ∧ P := by
  cases v <;> first | exact ⟨trivial, h⟩ | exact h.elim
theorem x_onv_e {v : Value} {P : Prop} (h : x_onv v P) : x_one v ∧ P := by
  cases v <;> first | exact ⟨trivial, h⟩ | exact h.elim
theorem x_okv_e {kd : Nat} {v : Value} {P : Prop} (h : x_okv kd v P) : x_ok kd v ∧ P := by
  unfold x_okv at h
  split at h
  · exact ⟨Or.inl rfl, h⟩
  · exact ⟨Or.inr ⟨rfl, h.1⟩, h.2⟩
  · exact ⟨rfl, h⟩
  · exact ⟨rfl, h⟩
  · exact h.elim
theorem x_nil_e {t : List Value} {P : Prop} (h : x_nil t P) : t = [] ∧ P := by
  cases t with
  | nil => exact ⟨rfl, h⟩
  | cons a b => exact h.elim
theorem x_le4_e {t : List Value} {P : Prop} (h : x_le4 t P) : t.length ≤ 4 ∧ P := by
  unfold x_le4 at h
  split at h <;> first | exact h.elim | exact ⟨by simp, h⟩
theorem x_bit_e {b : Nat} {k : Int32 → Prop} (h : x_bit b k) : (b = 0 ∧ k 0) ∨ (b = 1 ∧ k 1) := by
  unfold x_bit at h
  split at h
  · exact Or.inl ⟨rfl, h⟩
  · exact Or.inr ⟨rfl, h⟩
  · exact h.elim
theorem x_cpy_e {st : List Value} {k : Int32 → Int32 → Nat → Int32 → Nat → List Value → Prop} (h : x_cpy st k) : ∃ n dp d sp s t, st = .int n :: .int dp :: .ref d :: .int sp :: .ref s :: t ∧ k n dp d sp s t := by
  unfold x_cpy at h
  split at h
  · exact ⟨_, _, _, _, _, _, rfl, h⟩
  · exact h.elim
theorem x_tru_e {b : Bool} {P : Prop} (h : x_tru b P) : b = true ∧ P := by
  cases b
  · exact h.elim
  · exact ⟨rfl, h⟩
theorem x_leb_e {a b : Nat} {P : Prop} (h : x_leb a b P) : a ≤ b ∧ P := ⟨Nat.le_of_ble_eq_true (x_tru_e h).1, (x_tru_e h).2⟩
theorem x_eqn_e {a b : Nat} {P : Prop} (h : x_eqn a b P) : a = b ∧ P := ⟨Nat.eq_of_beq_eq_true (x_tru_e h).1, (x_tru_e h).2⟩
theorem x_pop_e : ∀ (n : Nat) (st acc : List Value) (k : List Value → List Value → Prop), x_pop n st acc k → n ≤ st.length ∧ k ((st.take n).reverse ++ acc) (st.drop n)
  | 0, st, acc, k, h => ⟨Nat.zero_le _, h⟩
  | n + 1, [], acc, k, h => h.elim
  | n + 1, v :: t, acc, k, h => by
    obtain ⟨h1, h2⟩ := x_pop_e n t (v :: acc) k h
    refine ⟨Nat.succ_le_succ h1, ?_⟩
    rw [List.take_succ_cons, List.reverse_cons, List.drop_succ_cons, List.append_assoc]
    exact h2
theorem x_nul_e {st : List Value} {kn kr : List Value → Prop} (h : x_nul st kn kr) : ∃ t, (st = .null :: t ∧ kn t) ∨ ∃ a, st = .ref a :: t ∧ kr t := by
  unfold x_nul at h
  split at h
  · exact ⟨_, Or.inl ⟨rfl, h⟩⟩
  · exact ⟨_, Or.inr ⟨_, rfl, h⟩⟩
  · exact h.elim
theorem x_br_map {o : ClassFile.Cond} {x y : Int32} {A B A' B' : Prop} (hA : A → A') (hB : B → B') (h : x_br o x y A B) : x_br o x y A' B' := by
  cases o <;> exact ⟨fun z => hA (h.1 z), fun z => hB (h.2 z)⟩
theorem x_ab_map {o : ClassFile.ACond} {x y : Value} {A B A' B' : Prop} (hA : A → A') (hB : B → B') (h : x_ab o x y A B) : x_ab o x y A' B' := by
  cases o <;> exact ⟨fun z => hA (h.1 z), fun z => hB (h.2 z)⟩
theorem x_call_map {y : Nat} {av : List Value} {k k' : Option Value → XH → Nat → Nat → Prop} (hk : ∀ r f nc ns, k r f nc ns → k' r f nc ns) (h : x_call X fr lo mc ms y av f nc ns k) : x_call X fr lo mc ms y av f nc ns k' := by
  obtain ⟨a, b, c, d, Q, h1, h2, h3⟩ := h
  exact ⟨a, b, c, d, Q, h1, h2, fun r f' hq => hk _ _ _ _ (h3 r f' hq)⟩
set_option maxHeartbeats 4000000 in
theorem x_step_sound (G : x_ctx X p R s m args meth c cc nL own ini rt fr lo mc ms) (o : XO) (hd : decode cc pc = .ok (o.1, o.2.1)) (hf : x_fit own nL rt ini pc o) (J : XJ) (hJ : ∀ pc ls st f nc ns, J pc ls st f nc ns → x_go X p e R s m args below meth c nL mc ms RQ pc ls st f nc ns) (K : XK)
    (hK : ∀ ls st f nc ns, K ls st f nc ns → x_go X p e R s m args below meth c nL mc ms RQ (pc + o.2.1) ls st f nc ns) (h : x_step X fr lo mc ms J RQ o pc ls st f nc ns K) : x_go X p e R s m args below meth c nL mc ms RQ pc ls st f nc ns := by
  obtain ⟨i, len, ax, al, cv⟩ := o
  cases i with
  | iconst n => exact x_s_const G hd (Or.inl ⟨n, rfl, hf.1, hf.2⟩) (hK _ _ _ _ _ h)
  | bipush n => exact x_s_const G hd (Or.inr (Or.inl ⟨n, rfl, hf.1, hf.2⟩)) (hK _ _ _ _ _ h)
  | sipush n => exact x_s_const G hd (Or.inr (Or.inr ⟨n, rfl, hf.1, hf.2⟩)) (hK _ _ _ _ _ h)
  | aconst_null =>
    obtain rfl : len = 1 := hf
    exact x_s_null G hd (hK _ _ _ _ _ h)
  | getstatic i =>
    obtain ⟨rfl, hlk⟩ : len = 3 ∧ Cond.fieldLink own i "java/util/ArrayList" "DEFAULTCAPACITY_EMPTY_ELEMENTDATA" "[Ljava/lang/Object;" ∈ x_ws := hf
    obtain ⟨hx, hb, hml, hown, hts, hKK, hz, -, -, -, hZ, rfl⟩ := G
    exact fun H locs lsA hP hD hS hl => va_gets hx hb hZ hS hown (hts _ hlk) (fun _ q => q) hd (hK _ _ _ _ _ h H locs lsA hP hD hS hl)
  | iload j =>
    replace h := x_som_e h
    obtain ⟨v, hv, h⟩ := h
    replace h := x_int_e h
    obtain ⟨x, rfl, h⟩ := h
    obtain ⟨rfl, hf2⟩ : j = ax ∧ len = 2 := hf
    exact x_s_iload G hd (Or.inl ⟨rfl, hf2⟩) hv (hK _ _ _ _ _ h)
  | iload_n q =>
    replace h := x_som_e h
    obtain ⟨v, hv, h⟩ := h
    replace h := x_int_e h
    obtain ⟨x, rfl, h⟩ := h
    exact x_s_iload G hd (Or.inr ⟨q, rfl, hf.1, hf.2⟩) hv (hK _ _ _ _ _ h)
  | aload j =>
    replace h := x_som_e h
    obtain ⟨v, hv, h⟩ := h
    replace h := x_rfv_e h
    obtain ⟨h1, h⟩ := h
    obtain ⟨rfl, hf2⟩ : j = ax ∧ len = 2 := hf
    exact x_s_aload G hd (Or.inl ⟨rfl, hf2⟩) hv h1 (hK _ _ _ _ _ h)
  | aload_n q =>
    replace h := x_som_e h
    obtain ⟨v, hv, h⟩ := h
    replace h := x_rfv_e h
    obtain ⟨h1, h⟩ := h
    exact x_s_aload G hd (Or.inr ⟨q, rfl, hf.1, hf.2⟩) hv h1 (hK _ _ _ _ _ h)
  | istore j =>
    replace h := x_i1_e h
    obtain ⟨x, t, rfl, h⟩ := h
    obtain ⟨⟨rfl, hf2⟩, hf3⟩ : (j = ax ∧ len = 2) ∧ ax < nL := hf
    exact x_s_istore G hd (Or.inl ⟨rfl, hf2⟩) hf3 (hK _ _ _ _ _ h)
  | istore_n q =>
    replace h := x_i1_e h
    obtain ⟨x, t, rfl, h⟩ := h
    exact x_s_istore G hd (Or.inr ⟨q, rfl, hf.1.1, hf.1.2⟩) hf.2 (hK _ _ _ _ _ h)
  | astore j =>
    replace h := x_v1_e h
    obtain ⟨x, t, rfl, h⟩ := h
    replace h := x_rfv_e h
    obtain ⟨h1, h⟩ := h
    obtain ⟨⟨rfl, hf2⟩, hf3⟩ : (j = ax ∧ len = 2) ∧ ax < nL := hf
    exact x_s_astore G hd (Or.inl ⟨rfl, hf2⟩) hf3 h1 (hK _ _ _ _ _ h)
  | astore_n q =>
    replace h := x_v1_e h
    obtain ⟨x, t, rfl, h⟩ := h
    replace h := x_rfv_e h
    obtain ⟨h1, h⟩ := h
    exact x_s_astore G hd (Or.inr ⟨q, rfl, hf.1.1, hf.1.2⟩) hf.2 h1 (hK _ _ _ _ _ h)
  | iinc j n =>
    replace h := x_som_e h
    obtain ⟨v, hv, h⟩ := h
    replace h := x_int_e h
    obtain ⟨x, rfl, h⟩ := h
    obtain ⟨rfl, hf2, rfl⟩ : j = ax ∧ Int32.ofInt n = cv ∧ len = 3 := hf
    exact x_s_iinc G hd hf2 hv (hK _ _ _ _ _ h)
  | iadd =>
    replace h := x_i2_e h
    obtain ⟨x, y, t, rfl, h⟩ := h
    obtain rfl : len = 1 := hf
    exact fun H locs lsA hP hD hS hl => lv_iadd G.1 G.2.1 hd (hK _ _ _ _ _ h H locs lsA hP hD hS hl)
  | isub =>
    replace h := x_i2_e h
    obtain ⟨x, y, t, rfl, h⟩ := h
    obtain rfl : len = 1 := hf
    exact fun H locs lsA hP hD hS hl => lv_isub G.1 G.2.1 hd (hK _ _ _ _ _ h H locs lsA hP hD hS hl)
  | imul =>
    replace h := x_i2_e h
    obtain ⟨x, y, t, rfl, h⟩ := h
    obtain rfl : len = 1 := hf
    exact fun H locs lsA hP hD hS hl => lv_imul G.1 G.2.1 hd (hK _ _ _ _ _ h H locs lsA hP hD hS hl)
  | iand =>
    replace h := x_i2_e h
    obtain ⟨x, y, t, rfl, h⟩ := h
    obtain rfl : len = 1 := hf
    exact fun H locs lsA hP hD hS hl => lv_iand G.1 G.2.1 hd (hK _ _ _ _ _ h H locs lsA hP hD hS hl)
  | ior =>
    replace h := x_i2_e h
    obtain ⟨x, y, t, rfl, h⟩ := h
    obtain rfl : len = 1 := hf
    exact fun H locs lsA hP hD hS hl => lv_ior G.1 G.2.1 hd (hK _ _ _ _ _ h H locs lsA hP hD hS hl)
  | ixor =>
    replace h := x_i2_e h
    obtain ⟨x, y, t, rfl, h⟩ := h
    obtain rfl : len = 1 := hf
    exact fun H locs lsA hP hD hS hl => lv_ixor G.1 G.2.1 hd (hK _ _ _ _ _ h H locs lsA hP hD hS hl)
  | idiv =>
    replace h := x_i2_e h
    obtain ⟨x, y, t, rfl, h1, h⟩ := h
    obtain rfl : len = 1 := hf
    exact fun H locs lsA hP hD hS hl => lv_idiv G.1 G.2.1 hd h1 (hK _ _ _ _ _ h H locs lsA hP hD hS hl)
  | irem =>
    replace h := x_i2_e h
    obtain ⟨x, y, t, rfl, h1, h⟩ := h
    obtain rfl : len = 1 := hf
    exact fun H locs lsA hP hD hS hl => lv_irem G.1 G.2.1 hd h1 (hK _ _ _ _ _ h H locs lsA hP hD hS hl)
  | ishl =>
    replace h := x_i2_e h
    obtain ⟨x, y, t, rfl, h⟩ := h
    obtain rfl : len = 1 := hf
    exact fun H locs lsA hP hD hS hl => lv_ishl G.1 G.2.1 hd (hK _ _ _ _ _ h H locs lsA hP hD hS hl)
  | ishr =>
    replace h := x_i2_e h
    obtain ⟨x, y, t, rfl, h⟩ := h
    obtain rfl : len = 1 := hf
    exact fun H locs lsA hP hD hS hl => lv_ishr G.1 G.2.1 hd (hK _ _ _ _ _ h H locs lsA hP hD hS hl)
  | ineg =>
    replace h := x_i1_e h
    obtain ⟨x, t, rfl, h⟩ := h
    obtain rfl : len = 1 := hf
    exact fun H locs lsA hP hD hS hl => lv_ineg G.1 G.2.1 hd (hK _ _ _ _ _ h H locs lsA hP hD hS hl)
  | dup =>
    replace h := x_v1_e h
    obtain ⟨v, t, rfl, h⟩ := h
    replace h := x_onv_e h
    obtain ⟨h1, h⟩ := h
    obtain rfl : len = 1 := hf
    exact fun H locs lsA hP hD hS hl => lv_dup G.1 G.2.1 hd (x_one_c h1) (hK _ _ _ _ _ h H locs lsA hP hD hS hl)
  | dup_x1 =>
    replace h := x_v2_e h
    obtain ⟨v, w, t, rfl, h⟩ := h
    replace h := x_onv_e h
    obtain ⟨h1, h⟩ := h
    replace h := x_onv_e h
    obtain ⟨h2, h⟩ := h
    obtain rfl : len = 1 := hf
    exact fun H locs lsA hP hD hS hl => lv_dup_x1 G.1 G.2.1 hd (x_one_c h1) (x_one_c h2) (hK _ _ _ _ _ h H locs lsA hP hD hS hl)
  | dup2 =>
    replace h := x_v2_e h
    obtain ⟨v, w, t, rfl, h⟩ := h
    replace h := x_onv_e h
    obtain ⟨h1, h⟩ := h
    replace h := x_onv_e h
    obtain ⟨h2, h⟩ := h
    obtain rfl : len = 1 := hf
    exact fun H locs lsA hP hD hS hl => lv_dup2_11 G.1 G.2.1 hd (x_one_c h1) (x_one_c h2) (hK _ _ _ _ _ h H locs lsA hP hD hS hl)
  | pop =>
    replace h := x_v1_e h
    obtain ⟨v, t, rfl, h⟩ := h
    replace h := x_onv_e h
    obtain ⟨h1, h⟩ := h
    obtain rfl : len = 1 := hf
    exact fun H locs lsA hP hD hS hl => lv_pop G.1 G.2.1 hd (x_one_c h1) (hK _ _ _ _ _ h H locs lsA hP hD hS hl)
  | ifCond o off =>
    replace h := x_i1_e h
    obtain ⟨x, t, rfl, h⟩ := h
    obtain ⟨rfl, ht⟩ : len = 3 ∧ (pc : Int) + off = (ax : Int) := hf
    exact x_s_if G hd ht (x_br_map (hJ _ _ _ _ _ _) (hK _ _ _ _ _) h)
  | if_icmp o off =>
    replace h := x_i2_e h
    obtain ⟨x, y, t, rfl, h⟩ := h
    obtain ⟨rfl, ht⟩ : len = 3 ∧ (pc : Int) + off = (ax : Int) := hf
    exact x_s_icmp G hd ht (x_br_map (hJ _ _ _ _ _ _) (hK _ _ _ _ _) h)
  | if_acmp o off =>
    replace h := x_v2_e h
    obtain ⟨y, x, t, rfl, h⟩ := h
    replace h := x_rfv_e h
    obtain ⟨h1, h⟩ := h
    replace h := x_rfv_e h
    obtain ⟨h2, h⟩ := h
    obtain ⟨rfl, ht⟩ : len = 3 ∧ (pc : Int) + off = (ax : Int) := hf
    exact x_s_acmp G hd ht h1 h2 (x_ab_map (hJ _ _ _ _ _ _) (hK _ _ _ _ _) h)
  | ifnull off =>
    obtain ⟨rfl, ht⟩ : len = 3 ∧ (pc : Int) + off = (ax : Int) := hf
    replace h := x_nul_e h
    obtain ⟨t, ⟨rfl, h⟩ | ⟨a, rfl, h⟩⟩ := h
    · exact fun H locs lsA hP hD hS hl => lv_ifnullN G.1 G.2.1 hd ht (hJ _ _ _ _ _ _ h H locs lsA hP hD hS hl)
    · exact fun H locs lsA hP hD hS hl => lv_ifnull G.1 G.2.1 hd (hK _ _ _ _ _ h H locs lsA hP hD hS hl)
  | ifnonnull off =>
    obtain ⟨rfl, ht⟩ : len = 3 ∧ (pc : Int) + off = (ax : Int) := hf
    replace h := x_nul_e h
    obtain ⟨t, ⟨rfl, h⟩ | ⟨a, rfl, h⟩⟩ := h
    · exact fun H locs lsA hP hD hS hl => lv_ifnonnullN G.1 G.2.1 hd (hK _ _ _ _ _ h H locs lsA hP hD hS hl)
    · exact fun H locs lsA hP hD hS hl => lv_ifnonnull G.1 G.2.1 hd ht (hJ _ _ _ _ _ _ h H locs lsA hP hD hS hl)
  | goto off =>
    obtain ⟨rfl, ht⟩ : len = 3 ∧ (pc : Int) + off = (ax : Int) := hf
    exact fun H locs lsA hP hD hS hl => lv_goto G.1 G.2.1 hd ht (hJ _ _ _ _ _ _ h H locs lsA hP hD hS hl)
  | tableswitch d l z os =>
    replace h := x_i1_e h
    obtain ⟨x, t, rfl, h⟩ := h
    obtain ⟨h0, h1, h2⟩ : 0 ≤ (pc : Int) + d ∧ (os.toList.length : Int) = z - l + 1 ∧ ∀ q ∈ os.toList, 0 ≤ (pc : Int) + q := hf
    intro H locs lsA hP hD hS hl
    have h := hJ _ _ _ _ _ _ h H locs lsA hP hD hS hl
    unfold x_swt at h
    by_cases hx : x.toInt < l ∨ z < x.toInt
    · rw [if_pos hx] at h
      exact lv_tableOut G.1 G.2.1 hd hx (Int.toNat_of_nonneg h0).symm h
    · rw [if_neg hx] at h
      have hlt : (x.toInt - l).toNat < os.toList.length := by omega
      have he : os.toList[(x.toInt - l).toNat]? = some (os.toList.getD (x.toInt - l).toNat 0) := by
        rw [List.getD_eq_getElem?_getD, List.getElem?_eq_getElem hlt]; rfl
      have hm : os.toList.getD (x.toInt - l).toNat 0 ∈ os.toList := List.mem_of_getElem? he
      rw [Array.getElem?_toList] at he
      exact lv_tableIn G.1 G.2.1 hd (fun q => hx (Or.inl q)) (fun q => hx (Or.inr q)) he (Int.toNat_of_nonneg (h2 _ hm)).symm h
  | ireturn =>
    replace h := x_i1_e h
    obtain ⟨x, t, rfl, h⟩ := h
    replace h := x_nil_e h
    obtain ⟨rfl, h⟩ := h
    replace h := x_okv_e h
    obtain ⟨h1, h⟩ := h
    replace h := x_leb_e h
    obtain ⟨h2, h⟩ := h
    replace h := x_leb_e h
    obtain ⟨h3, h⟩ := h
    obtain ⟨rfl, ty, hrt, hk⟩ : len = 1 ∧ ∃ ty, rt = some ty ∧ x_kd ty = ax := hf
    subst hk
    exact x_s_iret G hd hrt (x_ok_fits h1).1 h2 h3 h
  | areturn =>
    replace h := x_v1_e h
    obtain ⟨v, t, rfl, h⟩ := h
    replace h := x_nil_e h
    obtain ⟨rfl, h⟩ := h
    replace h := x_rfv_e h
    obtain ⟨h1, h⟩ := h
    replace h := x_leb_e h
    obtain ⟨h2, h⟩ := h
    replace h := x_leb_e h
    obtain ⟨h3, h⟩ := h
    obtain ⟨rfl, ty, hrt, hk⟩ : len = 1 ∧ ∃ ty, rt = some ty ∧ x_kd ty = 2 := hf
    refine x_s_aret G hd hrt ?_ h1 h2 h3 h
    cases ty <;> first | exact Or.inl ⟨_, rfl⟩ | exact Or.inr ⟨_, rfl⟩ | (exact absurd hk (by decide))
  | return_ =>
    replace h := x_nil_e h
    obtain ⟨rfl, h⟩ := h
    replace h := x_leb_e h
    obtain ⟨h2, h⟩ := h
    replace h := x_leb_e h
    obtain ⟨h3, h⟩ := h
    obtain ⟨rfl, hrt⟩ : len = 1 ∧ rt = none := hf
    exact x_s_vret G hd hrt h2 h3 h
  | getfield i =>
    replace h := x_r1_e h
    obtain ⟨a, t, rfl, h⟩ := h
    replace h := x_obj_e h
    obtain ⟨ci, fs, hfa, h⟩ := h
    replace h := x_som_e h
    obtain ⟨kd, hal, h⟩ := h
    replace h := x_som_e h
    obtain ⟨v, hv, h⟩ := h
    obtain ⟨rfl, hfl⟩ : len = 3 ∧ x_fld own i ax al := hf
    obtain ⟨C, T, N, hc, hk, hlk⟩ := hfl _ (x_lookup hal)
    exact x_s_get G hd hc hk hlk hfa hv (hK _ _ _ _ _ h)
  | putfield i =>
    replace h := x_vr_e h
    obtain ⟨v, a, t, rfl, h⟩ := h
    replace h := x_obj_e h
    obtain ⟨ci, fs, hfa, h⟩ := h
    replace h := x_som_e h
    obtain ⟨kd, hal, h⟩ := h
    replace h := x_som_e h
    obtain ⟨v0, hv0, h⟩ := h
    replace h := x_okv_e h
    obtain ⟨h1, h⟩ := h
    obtain ⟨h2, -⟩ := List.getElem?_eq_some_iff.mp hv0
    obtain ⟨rfl, hfl⟩ : len = 3 ∧ x_fwr own ini i ax al := hf
    obtain ⟨C, T, N, ty, hc, hk, hlk, hfin, hty, hkd⟩ := hfl _ (x_lookup hal)
    exact x_s_put G hd hc hk hlk hfin hty (by rw [hkd]; exact h1) hfa h2 (hK _ _ _ _ _ h)
  | arraylength =>
    replace h := x_r1_e h
    obtain ⟨a, t, rfl, h⟩ := h
    replace h := x_arr_e h
    obtain ⟨ti, n, g, hfa, h⟩ := h
    obtain rfl : len = 1 := hf
    exact x_s_alen G hd hfa (hK _ _ _ _ _ h)
  | iaload =>
    replace h := x_ir_e h
    obtain ⟨i, a, t, rfl, h⟩ := h
    replace h := x_arr_e h
    obtain ⟨ti, n, g, hfa, h⟩ := h
    replace h := x_eqn_e h
    obtain ⟨rfl, h2, h⟩ := h
    obtain ⟨rfl, hty⟩ : len = 1 ∧ x_ty[ti]? = some .int := hf
    exact x_s_ald G hd hfa (Or.inl ⟨rfl, hty⟩) h2 (hK _ _ _ _ _ h)
  | baload =>
    replace h := x_ir_e h
    obtain ⟨i, a, t, rfl, h⟩ := h
    replace h := x_arr_e h
    obtain ⟨ti, n, g, hfa, h⟩ := h
    replace h := x_eqn_e h
    obtain ⟨rfl, h2, h⟩ := h
    obtain ⟨rfl, hty⟩ : len = 1 ∧ x_ty[ti]? = some .boolean := hf
    exact x_s_ald G hd hfa (Or.inr (Or.inl ⟨rfl, hty⟩)) h2 (hK _ _ _ _ _ h)
  | aaload =>
    replace h := x_ir_e h
    obtain ⟨i, a, t, rfl, h⟩ := h
    replace h := x_arr_e h
    obtain ⟨ti, n, g, hfa, h⟩ := h
    replace h := x_som_e h
    obtain ⟨kd, hal, h2, h⟩ := h
    obtain ⟨rfl, hty⟩ : len = 1 ∧ ∀ q ∈ al, ∃ C, x_ty[q.1]? = some (.object C) := hf
    exact x_s_ald G hd hfa (Or.inr (Or.inr ⟨rfl, hty _ (x_lookup hal)⟩)) h2 (hK _ _ _ _ _ h)
  | iastore =>
    replace h := x_vir_e h
    obtain ⟨v, i, a, t, rfl, h⟩ := h
    replace h := x_arr_e h
    obtain ⟨ti, n, g, hfa, h⟩ := h
    replace h := x_eqn_e h
    obtain ⟨rfl, h2, h⟩ := h
    replace h := x_okv_e h
    obtain ⟨h3, h⟩ := h
    obtain ⟨rfl, hty⟩ : len = 1 ∧ x_ty[ti]? = some .int := hf
    cases v <;> first
      | exact x_s_iast G hd hfa hty h2 (hK _ _ _ _ _ h)
      | exact h3.elim
      | exact absurd (show (0 : Nat) = 2 from h3) (by decide)
  | bastore =>
    replace h := x_vir_e h
    obtain ⟨v, i, a, t, rfl, h⟩ := h
    replace h := x_arr_e h
    obtain ⟨ti, n, g, hfa, h⟩ := h
    replace h := x_eqn_e h
    obtain ⟨rfl, h2, h⟩ := h
    replace h := x_okv_e h
    obtain ⟨h3, h⟩ := h
    obtain ⟨rfl, hty⟩ : len = 1 ∧ x_ty[ti]? = some .boolean := hf
    cases v <;> first
      | exact x_s_bast G hd hfa hty h2 (h3.elim (fun q => absurd q (by decide)) (fun q => q.2)) (hK _ _ _ _ _ h)
      | exact h3.elim
      | exact absurd (show (1 : Nat) = 2 from h3) (by decide)
  | aastore =>
    replace h := x_vir_e h
    obtain ⟨v, i, a, t, rfl, h⟩ := h
    replace h := x_arr_e h
    obtain ⟨ti, n, g, hfa, h2, h⟩ := h
    obtain ⟨rfl, hal⟩ : len = 1 ∧ ∀ q ∈ al, ∃ (E : String) (r : vw_C), x_ty[q.1]? = some (.object E) ∧ x_cl[q.2]? = some r ∧ (r.1 = E ∨ Cond.castable r.1 E ∈ lw_tbl) := hf
    cases v <;> first
      | (replace h := x_obj_e h
         obtain ⟨ci, fs, hfb, h⟩ := h
         replace h := x_tru_e h
         obtain ⟨h3, h⟩ := h
         obtain ⟨E, r, hty, hc, hca⟩ := hal _ (List.contains_iff_mem.mp h3)
         exact x_s_aast G hd hfa hty h2 hfb hc hca (hK _ _ _ _ _ h))
      | (replace h := x_som_e h
         obtain ⟨ci, h3, h⟩ := h
         obtain ⟨E, r, hty, hc, hca⟩ := hal _ (x_lookup h3)
         exact x_s_aastN G hd hfa hty h2 (hK _ _ _ _ _ h))
      | exact h.elim
  | new i =>
    replace h := x_leb_e h
    obtain ⟨h1, h⟩ := h
    replace h := x_leb_e h
    obtain ⟨h2, h⟩ := h
    obtain ⟨rfl, C, T, N, ty, hc, hcl, hin, hii, hty, hfs, hlen⟩ := hf
    exact x_s_new G hd hc hcl hin hii ty hty hfs hlen h1 h2 (fun q hq => hK _ _ _ _ _ (h q hq))
  | newarray aty =>
    replace h := x_i1_e h
    obtain ⟨n, t, rfl, h1, h2, h3, h4, h⟩ := h
    obtain ⟨rfl, hty, haty, hac⟩ := hf
    exact x_s_newa G hd hty haty hac h1 h2 h3 h4 (fun q hq => hK _ _ _ _ _ (h q hq))
  | anewarray i =>
    replace h := x_i1_e h
    obtain ⟨n, t, rfl, h1, h2, h3, h4, h⟩ := h
    obtain ⟨rfl, C, hty, hcl, hao⟩ := hf
    exact x_s_newq G hd hty hcl hao h1 h2 h3 h4 (fun q hq => hK _ _ _ _ _ (h q hq))
  | checkcast i =>
    replace h := x_v1_e h
    obtain ⟨v, t, rfl, h⟩ := h
    obtain ⟨rfl, nm, hcl, hal⟩ := hf
    cases v <;> first
      | (replace h := x_obj_e h
         obtain ⟨ci, fs, hfa, h⟩ := h
         replace h := x_som_e h
         obtain ⟨b, hb, h⟩ := h
         obtain ⟨r, hc, hca⟩ := hal _ (x_lookup hb)
         exact x_s_cast G hd hcl hfa hc hca (hK _ _ _ _ _ h))
      | exact (fun H locs lsA hP hD hS hl => lv_castN G.1 G.2.1 hd (hK _ _ _ _ _ h H locs lsA hP hD hS hl))
      | exact h.elim
  | instanceof i =>
    replace h := x_v1_e h
    obtain ⟨v, t, rfl, h⟩ := h
    obtain ⟨rfl, nm, hcl, hal⟩ := hf
    cases v with
    | null => exact (fun H locs lsA hP hD hS hl => lv_instN G.1 G.2.1 hd (hK _ _ _ _ _ h H locs lsA hP hD hS hl))
    | ref a =>
      replace h := x_obj_e h
      obtain ⟨ci, fs, hfa, h⟩ := h
      replace h := x_som_e h
      obtain ⟨b, hb, h⟩ := h
      obtain ⟨r, hc, hca⟩ := hal _ (x_lookup hb)
      replace h := x_bit_e h
      rcases h with ⟨rfl, h⟩ | ⟨rfl, h⟩
      · exact x_s_inst G hd hcl hfa hc (Or.inr ⟨hca.elim (fun q => absurd (show (0 : Nat) = 1 from q.1) (by decide)) (fun q => q.2), hK _ _ _ _ _ h⟩)
      · exact x_s_inst G hd hcl hfa hc (Or.inl ⟨hca.elim (fun q => q.2) (fun q => absurd (show (1 : Nat) = 0 from q.1) (by decide)), hK _ _ _ _ _ h⟩)
    | _ => exact h.elim
  | ldc i =>
    obtain ⟨rfl, ⟨rfl, hlk⟩ | ⟨hne, hlk⟩⟩ := hf
    · intro H locs lsA hP hD hS hl
      exact lv_ldc G.1 G.2.1 G.2.2.2.1 (G.2.2.2.2.1 _ hlk) hd (hK _ _ _ _ _ h H locs lsA hP hD hS hl)
    · cases al with
      | nil => exact absurd rfl hne
      | cons q r =>
        intro H locs lsA hP hD hS hl
        exact va_ldcM G.1 G.2.1 G.2.2.2.1 (G.2.2.2.2.1 _ hlk) G.2.2.2.2.2.1.2.2.2.2.2.2 hd (hK _ _ _ _ _ h H locs lsA hP hD hS hl)
  | invokestatic i =>
    replace h := x_som_e h
    obtain ⟨⟨q1, q2⟩, hq, h⟩ := h
    obtain ⟨rfl, hal⟩ := hf
    rcases hal _ (List.mem_of_getElem? hq) with ⟨hq2, hs⟩ | ⟨hq2, hs⟩
    · have hq2 : q2 = 0 := hq2
      subst hq2
      replace h := x_pop_e _ _ _ _ h
      obtain ⟨h1, h⟩ := h
      replace h := x_le4_e h
      obtain ⟨h2, h⟩ := h
      rw [List.append_nil] at h
      exact x_s_static G hd hs h1 h2 (x_call_map (fun _ _ _ _ z => hK _ _ _ _ _ z) h)
    · have hq2 : q2 = 3 := hq2
      subst hq2
      replace h := x_cpy_e h
      obtain ⟨n, dp, d, sp, s0, t, rfl, h⟩ := h
      replace h := x_le4_e h
      obtain ⟨h1, h⟩ := h
      replace h := x_leb_e h
      obtain ⟨h2, h⟩ := h
      replace h := x_leb_e h
      obtain ⟨h3, h⟩ := h
      replace h := x_arr_e h
      obtain ⟨ti0, n0, g0, hf0, h⟩ := h
      replace h := x_arr_e h
      obtain ⟨ti1, n1, g1, hf1, h⟩ := h
      replace h := x_eqn_e h
      obtain ⟨rfl, h⟩ := h
      replace h := x_eqn_e h
      obtain ⟨rfl, ⟨c1, c2, c3, c4, c5, c6⟩, h⟩ := h
      exact x_s_cpy G hd hs hf0 hf1 c1 c2 c3 c4 c5 c6 h1 h2 h3 (hK _ _ _ _ _ h)
  | invokespecial i =>
    obtain ⟨rfl, ⟨rfl, hm1, hm2, hm3⟩ | ⟨hne, hal⟩⟩ := hf
    · replace h := x_r1_e h
      obtain ⟨a, t, rfl, h⟩ := h
      replace h := x_le4_e h
      obtain ⟨h1, h⟩ := h
      replace h := x_leb_e h
      obtain ⟨h2, h⟩ := h
      replace h := x_leb_e h
      obtain ⟨h3, h⟩ := h
      intro H locs lsA hP hD hS hl
      obtain ⟨hx, hb, hml, hown, hts, hKK, hz, -, -, -, hZ, rfl⟩ := G
      have h5 := x_room (m := m) (pc := pc) (ls := lsA) (rest := .ref a :: t) h1
      exact W.objInit hx hb hown (hts _ hm1) (hts _ hm2) (hts _ hm3) rfl (by rw [hml]; exact hl.1) rfl hd h2 (by show _ ≤ lo; omega) (hK _ _ _ _ _ h H locs lsA hP hD hS hl)
    · cases al with
      | nil => exact absurd rfl hne
      | cons q r =>
        replace h := x_pop_e _ _ _ _ h
        obtain ⟨h1, h⟩ := h
        replace h := x_r1_e h
        obtain ⟨b, t, hdr, h⟩ := h
        replace h := x_le4_e h
        obtain ⟨h2, h⟩ := h
        rw [List.append_nil] at h
        exact x_s_init G hd (hal _ List.mem_cons_self) h1 hdr h2 (x_call_map (fun _ _ _ _ z => hK _ _ _ _ _ z) h)
  | invokevirtual i =>
    obtain ⟨rfl, hg, hal⟩ := hf
    cases al with
    | nil =>
      replace h := x_r1_e h
      obtain ⟨a, t, rfl, h⟩ := h
      replace h := x_le4_e h
      obtain ⟨h1, h⟩ := h
      replace h := x_leb_e h
      obtain ⟨h2, h⟩ := h
      replace h := x_leb_e h
      obtain ⟨h3, h⟩ := h
      replace h := x_arr_e h
      obtain ⟨ti, n, g, hfa, h⟩ := h
      replace h := x_eqn_e h
      obtain ⟨rfl, h⟩ := h
      exact x_s_getC G hd (hg rfl) hfa h1 h2 h3 (hK _ _ _ _ _ h)
    | cons q0 r0 =>
      replace h := x_pop_e _ _ _ _ h
      obtain ⟨h1, h⟩ := h
      replace h := x_r1_e h
      obtain ⟨b, t, hdr, h⟩ := h
      replace h := x_le4_e h
      obtain ⟨h2, h⟩ := h
      rw [List.append_nil] at h
      replace h := x_obj_e h
      obtain ⟨ci, fs, hfb, h⟩ := h
      replace h := x_som_e h
      obtain ⟨y, hy, h⟩ := h
      exact x_s_virt G hd (hal _ (x_lookup hy)) h1 hdr h2 hfb (x_call_map (fun _ _ _ _ z => hK _ _ _ _ _ z) h)
  | _ => exact False.elim h
def x_fits (own : String) (nL : Nat) (rt : Option FieldType) (ini : Bool) (cc : ByteArray) : Nat → List XO → Prop
  | _, [] => True
  | pc, o :: r => (decode cc pc = .ok (o.1, o.2.1) ∧ x_fit own nL rt ini pc o) ∧ x_fits own nL rt ini cc (pc + o.2.1) r
theorem x_run_sound (G : x_ctx X p R s m args meth c cc nL own ini rt fr lo mc ms) (J : XJ) (hJ : ∀ pc ls st f nc ns, J pc ls st f nc ns → x_go X p e R s m args below meth c nL mc ms RQ pc ls st f nc ns) :
    ∀ (ops : List XO) (pc : Nat) (ls : XL) (st : List Value) (f : XH) (nc ns : Nat), x_fits own nL rt ini cc pc ops → x_run X fr lo mc ms J RQ ops pc ls st f nc ns → x_go X p e R s m args below meth c nL mc ms RQ pc ls st f nc ns
  | [], pc, ls, st, f, nc, ns, _, h => hJ _ _ _ _ _ _ h
  | o :: r, pc, ls, st, f, nc, ns, hf, h => x_step_sound G o hf.1.1 hf.1.2 J hJ _ (fun ls st f nc ns hk => x_run_sound G J hJ r _ ls st f nc ns hf.2 hk) h
end XS
/-- a method: its class's name, whether it is a constructor, its blocks -/
def x_mok (y : Nat) (own : String) (ini : Bool) (B : List (Nat × List XO)) : Prop :=
  (x_mt y).1.cls = own ∧ plainFor (x_mt y).1 = true ∧ (ini = true → (x_mt y).1.name = "<init>") ∧ ∀ q ∈ B, x_fits own (x_mt y).2.2.1 (x_mt y).2.2.2 ini (x_mt y).2.1 q.1 q.2
def x_arg (av : List Value) : XL := fun i => av[i]?
theorem x_arg_has (av : List Value) {n : Nat} (hav : ∀ v ∈ av, x_one v) (hn : av.length ≤ n) : x_has ((lg_sl av ++ List.replicate (n - (lg_sl av).length) Slot.unset).toArray) n (x_arg av) := by
  have h1 : ∀ l : List Value, (∀ v ∈ l, x_one v) → (lg_sl l).length = l.length := by
    intro l
    induction l with
    | nil => intro _; rfl
    | cons v t ih =>
      intro h
      have hv := x_one_c (h v List.mem_cons_self)
      have ih := ih (fun w hw => h w (List.mem_cons_of_mem _ hw))
      have e : lg_sl (v :: t) = .val v :: lg_sl t := by simp [lg_sl, hv]
      rw [e, List.length_cons, ih, List.length_cons]
  have h2 : ∀ (l : List Value) (k i : Nat) (v : Value), (∀ v ∈ l, x_one v) → l[i]? = some v → (k + i, v) ∈ lv_args k l := by
    intro l
    induction l with
    | nil => intro k i v _ h; cases h
    | cons w t ih =>
      intro k i v h hi
      have hw := x_one_c (h w List.mem_cons_self)
      cases i with
      | zero =>
        cases hi
        exact List.mem_cons_self
      | succ j =>
        have := ih (k + 1) j v (fun w hw => h w (List.mem_cons_of_mem _ hw)) hi
        rw [show k + (j + 1) = k + 1 + j by omega]
        unfold lv_args
        rw [if_neg (by rw [hw]; decide)]
        exact List.mem_cons_of_mem _ this
  have h3 := lv_entry av (n := n) (by rw [h1 av hav]; exact hn)
  refine ⟨h3.1, h3.2.1, fun i v hi => ⟨?_, x_one_c (hav v (List.mem_of_getElem? hi))⟩⟩
  have := h2 av 0 i v hav hi
  rw [Nat.zero_add] at this
  exact h3.2.2 _ this
theorem x_met {X : XC} {y : Nat} {own : String} {ini : Bool} {B : List (Nat × List XO)} {av : List Value} {f : XH} {fr lo mc ms : Nat} {RQ : Option Value → XH → Prop} (hm : x_mok y own ini B) (hav : ∀ v ∈ av, x_one v) (hn : av.length ≤ (x_mt y).2.2.1)
    (h : ∀ go : XJ, (∀ pc ops ls st f nc ns, B.lookup pc = some ops → x_run X fr lo mc ms go RQ ops pc ls st f nc ns → go pc ls st f nc ns) → go 0 (x_arg av) [] f 0 0) : Holds X y av f fr lo mc ms RQ := by
  obtain ⟨hown, hpl, hin, hB⟩ := hm
  refine va_MetF (cc := (x_mt y).2.1) (maxL := (x_mt y).2.2.1) (ret := (x_mt y).2.2.2) hpl rfl ?_
  intro p e s m args below meth c s₁ Bd hml hv
  obtain ⟨rfl, hP, hD, hK, hz, hZ⟩ := hv
  have hts := atoms_spec (ws := x_mw y) Bd.pre
  have hfc : s.vm.findClass own = some m.cls := by rw [← hown]; exact findClass_of_methodNamed Bd.named
  have hnm := (name_of_methodNamed Bd.named Bd.method).1
  have G : x_ctx X p { frames := fr, cells := mc, slots := ms, locals := lo } s m av.toArray meth c (x_mt y).2.1 (x_mt y).2.2.1 own ini (x_mt y).2.2.2 fr lo mc ms :=
    ⟨Bd.exec, Bd.bytes, hml, hfc, fun w hw => hts w (List.mem_cons_of_mem _ hw), hK, hz, Bd.returns, Bd.notSynchronized, fun q => hnm.trans (hin q), hZ, rfl⟩
  have hgo := h (x_go X p e { frames := fr, cells := mc, slots := ms, locals := lo } s m av.toArray below meth c (x_mt y).2.2.1 mc ms RQ) (fun pc ops ls st f nc ns hl hr => x_run_sound G _ (fun _ _ _ _ _ _ q => q) ops pc ls st f nc ns (hB _ (x_lookupB hl)) hr)
  rw [lg_entry_eq]
  exact hgo s.heap [] _ hP hD va_S.rf (x_arg_has av hav hn)
end
section
/-! Printed by wip/whole/gen.py: what the tables say of each link that an instruction uses. -/
theorem x_fld_0 {own : String} {i k : Nat} : x_fld own i k [] := fun _ h => nomatch h
theorem x_fld_1 {own : String} {i k ci kd : Nat} {al : List (Nat × Nat)} {C : String} {T : u_T} {N : Nat} (hc : x_cl[ci]? = some (C, T, N)) (hk : k < N) (hl : x_lnk own i (T k)) (hr : x_fld own i k al) : x_fld own i k ((ci, kd) :: al) :=
  List.forall_mem_cons.mpr ⟨⟨C, T, N, hc, hk, hl⟩, hr⟩
theorem x_fwr_0 {own : String} {ini : Bool} {i k : Nat} : x_fwr own ini i k [] := fun _ h => nomatch h
theorem x_fwr_1 {own : String} {ini : Bool} {i k ci kd : Nat} {al : List (Nat × Nat)} {C : String} {T : u_T} {N : Nat} (ty : FieldType) (hc : x_cl[ci]? = some (C, T, N)) (hk : k < N) (hl : x_lnk own i (T k)) (hf : (T k).2.2.2 = false ∨ ((T k).2.2.2 = true ∧ (T k).1 = own ∧ ini = true ∧ Cond.fieldLink own i own (T k).2.1 (T k).2.2.1 ∈ x_ws)) (ht : parseFieldDescriptor (T k).2.2.1 = some ty) (hkd : x_kd ty = kd) (hr : x_fwr own ini i k al) : x_fwr own ini i k ((ci, kd) :: al) :=
  List.forall_mem_cons.mpr ⟨⟨C, T, N, ty, hc, hk, hl, hf, ht, hkd⟩, hr⟩
def x_nw (own : String) (i ci : Nat) : Prop := ∃ (C : String) (T : u_T) (N : Nat) (ty : Nat → FieldType), x_cl[ci]? = some (C, T, N) ∧ Cond.classLink own i C ∈ x_ws ∧ Cond.instantiable C N ∈ x_ws ∧ Cond.initialized C ∈ x_ws ∧ (∀ k, k < N → parseFieldDescriptor (T k).2.2.1 = some (ty k)) ∧ (∀ j, j < N → defaultValue (ty j) = vp_V (x_df ci) j) ∧ (x_df ci).length = N
def x_aq (own : String) (i ti : Nat) : Prop := ∃ C, x_ty[ti]? = some (.object C) ∧ Cond.classLink own i C ∈ x_ws ∧ C ∈ x_ao
def x_cq (own : String) (i : Nat) (al : List (Nat × Nat)) : Prop := ∃ nm, Cond.classLink own i nm ∈ x_ws ∧ ∀ q ∈ al, ∃ r : vw_C, x_cl[q.1]? = some r ∧ (r.1 = nm ∨ Cond.castable r.1 nm ∈ lw_tbl)
def x_iq (own : String) (i : Nat) (al : List (Nat × Nat)) : Prop := ∃ nm, Cond.classLink own i nm ∈ x_ws ∧ ∀ q ∈ al, ∃ r : vw_C, x_cl[q.1]? = some r ∧ ((q.2 = 1 ∧ (r.1 = nm ∨ Cond.castable r.1 nm ∈ lw_tbl)) ∨ (q.2 = 0 ∧ (r.1, nm) ∈ x_nc))
def x_oq (own : String) (i : Nat) : Prop := Cond.methodLink own i Lib.objectInit ∈ x_ws ∧ Cond.instanceMethod Lib.objectInit ∈ x_ws ∧ Cond.code Lib.objectInit ⟨#[0xb1]⟩ 1 none ∈ x_ws
theorem x_n {w : Cond} (i : Nat) (h : lw_tbl[i]? = some w) : w ∈ lw_tbl := List.mem_of_getElem? h
theorem x_d0 : ∀ j, j < 3 → defaultValue (x_t0 j) = vp_V (x_df 0) j := fun j hj => match j, hj with
  | 0, _ => rfl
  | 1, _ => rfl
  | 2, _ => rfl
  | k + 3, h => absurd h (by omega)
theorem x_d1 : ∀ j, j < 2 → defaultValue (x_t1 j) = vp_V (x_df 1) j := fun j hj => match j, hj with
  | 0, _ => rfl
  | 1, _ => rfl
  | k + 2, h => absurd h (by omega)
theorem x_d2 : ∀ j, j < 1 → defaultValue (x_t2 j) = vp_V (x_df 2) j := fun j hj => match j, hj with
  | 0, _ => rfl
  | k + 1, h => absurd h (by omega)
theorem x_d3 : ∀ j, j < 3 → defaultValue (x_t3 j) = vp_V (x_df 3) j := fun j hj => match j, hj with
  | 0, _ => rfl
  | 1, _ => rfl
  | 2, _ => rfl
  | k + 3, h => absurd h (by omega)
theorem x_d4 : ∀ j, j < 10 → defaultValue (x_t4 j) = vp_V (x_df 4) j := fun j hj => match j, hj with
  | 0, _ => rfl
  | 1, _ => rfl
  | 2, _ => rfl
  | 3, _ => rfl
  | 4, _ => rfl
  | 5, _ => rfl
  | 6, _ => rfl
  | 7, _ => rfl
  | 8, _ => rfl
  | 9, _ => rfl
  | k + 10, h => absurd h (by omega)
theorem x_d5 : ∀ j, j < 4 → defaultValue (x_t5 j) = vp_V (x_df 5) j := fun j hj => match j, hj with
  | 0, _ => rfl
  | 1, _ => rfl
  | 2, _ => rfl
  | 3, _ => rfl
  | k + 4, h => absurd h (by omega)
theorem x_d6 : ∀ j, j < 8 → defaultValue (x_t6 j) = vp_V (x_df 6) j := fun j hj => match j, hj with
  | 0, _ => rfl
  | 1, _ => rfl
  | 2, _ => rfl
  | 3, _ => rfl
  | 4, _ => rfl
  | 5, _ => rfl
  | 6, _ => rfl
  | 7, _ => rfl
  | k + 8, h => absurd h (by omega)
theorem x_d7 : ∀ j, j < 12 → defaultValue (x_t7 j) = vp_V (x_df 7) j := fun j hj => match j, hj with
  | 0, _ => rfl
  | 1, _ => rfl
  | 2, _ => rfl
  | 3, _ => rfl
  | 4, _ => rfl
  | 5, _ => rfl
  | 6, _ => rfl
  | 7, _ => rfl
  | 8, _ => rfl
  | 9, _ => rfl
  | 10, _ => rfl
  | 11, _ => rfl
  | k + 12, h => absurd h (by omega)
theorem x_d8 : ∀ j, j < 11 → defaultValue (x_t8 j) = vp_V (x_df 8) j := fun j hj => match j, hj with
  | 0, _ => rfl
  | 1, _ => rfl
  | 2, _ => rfl
  | 3, _ => rfl
  | 4, _ => rfl
  | 5, _ => rfl
  | 6, _ => rfl
  | 7, _ => rfl
  | 8, _ => rfl
  | 9, _ => rfl
  | 10, _ => rfl
  | k + 11, h => absurd h (by omega)
theorem x_d9 : ∀ j, j < 6 → defaultValue (x_t9 j) = vp_V (x_df 9) j := fun j hj => match j, hj with
  | 0, _ => rfl
  | 1, _ => rfl
  | 2, _ => rfl
  | 3, _ => rfl
  | 4, _ => rfl
  | 5, _ => rfl
  | k + 6, h => absurd h (by omega)
theorem x_d10 : ∀ j, j < 10 → defaultValue (x_t10 j) = vp_V (x_df 10) j := fun j hj => match j, hj with
  | 0, _ => rfl
  | 1, _ => rfl
  | 2, _ => rfl
  | 3, _ => rfl
  | 4, _ => rfl
  | 5, _ => rfl
  | 6, _ => rfl
  | 7, _ => rfl
  | 8, _ => rfl
  | 9, _ => rfl
  | k + 10, h => absurd h (by omega)
theorem x_d11 : ∀ j, j < 46 → defaultValue (x_t11 j) = vp_V (x_df 11) j := fun j hj => match j, hj with
  | 0, _ => rfl
  | 1, _ => rfl
  | 2, _ => rfl
  | 3, _ => rfl
  | 4, _ => rfl
  | 5, _ => rfl
  | 6, _ => rfl
  | 7, _ => rfl
  | 8, _ => rfl
  | 9, _ => rfl
  | 10, _ => rfl
  | 11, _ => rfl
  | 12, _ => rfl
  | 13, _ => rfl
  | 14, _ => rfl
  | 15, _ => rfl
  | 16, _ => rfl
  | 17, _ => rfl
  | 18, _ => rfl
  | 19, _ => rfl
  | 20, _ => rfl
  | 21, _ => rfl
  | 22, _ => rfl
  | 23, _ => rfl
  | 24, _ => rfl
  | 25, _ => rfl
  | 26, _ => rfl
  | 27, _ => rfl
  | 28, _ => rfl
  | 29, _ => rfl
  | 30, _ => rfl
  | 31, _ => rfl
  | 32, _ => rfl
  | 33, _ => rfl
  | 34, _ => rfl
  | 35, _ => rfl
  | 36, _ => rfl
  | 37, _ => rfl
  | 38, _ => rfl
  | 39, _ => rfl
  | 40, _ => rfl
  | 41, _ => rfl
  | 42, _ => rfl
  | 43, _ => rfl
  | 44, _ => rfl
  | 45, _ => rfl
  | k + 46, h => absurd h (by omega)
theorem x_m2 : x_ms 2 0 := ⟨x_w 93 (by decide +kernel) (by decide +kernel), x_w 61 (by decide +kernel) (by decide +kernel), ⟨(by decide +kernel), (by decide +kernel), (by decide +kernel)⟩⟩
theorem x_m3 : x_ms 3 0 := ⟨x_w 111 (by decide +kernel) (by decide +kernel), x_w 62 (by decide +kernel) (by decide +kernel), ⟨(by decide +kernel), (by decide +kernel), (by decide +kernel)⟩⟩
theorem x_m4 : x_ms 4 0 := ⟨x_w 126 (by decide +kernel) (by decide +kernel), x_w 63 (by decide +kernel) (by decide +kernel), ⟨(by decide +kernel), (by decide +kernel), (by decide +kernel)⟩⟩
theorem x_m5 : x_ms 5 0 := ⟨x_w 142 (by decide +kernel) (by decide +kernel), x_w 66 (by decide +kernel) (by decide +kernel), ⟨(by decide +kernel), (by decide +kernel), (by decide +kernel)⟩⟩
theorem x_m6 : x_ms 6 0 := ⟨x_w 145 (by decide +kernel) (by decide +kernel), x_w 65 (by decide +kernel) (by decide +kernel), ⟨(by decide +kernel), (by decide +kernel), (by decide +kernel)⟩⟩
theorem x_m7 : x_ms 7 0 := ⟨x_w 148 (by decide +kernel) (by decide +kernel), x_w 64 (by decide +kernel) (by decide +kernel), ⟨(by decide +kernel), (by decide +kernel), (by decide +kernel)⟩⟩
theorem x_m8 : x_ms 8 1 := ⟨x_w 167 (by decide +kernel) (by decide +kernel), x_w 67 (by decide +kernel) (by decide +kernel), ⟨(by decide +kernel), (by decide +kernel), (by decide +kernel)⟩⟩
theorem x_m10 : x_ms 10 2 := ⟨x_w 246 (by decide +kernel) (by decide +kernel), x_w 60 (by decide +kernel) (by decide +kernel), ⟨(by decide +kernel), (by decide +kernel), (by decide +kernel)⟩⟩
theorem x_m11 : x_ms 11 3 := ⟨x_w 250 (by decide +kernel) (by decide +kernel), x_w 69 (by decide +kernel) (by decide +kernel), ⟨(by decide +kernel), (by decide +kernel), (by decide +kernel)⟩⟩
theorem x_m12 : x_ms 12 3 := ⟨x_w 274 (by decide +kernel) (by decide +kernel), x_w 71 (by decide +kernel) (by decide +kernel), ⟨(by decide +kernel), (by decide +kernel), (by decide +kernel)⟩⟩
theorem x_m13 : x_ms 13 3 := ⟨x_w 277 (by decide +kernel) (by decide +kernel), x_w 70 (by decide +kernel) (by decide +kernel), ⟨(by decide +kernel), (by decide +kernel), (by decide +kernel)⟩⟩
theorem x_m14 : x_ms 14 3 := ⟨x_w 321 (by decide +kernel) (by decide +kernel), x_w 72 (by decide +kernel) (by decide +kernel), ⟨(by decide +kernel), (by decide +kernel), (by decide +kernel)⟩⟩
theorem x_m16 : x_ms 16 1 := ⟨x_w 365 (by decide +kernel) (by decide +kernel), x_w 60 (by decide +kernel) (by decide +kernel), ⟨(by decide +kernel), (by decide +kernel), (by decide +kernel)⟩⟩
theorem x_m17 : x_ms 17 1 := ⟨x_w 369 (by decide +kernel) (by decide +kernel), x_w 60 (by decide +kernel) (by decide +kernel), ⟨(by decide +kernel), (by decide +kernel), (by decide +kernel)⟩⟩
theorem x_m18 : x_ms 18 1 := ⟨x_w 373 (by decide +kernel) (by decide +kernel), x_w 72 (by decide +kernel) (by decide +kernel), ⟨(by decide +kernel), (by decide +kernel), (by decide +kernel)⟩⟩
theorem x_m19 : x_ms 19 0 := ⟨x_w 377 (by decide +kernel) (by decide +kernel), x_w 66 (by decide +kernel) (by decide +kernel), ⟨(by decide +kernel), (by decide +kernel), (by decide +kernel)⟩⟩
theorem x_m20 : x_ms 20 1 := ⟨x_w 381 (by decide +kernel) (by decide +kernel), x_w 66 (by decide +kernel) (by decide +kernel), ⟨(by decide +kernel), (by decide +kernel), (by decide +kernel)⟩⟩
theorem x_m21 : x_ms 21 2 := ⟨x_w 384 (by decide +kernel) (by decide +kernel), x_w 73 (by decide +kernel) (by decide +kernel), ⟨(by decide +kernel), (by decide +kernel), (by decide +kernel)⟩⟩
theorem x_m22 : x_ms 22 3 := ⟨x_w 387 (by decide +kernel) (by decide +kernel), x_w 74 (by decide +kernel) (by decide +kernel), ⟨(by decide +kernel), (by decide +kernel), (by decide +kernel)⟩⟩
theorem x_m23 : x_ms 23 1 := ⟨x_w 391 (by decide +kernel) (by decide +kernel), x_w 66 (by decide +kernel) (by decide +kernel), ⟨(by decide +kernel), (by decide +kernel), (by decide +kernel)⟩⟩
theorem x_m24 : x_ms 24 3 := ⟨x_w 394 (by decide +kernel) (by decide +kernel), x_w 72 (by decide +kernel) (by decide +kernel), ⟨(by decide +kernel), (by decide +kernel), (by decide +kernel)⟩⟩
theorem x_m25 : x_ms 25 1 := ⟨x_w 400 (by decide +kernel) (by decide +kernel), x_w 66 (by decide +kernel) (by decide +kernel), ⟨(by decide +kernel), (by decide +kernel), (by decide +kernel)⟩⟩
theorem x_m26 : x_ms 26 3 := ⟨x_w 404 (by decide +kernel) (by decide +kernel), x_w 66 (by decide +kernel) (by decide +kernel), ⟨(by decide +kernel), (by decide +kernel), (by decide +kernel)⟩⟩
theorem x_m27 : x_ms 27 0 := ⟨x_w 408 (by decide +kernel) (by decide +kernel), x_w 66 (by decide +kernel) (by decide +kernel), ⟨(by decide +kernel), (by decide +kernel), (by decide +kernel)⟩⟩
theorem x_m28 : x_ms 28 1 := ⟨x_w 412 (by decide +kernel) (by decide +kernel), x_w 66 (by decide +kernel) (by decide +kernel), ⟨(by decide +kernel), (by decide +kernel), (by decide +kernel)⟩⟩
theorem x_m29 : x_ms 29 3 := ⟨x_w 415 (by decide +kernel) (by decide +kernel), x_w 75 (by decide +kernel) (by decide +kernel), ⟨(by decide +kernel), (by decide +kernel), (by decide +kernel)⟩⟩
theorem x_m30 : x_ms 30 2 := ⟨x_w 418 (by decide +kernel) (by decide +kernel), x_w 76 (by decide +kernel) (by decide +kernel), ⟨(by decide +kernel), (by decide +kernel), (by decide +kernel)⟩⟩
theorem x_m31 : x_ms 31 2 := ⟨x_w 422 (by decide +kernel) (by decide +kernel), x_w 75 (by decide +kernel) (by decide +kernel), ⟨(by decide +kernel), (by decide +kernel), (by decide +kernel)⟩⟩
theorem x_m32 : x_ms 32 2 := ⟨x_w 425 (by decide +kernel) (by decide +kernel), x_w 77 (by decide +kernel) (by decide +kernel), ⟨(by decide +kernel), (by decide +kernel), (by decide +kernel)⟩⟩
theorem x_m33 : x_ms 33 3 := ⟨x_w 444 (by decide +kernel) (by decide +kernel), x_w 77 (by decide +kernel) (by decide +kernel), ⟨(by decide +kernel), (by decide +kernel), (by decide +kernel)⟩⟩
theorem x_m34 : x_ms 34 2 := ⟨x_w 450 (by decide +kernel) (by decide +kernel), x_w 76 (by decide +kernel) (by decide +kernel), ⟨(by decide +kernel), (by decide +kernel), (by decide +kernel)⟩⟩
theorem x_m36 : x_ms 36 2 := ⟨x_w 463 (by decide +kernel) (by decide +kernel), x_w 63 (by decide +kernel) (by decide +kernel), ⟨(by decide +kernel), (by decide +kernel), (by decide +kernel)⟩⟩
theorem x_m38 : x_ms 38 1 := ⟨x_w 471 (by decide +kernel) (by decide +kernel), x_w 72 (by decide +kernel) (by decide +kernel), ⟨(by decide +kernel), (by decide +kernel), (by decide +kernel)⟩⟩
theorem x_m39 : x_ms 39 0 := ⟨x_w 476 (by decide +kernel) (by decide +kernel), x_w 61 (by decide +kernel) (by decide +kernel), ⟨(by decide +kernel), (by decide +kernel), (by decide +kernel)⟩⟩
theorem x_m40 : x_ms 40 3 := ⟨x_w 480 (by decide +kernel) (by decide +kernel), x_w 61 (by decide +kernel) (by decide +kernel), ⟨(by decide +kernel), (by decide +kernel), (by decide +kernel)⟩⟩
theorem x_m41 : x_ms 41 0 := ⟨x_w 484 (by decide +kernel) (by decide +kernel), x_w 60 (by decide +kernel) (by decide +kernel), ⟨(by decide +kernel), (by decide +kernel), (by decide +kernel)⟩⟩
theorem x_m43 : x_ms 43 3 := ⟨x_w 494 (by decide +kernel) (by decide +kernel), x_w 79 (by decide +kernel) (by decide +kernel), ⟨(by decide +kernel), (by decide +kernel), (by decide +kernel)⟩⟩
theorem x_m44 : x_ms 44 0 := ⟨x_w 530 (by decide +kernel) (by decide +kernel), x_w 79 (by decide +kernel) (by decide +kernel), ⟨(by decide +kernel), (by decide +kernel), (by decide +kernel)⟩⟩
theorem x_m45 : x_ms 45 0 := ⟨x_w 535 (by decide +kernel) (by decide +kernel), x_w 79 (by decide +kernel) (by decide +kernel), ⟨(by decide +kernel), (by decide +kernel), (by decide +kernel)⟩⟩
theorem x_m46 : x_ms 46 0 := ⟨x_w 539 (by decide +kernel) (by decide +kernel), x_w 62 (by decide +kernel) (by decide +kernel), ⟨(by decide +kernel), (by decide +kernel), (by decide +kernel)⟩⟩
theorem x_m47 : x_ms 47 0 := ⟨x_w 543 (by decide +kernel) (by decide +kernel), x_w 60 (by decide +kernel) (by decide +kernel), ⟨(by decide +kernel), (by decide +kernel), (by decide +kernel)⟩⟩
theorem x_m48 : x_ms 48 1 := ⟨x_w 547 (by decide +kernel) (by decide +kernel), x_w 60 (by decide +kernel) (by decide +kernel), ⟨(by decide +kernel), (by decide +kernel), (by decide +kernel)⟩⟩
theorem x_m49 : x_ms 49 0 := ⟨x_w 551 (by decide +kernel) (by decide +kernel), x_w 66 (by decide +kernel) (by decide +kernel), ⟨(by decide +kernel), (by decide +kernel), (by decide +kernel)⟩⟩
theorem x_m50 : x_ms 50 3 := ⟨x_w 558 (by decide +kernel) (by decide +kernel), x_w 71 (by decide +kernel) (by decide +kernel), ⟨(by decide +kernel), (by decide +kernel), (by decide +kernel)⟩⟩
theorem x_m51 : x_ms 51 3 := ⟨x_w 561 (by decide +kernel) (by decide +kernel), x_w 79 (by decide +kernel) (by decide +kernel), ⟨(by decide +kernel), (by decide +kernel), (by decide +kernel)⟩⟩
theorem x_m52 : x_ms 52 1 := ⟨x_w 565 (by decide +kernel) (by decide +kernel), x_w 67 (by decide +kernel) (by decide +kernel), ⟨(by decide +kernel), (by decide +kernel), (by decide +kernel)⟩⟩
theorem x_m53 : x_ms 53 3 := ⟨x_w 568 (by decide +kernel) (by decide +kernel), x_w 72 (by decide +kernel) (by decide +kernel), ⟨(by decide +kernel), (by decide +kernel), (by decide +kernel)⟩⟩
theorem x_m54 : x_ms 54 1 := ⟨x_w 573 (by decide +kernel) (by decide +kernel), x_w 67 (by decide +kernel) (by decide +kernel), ⟨(by decide +kernel), (by decide +kernel), (by decide +kernel)⟩⟩
theorem x_m55 : x_ms 55 0 := ⟨x_w 577 (by decide +kernel) (by decide +kernel), x_w 67 (by decide +kernel) (by decide +kernel), ⟨(by decide +kernel), (by decide +kernel), (by decide +kernel)⟩⟩
theorem x_m56 : x_ms 56 1 := ⟨x_w 583 (by decide +kernel) (by decide +kernel), x_w 66 (by decide +kernel) (by decide +kernel), ⟨(by decide +kernel), (by decide +kernel), (by decide +kernel)⟩⟩
theorem x_m57 : x_ms 57 2 := ⟨x_w 587 (by decide +kernel) (by decide +kernel), x_w 66 (by decide +kernel) (by decide +kernel), ⟨(by decide +kernel), (by decide +kernel), (by decide +kernel)⟩⟩
theorem x_m58 : x_ms 58 3 := ⟨x_w 592 (by decide +kernel) (by decide +kernel), x_w 60 (by decide +kernel) (by decide +kernel), ⟨(by decide +kernel), (by decide +kernel), (by decide +kernel)⟩⟩
theorem x_m59 : x_ms 59 1 := ⟨x_w 598 (by decide +kernel) (by decide +kernel), x_w 71 (by decide +kernel) (by decide +kernel), ⟨(by decide +kernel), (by decide +kernel), (by decide +kernel)⟩⟩
theorem x_m60 : x_ms 60 1 := ⟨x_w 602 (by decide +kernel) (by decide +kernel), x_w 79 (by decide +kernel) (by decide +kernel), ⟨(by decide +kernel), (by decide +kernel), (by decide +kernel)⟩⟩
theorem x_m61 : x_ms 61 1 := ⟨x_w 606 (by decide +kernel) (by decide +kernel), x_w 72 (by decide +kernel) (by decide +kernel), ⟨(by decide +kernel), (by decide +kernel), (by decide +kernel)⟩⟩
theorem x_m62 : x_ms 62 3 := ⟨x_w 610 (by decide +kernel) (by decide +kernel), x_w 67 (by decide +kernel) (by decide +kernel), ⟨(by decide +kernel), (by decide +kernel), (by decide +kernel)⟩⟩
theorem x_m63 : x_ms 63 1 := ⟨x_w 615 (by decide +kernel) (by decide +kernel), x_w 67 (by decide +kernel) (by decide +kernel), ⟨(by decide +kernel), (by decide +kernel), (by decide +kernel)⟩⟩
theorem x_m64 : x_ms 64 1 := ⟨x_w 619 (by decide +kernel) (by decide +kernel), x_w 80 (by decide +kernel) (by decide +kernel), ⟨(by decide +kernel), (by decide +kernel), (by decide +kernel)⟩⟩
theorem x_m65 : x_ms 65 1 := ⟨x_w 624 (by decide +kernel) (by decide +kernel), x_w 60 (by decide +kernel) (by decide +kernel), ⟨(by decide +kernel), (by decide +kernel), (by decide +kernel)⟩⟩
theorem x_m66 : x_ms 66 0 := ⟨x_w 628 (by decide +kernel) (by decide +kernel), x_w 80 (by decide +kernel) (by decide +kernel), ⟨(by decide +kernel), (by decide +kernel), (by decide +kernel)⟩⟩
theorem x_m67 : x_ms 67 0 := ⟨x_w 632 (by decide +kernel) (by decide +kernel), x_w 60 (by decide +kernel) (by decide +kernel), ⟨(by decide +kernel), (by decide +kernel), (by decide +kernel)⟩⟩
theorem x_m68 : x_ms 68 3 := ⟨x_w 636 (by decide +kernel) (by decide +kernel), x_w 60 (by decide +kernel) (by decide +kernel), ⟨(by decide +kernel), (by decide +kernel), (by decide +kernel)⟩⟩
theorem x_m69 : x_ms 69 3 := ⟨x_w 640 (by decide +kernel) (by decide +kernel), x_w 67 (by decide +kernel) (by decide +kernel), ⟨(by decide +kernel), (by decide +kernel), (by decide +kernel)⟩⟩
theorem x_m70 : x_ms 70 0 := ⟨x_w 645 (by decide +kernel) (by decide +kernel), x_w 69 (by decide +kernel) (by decide +kernel), ⟨(by decide +kernel), (by decide +kernel), (by decide +kernel)⟩⟩
theorem x_m71 : x_ms 71 0 := ⟨x_w 649 (by decide +kernel) (by decide +kernel), x_w 69 (by decide +kernel) (by decide +kernel), ⟨(by decide +kernel), (by decide +kernel), (by decide +kernel)⟩⟩
theorem x_m72 : x_ms 72 0 := ⟨x_w 656 (by decide +kernel) (by decide +kernel), x_w 69 (by decide +kernel) (by decide +kernel), ⟨(by decide +kernel), (by decide +kernel), (by decide +kernel)⟩⟩
theorem x_m73 : x_ms 73 0 := ⟨x_w 660 (by decide +kernel) (by decide +kernel), x_w 79 (by decide +kernel) (by decide +kernel), ⟨(by decide +kernel), (by decide +kernel), (by decide +kernel)⟩⟩
theorem x_m75 : x_ms 75 1 := ⟨x_w 668 (by decide +kernel) (by decide +kernel), x_w 60 (by decide +kernel) (by decide +kernel), ⟨(by decide +kernel), (by decide +kernel), (by decide +kernel)⟩⟩
theorem x_m76 : x_ms 76 0 := ⟨x_w 672 (by decide +kernel) (by decide +kernel), x_w 67 (by decide +kernel) (by decide +kernel), ⟨(by decide +kernel), (by decide +kernel), (by decide +kernel)⟩⟩
theorem x_m77 : x_ms 77 0 := ⟨x_w 676 (by decide +kernel) (by decide +kernel), x_w 67 (by decide +kernel) (by decide +kernel), ⟨(by decide +kernel), (by decide +kernel), (by decide +kernel)⟩⟩
theorem x_m78 : x_ms 78 1 := ⟨x_w 683 (by decide +kernel) (by decide +kernel), x_w 70 (by decide +kernel) (by decide +kernel), ⟨(by decide +kernel), (by decide +kernel), (by decide +kernel)⟩⟩
theorem x_m80 : x_ms 80 0 := ⟨x_w 691 (by decide +kernel) (by decide +kernel), x_w 67 (by decide +kernel) (by decide +kernel), ⟨(by decide +kernel), (by decide +kernel), (by decide +kernel)⟩⟩
theorem x_m81 : x_ms 81 2 := ⟨x_w 695 (by decide +kernel) (by decide +kernel), x_w 60 (by decide +kernel) (by decide +kernel), ⟨(by decide +kernel), (by decide +kernel), (by decide +kernel)⟩⟩
theorem x_m82 : x_ms 82 1 := ⟨x_w 699 (by decide +kernel) (by decide +kernel), x_w 63 (by decide +kernel) (by decide +kernel), ⟨(by decide +kernel), (by decide +kernel), (by decide +kernel)⟩⟩
theorem x_m83 : x_ms 83 4 := ⟨x_w 705 (by decide +kernel) (by decide +kernel), x_w 71 (by decide +kernel) (by decide +kernel), ⟨(by decide +kernel), (by decide +kernel), (by decide +kernel)⟩⟩
theorem x_m84 : x_ms 84 4 := ⟨x_w 709 (by decide +kernel) (by decide +kernel), x_w 79 (by decide +kernel) (by decide +kernel), ⟨(by decide +kernel), (by decide +kernel), (by decide +kernel)⟩⟩
theorem x_m85 : x_ms 85 1 := ⟨x_w 713 (by decide +kernel) (by decide +kernel), x_w 79 (by decide +kernel) (by decide +kernel), ⟨(by decide +kernel), (by decide +kernel), (by decide +kernel)⟩⟩
theorem x_m86 : x_ms 86 4 := ⟨x_w 716 (by decide +kernel) (by decide +kernel), x_w 72 (by decide +kernel) (by decide +kernel), ⟨(by decide +kernel), (by decide +kernel), (by decide +kernel)⟩⟩
theorem x_m87 : x_ms 87 0 := ⟨x_w 720 (by decide +kernel) (by decide +kernel), x_w 60 (by decide +kernel) (by decide +kernel), ⟨(by decide +kernel), (by decide +kernel), (by decide +kernel)⟩⟩
theorem x_m88 : x_ms 88 0 := ⟨x_w 724 (by decide +kernel) (by decide +kernel), x_w 60 (by decide +kernel) (by decide +kernel), ⟨(by decide +kernel), (by decide +kernel), (by decide +kernel)⟩⟩
theorem x_m89 : x_ms 89 0 := ⟨x_w 728 (by decide +kernel) (by decide +kernel), x_w 79 (by decide +kernel) (by decide +kernel), ⟨(by decide +kernel), (by decide +kernel), (by decide +kernel)⟩⟩
theorem x_m90 : x_ms 90 0 := ⟨x_w 732 (by decide +kernel) (by decide +kernel), x_w 71 (by decide +kernel) (by decide +kernel), ⟨(by decide +kernel), (by decide +kernel), (by decide +kernel)⟩⟩
theorem x_m91 : x_ms 91 0 := ⟨x_w 736 (by decide +kernel) (by decide +kernel), x_w 71 (by decide +kernel) (by decide +kernel), ⟨(by decide +kernel), (by decide +kernel), (by decide +kernel)⟩⟩
theorem x_m92 : x_ms 92 0 := ⟨x_w 740 (by decide +kernel) (by decide +kernel), x_w 60 (by decide +kernel) (by decide +kernel), ⟨(by decide +kernel), (by decide +kernel), (by decide +kernel)⟩⟩
theorem x_m93 : x_ms 93 0 := ⟨x_w 744 (by decide +kernel) (by decide +kernel), x_w 72 (by decide +kernel) (by decide +kernel), ⟨(by decide +kernel), (by decide +kernel), (by decide +kernel)⟩⟩
theorem x_m95 : x_ms 95 0 := ⟨x_w 753 (by decide +kernel) (by decide +kernel), x_w 60 (by decide +kernel) (by decide +kernel), ⟨(by decide +kernel), (by decide +kernel), (by decide +kernel)⟩⟩
theorem x_m96 : x_ms 96 1 := ⟨x_w 757 (by decide +kernel) (by decide +kernel), x_w 67 (by decide +kernel) (by decide +kernel), ⟨(by decide +kernel), (by decide +kernel), (by decide +kernel)⟩⟩
theorem x_m97 : x_ms 97 0 := ⟨x_w 761 (by decide +kernel) (by decide +kernel), x_w 60 (by decide +kernel) (by decide +kernel), ⟨(by decide +kernel), (by decide +kernel), (by decide +kernel)⟩⟩
theorem x_m98 : x_ms 98 0 := ⟨x_w 765 (by decide +kernel) (by decide +kernel), x_w 79 (by decide +kernel) (by decide +kernel), ⟨(by decide +kernel), (by decide +kernel), (by decide +kernel)⟩⟩
theorem x_m100 : x_ms 100 3 := ⟨x_w 773 (by decide +kernel) (by decide +kernel), x_w 80 (by decide +kernel) (by decide +kernel), ⟨(by decide +kernel), (by decide +kernel), (by decide +kernel)⟩⟩
theorem x_m102 : x_ms 102 0 := ⟨x_w 804 (by decide +kernel) (by decide +kernel), x_w 80 (by decide +kernel) (by decide +kernel), ⟨(by decide +kernel), (by decide +kernel), (by decide +kernel)⟩⟩
theorem x_m104 : x_ms 104 0 := ⟨x_w 812 (by decide +kernel) (by decide +kernel), x_w 80 (by decide +kernel) (by decide +kernel), ⟨(by decide +kernel), (by decide +kernel), (by decide +kernel)⟩⟩
theorem x_m110 : x_ms 110 0 := ⟨x_w 837 (by decide +kernel) (by decide +kernel), x_w 80 (by decide +kernel) (by decide +kernel), ⟨(by decide +kernel), (by decide +kernel), (by decide +kernel)⟩⟩
theorem x_m115 : x_ms 115 1 := ⟨x_w 858 (by decide +kernel) (by decide +kernel), x_w 61 (by decide +kernel) (by decide +kernel), ⟨(by decide +kernel), (by decide +kernel), (by decide +kernel)⟩⟩
theorem x_m119 : x_ms 119 1 := ⟨x_w 1016 (by decide +kernel) (by decide +kernel), x_w 68 (by decide +kernel) (by decide +kernel), ⟨(by decide +kernel), (by decide +kernel), (by decide +kernel)⟩⟩
theorem x_m120 : x_ms 120 1 := ⟨x_w 1020 (by decide +kernel) (by decide +kernel), x_w 68 (by decide +kernel) (by decide +kernel), ⟨(by decide +kernel), (by decide +kernel), (by decide +kernel)⟩⟩
theorem x_m123 : x_ms 123 1 := ⟨x_w 1032 (by decide +kernel) (by decide +kernel), x_w 68 (by decide +kernel) (by decide +kernel), ⟨(by decide +kernel), (by decide +kernel), (by decide +kernel)⟩⟩
theorem x_m124 : x_ms 124 0 := ⟨x_w 1036 (by decide +kernel) (by decide +kernel), x_w 68 (by decide +kernel) (by decide +kernel), ⟨(by decide +kernel), (by decide +kernel), (by decide +kernel)⟩⟩
theorem x_m125 : x_ms 125 3 := ⟨x_w 1040 (by decide +kernel) (by decide +kernel), x_w 68 (by decide +kernel) (by decide +kernel), ⟨(by decide +kernel), (by decide +kernel), (by decide +kernel)⟩⟩
theorem x_m127 : x_ms 127 1 := ⟨x_w 1048 (by decide +kernel) (by decide +kernel), x_w 68 (by decide +kernel) (by decide +kernel), ⟨(by decide +kernel), (by decide +kernel), (by decide +kernel)⟩⟩
theorem x_m128 : x_ms 128 0 := ⟨x_w 1052 (by decide +kernel) (by decide +kernel), x_w 68 (by decide +kernel) (by decide +kernel), ⟨(by decide +kernel), (by decide +kernel), (by decide +kernel)⟩⟩
theorem x_m129 : x_ms 129 0 := ⟨x_w 1056 (by decide +kernel) (by decide +kernel), x_w 68 (by decide +kernel) (by decide +kernel), ⟨(by decide +kernel), (by decide +kernel), (by decide +kernel)⟩⟩
theorem x_m130 : x_ms 130 1 := ⟨x_w 1060 (by decide +kernel) (by decide +kernel), x_w 68 (by decide +kernel) (by decide +kernel), ⟨(by decide +kernel), (by decide +kernel), (by decide +kernel)⟩⟩
theorem x_m131 : x_ms 131 2 := ⟨x_w 1064 (by decide +kernel) (by decide +kernel), x_w 68 (by decide +kernel) (by decide +kernel), ⟨(by decide +kernel), (by decide +kernel), (by decide +kernel)⟩⟩
theorem x_m132 : x_ms 132 1 := ⟨x_w 1068 (by decide +kernel) (by decide +kernel), x_w 68 (by decide +kernel) (by decide +kernel), ⟨(by decide +kernel), (by decide +kernel), (by decide +kernel)⟩⟩
theorem x_m133 : x_ms 133 1 := ⟨x_w 1072 (by decide +kernel) (by decide +kernel), x_w 68 (by decide +kernel) (by decide +kernel), ⟨(by decide +kernel), (by decide +kernel), (by decide +kernel)⟩⟩
theorem x_m134 : x_ms 134 1 := ⟨x_w 1076 (by decide +kernel) (by decide +kernel), x_w 68 (by decide +kernel) (by decide +kernel), ⟨(by decide +kernel), (by decide +kernel), (by decide +kernel)⟩⟩
theorem x_m135 : x_ms 135 1 := ⟨x_w 1080 (by decide +kernel) (by decide +kernel), x_w 68 (by decide +kernel) (by decide +kernel), ⟨(by decide +kernel), (by decide +kernel), (by decide +kernel)⟩⟩
theorem x_m136 : x_ms 136 4 := ⟨x_w 1084 (by decide +kernel) (by decide +kernel), x_w 68 (by decide +kernel) (by decide +kernel), ⟨(by decide +kernel), (by decide +kernel), (by decide +kernel)⟩⟩
theorem x_m137 : x_ms 137 2 := ⟨x_w 1088 (by decide +kernel) (by decide +kernel), x_w 68 (by decide +kernel) (by decide +kernel), ⟨(by decide +kernel), (by decide +kernel), (by decide +kernel)⟩⟩
theorem x_m138 : x_ms 138 3 := ⟨x_w 1092 (by decide +kernel) (by decide +kernel), x_w 68 (by decide +kernel) (by decide +kernel), ⟨(by decide +kernel), (by decide +kernel), (by decide +kernel)⟩⟩
theorem x_m139 : x_ms 139 1 := ⟨x_w 1096 (by decide +kernel) (by decide +kernel), x_w 68 (by decide +kernel) (by decide +kernel), ⟨(by decide +kernel), (by decide +kernel), (by decide +kernel)⟩⟩
theorem x_m140 : x_ms 140 0 := ⟨x_w 1100 (by decide +kernel) (by decide +kernel), x_w 68 (by decide +kernel) (by decide +kernel), ⟨(by decide +kernel), (by decide +kernel), (by decide +kernel)⟩⟩
theorem x_m141 : x_ms 141 3 := ⟨x_w 1104 (by decide +kernel) (by decide +kernel), x_w 68 (by decide +kernel) (by decide +kernel), ⟨(by decide +kernel), (by decide +kernel), (by decide +kernel)⟩⟩
theorem x_m142 : x_ms 142 2 := ⟨x_w 1108 (by decide +kernel) (by decide +kernel), x_w 68 (by decide +kernel) (by decide +kernel), ⟨(by decide +kernel), (by decide +kernel), (by decide +kernel)⟩⟩
theorem x_m143 : x_ms 143 3 := ⟨x_w 1112 (by decide +kernel) (by decide +kernel), x_w 68 (by decide +kernel) (by decide +kernel), ⟨(by decide +kernel), (by decide +kernel), (by decide +kernel)⟩⟩
theorem x_m144 : x_ms 144 1 := ⟨x_w 1116 (by decide +kernel) (by decide +kernel), x_w 68 (by decide +kernel) (by decide +kernel), ⟨(by decide +kernel), (by decide +kernel), (by decide +kernel)⟩⟩
theorem x_m145 : x_ms 145 1 := ⟨x_w 1120 (by decide +kernel) (by decide +kernel), x_w 68 (by decide +kernel) (by decide +kernel), ⟨(by decide +kernel), (by decide +kernel), (by decide +kernel)⟩⟩
theorem x_m147 : x_ms 147 1 := ⟨x_w 1128 (by decide +kernel) (by decide +kernel), x_w 68 (by decide +kernel) (by decide +kernel), ⟨(by decide +kernel), (by decide +kernel), (by decide +kernel)⟩⟩
theorem x_m148 : x_ms 148 2 := ⟨x_w 1132 (by decide +kernel) (by decide +kernel), x_w 68 (by decide +kernel) (by decide +kernel), ⟨(by decide +kernel), (by decide +kernel), (by decide +kernel)⟩⟩
theorem x_m150 : x_ms 150 1 := ⟨x_w 1140 (by decide +kernel) (by decide +kernel), x_w 68 (by decide +kernel) (by decide +kernel), ⟨(by decide +kernel), (by decide +kernel), (by decide +kernel)⟩⟩
theorem x_m151 : x_ms 151 5 := ⟨x_w 1144 (by decide +kernel) (by decide +kernel), x_w 68 (by decide +kernel) (by decide +kernel), ⟨(by decide +kernel), (by decide +kernel), (by decide +kernel)⟩⟩
theorem x_m152 : x_ms 152 0 := ⟨x_w 1148 (by decide +kernel) (by decide +kernel), x_w 68 (by decide +kernel) (by decide +kernel), ⟨(by decide +kernel), (by decide +kernel), (by decide +kernel)⟩⟩
theorem x_m153 : x_ms 153 0 := ⟨x_w 1152 (by decide +kernel) (by decide +kernel), x_w 68 (by decide +kernel) (by decide +kernel), ⟨(by decide +kernel), (by decide +kernel), (by decide +kernel)⟩⟩
theorem x_m154 : x_ms 154 1 := ⟨x_w 1156 (by decide +kernel) (by decide +kernel), x_w 68 (by decide +kernel) (by decide +kernel), ⟨(by decide +kernel), (by decide +kernel), (by decide +kernel)⟩⟩
theorem x_m155 : x_ms 155 1 := ⟨x_w 1160 (by decide +kernel) (by decide +kernel), x_w 68 (by decide +kernel) (by decide +kernel), ⟨(by decide +kernel), (by decide +kernel), (by decide +kernel)⟩⟩
theorem x_m157 : x_ms 157 0 := ⟨x_w 1168 (by decide +kernel) (by decide +kernel), x_w 68 (by decide +kernel) (by decide +kernel), ⟨(by decide +kernel), (by decide +kernel), (by decide +kernel)⟩⟩
theorem x_m158 : x_ms 158 0 := ⟨x_w 1172 (by decide +kernel) (by decide +kernel), x_w 68 (by decide +kernel) (by decide +kernel), ⟨(by decide +kernel), (by decide +kernel), (by decide +kernel)⟩⟩
theorem x_efld0 : x_fld (x_on 0) 32 3 [(10, 2)] := x_fld_1 (T := x_T10) rfl (by decide) ⟨"SessionHost", Or.inl (x_w 212 (by decide +kernel) (by decide +kernel)), Or.inl rfl⟩ (x_fld_0)
theorem x_efld1 : x_fld (x_on 0) 62 9 [(10, 0)] := x_fld_1 (T := x_T10) rfl (by decide) ⟨"SessionHost", Or.inl (x_w 218 (by decide +kernel) (by decide +kernel)), Or.inl rfl⟩ (x_fld_0)
theorem x_efld2 : x_fld (x_on 0) 58 8 [(10, 0)] := x_fld_1 (T := x_T10) rfl (by decide) ⟨"SessionHost", Or.inl (x_w 217 (by decide +kernel) (by decide +kernel)), Or.inl rfl⟩ (x_fld_0)
theorem x_efld3 : x_fld (x_on 0) 44 5 [(10, 2)] := x_fld_1 (T := x_T10) rfl (by decide) ⟨"SessionHost", Or.inl (x_w 214 (by decide +kernel) (by decide +kernel)), Or.inl rfl⟩ (x_fld_0)
theorem x_efld4 : x_fld (x_on 0) 38 4 [(10, 2)] := x_fld_1 (T := x_T10) rfl (by decide) ⟨"SessionHost", Or.inl (x_w 213 (by decide +kernel) (by decide +kernel)), Or.inl rfl⟩ (x_fld_0)
theorem x_efld5 : x_fld (x_on 0) 10 0 [(10, 2)] := x_fld_1 (T := x_T10) rfl (by decide) ⟨"SessionHost", Or.inl (x_w 209 (by decide +kernel) (by decide +kernel)), Or.inl rfl⟩ (x_fld_0)
theorem x_efld6 : x_fld (x_on 0) 95 4 [(7, 2)] := x_fld_1 (T := x_T7) rfl (by decide) ⟨"SessionHost$Singleton", Or.inr ⟨"SessionHost", x_n 326 (by decide +kernel)⟩, Or.inl rfl⟩ (x_fld_0)
theorem x_efld7 : x_fld (x_on 12) 14 4 [(7, 2)] := x_fld_1 (T := x_T7) rfl (by decide) ⟨"SessionHost$Singleton", Or.inl (x_w 325 (by decide +kernel) (by decide +kernel)), Or.inl rfl⟩ (x_fld_0)
theorem x_efld8 : x_fld (x_on 5) 48 2 [(3, 0)] := x_fld_1 (T := x_T3) rfl (by decide) ⟨"java/util/ArrayList", Or.inl (x_w 153 (by decide +kernel) (by decide +kernel)), Or.inl rfl⟩ (x_fld_0)
theorem x_efld9 : x_fld (x_on 5) 9 1 [(3, 2)] := x_fld_1 (T := x_T3) rfl (by decide) ⟨"java/util/ArrayList", Or.inl (x_w 152 (by decide +kernel) (by decide +kernel)), Or.inl rfl⟩ (x_fld_0)
theorem x_efld10 : x_fld (x_on 5) 63 0 [(3, 0)] := x_fld_1 (T := x_T3) rfl (by decide) ⟨"java/util/ArrayList", Or.inl (x_w 155 (by decide +kernel) (by decide +kernel)), Or.inr (x_w 156 (by decide +kernel) (by decide +kernel))⟩ (x_fld_0)
theorem x_efld11 : x_fld (x_on 0) 26 2 [(10, 2)] := x_fld_1 (T := x_T10) rfl (by decide) ⟨"SessionHost", Or.inl (x_w 211 (by decide +kernel) (by decide +kernel)), Or.inl rfl⟩ (x_fld_0)
theorem x_efld12 : x_fld (x_on 4) 9 0 [(2, 2)] := x_fld_1 (T := x_T2) rfl (by decide) ⟨"SessionHost$ExceptionTypes", Or.inl (x_w 128 (by decide +kernel) (by decide +kernel)), Or.inl rfl⟩ (x_fld_0)
theorem x_efld13 : x_fld (x_on 0) 106 5 [(7, 1)] := x_fld_1 (T := x_T7) rfl (by decide) ⟨"SessionHost$Singleton", Or.inr ⟨"SessionHost", x_n 328 (by decide +kernel)⟩, Or.inl rfl⟩ (x_fld_0)
theorem x_efld14 : x_fld (x_on 12) 20 7 [(7, 1)] := x_fld_1 (T := x_T7) rfl (by decide) ⟨"SessionHost$Singleton", Or.inl (x_w 330 (by decide +kernel) (by decide +kernel)), Or.inl rfl⟩ (x_fld_0)
theorem x_efld15 : x_fld (x_on 12) 24 8 [(7, 1)] := x_fld_1 (T := x_T7) rfl (by decide) ⟨"SessionHost$Singleton", Or.inl (x_w 332 (by decide +kernel) (by decide +kernel)), Or.inl rfl⟩ (x_fld_0)
theorem x_efld16 : x_fld (x_on 12) 40 6 [(7, 1)] := x_fld_1 (T := x_T7) rfl (by decide) ⟨"SessionHost$Singleton", Or.inl (x_w 329 (by decide +kernel) (by decide +kernel)), Or.inl rfl⟩ (x_fld_0)
theorem x_efld17 : x_fld (x_on 12) 59 1 [(7, 2)] := x_fld_1 (T := x_T7) rfl (by decide) ⟨"SessionHost$Singleton", Or.inl (x_w 294 (by decide +kernel) (by decide +kernel)), Or.inr (x_w 295 (by decide +kernel) (by decide +kernel))⟩ (x_fld_0)
theorem x_efld18 : x_fld (x_on 2) 19 2 [(0, 0)] := x_fld_1 (T := x_T0) rfl (by decide) ⟨"SessionHost$Journal", Or.inl (x_w 98 (by decide +kernel) (by decide +kernel)), Or.inl rfl⟩ (x_fld_0)
theorem x_efld19 : x_fld (x_on 2) 11 0 [(0, 2)] := x_fld_1 (T := x_T0) rfl (by decide) ⟨"SessionHost$Journal", Or.inl (x_w 95 (by decide +kernel) (by decide +kernel)), Or.inl rfl⟩ (x_fld_0)
theorem x_efld20 : x_fld (x_on 2) 15 1 [(0, 0)] := x_fld_1 (T := x_T0) rfl (by decide) ⟨"SessionHost$Journal", Or.inl (x_w 96 (by decide +kernel) (by decide +kernel)), Or.inl rfl⟩ (x_fld_0)
theorem x_efld21 : x_fld (x_on 0) 233 7 [(7, 1)] := x_fld_1 (T := x_T7) rfl (by decide) ⟨"SessionHost$Singleton", Or.inr ⟨"SessionHost", x_n 331 (by decide +kernel)⟩, Or.inl rfl⟩ (x_fld_0)
theorem x_efld22 : x_fld (x_on 0) 51 6 [(10, 2)] := x_fld_1 (T := x_T10) rfl (by decide) ⟨"SessionHost", Or.inl (x_w 215 (by decide +kernel) (by decide +kernel)), Or.inl rfl⟩ (x_fld_0)
theorem x_efld23 : x_fld (x_on 0) 19 1 [(10, 2)] := x_fld_1 (T := x_T10) rfl (by decide) ⟨"SessionHost", Or.inl (x_w 210 (by decide +kernel) (by decide +kernel)), Or.inl rfl⟩ (x_fld_0)
theorem x_efld24 : x_fld (x_on 0) 128 0 [(5, 2)] := x_fld_1 (T := x_T5) rfl (by decide) ⟨"SessionHost$Stateful", Or.inr ⟨"SessionHost", x_n 255 (by decide +kernel)⟩, Or.inl rfl⟩ (x_fld_0)
theorem x_efld25 : x_fld (x_on 18) 3 2 [(5, 0)] := x_fld_1 (T := x_T5) rfl (by decide) ⟨"SessionHost$Stateful", Or.inr ⟨"SessionHost", x_n 257 (by decide +kernel)⟩, Or.inl rfl⟩ (x_fld_0)
theorem x_efld26 : x_fld (x_on 18) 41 1 [(8, 2)] := x_fld_1 (T := x_T8) rfl (by decide) ⟨"SessionHost$Session", Or.inl (x_w 290 (by decide +kernel) (by decide +kernel)), Or.inr (x_w 291 (by decide +kernel) (by decide +kernel))⟩ (x_fld_0)
theorem x_efld27 : x_fld (x_on 18) 37 5 [(8, 2)] := x_fld_1 (T := x_T8) rfl (by decide) ⟨"SessionHost$Session", Or.inl (x_w 497 (by decide +kernel) (by decide +kernel)), Or.inl rfl⟩ (x_fld_0)
theorem x_efld28 : x_fld (x_on 18) 60 0 [(1, 0)] := x_fld_1 (T := x_T1) rfl (by decide) ⟨"SessionHost$Clock", Or.inr ⟨"SessionHost", x_n 114 (by decide +kernel)⟩, Or.inl rfl⟩ (x_fld_0)
theorem x_efld29 : x_fld (x_on 3) 13 1 [(1, 0)] := x_fld_1 (T := x_T1) rfl (by decide) ⟨"SessionHost$Clock", Or.inl (x_w 116 (by decide +kernel) (by decide +kernel)), Or.inl rfl⟩ (x_fld_0)
theorem x_efld30 : x_fld (x_on 0) 55 7 [(10, 2)] := x_fld_1 (T := x_T10) rfl (by decide) ⟨"SessionHost", Or.inl (x_w 216 (by decide +kernel) (by decide +kernel)), Or.inl rfl⟩ (x_fld_0)
theorem x_efld31 : x_fld (x_on 0) 223 0 [(6, 2), (7, 2), (8, 2)] := x_fld_1 (T := x_T6) rfl (by decide) ⟨"SessionHost$Target", Or.inl (x_w 288 (by decide +kernel) (by decide +kernel)), Or.inl rfl⟩ (x_fld_1 (T := x_T7) rfl (by decide) ⟨"SessionHost$Target", Or.inl (x_w 288 (by decide +kernel) (by decide +kernel)), Or.inl rfl⟩ (x_fld_1 (T := x_T8) rfl (by decide) ⟨"SessionHost$Target", Or.inl (x_w 288 (by decide +kernel) (by decide +kernel)), Or.inl rfl⟩ (x_fld_0)))
theorem x_efld32 : x_fld (x_on 0) 288 6 [(4, 0)] := x_fld_1 (T := x_T4) rfl (by decide) ⟨"SessionHost$Caller", Or.inr ⟨"SessionHost", x_n 182 (by decide +kernel)⟩, Or.inl rfl⟩ (x_fld_0)
theorem x_efld33 : x_fld (x_on 10) 15 6 [(6, 0)] := x_fld_1 (T := x_T6) rfl (by decide) ⟨"SessionHost$Pool", Or.inl (x_w 283 (by decide +kernel) (by decide +kernel)), Or.inl rfl⟩ (x_fld_0)
theorem x_efld34 : x_fld (x_on 10) 19 7 [(6, 0)] := x_fld_1 (T := x_T6) rfl (by decide) ⟨"SessionHost$Pool", Or.inl (x_w 284 (by decide +kernel) (by decide +kernel)), Or.inl rfl⟩ (x_fld_0)
theorem x_efld35 : x_fld (x_on 10) 22 4 [(6, 0)] := x_fld_1 (T := x_T6) rfl (by decide) ⟨"SessionHost$Pool", Or.inl (x_w 281 (by decide +kernel) (by decide +kernel)), Or.inl rfl⟩ (x_fld_0)
theorem x_efld36 : x_fld (x_on 18) 20 7 [(8, 0)] := x_fld_1 (T := x_T8) rfl (by decide) ⟨"SessionHost$Session", Or.inl (x_w 499 (by decide +kernel) (by decide +kernel)), Or.inl rfl⟩ (x_fld_0)
theorem x_efld37 : x_fld (x_on 18) 23 8 [(8, 1)] := x_fld_1 (T := x_T8) rfl (by decide) ⟨"SessionHost$Session", Or.inl (x_w 502 (by decide +kernel) (by decide +kernel)), Or.inl rfl⟩ (x_fld_0)
theorem x_efld38 : x_fld (x_on 8) 24 4 [(4, 0)] := x_fld_1 (T := x_T4) rfl (by decide) ⟨"SessionHost$Caller", Or.inl (x_w 178 (by decide +kernel) (by decide +kernel)), Or.inl rfl⟩ (x_fld_0)
theorem x_efld39 : x_fld (x_on 8) 11 1 [(4, 2)] := x_fld_1 (T := x_T4) rfl (by decide) ⟨"SessionHost$Caller", Or.inl (x_w 172 (by decide +kernel) (by decide +kernel)), Or.inl rfl⟩ (x_fld_0)
theorem x_efld40 : x_fld (x_on 12) 34 11 [(7, 0)] := x_fld_1 (T := x_T7) rfl (by decide) ⟨"SessionHost$Singleton", Or.inl (x_w 336 (by decide +kernel) (by decide +kernel)), Or.inl rfl⟩ (x_fld_0)
theorem x_efld41 : x_fld (x_on 12) 31 10 [(7, 0)] := x_fld_1 (T := x_T7) rfl (by decide) ⟨"SessionHost$Singleton", Or.inl (x_w 335 (by decide +kernel) (by decide +kernel)), Or.inl rfl⟩ (x_fld_0)
theorem x_efld42 : x_fld (x_on 8) 21 3 [(4, 2)] := x_fld_1 (T := x_T4) rfl (by decide) ⟨"SessionHost$Caller", Or.inl (x_w 176 (by decide +kernel) (by decide +kernel)), Or.inl rfl⟩ (x_fld_0)
theorem x_efld43 : x_fld (x_on 8) 28 5 [(4, 2)] := x_fld_1 (T := x_T4) rfl (by decide) ⟨"SessionHost$Caller", Or.inl (x_w 180 (by decide +kernel) (by decide +kernel)), Or.inl rfl⟩ (x_fld_0)
theorem x_efld44 : x_fld (x_on 8) 52 0 [(6, 2), (7, 2), (8, 2)] := x_fld_1 (T := x_T6) rfl (by decide) ⟨"SessionHost$Target", Or.inl (x_w 287 (by decide +kernel) (by decide +kernel)), Or.inl rfl⟩ (x_fld_1 (T := x_T7) rfl (by decide) ⟨"SessionHost$Target", Or.inl (x_w 287 (by decide +kernel) (by decide +kernel)), Or.inl rfl⟩ (x_fld_1 (T := x_T8) rfl (by decide) ⟨"SessionHost$Target", Or.inl (x_w 287 (by decide +kernel) (by decide +kernel)), Or.inl rfl⟩ (x_fld_0)))
theorem x_efld45 : x_fld (x_on 0) 260 0 [(4, 0)] := x_fld_1 (T := x_T4) rfl (by decide) ⟨"SessionHost$Caller", Or.inr ⟨"SessionHost", x_n 171 (by decide +kernel)⟩, Or.inl rfl⟩ (x_fld_0)
theorem x_efld46 : x_fld (x_on 10) 9 5 [(6, 2)] := x_fld_1 (T := x_T6) rfl (by decide) ⟨"SessionHost$Pool", Or.inl (x_w 282 (by decide +kernel) (by decide +kernel)), Or.inl rfl⟩ (x_fld_0)
theorem x_efld47 : x_fld (x_on 10) 25 1 [(6, 2)] := x_fld_1 (T := x_T6) rfl (by decide) ⟨"SessionHost$Pool", Or.inl (x_w 292 (by decide +kernel) (by decide +kernel)), Or.inr (x_w 293 (by decide +kernel) (by decide +kernel))⟩ (x_fld_0)
theorem x_efld48 : x_fld (x_on 18) 15 6 [(8, 0)] := x_fld_1 (T := x_T8) rfl (by decide) ⟨"SessionHost$Session", Or.inl (x_w 498 (by decide +kernel) (by decide +kernel)), Or.inl rfl⟩ (x_fld_0)
theorem x_efld49 : x_fld (x_on 12) 27 9 [(7, 0)] := x_fld_1 (T := x_T7) rfl (by decide) ⟨"SessionHost$Singleton", Or.inl (x_w 333 (by decide +kernel) (by decide +kernel)), Or.inl rfl⟩ (x_fld_0)
theorem x_efld50 : x_fld (x_on 8) 17 2 [(4, 2)] := x_fld_1 (T := x_T4) rfl (by decide) ⟨"SessionHost$Caller", Or.inl (x_w 174 (by decide +kernel) (by decide +kernel)), Or.inl rfl⟩ (x_fld_0)
theorem x_efld51 : x_fld (x_on 8) 41 9 [(4, 2)] := x_fld_1 (T := x_T4) rfl (by decide) ⟨"SessionHost$Caller", Or.inl (x_w 186 (by decide +kernel) (by decide +kernel)), Or.inl rfl⟩ (x_fld_0)
theorem x_efld52 : x_fld (x_on 0) 305 0 [(9, 2)] := x_fld_1 (T := x_T9) rfl (by decide) ⟨"SessionHost$Task", Or.inr ⟨"SessionHost", x_n 776 (by decide +kernel)⟩, Or.inl rfl⟩ (x_fld_0)
theorem x_efld53 : x_fld (x_on 0) 309 1 [(9, 0)] := x_fld_1 (T := x_T9) rfl (by decide) ⟨"SessionHost$Task", Or.inr ⟨"SessionHost", x_n 778 (by decide +kernel)⟩, Or.inl rfl⟩ (x_fld_0)
theorem x_efld54 : x_fld (x_on 19) 11 3 [(9, 0)] := x_fld_1 (T := x_T9) rfl (by decide) ⟨"SessionHost$Task", Or.inl (x_w 780 (by decide +kernel) (by decide +kernel)), Or.inl rfl⟩ (x_fld_0)
theorem x_efld55 : x_fld (x_on 0) 301 9 [(4, 2)] := x_fld_1 (T := x_T4) rfl (by decide) ⟨"SessionHost$Caller", Or.inr ⟨"SessionHost", x_n 187 (by decide +kernel)⟩, Or.inl rfl⟩ (x_fld_0)
theorem x_efld56 : x_fld (x_on 0) 247 2 [(6, 0), (7, 0), (8, 0)] := x_fld_1 (T := x_T6) rfl (by decide) ⟨"SessionHost$Target", Or.inl (x_w 298 (by decide +kernel) (by decide +kernel)), Or.inl rfl⟩ (x_fld_1 (T := x_T7) rfl (by decide) ⟨"SessionHost$Target", Or.inl (x_w 298 (by decide +kernel) (by decide +kernel)), Or.inl rfl⟩ (x_fld_1 (T := x_T8) rfl (by decide) ⟨"SessionHost$Target", Or.inl (x_w 298 (by decide +kernel) (by decide +kernel)), Or.inl rfl⟩ (x_fld_0)))
theorem x_efld57 : x_fld (x_on 0) 162 0 [(1, 0)] := x_fld_1 (T := x_T1) rfl (by decide) ⟨"SessionHost$Clock", Or.inr ⟨"SessionHost", x_n 115 (by decide +kernel)⟩, Or.inl rfl⟩ (x_fld_0)
theorem x_efld58 : x_fld (x_on 9) 16 1 [(5, 0)] := x_fld_1 (T := x_T5) rfl (by decide) ⟨"SessionHost$Stateful", Or.inl (x_w 256 (by decide +kernel) (by decide +kernel)), Or.inl rfl⟩ (x_fld_0)
theorem x_efld59 : x_fld (x_on 9) 10 0 [(5, 2)] := x_fld_1 (T := x_T5) rfl (by decide) ⟨"SessionHost$Stateful", Or.inl (x_w 254 (by decide +kernel) (by decide +kernel)), Or.inl rfl⟩ (x_fld_0)
theorem x_efld60 : x_fld (x_on 9) 35 7 [(8, 0)] := x_fld_1 (T := x_T8) rfl (by decide) ⟨"SessionHost$Session", Or.inr ⟨"SessionHost", x_n 500 (by decide +kernel)⟩, Or.inl rfl⟩ (x_fld_0)
theorem x_efld61 : x_fld (x_on 9) 48 8 [(8, 1)] := x_fld_1 (T := x_T8) rfl (by decide) ⟨"SessionHost$Session", Or.inr ⟨"SessionHost", x_n 503 (by decide +kernel)⟩, Or.inl rfl⟩ (x_fld_0)
theorem x_efld62 : x_fld (x_on 9) 52 9 [(8, 0)] := x_fld_1 (T := x_T8) rfl (by decide) ⟨"SessionHost$Session", Or.inr ⟨"SessionHost", x_n 506 (by decide +kernel)⟩, Or.inl rfl⟩ (x_fld_0)
theorem x_efld63 : x_fld (x_on 8) 45 0 [(4, 0)] := x_fld_1 (T := x_T4) rfl (by decide) ⟨"SessionHost$Caller", Or.inl (x_w 170 (by decide +kernel) (by decide +kernel)), Or.inl rfl⟩ (x_fld_0)
theorem x_efld64 : x_fld (x_on 11) 24 3 [(6, 0), (7, 0), (8, 0)] := x_fld_1 (T := x_T6) rfl (by decide) ⟨"SessionHost$Target", Or.inl (x_w 299 (by decide +kernel) (by decide +kernel)), Or.inl rfl⟩ (x_fld_1 (T := x_T7) rfl (by decide) ⟨"SessionHost$Target", Or.inl (x_w 299 (by decide +kernel) (by decide +kernel)), Or.inl rfl⟩ (x_fld_1 (T := x_T8) rfl (by decide) ⟨"SessionHost$Target", Or.inl (x_w 299 (by decide +kernel) (by decide +kernel)), Or.inl rfl⟩ (x_fld_0)))
theorem x_efld65 : x_fld (x_on 0) 195 4 [(4, 0)] := x_fld_1 (T := x_T4) rfl (by decide) ⟨"SessionHost$Caller", Or.inr ⟨"SessionHost", x_n 179 (by decide +kernel)⟩, Or.inl rfl⟩ (x_fld_0)
theorem x_efld66 : x_fld (x_on 0) 266 1 [(4, 2)] := x_fld_1 (T := x_T4) rfl (by decide) ⟨"SessionHost$Caller", Or.inr ⟨"SessionHost", x_n 173 (by decide +kernel)⟩, Or.inl rfl⟩ (x_fld_0)
theorem x_efld67 : x_fld (x_on 0) 201 2 [(4, 2)] := x_fld_1 (T := x_T4) rfl (by decide) ⟨"SessionHost$Caller", Or.inr ⟨"SessionHost", x_n 175 (by decide +kernel)⟩, Or.inl rfl⟩ (x_fld_0)
theorem x_efld68 : x_fld (x_on 0) 270 3 [(4, 2)] := x_fld_1 (T := x_T4) rfl (by decide) ⟨"SessionHost$Caller", Or.inr ⟨"SessionHost", x_n 177 (by decide +kernel)⟩, Or.inl rfl⟩ (x_fld_0)
theorem x_efld69 : x_fld (x_on 0) 208 7 [(8, 0)] := x_fld_1 (T := x_T8) rfl (by decide) ⟨"SessionHost$Session", Or.inr ⟨"SessionHost", x_n 501 (by decide +kernel)⟩, Or.inl rfl⟩ (x_fld_0)
theorem x_efld70 : x_fld (x_on 0) 220 9 [(7, 0)] := x_fld_1 (T := x_T7) rfl (by decide) ⟨"SessionHost$Singleton", Or.inr ⟨"SessionHost", x_n 334 (by decide +kernel)⟩, Or.inl rfl⟩ (x_fld_0)
theorem x_efld71 : x_fld (x_on 8) 73 2 [(6, 0), (7, 0), (8, 0)] := x_fld_1 (T := x_T6) rfl (by decide) ⟨"SessionHost$Target", Or.inl (x_w 297 (by decide +kernel) (by decide +kernel)), Or.inl rfl⟩ (x_fld_1 (T := x_T7) rfl (by decide) ⟨"SessionHost$Target", Or.inl (x_w 297 (by decide +kernel) (by decide +kernel)), Or.inl rfl⟩ (x_fld_1 (T := x_T8) rfl (by decide) ⟨"SessionHost$Target", Or.inl (x_w 297 (by decide +kernel) (by decide +kernel)), Or.inl rfl⟩ (x_fld_0)))
theorem x_efld72 : x_fld (x_on 8) 35 7 [(4, 0)] := x_fld_1 (T := x_T4) rfl (by decide) ⟨"SessionHost$Caller", Or.inl (x_w 183 (by decide +kernel) (by decide +kernel)), Or.inl rfl⟩ (x_fld_0)
theorem x_efld73 : x_fld (x_on 18) 33 4 [(8, 2)] := x_fld_1 (T := x_T8) rfl (by decide) ⟨"SessionHost$Session", Or.inl (x_w 496 (by decide +kernel) (by decide +kernel)), Or.inl rfl⟩ (x_fld_0)
theorem x_efld74 : x_fld (x_on 18) 77 3 [(5, 0)] := x_fld_1 (T := x_T5) rfl (by decide) ⟨"SessionHost$Stateful", Or.inr ⟨"SessionHost", x_n 260 (by decide +kernel)⟩, Or.inl rfl⟩ (x_fld_0)
theorem x_efld75 : x_fld (x_on 18) 30 10 [(8, 0)] := x_fld_1 (T := x_T8) rfl (by decide) ⟨"SessionHost$Session", Or.inl (x_w 507 (by decide +kernel) (by decide +kernel)), Or.inl rfl⟩ (x_fld_0)
theorem x_efld76 : x_fld (x_on 0) 198 8 [(4, 0)] := x_fld_1 (T := x_T4) rfl (by decide) ⟨"SessionHost$Caller", Or.inr ⟨"SessionHost", x_n 185 (by decide +kernel)⟩, Or.inl rfl⟩ (x_fld_0)
theorem x_efld77 : x_fld (x_on 0) 205 8 [(8, 1)] := x_fld_1 (T := x_T8) rfl (by decide) ⟨"SessionHost$Session", Or.inr ⟨"SessionHost", x_n 504 (by decide +kernel)⟩, Or.inl rfl⟩ (x_fld_0)
theorem x_efld78 : x_fld (x_on 19) 15 4 [(9, 1)] := x_fld_1 (T := x_T9) rfl (by decide) ⟨"SessionHost$Task", Or.inl (x_w 782 (by decide +kernel) (by decide +kernel)), Or.inl rfl⟩ (x_fld_0)
theorem x_efld79 : x_fld (x_on 19) 29 2 [(9, 1)] := x_fld_1 (T := x_T9) rfl (by decide) ⟨"SessionHost$Task", Or.inl (x_w 779 (by decide +kernel) (by decide +kernel)), Or.inl rfl⟩ (x_fld_0)
theorem x_efld80 : x_fld (x_on 19) 19 5 [(9, 0)] := x_fld_1 (T := x_T9) rfl (by decide) ⟨"SessionHost$Task", Or.inl (x_w 783 (by decide +kernel) (by decide +kernel)), Or.inl rfl⟩ (x_fld_0)
theorem x_efld81 : x_fld (x_on 0) 217 7 [(6, 0)] := x_fld_1 (T := x_T6) rfl (by decide) ⟨"SessionHost$Pool", Or.inr ⟨"SessionHost", x_n 285 (by decide +kernel)⟩, Or.inl rfl⟩ (x_fld_0)
theorem x_efld82 : x_fld (x_on 0) 226 1 [(0, 0)] := x_fld_1 (T := x_T0) rfl (by decide) ⟨"SessionHost$Journal", Or.inr ⟨"SessionHost", x_n 97 (by decide +kernel)⟩, Or.inl rfl⟩ (x_fld_0)
theorem x_efld83 : x_fld (x_on 20) 79 29 [(11, 2)] := x_fld_1 (T := x_T11) rfl (by decide) ⟨"SessionHostModel", Or.inl (x_w 894 (by decide +kernel) (by decide +kernel)), Or.inl rfl⟩ (x_fld_0)
theorem x_efld84 : x_fld (x_on 20) 91 34 [(11, 2)] := x_fld_1 (T := x_T11) rfl (by decide) ⟨"SessionHostModel", Or.inl (x_w 899 (by decide +kernel) (by decide +kernel)), Or.inl rfl⟩ (x_fld_0)
theorem x_efld85 : x_fld (x_on 20) 113 42 [(11, 2)] := x_fld_1 (T := x_T11) rfl (by decide) ⟨"SessionHostModel", Or.inl (x_w 907 (by decide +kernel) (by decide +kernel)), Or.inl rfl⟩ (x_fld_0)
theorem x_efld86 : x_fld (x_on 20) 130 0 [(11, 0)] := x_fld_1 (T := x_T11) rfl (by decide) ⟨"SessionHostModel", Or.inl (x_w 865 (by decide +kernel) (by decide +kernel)), Or.inl rfl⟩ (x_fld_0)
theorem x_efld87 : x_fld (x_on 20) 133 2 [(11, 0)] := x_fld_1 (T := x_T11) rfl (by decide) ⟨"SessionHostModel", Or.inl (x_w 867 (by decide +kernel) (by decide +kernel)), Or.inl rfl⟩ (x_fld_0)
theorem x_efld88 : x_fld (x_on 20) 7 3 [(11, 2)] := x_fld_1 (T := x_T11) rfl (by decide) ⟨"SessionHostModel", Or.inl (x_w 868 (by decide +kernel) (by decide +kernel)), Or.inl rfl⟩ (x_fld_0)
theorem x_efld89 : x_fld (x_on 20) 13 4 [(11, 2)] := x_fld_1 (T := x_T11) rfl (by decide) ⟨"SessionHostModel", Or.inl (x_w 869 (by decide +kernel) (by decide +kernel)), Or.inl rfl⟩ (x_fld_0)
theorem x_efld90 : x_fld (x_on 20) 16 5 [(11, 2)] := x_fld_1 (T := x_T11) rfl (by decide) ⟨"SessionHostModel", Or.inl (x_w 870 (by decide +kernel) (by decide +kernel)), Or.inl rfl⟩ (x_fld_0)
theorem x_efld91 : x_fld (x_on 20) 19 6 [(11, 2)] := x_fld_1 (T := x_T11) rfl (by decide) ⟨"SessionHostModel", Or.inl (x_w 871 (by decide +kernel) (by decide +kernel)), Or.inl rfl⟩ (x_fld_0)
theorem x_efld92 : x_fld (x_on 20) 25 8 [(11, 2)] := x_fld_1 (T := x_T11) rfl (by decide) ⟨"SessionHostModel", Or.inl (x_w 873 (by decide +kernel) (by decide +kernel)), Or.inl rfl⟩ (x_fld_0)
theorem x_efld93 : x_fld (x_on 20) 22 7 [(11, 2)] := x_fld_1 (T := x_T11) rfl (by decide) ⟨"SessionHostModel", Or.inl (x_w 872 (by decide +kernel) (by decide +kernel)), Or.inl rfl⟩ (x_fld_0)
theorem x_efld94 : x_fld (x_on 20) 49 17 [(11, 2)] := x_fld_1 (T := x_T11) rfl (by decide) ⟨"SessionHostModel", Or.inl (x_w 882 (by decide +kernel) (by decide +kernel)), Or.inl rfl⟩ (x_fld_0)
theorem x_efld95 : x_fld (x_on 20) 148 12 [(11, 0)] := x_fld_1 (T := x_T11) rfl (by decide) ⟨"SessionHostModel", Or.inl (x_w 877 (by decide +kernel) (by decide +kernel)), Or.inl rfl⟩ (x_fld_0)
theorem x_efld96 : x_fld (x_on 20) 28 9 [(11, 2)] := x_fld_1 (T := x_T11) rfl (by decide) ⟨"SessionHostModel", Or.inl (x_w 874 (by decide +kernel) (by decide +kernel)), Or.inl rfl⟩ (x_fld_0)
theorem x_efld97 : x_fld (x_on 20) 37 13 [(11, 2)] := x_fld_1 (T := x_T11) rfl (by decide) ⟨"SessionHostModel", Or.inl (x_w 878 (by decide +kernel) (by decide +kernel)), Or.inl rfl⟩ (x_fld_0)
theorem x_efld98 : x_fld (x_on 20) 40 14 [(11, 2)] := x_fld_1 (T := x_T11) rfl (by decide) ⟨"SessionHostModel", Or.inl (x_w 879 (by decide +kernel) (by decide +kernel)), Or.inl rfl⟩ (x_fld_0)
theorem x_efld99 : x_fld (x_on 20) 31 10 [(11, 2)] := x_fld_1 (T := x_T11) rfl (by decide) ⟨"SessionHostModel", Or.inl (x_w 875 (by decide +kernel) (by decide +kernel)), Or.inl rfl⟩ (x_fld_0)
theorem x_efld100 : x_fld (x_on 20) 34 11 [(11, 2)] := x_fld_1 (T := x_T11) rfl (by decide) ⟨"SessionHostModel", Or.inl (x_w 876 (by decide +kernel) (by decide +kernel)), Or.inl rfl⟩ (x_fld_0)
theorem x_efld101 : x_fld (x_on 20) 123 43 [(11, 0)] := x_fld_1 (T := x_T11) rfl (by decide) ⟨"SessionHostModel", Or.inl (x_w 908 (by decide +kernel) (by decide +kernel)), Or.inl rfl⟩ (x_fld_0)
theorem x_efld102 : x_fld (x_on 20) 116 45 [(11, 2)] := x_fld_1 (T := x_T11) rfl (by decide) ⟨"SessionHostModel", Or.inl (x_w 910 (by decide +kernel) (by decide +kernel)), Or.inl rfl⟩ (x_fld_0)
theorem x_efld103 : x_fld (x_on 20) 119 44 [(11, 0)] := x_fld_1 (T := x_T11) rfl (by decide) ⟨"SessionHostModel", Or.inl (x_w 909 (by decide +kernel) (by decide +kernel)), Or.inl rfl⟩ (x_fld_0)
theorem x_efld104 : x_fld (x_on 20) 155 18 [(11, 0)] := x_fld_1 (T := x_T11) rfl (by decide) ⟨"SessionHostModel", Or.inl (x_w 883 (by decide +kernel) (by decide +kernel)), Or.inl rfl⟩ (x_fld_0)
theorem x_efld105 : x_fld (x_on 20) 52 19 [(11, 2)] := x_fld_1 (T := x_T11) rfl (by decide) ⟨"SessionHostModel", Or.inl (x_w 884 (by decide +kernel) (by decide +kernel)), Or.inl rfl⟩ (x_fld_0)
theorem x_efld106 : x_fld (x_on 20) 55 20 [(11, 2)] := x_fld_1 (T := x_T11) rfl (by decide) ⟨"SessionHostModel", Or.inl (x_w 885 (by decide +kernel) (by decide +kernel)), Or.inl rfl⟩ (x_fld_0)
theorem x_efld107 : x_fld (x_on 20) 58 21 [(11, 2)] := x_fld_1 (T := x_T11) rfl (by decide) ⟨"SessionHostModel", Or.inl (x_w 886 (by decide +kernel) (by decide +kernel)), Or.inl rfl⟩ (x_fld_0)
theorem x_efld108 : x_fld (x_on 20) 61 22 [(11, 2)] := x_fld_1 (T := x_T11) rfl (by decide) ⟨"SessionHostModel", Or.inl (x_w 887 (by decide +kernel) (by decide +kernel)), Or.inl rfl⟩ (x_fld_0)
theorem x_efld109 : x_fld (x_on 20) 223 24 [(11, 0)] := x_fld_1 (T := x_T11) rfl (by decide) ⟨"SessionHostModel", Or.inl (x_w 889 (by decide +kernel) (by decide +kernel)), Or.inl rfl⟩ (x_fld_0)
theorem x_efld110 : x_fld (x_on 20) 64 23 [(11, 2)] := x_fld_1 (T := x_T11) rfl (by decide) ⟨"SessionHostModel", Or.inl (x_w 888 (by decide +kernel) (by decide +kernel)), Or.inl rfl⟩ (x_fld_0)
theorem x_efld111 : x_fld (x_on 20) 185 1 [(11, 0)] := x_fld_1 (T := x_T11) rfl (by decide) ⟨"SessionHostModel", Or.inl (x_w 866 (by decide +kernel) (by decide +kernel)), Or.inl rfl⟩ (x_fld_0)
theorem x_efld112 : x_fld (x_on 20) 82 30 [(11, 2)] := x_fld_1 (T := x_T11) rfl (by decide) ⟨"SessionHostModel", Or.inl (x_w 895 (by decide +kernel) (by decide +kernel)), Or.inl rfl⟩ (x_fld_0)
theorem x_efld113 : x_fld (x_on 20) 88 32 [(11, 2)] := x_fld_1 (T := x_T11) rfl (by decide) ⟨"SessionHostModel", Or.inl (x_w 897 (by decide +kernel) (by decide +kernel)), Or.inl rfl⟩ (x_fld_0)
theorem x_efld114 : x_fld (x_on 20) 43 15 [(11, 2)] := x_fld_1 (T := x_T11) rfl (by decide) ⟨"SessionHostModel", Or.inl (x_w 880 (by decide +kernel) (by decide +kernel)), Or.inl rfl⟩ (x_fld_0)
theorem x_efld115 : x_fld (x_on 20) 46 16 [(11, 2)] := x_fld_1 (T := x_T11) rfl (by decide) ⟨"SessionHostModel", Or.inl (x_w 881 (by decide +kernel) (by decide +kernel)), Or.inl rfl⟩ (x_fld_0)
theorem x_efld116 : x_fld (x_on 20) 67 25 [(11, 2)] := x_fld_1 (T := x_T11) rfl (by decide) ⟨"SessionHostModel", Or.inl (x_w 890 (by decide +kernel) (by decide +kernel)), Or.inl rfl⟩ (x_fld_0)
theorem x_efld117 : x_fld (x_on 20) 73 27 [(11, 2)] := x_fld_1 (T := x_T11) rfl (by decide) ⟨"SessionHostModel", Or.inl (x_w 892 (by decide +kernel) (by decide +kernel)), Or.inl rfl⟩ (x_fld_0)
theorem x_efld118 : x_fld (x_on 20) 70 26 [(11, 2)] := x_fld_1 (T := x_T11) rfl (by decide) ⟨"SessionHostModel", Or.inl (x_w 891 (by decide +kernel) (by decide +kernel)), Or.inl rfl⟩ (x_fld_0)
theorem x_efld119 : x_fld (x_on 20) 76 28 [(11, 2)] := x_fld_1 (T := x_T11) rfl (by decide) ⟨"SessionHostModel", Or.inl (x_w 893 (by decide +kernel) (by decide +kernel)), Or.inl rfl⟩ (x_fld_0)
theorem x_efld120 : x_fld (x_on 20) 94 36 [(11, 2)] := x_fld_1 (T := x_T11) rfl (by decide) ⟨"SessionHostModel", Or.inl (x_w 901 (by decide +kernel) (by decide +kernel)), Or.inl rfl⟩ (x_fld_0)
theorem x_efld121 : x_fld (x_on 20) 103 39 [(11, 2)] := x_fld_1 (T := x_T11) rfl (by decide) ⟨"SessionHostModel", Or.inl (x_w 904 (by decide +kernel) (by decide +kernel)), Or.inl rfl⟩ (x_fld_0)
theorem x_efld122 : x_fld (x_on 20) 205 35 [(11, 0)] := x_fld_1 (T := x_T11) rfl (by decide) ⟨"SessionHostModel", Or.inl (x_w 900 (by decide +kernel) (by decide +kernel)), Or.inl rfl⟩ (x_fld_0)
theorem x_efld123 : x_fld (x_on 20) 97 37 [(11, 2)] := x_fld_1 (T := x_T11) rfl (by decide) ⟨"SessionHostModel", Or.inl (x_w 902 (by decide +kernel) (by decide +kernel)), Or.inl rfl⟩ (x_fld_0)
theorem x_efld124 : x_fld (x_on 20) 100 38 [(11, 2)] := x_fld_1 (T := x_T11) rfl (by decide) ⟨"SessionHostModel", Or.inl (x_w 903 (by decide +kernel) (by decide +kernel)), Or.inl rfl⟩ (x_fld_0)
theorem x_efld125 : x_fld (x_on 20) 85 31 [(11, 2)] := x_fld_1 (T := x_T11) rfl (by decide) ⟨"SessionHostModel", Or.inl (x_w 896 (by decide +kernel) (by decide +kernel)), Or.inl rfl⟩ (x_fld_0)
theorem x_efld126 : x_fld (x_on 20) 188 33 [(11, 0)] := x_fld_1 (T := x_T11) rfl (by decide) ⟨"SessionHostModel", Or.inl (x_w 898 (by decide +kernel) (by decide +kernel)), Or.inl rfl⟩ (x_fld_0)
theorem x_efld127 : x_fld (x_on 20) 106 40 [(11, 2)] := x_fld_1 (T := x_T11) rfl (by decide) ⟨"SessionHostModel", Or.inl (x_w 905 (by decide +kernel) (by decide +kernel)), Or.inl rfl⟩ (x_fld_0)
theorem x_efld128 : x_fld (x_on 20) 110 41 [(11, 2)] := x_fld_1 (T := x_T11) rfl (by decide) ⟨"SessionHostModel", Or.inl (x_w 906 (by decide +kernel) (by decide +kernel)), Or.inl rfl⟩ (x_fld_0)
def x_tfld : List (Nat × Nat × Nat × List (Nat × Nat)) := [(0, 32, 3, [(10, 2)]), (0, 62, 9, [(10, 0)]), (0, 58, 8, [(10, 0)]), (0, 44, 5, [(10, 2)]), (0, 38, 4, [(10, 2)]), (0, 10, 0, [(10, 2)]), (0, 95, 4, [(7, 2)]), (12, 14, 4, [(7, 2)]), (5, 48, 2, [(3, 0)]), (5, 9, 1, [(3, 2)]), (5, 63, 0, [(3, 0)]), (0, 26, 2, [(10, 2)]), (4, 9, 0, [(2, 2)]), (0, 106, 5, [(7, 1)]), (12, 20, 7, [(7, 1)]), (12, 24, 8, [(7, 1)]), (12, 40, 6, [(7, 1)]), (12, 59, 1, [(7, 2)]), (2, 19, 2, [(0, 0)]), (2, 11, 0, [(0, 2)]), (2, 15, 1, [(0, 0)]), (0, 233, 7, [(7, 1)]), (0, 51, 6, [(10, 2)]), (0, 19, 1, [(10, 2)]), (0, 128, 0, [(5, 2)]), (18, 3, 2, [(5, 0)]), (18, 41, 1, [(8, 2)]), (18, 37, 5, [(8, 2)]), (18, 60, 0, [(1, 0)]), (3, 13, 1, [(1, 0)]), (0, 55, 7, [(10, 2)]), (0, 223, 0, [(6, 2), (7, 2), (8, 2)]), (0, 288, 6, [(4, 0)]), (10, 15, 6, [(6, 0)]), (10, 19, 7, [(6, 0)]), (10, 22, 4, [(6, 0)]), (18, 20, 7, [(8, 0)]), (18, 23, 8, [(8, 1)]), (8, 24, 4, [(4, 0)]), (8, 11, 1, [(4, 2)]), (12, 34, 11, [(7, 0)]), (12, 31, 10, [(7, 0)]), (8, 21, 3, [(4, 2)]), (8, 28, 5, [(4, 2)]), (8, 52, 0, [(6, 2), (7, 2), (8, 2)]), (0, 260, 0, [(4, 0)]), (10, 9, 5, [(6, 2)]), (10, 25, 1, [(6, 2)]), (18, 15, 6, [(8, 0)]), (12, 27, 9, [(7, 0)]), (8, 17, 2, [(4, 2)]), (8, 41, 9, [(4, 2)]), (0, 305, 0, [(9, 2)]), (0, 309, 1, [(9, 0)]), (19, 11, 3, [(9, 0)]), (0, 301, 9, [(4, 2)]), (0, 247, 2, [(6, 0), (7, 0), (8, 0)]), (0, 162, 0, [(1, 0)]), (9, 16, 1, [(5, 0)]), (9, 10, 0, [(5, 2)]), (9, 35, 7, [(8, 0)]), (9, 48, 8, [(8, 1)]), (9, 52, 9, [(8, 0)]), (8, 45, 0, [(4, 0)]), (11, 24, 3, [(6, 0), (7, 0), (8, 0)]), (0, 195, 4, [(4, 0)]), (0, 266, 1, [(4, 2)]), (0, 201, 2, [(4, 2)]), (0, 270, 3, [(4, 2)]), (0, 208, 7, [(8, 0)]), (0, 220, 9, [(7, 0)]), (8, 73, 2, [(6, 0), (7, 0), (8, 0)]), (8, 35, 7, [(4, 0)]), (18, 33, 4, [(8, 2)]), (18, 77, 3, [(5, 0)]), (18, 30, 10, [(8, 0)]), (0, 198, 8, [(4, 0)]), (0, 205, 8, [(8, 1)]), (19, 15, 4, [(9, 1)]), (19, 29, 2, [(9, 1)]), (19, 19, 5, [(9, 0)]), (0, 217, 7, [(6, 0)]), (0, 226, 1, [(0, 0)]), (20, 79, 29, [(11, 2)]), (20, 91, 34, [(11, 2)]), (20, 113, 42, [(11, 2)]), (20, 130, 0, [(11, 0)]), (20, 133, 2, [(11, 0)]), (20, 7, 3, [(11, 2)]), (20, 13, 4, [(11, 2)]), (20, 16, 5, [(11, 2)]), (20, 19, 6, [(11, 2)]), (20, 25, 8, [(11, 2)]), (20, 22, 7, [(11, 2)]), (20, 49, 17, [(11, 2)]), (20, 148, 12, [(11, 0)]), (20, 28, 9, [(11, 2)]), (20, 37, 13, [(11, 2)]), (20, 40, 14, [(11, 2)]), (20, 31, 10, [(11, 2)]), (20, 34, 11, [(11, 2)]), (20, 123, 43, [(11, 0)]), (20, 116, 45, [(11, 2)]), (20, 119, 44, [(11, 0)]), (20, 155, 18, [(11, 0)]), (20, 52, 19, [(11, 2)]), (20, 55, 20, [(11, 2)]), (20, 58, 21, [(11, 2)]), (20, 61, 22, [(11, 2)]), (20, 223, 24, [(11, 0)]), (20, 64, 23, [(11, 2)]), (20, 185, 1, [(11, 0)]), (20, 82, 30, [(11, 2)]), (20, 88, 32, [(11, 2)]), (20, 43, 15, [(11, 2)]), (20, 46, 16, [(11, 2)]), (20, 67, 25, [(11, 2)]), (20, 73, 27, [(11, 2)]), (20, 70, 26, [(11, 2)]), (20, 76, 28, [(11, 2)]), (20, 94, 36, [(11, 2)]), (20, 103, 39, [(11, 2)]), (20, 205, 35, [(11, 0)]), (20, 97, 37, [(11, 2)]), (20, 100, 38, [(11, 2)]), (20, 85, 31, [(11, 2)]), (20, 188, 33, [(11, 0)]), (20, 106, 40, [(11, 2)]), (20, 110, 41, [(11, 2)])]
theorem x_tfld_ok : ∀ q ∈ x_tfld, x_fld (x_on q.1) q.2.1 q.2.2.1 q.2.2.2 := List.forall_mem_cons.mpr ⟨x_efld0, List.forall_mem_cons.mpr ⟨x_efld1, List.forall_mem_cons.mpr ⟨x_efld2, List.forall_mem_cons.mpr ⟨x_efld3, List.forall_mem_cons.mpr ⟨x_efld4, List.forall_mem_cons.mpr ⟨x_efld5, List.forall_mem_cons.mpr ⟨x_efld6, List.forall_mem_cons.mpr ⟨x_efld7, List.forall_mem_cons.mpr ⟨x_efld8, List.forall_mem_cons.mpr ⟨x_efld9, List.forall_mem_cons.mpr ⟨x_efld10, List.forall_mem_cons.mpr ⟨x_efld11, List.forall_mem_cons.mpr ⟨x_efld12, List.forall_mem_cons.mpr ⟨x_efld13, List.forall_mem_cons.mpr ⟨x_efld14, List.forall_mem_cons.mpr ⟨x_efld15, List.forall_mem_cons.mpr ⟨x_efld16, List.forall_mem_cons.mpr ⟨x_efld17, List.forall_mem_cons.mpr ⟨x_efld18, List.forall_mem_cons.mpr ⟨x_efld19, List.forall_mem_cons.mpr ⟨x_efld20, List.forall_mem_cons.mpr ⟨x_efld21, List.forall_mem_cons.mpr ⟨x_efld22, List.forall_mem_cons.mpr ⟨x_efld23, List.forall_mem_cons.mpr ⟨x_efld24, List.forall_mem_cons.mpr ⟨x_efld25, List.forall_mem_cons.mpr ⟨x_efld26, List.forall_mem_cons.mpr ⟨x_efld27, List.forall_mem_cons.mpr ⟨x_efld28, List.forall_mem_cons.mpr ⟨x_efld29, List.forall_mem_cons.mpr ⟨x_efld30, List.forall_mem_cons.mpr ⟨x_efld31, List.forall_mem_cons.mpr ⟨x_efld32, List.forall_mem_cons.mpr ⟨x_efld33, List.forall_mem_cons.mpr ⟨x_efld34, List.forall_mem_cons.mpr ⟨x_efld35, List.forall_mem_cons.mpr ⟨x_efld36, List.forall_mem_cons.mpr ⟨x_efld37, List.forall_mem_cons.mpr ⟨x_efld38, List.forall_mem_cons.mpr ⟨x_efld39, List.forall_mem_cons.mpr ⟨x_efld40, List.forall_mem_cons.mpr ⟨x_efld41, List.forall_mem_cons.mpr ⟨x_efld42, List.forall_mem_cons.mpr ⟨x_efld43, List.forall_mem_cons.mpr ⟨x_efld44, List.forall_mem_cons.mpr ⟨x_efld45, List.forall_mem_cons.mpr ⟨x_efld46, List.forall_mem_cons.mpr ⟨x_efld47, List.forall_mem_cons.mpr ⟨x_efld48, List.forall_mem_cons.mpr ⟨x_efld49, List.forall_mem_cons.mpr ⟨x_efld50, List.forall_mem_cons.mpr ⟨x_efld51, List.forall_mem_cons.mpr ⟨x_efld52, List.forall_mem_cons.mpr ⟨x_efld53, List.forall_mem_cons.mpr ⟨x_efld54, List.forall_mem_cons.mpr ⟨x_efld55, List.forall_mem_cons.mpr ⟨x_efld56, List.forall_mem_cons.mpr ⟨x_efld57, List.forall_mem_cons.mpr ⟨x_efld58, List.forall_mem_cons.mpr ⟨x_efld59, List.forall_mem_cons.mpr ⟨x_efld60, List.forall_mem_cons.mpr ⟨x_efld61, List.forall_mem_cons.mpr ⟨x_efld62, List.forall_mem_cons.mpr ⟨x_efld63, List.forall_mem_cons.mpr ⟨x_efld64, List.forall_mem_cons.mpr ⟨x_efld65, List.forall_mem_cons.mpr ⟨x_efld66, List.forall_mem_cons.mpr ⟨x_efld67, List.forall_mem_cons.mpr ⟨x_efld68, List.forall_mem_cons.mpr ⟨x_efld69, List.forall_mem_cons.mpr ⟨x_efld70, List.forall_mem_cons.mpr ⟨x_efld71, List.forall_mem_cons.mpr ⟨x_efld72, List.forall_mem_cons.mpr ⟨x_efld73, List.forall_mem_cons.mpr ⟨x_efld74, List.forall_mem_cons.mpr ⟨x_efld75, List.forall_mem_cons.mpr ⟨x_efld76, List.forall_mem_cons.mpr ⟨x_efld77, List.forall_mem_cons.mpr ⟨x_efld78, List.forall_mem_cons.mpr ⟨x_efld79, List.forall_mem_cons.mpr ⟨x_efld80, List.forall_mem_cons.mpr ⟨x_efld81, List.forall_mem_cons.mpr ⟨x_efld82, List.forall_mem_cons.mpr ⟨x_efld83, List.forall_mem_cons.mpr ⟨x_efld84, List.forall_mem_cons.mpr ⟨x_efld85, List.forall_mem_cons.mpr ⟨x_efld86, List.forall_mem_cons.mpr ⟨x_efld87, List.forall_mem_cons.mpr ⟨x_efld88, List.forall_mem_cons.mpr ⟨x_efld89, List.forall_mem_cons.mpr ⟨x_efld90, List.forall_mem_cons.mpr ⟨x_efld91, List.forall_mem_cons.mpr ⟨x_efld92, List.forall_mem_cons.mpr ⟨x_efld93, List.forall_mem_cons.mpr ⟨x_efld94, List.forall_mem_cons.mpr ⟨x_efld95, List.forall_mem_cons.mpr ⟨x_efld96, List.forall_mem_cons.mpr ⟨x_efld97, List.forall_mem_cons.mpr ⟨x_efld98, List.forall_mem_cons.mpr ⟨x_efld99, List.forall_mem_cons.mpr ⟨x_efld100, List.forall_mem_cons.mpr ⟨x_efld101, List.forall_mem_cons.mpr ⟨x_efld102, List.forall_mem_cons.mpr ⟨x_efld103, List.forall_mem_cons.mpr ⟨x_efld104, List.forall_mem_cons.mpr ⟨x_efld105, List.forall_mem_cons.mpr ⟨x_efld106, List.forall_mem_cons.mpr ⟨x_efld107, List.forall_mem_cons.mpr ⟨x_efld108, List.forall_mem_cons.mpr ⟨x_efld109, List.forall_mem_cons.mpr ⟨x_efld110, List.forall_mem_cons.mpr ⟨x_efld111, List.forall_mem_cons.mpr ⟨x_efld112, List.forall_mem_cons.mpr ⟨x_efld113, List.forall_mem_cons.mpr ⟨x_efld114, List.forall_mem_cons.mpr ⟨x_efld115, List.forall_mem_cons.mpr ⟨x_efld116, List.forall_mem_cons.mpr ⟨x_efld117, List.forall_mem_cons.mpr ⟨x_efld118, List.forall_mem_cons.mpr ⟨x_efld119, List.forall_mem_cons.mpr ⟨x_efld120, List.forall_mem_cons.mpr ⟨x_efld121, List.forall_mem_cons.mpr ⟨x_efld122, List.forall_mem_cons.mpr ⟨x_efld123, List.forall_mem_cons.mpr ⟨x_efld124, List.forall_mem_cons.mpr ⟨x_efld125, List.forall_mem_cons.mpr ⟨x_efld126, List.forall_mem_cons.mpr ⟨x_efld127, List.forall_mem_cons.mpr ⟨x_efld128, (fun _ h => nomatch h)⟩⟩⟩⟩⟩⟩⟩⟩⟩⟩⟩⟩⟩⟩⟩⟩⟩⟩⟩⟩⟩⟩⟩⟩⟩⟩⟩⟩⟩⟩⟩⟩⟩⟩⟩⟩⟩⟩⟩⟩⟩⟩⟩⟩⟩⟩⟩⟩⟩⟩⟩⟩⟩⟩⟩⟩⟩⟩⟩⟩⟩⟩⟩⟩⟩⟩⟩⟩⟩⟩⟩⟩⟩⟩⟩⟩⟩⟩⟩⟩⟩⟩⟩⟩⟩⟩⟩⟩⟩⟩⟩⟩⟩⟩⟩⟩⟩⟩⟩⟩⟩⟩⟩⟩⟩⟩⟩⟩⟩⟩⟩⟩⟩⟩⟩⟩⟩⟩⟩⟩⟩⟩⟩⟩⟩⟩⟩⟩⟩
theorem x_efwr0 : x_fwr (x_on 0) true 10 0 [(10, 2)] := x_fwr_1 (T := x_T10) (.object "SessionHost$Journal") rfl (by decide) ⟨"SessionHost", Or.inl (x_w 209 (by decide +kernel) (by decide +kernel)), Or.inl rfl⟩ (Or.inr ⟨rfl, rfl, rfl, x_w 209 (by decide +kernel) (by decide +kernel)⟩) (by decide +kernel) rfl (x_fwr_0)
theorem x_efwr1 : x_fwr (x_on 0) true 19 1 [(10, 2)] := x_fwr_1 (T := x_T10) (.object "SessionHost$Clock") rfl (by decide) ⟨"SessionHost", Or.inl (x_w 210 (by decide +kernel) (by decide +kernel)), Or.inl rfl⟩ (Or.inr ⟨rfl, rfl, rfl, x_w 210 (by decide +kernel) (by decide +kernel)⟩) (by decide +kernel) rfl (x_fwr_0)
theorem x_efwr2 : x_fwr (x_on 0) true 26 2 [(10, 2)] := x_fwr_1 (T := x_T10) (.object "SessionHost$ExceptionTypes") rfl (by decide) ⟨"SessionHost", Or.inl (x_w 211 (by decide +kernel) (by decide +kernel)), Or.inl rfl⟩ (Or.inr ⟨rfl, rfl, rfl, x_w 211 (by decide +kernel) (by decide +kernel)⟩) (by decide +kernel) rfl (x_fwr_0)
theorem x_efwr3 : x_fwr (x_on 0) true 32 3 [(10, 2)] := x_fwr_1 (T := x_T10) (.array (.object "SessionHost$Caller")) rfl (by decide) ⟨"SessionHost", Or.inl (x_w 212 (by decide +kernel) (by decide +kernel)), Or.inl rfl⟩ (Or.inr ⟨rfl, rfl, rfl, x_w 212 (by decide +kernel) (by decide +kernel)⟩) (by decide +kernel) rfl (x_fwr_0)
theorem x_efwr4 : x_fwr (x_on 0) true 38 4 [(10, 2)] := x_fwr_1 (T := x_T10) (.array (.object "SessionHost$Target")) rfl (by decide) ⟨"SessionHost", Or.inl (x_w 213 (by decide +kernel) (by decide +kernel)), Or.inl rfl⟩ (Or.inr ⟨rfl, rfl, rfl, x_w 213 (by decide +kernel) (by decide +kernel)⟩) (by decide +kernel) rfl (x_fwr_0)
theorem x_efwr5 : x_fwr (x_on 0) true 44 5 [(10, 2)] := x_fwr_1 (T := x_T10) (.array (.object "SessionHost$Stateful")) rfl (by decide) ⟨"SessionHost", Or.inl (x_w 214 (by decide +kernel) (by decide +kernel)), Or.inl rfl⟩ (Or.inr ⟨rfl, rfl, rfl, x_w 214 (by decide +kernel) (by decide +kernel)⟩) (by decide +kernel) rfl (x_fwr_0)
theorem x_efwr6 : x_fwr (x_on 0) true 51 6 [(10, 2)] := x_fwr_1 (T := x_T10) (.object "java/util/ArrayList") rfl (by decide) ⟨"SessionHost", Or.inl (x_w 215 (by decide +kernel) (by decide +kernel)), Or.inl rfl⟩ (Or.inr ⟨rfl, rfl, rfl, x_w 215 (by decide +kernel) (by decide +kernel)⟩) (by decide +kernel) rfl (x_fwr_0)
theorem x_efwr7 : x_fwr (x_on 0) true 55 7 [(10, 2)] := x_fwr_1 (T := x_T10) (.object "java/util/ArrayList") rfl (by decide) ⟨"SessionHost", Or.inl (x_w 216 (by decide +kernel) (by decide +kernel)), Or.inl rfl⟩ (Or.inr ⟨rfl, rfl, rfl, x_w 216 (by decide +kernel) (by decide +kernel)⟩) (by decide +kernel) rfl (x_fwr_0)
theorem x_efwr8 : x_fwr (x_on 0) true 58 8 [(10, 0)] := x_fwr_1 (T := x_T10) (.int) rfl (by decide) ⟨"SessionHost", Or.inl (x_w 217 (by decide +kernel) (by decide +kernel)), Or.inl rfl⟩ (Or.inl rfl) (by decide +kernel) rfl (x_fwr_0)
theorem x_efwr9 : x_fwr (x_on 0) true 62 9 [(10, 0)] := x_fwr_1 (T := x_T10) (.int) rfl (by decide) ⟨"SessionHost", Or.inl (x_w 218 (by decide +kernel) (by decide +kernel)), Or.inl rfl⟩ (Or.inl rfl) (by decide +kernel) rfl (x_fwr_0)
theorem x_efwr10 : x_fwr (x_on 2) true 11 0 [(0, 2)] := x_fwr_1 (T := x_T0) (.array (.int)) rfl (by decide) ⟨"SessionHost$Journal", Or.inl (x_w 95 (by decide +kernel) (by decide +kernel)), Or.inl rfl⟩ (Or.inr ⟨rfl, rfl, rfl, x_w 95 (by decide +kernel) (by decide +kernel)⟩) (by decide +kernel) rfl (x_fwr_0)
theorem x_efwr11 : x_fwr (x_on 2) true 15 1 [(0, 0)] := x_fwr_1 (T := x_T0) (.int) rfl (by decide) ⟨"SessionHost$Journal", Or.inl (x_w 96 (by decide +kernel) (by decide +kernel)), Or.inl rfl⟩ (Or.inl rfl) (by decide +kernel) rfl (x_fwr_0)
theorem x_efwr12 : x_fwr (x_on 2) true 19 2 [(0, 0)] := x_fwr_1 (T := x_T0) (.int) rfl (by decide) ⟨"SessionHost$Journal", Or.inl (x_w 98 (by decide +kernel) (by decide +kernel)), Or.inl rfl⟩ (Or.inl rfl) (by decide +kernel) rfl (x_fwr_0)
theorem x_efwr13 : x_fwr (x_on 3) true 7 0 [(1, 0)] := x_fwr_1 (T := x_T1) (.int) rfl (by decide) ⟨"SessionHost$Clock", Or.inl (x_w 113 (by decide +kernel) (by decide +kernel)), Or.inl rfl⟩ (Or.inl rfl) (by decide +kernel) rfl (x_fwr_0)
theorem x_efwr14 : x_fwr (x_on 3) true 13 1 [(1, 0)] := x_fwr_1 (T := x_T1) (.int) rfl (by decide) ⟨"SessionHost$Clock", Or.inl (x_w 116 (by decide +kernel) (by decide +kernel)), Or.inl rfl⟩ (Or.inl rfl) (by decide +kernel) rfl (x_fwr_0)
theorem x_efwr15 : x_fwr (x_on 4) true 9 0 [(2, 2)] := x_fwr_1 (T := x_T2) (.array (.int)) rfl (by decide) ⟨"SessionHost$ExceptionTypes", Or.inl (x_w 128 (by decide +kernel) (by decide +kernel)), Or.inl rfl⟩ (Or.inr ⟨rfl, rfl, rfl, x_w 128 (by decide +kernel) (by decide +kernel)⟩) (by decide +kernel) rfl (x_fwr_0)
theorem x_efwr16 : x_fwr (x_on 5) true 9 1 [(3, 2)] := x_fwr_1 (T := x_T3) (.array (.object "java/lang/Object")) rfl (by decide) ⟨"java/util/ArrayList", Or.inl (x_w 152 (by decide +kernel) (by decide +kernel)), Or.inl rfl⟩ (Or.inl rfl) (by decide +kernel) rfl (x_fwr_0)
theorem x_efwr17 : x_fwr (x_on 6) true 7 0 [(3, 0)] := x_fwr_1 (T := x_T3) (.int) rfl (by decide) ⟨"java/util/AbstractList", Or.inl (x_w 154 (by decide +kernel) (by decide +kernel)), Or.inl rfl⟩ (Or.inl rfl) (by decide +kernel) rfl (x_fwr_0)
theorem x_efwr18 : x_fwr (x_on 8) true 11 1 [(4, 2)] := x_fwr_1 (T := x_T4) (.array (.object "SessionHost$Target")) rfl (by decide) ⟨"SessionHost$Caller", Or.inl (x_w 172 (by decide +kernel) (by decide +kernel)), Or.inl rfl⟩ (Or.inr ⟨rfl, rfl, rfl, x_w 172 (by decide +kernel) (by decide +kernel)⟩) (by decide +kernel) rfl (x_fwr_0)
theorem x_efwr19 : x_fwr (x_on 8) true 17 2 [(4, 2)] := x_fwr_1 (T := x_T4) (.array (.int)) rfl (by decide) ⟨"SessionHost$Caller", Or.inl (x_w 174 (by decide +kernel) (by decide +kernel)), Or.inl rfl⟩ (Or.inr ⟨rfl, rfl, rfl, x_w 174 (by decide +kernel) (by decide +kernel)⟩) (by decide +kernel) rfl (x_fwr_0)
theorem x_efwr20 : x_fwr (x_on 8) true 21 3 [(4, 2)] := x_fwr_1 (T := x_T4) (.array (.int)) rfl (by decide) ⟨"SessionHost$Caller", Or.inl (x_w 176 (by decide +kernel) (by decide +kernel)), Or.inl rfl⟩ (Or.inr ⟨rfl, rfl, rfl, x_w 176 (by decide +kernel) (by decide +kernel)⟩) (by decide +kernel) rfl (x_fwr_0)
theorem x_efwr21 : x_fwr (x_on 8) true 24 4 [(4, 0)] := x_fwr_1 (T := x_T4) (.int) rfl (by decide) ⟨"SessionHost$Caller", Or.inl (x_w 178 (by decide +kernel) (by decide +kernel)), Or.inl rfl⟩ (Or.inl rfl) (by decide +kernel) rfl (x_fwr_0)
theorem x_efwr22 : x_fwr (x_on 8) true 28 5 [(4, 2)] := x_fwr_1 (T := x_T4) (.object "SessionHost$Target") rfl (by decide) ⟨"SessionHost$Caller", Or.inl (x_w 180 (by decide +kernel) (by decide +kernel)), Or.inl rfl⟩ (Or.inl rfl) (by decide +kernel) rfl (x_fwr_0)
theorem x_efwr23 : x_fwr (x_on 8) true 32 6 [(4, 0)] := x_fwr_1 (T := x_T4) (.int) rfl (by decide) ⟨"SessionHost$Caller", Or.inl (x_w 181 (by decide +kernel) (by decide +kernel)), Or.inl rfl⟩ (Or.inl rfl) (by decide +kernel) rfl (x_fwr_0)
theorem x_efwr24 : x_fwr (x_on 8) true 35 7 [(4, 0)] := x_fwr_1 (T := x_T4) (.int) rfl (by decide) ⟨"SessionHost$Caller", Or.inl (x_w 183 (by decide +kernel) (by decide +kernel)), Or.inl rfl⟩ (Or.inl rfl) (by decide +kernel) rfl (x_fwr_0)
theorem x_efwr25 : x_fwr (x_on 8) true 38 8 [(4, 0)] := x_fwr_1 (T := x_T4) (.int) rfl (by decide) ⟨"SessionHost$Caller", Or.inl (x_w 184 (by decide +kernel) (by decide +kernel)), Or.inl rfl⟩ (Or.inl rfl) (by decide +kernel) rfl (x_fwr_0)
theorem x_efwr26 : x_fwr (x_on 8) true 41 9 [(4, 2)] := x_fwr_1 (T := x_T4) (.object "SessionHost$Task") rfl (by decide) ⟨"SessionHost$Caller", Or.inl (x_w 186 (by decide +kernel) (by decide +kernel)), Or.inl rfl⟩ (Or.inl rfl) (by decide +kernel) rfl (x_fwr_0)
theorem x_efwr27 : x_fwr (x_on 8) true 45 0 [(4, 0)] := x_fwr_1 (T := x_T4) (.int) rfl (by decide) ⟨"SessionHost$Caller", Or.inl (x_w 170 (by decide +kernel) (by decide +kernel)), Or.inl rfl⟩ (Or.inr ⟨rfl, rfl, rfl, x_w 170 (by decide +kernel) (by decide +kernel)⟩) (by decide +kernel) rfl (x_fwr_0)
theorem x_efwr28 : x_fwr (x_on 0) false 58 8 [(10, 0)] := x_fwr_1 (T := x_T10) (.int) rfl (by decide) ⟨"SessionHost", Or.inl (x_w 217 (by decide +kernel) (by decide +kernel)), Or.inl rfl⟩ (Or.inl rfl) (by decide +kernel) rfl (x_fwr_0)
theorem x_efwr29 : x_fwr (x_on 9) true 10 0 [(5, 2)] := x_fwr_1 (T := x_T5) (.object "java/util/ArrayList") rfl (by decide) ⟨"SessionHost$Stateful", Or.inl (x_w 254 (by decide +kernel) (by decide +kernel)), Or.inl rfl⟩ (Or.inr ⟨rfl, rfl, rfl, x_w 254 (by decide +kernel) (by decide +kernel)⟩) (by decide +kernel) rfl (x_fwr_0)
theorem x_efwr30 : x_fwr (x_on 9) true 16 1 [(5, 0)] := x_fwr_1 (T := x_T5) (.int) rfl (by decide) ⟨"SessionHost$Stateful", Or.inl (x_w 256 (by decide +kernel) (by decide +kernel)), Or.inl rfl⟩ (Or.inr ⟨rfl, rfl, rfl, x_w 256 (by decide +kernel) (by decide +kernel)⟩) (by decide +kernel) rfl (x_fwr_0)
theorem x_efwr31 : x_fwr (x_on 9) true 20 2 [(5, 0)] := x_fwr_1 (T := x_T5) (.int) rfl (by decide) ⟨"SessionHost$Stateful", Or.inl (x_w 258 (by decide +kernel) (by decide +kernel)), Or.inl rfl⟩ (Or.inr ⟨rfl, rfl, rfl, x_w 258 (by decide +kernel) (by decide +kernel)⟩) (by decide +kernel) rfl (x_fwr_0)
theorem x_efwr32 : x_fwr (x_on 9) true 23 3 [(5, 0)] := x_fwr_1 (T := x_T5) (.int) rfl (by decide) ⟨"SessionHost$Stateful", Or.inl (x_w 259 (by decide +kernel) (by decide +kernel)), Or.inl rfl⟩ (Or.inr ⟨rfl, rfl, rfl, x_w 259 (by decide +kernel) (by decide +kernel)⟩) (by decide +kernel) rfl (x_fwr_0)
theorem x_efwr33 : x_fwr (x_on 10) true 9 5 [(6, 2)] := x_fwr_1 (T := x_T6) (.array (.int)) rfl (by decide) ⟨"SessionHost$Pool", Or.inl (x_w 282 (by decide +kernel) (by decide +kernel)), Or.inl rfl⟩ (Or.inr ⟨rfl, rfl, rfl, x_w 282 (by decide +kernel) (by decide +kernel)⟩) (by decide +kernel) rfl (x_fwr_0)
theorem x_efwr34 : x_fwr (x_on 10) true 15 6 [(6, 0)] := x_fwr_1 (T := x_T6) (.int) rfl (by decide) ⟨"SessionHost$Pool", Or.inl (x_w 283 (by decide +kernel) (by decide +kernel)), Or.inl rfl⟩ (Or.inl rfl) (by decide +kernel) rfl (x_fwr_0)
theorem x_efwr35 : x_fwr (x_on 10) true 19 7 [(6, 0)] := x_fwr_1 (T := x_T6) (.int) rfl (by decide) ⟨"SessionHost$Pool", Or.inl (x_w 284 (by decide +kernel) (by decide +kernel)), Or.inl rfl⟩ (Or.inl rfl) (by decide +kernel) rfl (x_fwr_0)
theorem x_efwr36 : x_fwr (x_on 10) true 22 4 [(6, 0)] := x_fwr_1 (T := x_T6) (.int) rfl (by decide) ⟨"SessionHost$Pool", Or.inl (x_w 281 (by decide +kernel) (by decide +kernel)), Or.inl rfl⟩ (Or.inr ⟨rfl, rfl, rfl, x_w 281 (by decide +kernel) (by decide +kernel)⟩) (by decide +kernel) rfl (x_fwr_0)
theorem x_efwr37 : x_fwr (x_on 11) true 10 0 [(6, 2), (7, 2), (8, 2)] := x_fwr_1 (T := x_T6) (.object "java/util/ArrayList") rfl (by decide) ⟨"SessionHost$Target", Or.inl (x_w 286 (by decide +kernel) (by decide +kernel)), Or.inl rfl⟩ (Or.inr ⟨rfl, rfl, rfl, x_w 286 (by decide +kernel) (by decide +kernel)⟩) (by decide +kernel) rfl (x_fwr_1 (T := x_T7) (.object "java/util/ArrayList") rfl (by decide) ⟨"SessionHost$Target", Or.inl (x_w 286 (by decide +kernel) (by decide +kernel)), Or.inl rfl⟩ (Or.inr ⟨rfl, rfl, rfl, x_w 286 (by decide +kernel) (by decide +kernel)⟩) (by decide +kernel) rfl (x_fwr_1 (T := x_T8) (.object "java/util/ArrayList") rfl (by decide) ⟨"SessionHost$Target", Or.inl (x_w 286 (by decide +kernel) (by decide +kernel)), Or.inl rfl⟩ (Or.inr ⟨rfl, rfl, rfl, x_w 286 (by decide +kernel) (by decide +kernel)⟩) (by decide +kernel) rfl (x_fwr_0)))
theorem x_efwr38 : x_fwr (x_on 11) true 16 1 [(6, 2), (7, 2), (8, 2)] := x_fwr_1 (T := x_T6) (.object "SessionHost$Journal") rfl (by decide) ⟨"SessionHost$Target", Or.inl (x_w 289 (by decide +kernel) (by decide +kernel)), Or.inl rfl⟩ (Or.inr ⟨rfl, rfl, rfl, x_w 289 (by decide +kernel) (by decide +kernel)⟩) (by decide +kernel) rfl (x_fwr_1 (T := x_T7) (.object "SessionHost$Journal") rfl (by decide) ⟨"SessionHost$Target", Or.inl (x_w 289 (by decide +kernel) (by decide +kernel)), Or.inl rfl⟩ (Or.inr ⟨rfl, rfl, rfl, x_w 289 (by decide +kernel) (by decide +kernel)⟩) (by decide +kernel) rfl (x_fwr_1 (T := x_T8) (.object "SessionHost$Journal") rfl (by decide) ⟨"SessionHost$Target", Or.inl (x_w 289 (by decide +kernel) (by decide +kernel)), Or.inl rfl⟩ (Or.inr ⟨rfl, rfl, rfl, x_w 289 (by decide +kernel) (by decide +kernel)⟩) (by decide +kernel) rfl (x_fwr_0)))
theorem x_efwr39 : x_fwr (x_on 11) true 20 2 [(6, 0), (7, 0), (8, 0)] := x_fwr_1 (T := x_T6) (.int) rfl (by decide) ⟨"SessionHost$Target", Or.inl (x_w 296 (by decide +kernel) (by decide +kernel)), Or.inl rfl⟩ (Or.inr ⟨rfl, rfl, rfl, x_w 296 (by decide +kernel) (by decide +kernel)⟩) (by decide +kernel) rfl (x_fwr_1 (T := x_T7) (.int) rfl (by decide) ⟨"SessionHost$Target", Or.inl (x_w 296 (by decide +kernel) (by decide +kernel)), Or.inl rfl⟩ (Or.inr ⟨rfl, rfl, rfl, x_w 296 (by decide +kernel) (by decide +kernel)⟩) (by decide +kernel) rfl (x_fwr_1 (T := x_T8) (.int) rfl (by decide) ⟨"SessionHost$Target", Or.inl (x_w 296 (by decide +kernel) (by decide +kernel)), Or.inl rfl⟩ (Or.inr ⟨rfl, rfl, rfl, x_w 296 (by decide +kernel) (by decide +kernel)⟩) (by decide +kernel) rfl (x_fwr_0)))
theorem x_efwr40 : x_fwr (x_on 11) true 24 3 [(6, 0), (7, 0), (8, 0)] := x_fwr_1 (T := x_T6) (.int) rfl (by decide) ⟨"SessionHost$Target", Or.inl (x_w 299 (by decide +kernel) (by decide +kernel)), Or.inl rfl⟩ (Or.inr ⟨rfl, rfl, rfl, x_w 299 (by decide +kernel) (by decide +kernel)⟩) (by decide +kernel) rfl (x_fwr_1 (T := x_T7) (.int) rfl (by decide) ⟨"SessionHost$Target", Or.inl (x_w 299 (by decide +kernel) (by decide +kernel)), Or.inl rfl⟩ (Or.inr ⟨rfl, rfl, rfl, x_w 299 (by decide +kernel) (by decide +kernel)⟩) (by decide +kernel) rfl (x_fwr_1 (T := x_T8) (.int) rfl (by decide) ⟨"SessionHost$Target", Or.inl (x_w 299 (by decide +kernel) (by decide +kernel)), Or.inl rfl⟩ (Or.inr ⟨rfl, rfl, rfl, x_w 299 (by decide +kernel) (by decide +kernel)⟩) (by decide +kernel) rfl (x_fwr_0)))
theorem x_efwr41 : x_fwr (x_on 12) true 14 4 [(7, 2)] := x_fwr_1 (T := x_T7) (.object "java/util/ArrayList") rfl (by decide) ⟨"SessionHost$Singleton", Or.inl (x_w 325 (by decide +kernel) (by decide +kernel)), Or.inl rfl⟩ (Or.inr ⟨rfl, rfl, rfl, x_w 325 (by decide +kernel) (by decide +kernel)⟩) (by decide +kernel) rfl (x_fwr_0)
theorem x_efwr42 : x_fwr (x_on 12) true 20 7 [(7, 1)] := x_fwr_1 (T := x_T7) (.boolean) rfl (by decide) ⟨"SessionHost$Singleton", Or.inl (x_w 330 (by decide +kernel) (by decide +kernel)), Or.inl rfl⟩ (Or.inl rfl) (by decide +kernel) rfl (x_fwr_0)
theorem x_efwr43 : x_fwr (x_on 12) true 24 8 [(7, 1)] := x_fwr_1 (T := x_T7) (.boolean) rfl (by decide) ⟨"SessionHost$Singleton", Or.inl (x_w 332 (by decide +kernel) (by decide +kernel)), Or.inl rfl⟩ (Or.inl rfl) (by decide +kernel) rfl (x_fwr_0)
theorem x_efwr44 : x_fwr (x_on 12) true 27 9 [(7, 0)] := x_fwr_1 (T := x_T7) (.int) rfl (by decide) ⟨"SessionHost$Singleton", Or.inl (x_w 333 (by decide +kernel) (by decide +kernel)), Or.inl rfl⟩ (Or.inl rfl) (by decide +kernel) rfl (x_fwr_0)
theorem x_efwr45 : x_fwr (x_on 12) true 31 10 [(7, 0)] := x_fwr_1 (T := x_T7) (.int) rfl (by decide) ⟨"SessionHost$Singleton", Or.inl (x_w 335 (by decide +kernel) (by decide +kernel)), Or.inl rfl⟩ (Or.inl rfl) (by decide +kernel) rfl (x_fwr_0)
theorem x_efwr46 : x_fwr (x_on 12) true 34 11 [(7, 0)] := x_fwr_1 (T := x_T7) (.int) rfl (by decide) ⟨"SessionHost$Singleton", Or.inl (x_w 336 (by decide +kernel) (by decide +kernel)), Or.inl rfl⟩ (Or.inl rfl) (by decide +kernel) rfl (x_fwr_0)
theorem x_efwr47 : x_fwr (x_on 12) true 37 5 [(7, 1)] := x_fwr_1 (T := x_T7) (.boolean) rfl (by decide) ⟨"SessionHost$Singleton", Or.inl (x_w 327 (by decide +kernel) (by decide +kernel)), Or.inl rfl⟩ (Or.inr ⟨rfl, rfl, rfl, x_w 327 (by decide +kernel) (by decide +kernel)⟩) (by decide +kernel) rfl (x_fwr_0)
theorem x_efwr48 : x_fwr (x_on 12) true 40 6 [(7, 1)] := x_fwr_1 (T := x_T7) (.boolean) rfl (by decide) ⟨"SessionHost$Singleton", Or.inl (x_w 329 (by decide +kernel) (by decide +kernel)), Or.inl rfl⟩ (Or.inr ⟨rfl, rfl, rfl, x_w 329 (by decide +kernel) (by decide +kernel)⟩) (by decide +kernel) rfl (x_fwr_0)
theorem x_efwr49 : x_fwr (x_on 5) false 63 0 [(3, 0)] := x_fwr_1 (T := x_T3) (.int) rfl (by decide) ⟨"java/util/ArrayList", Or.inl (x_w 155 (by decide +kernel) (by decide +kernel)), Or.inr (x_w 156 (by decide +kernel) (by decide +kernel))⟩ (Or.inl rfl) (by decide +kernel) rfl (x_fwr_0)
theorem x_efwr50 : x_fwr (x_on 5) false 48 2 [(3, 0)] := x_fwr_1 (T := x_T3) (.int) rfl (by decide) ⟨"java/util/ArrayList", Or.inl (x_w 153 (by decide +kernel) (by decide +kernel)), Or.inl rfl⟩ (Or.inl rfl) (by decide +kernel) rfl (x_fwr_0)
theorem x_efwr51 : x_fwr (x_on 5) false 9 1 [(3, 2)] := x_fwr_1 (T := x_T3) (.array (.object "java/lang/Object")) rfl (by decide) ⟨"java/util/ArrayList", Or.inl (x_w 152 (by decide +kernel) (by decide +kernel)), Or.inl rfl⟩ (Or.inl rfl) (by decide +kernel) rfl (x_fwr_0)
theorem x_efwr52 : x_fwr (x_on 0) false 62 9 [(10, 0)] := x_fwr_1 (T := x_T10) (.int) rfl (by decide) ⟨"SessionHost", Or.inl (x_w 218 (by decide +kernel) (by decide +kernel)), Or.inl rfl⟩ (Or.inl rfl) (by decide +kernel) rfl (x_fwr_0)
theorem x_efwr53 : x_fwr (x_on 12) false 24 8 [(7, 1)] := x_fwr_1 (T := x_T7) (.boolean) rfl (by decide) ⟨"SessionHost$Singleton", Or.inl (x_w 332 (by decide +kernel) (by decide +kernel)), Or.inl rfl⟩ (Or.inl rfl) (by decide +kernel) rfl (x_fwr_0)
theorem x_efwr54 : x_fwr (x_on 12) false 20 7 [(7, 1)] := x_fwr_1 (T := x_T7) (.boolean) rfl (by decide) ⟨"SessionHost$Singleton", Or.inl (x_w 330 (by decide +kernel) (by decide +kernel)), Or.inl rfl⟩ (Or.inl rfl) (by decide +kernel) rfl (x_fwr_0)
theorem x_efwr55 : x_fwr (x_on 12) false 27 9 [(7, 0)] := x_fwr_1 (T := x_T7) (.int) rfl (by decide) ⟨"SessionHost$Singleton", Or.inl (x_w 333 (by decide +kernel) (by decide +kernel)), Or.inl rfl⟩ (Or.inl rfl) (by decide +kernel) rfl (x_fwr_0)
theorem x_efwr56 : x_fwr (x_on 2) false 19 2 [(0, 0)] := x_fwr_1 (T := x_T0) (.int) rfl (by decide) ⟨"SessionHost$Journal", Or.inl (x_w 98 (by decide +kernel) (by decide +kernel)), Or.inl rfl⟩ (Or.inl rfl) (by decide +kernel) rfl (x_fwr_0)
theorem x_efwr57 : x_fwr (x_on 2) false 15 1 [(0, 0)] := x_fwr_1 (T := x_T0) (.int) rfl (by decide) ⟨"SessionHost$Journal", Or.inl (x_w 96 (by decide +kernel) (by decide +kernel)), Or.inl rfl⟩ (Or.inl rfl) (by decide +kernel) rfl (x_fwr_0)
theorem x_efwr58 : x_fwr (x_on 18) true 15 6 [(8, 0)] := x_fwr_1 (T := x_T8) (.int) rfl (by decide) ⟨"SessionHost$Session", Or.inl (x_w 498 (by decide +kernel) (by decide +kernel)), Or.inl rfl⟩ (Or.inl rfl) (by decide +kernel) rfl (x_fwr_0)
theorem x_efwr59 : x_fwr (x_on 18) true 20 7 [(8, 0)] := x_fwr_1 (T := x_T8) (.int) rfl (by decide) ⟨"SessionHost$Session", Or.inl (x_w 499 (by decide +kernel) (by decide +kernel)), Or.inl rfl⟩ (Or.inl rfl) (by decide +kernel) rfl (x_fwr_0)
theorem x_efwr60 : x_fwr (x_on 18) true 23 8 [(8, 1)] := x_fwr_1 (T := x_T8) (.boolean) rfl (by decide) ⟨"SessionHost$Session", Or.inl (x_w 502 (by decide +kernel) (by decide +kernel)), Or.inl rfl⟩ (Or.inl rfl) (by decide +kernel) rfl (x_fwr_0)
theorem x_efwr61 : x_fwr (x_on 18) true 27 9 [(8, 0)] := x_fwr_1 (T := x_T8) (.int) rfl (by decide) ⟨"SessionHost$Session", Or.inl (x_w 505 (by decide +kernel) (by decide +kernel)), Or.inl rfl⟩ (Or.inl rfl) (by decide +kernel) rfl (x_fwr_0)
theorem x_efwr62 : x_fwr (x_on 18) true 30 10 [(8, 0)] := x_fwr_1 (T := x_T8) (.int) rfl (by decide) ⟨"SessionHost$Session", Or.inl (x_w 507 (by decide +kernel) (by decide +kernel)), Or.inl rfl⟩ (Or.inl rfl) (by decide +kernel) rfl (x_fwr_0)
theorem x_efwr63 : x_fwr (x_on 18) true 33 4 [(8, 2)] := x_fwr_1 (T := x_T8) (.object "SessionHost$Stateful") rfl (by decide) ⟨"SessionHost$Session", Or.inl (x_w 496 (by decide +kernel) (by decide +kernel)), Or.inl rfl⟩ (Or.inr ⟨rfl, rfl, rfl, x_w 496 (by decide +kernel) (by decide +kernel)⟩) (by decide +kernel) rfl (x_fwr_0)
theorem x_efwr64 : x_fwr (x_on 18) true 37 5 [(8, 2)] := x_fwr_1 (T := x_T8) (.object "SessionHost$Clock") rfl (by decide) ⟨"SessionHost$Session", Or.inl (x_w 497 (by decide +kernel) (by decide +kernel)), Or.inl rfl⟩ (Or.inr ⟨rfl, rfl, rfl, x_w 497 (by decide +kernel) (by decide +kernel)⟩) (by decide +kernel) rfl (x_fwr_0)
theorem x_efwr65 : x_fwr (x_on 18) false 15 6 [(8, 0)] := x_fwr_1 (T := x_T8) (.int) rfl (by decide) ⟨"SessionHost$Session", Or.inl (x_w 498 (by decide +kernel) (by decide +kernel)), Or.inl rfl⟩ (Or.inl rfl) (by decide +kernel) rfl (x_fwr_0)
theorem x_efwr66 : x_fwr (x_on 18) false 20 7 [(8, 0)] := x_fwr_1 (T := x_T8) (.int) rfl (by decide) ⟨"SessionHost$Session", Or.inl (x_w 499 (by decide +kernel) (by decide +kernel)), Or.inl rfl⟩ (Or.inl rfl) (by decide +kernel) rfl (x_fwr_0)
theorem x_efwr67 : x_fwr (x_on 18) false 27 9 [(8, 0)] := x_fwr_1 (T := x_T8) (.int) rfl (by decide) ⟨"SessionHost$Session", Or.inl (x_w 505 (by decide +kernel) (by decide +kernel)), Or.inl rfl⟩ (Or.inl rfl) (by decide +kernel) rfl (x_fwr_0)
theorem x_efwr68 : x_fwr (x_on 18) false 30 10 [(8, 0)] := x_fwr_1 (T := x_T8) (.int) rfl (by decide) ⟨"SessionHost$Session", Or.inl (x_w 507 (by decide +kernel) (by decide +kernel)), Or.inl rfl⟩ (Or.inl rfl) (by decide +kernel) rfl (x_fwr_0)
theorem x_efwr69 : x_fwr (x_on 3) false 13 1 [(1, 0)] := x_fwr_1 (T := x_T1) (.int) rfl (by decide) ⟨"SessionHost$Clock", Or.inl (x_w 116 (by decide +kernel) (by decide +kernel)), Or.inl rfl⟩ (Or.inl rfl) (by decide +kernel) rfl (x_fwr_0)
theorem x_efwr70 : x_fwr (x_on 8) false 28 5 [(4, 2)] := x_fwr_1 (T := x_T4) (.object "SessionHost$Target") rfl (by decide) ⟨"SessionHost$Caller", Or.inl (x_w 180 (by decide +kernel) (by decide +kernel)), Or.inl rfl⟩ (Or.inl rfl) (by decide +kernel) rfl (x_fwr_0)
theorem x_efwr71 : x_fwr (x_on 10) false 15 6 [(6, 0)] := x_fwr_1 (T := x_T6) (.int) rfl (by decide) ⟨"SessionHost$Pool", Or.inl (x_w 283 (by decide +kernel) (by decide +kernel)), Or.inl rfl⟩ (Or.inl rfl) (by decide +kernel) rfl (x_fwr_0)
theorem x_efwr72 : x_fwr (x_on 10) false 19 7 [(6, 0)] := x_fwr_1 (T := x_T6) (.int) rfl (by decide) ⟨"SessionHost$Pool", Or.inl (x_w 284 (by decide +kernel) (by decide +kernel)), Or.inl rfl⟩ (Or.inl rfl) (by decide +kernel) rfl (x_fwr_0)
theorem x_efwr73 : x_fwr (x_on 18) false 23 8 [(8, 1)] := x_fwr_1 (T := x_T8) (.boolean) rfl (by decide) ⟨"SessionHost$Session", Or.inl (x_w 502 (by decide +kernel) (by decide +kernel)), Or.inl rfl⟩ (Or.inl rfl) (by decide +kernel) rfl (x_fwr_0)
theorem x_efwr74 : x_fwr (x_on 12) false 31 10 [(7, 0)] := x_fwr_1 (T := x_T7) (.int) rfl (by decide) ⟨"SessionHost$Singleton", Or.inl (x_w 335 (by decide +kernel) (by decide +kernel)), Or.inl rfl⟩ (Or.inl rfl) (by decide +kernel) rfl (x_fwr_0)
theorem x_efwr75 : x_fwr (x_on 12) false 34 11 [(7, 0)] := x_fwr_1 (T := x_T7) (.int) rfl (by decide) ⟨"SessionHost$Singleton", Or.inl (x_w 336 (by decide +kernel) (by decide +kernel)), Or.inl rfl⟩ (Or.inl rfl) (by decide +kernel) rfl (x_fwr_0)
theorem x_efwr76 : x_fwr (x_on 8) false 24 4 [(4, 0)] := x_fwr_1 (T := x_T4) (.int) rfl (by decide) ⟨"SessionHost$Caller", Or.inl (x_w 178 (by decide +kernel) (by decide +kernel)), Or.inl rfl⟩ (Or.inl rfl) (by decide +kernel) rfl (x_fwr_0)
theorem x_efwr77 : x_fwr (x_on 8) false 38 8 [(4, 0)] := x_fwr_1 (T := x_T4) (.int) rfl (by decide) ⟨"SessionHost$Caller", Or.inl (x_w 184 (by decide +kernel) (by decide +kernel)), Or.inl rfl⟩ (Or.inl rfl) (by decide +kernel) rfl (x_fwr_0)
theorem x_efwr78 : x_fwr (x_on 8) false 41 9 [(4, 2)] := x_fwr_1 (T := x_T4) (.object "SessionHost$Task") rfl (by decide) ⟨"SessionHost$Caller", Or.inl (x_w 186 (by decide +kernel) (by decide +kernel)), Or.inl rfl⟩ (Or.inl rfl) (by decide +kernel) rfl (x_fwr_0)
theorem x_efwr79 : x_fwr (x_on 19) false 11 3 [(9, 0)] := x_fwr_1 (T := x_T9) (.int) rfl (by decide) ⟨"SessionHost$Task", Or.inl (x_w 780 (by decide +kernel) (by decide +kernel)), Or.inl rfl⟩ (Or.inl rfl) (by decide +kernel) rfl (x_fwr_0)
theorem x_efwr80 : x_fwr (x_on 19) false 19 5 [(9, 0)] := x_fwr_1 (T := x_T9) (.int) rfl (by decide) ⟨"SessionHost$Task", Or.inl (x_w 783 (by decide +kernel) (by decide +kernel)), Or.inl rfl⟩ (Or.inl rfl) (by decide +kernel) rfl (x_fwr_0)
theorem x_efwr81 : x_fwr (x_on 0) false 298 3 [(9, 0)] := x_fwr_1 (T := x_T9) (.int) rfl (by decide) ⟨"SessionHost$Task", Or.inr ⟨"SessionHost", x_n 781 (by decide +kernel)⟩, Or.inl rfl⟩ (Or.inl rfl) (by decide +kernel) rfl (x_fwr_0)
theorem x_efwr82 : x_fwr (x_on 0) false 301 9 [(4, 2)] := x_fwr_1 (T := x_T4) (.object "SessionHost$Task") rfl (by decide) ⟨"SessionHost$Caller", Or.inr ⟨"SessionHost", x_n 187 (by decide +kernel)⟩, Or.inl rfl⟩ (Or.inl rfl) (by decide +kernel) rfl (x_fwr_0)
theorem x_efwr83 : x_fwr (x_on 8) false 32 6 [(4, 0)] := x_fwr_1 (T := x_T4) (.int) rfl (by decide) ⟨"SessionHost$Caller", Or.inl (x_w 181 (by decide +kernel) (by decide +kernel)), Or.inl rfl⟩ (Or.inl rfl) (by decide +kernel) rfl (x_fwr_0)
theorem x_efwr84 : x_fwr (x_on 8) false 35 7 [(4, 0)] := x_fwr_1 (T := x_T4) (.int) rfl (by decide) ⟨"SessionHost$Caller", Or.inl (x_w 183 (by decide +kernel) (by decide +kernel)), Or.inl rfl⟩ (Or.inl rfl) (by decide +kernel) rfl (x_fwr_0)
theorem x_efwr85 : x_fwr (x_on 0) false 195 4 [(4, 0)] := x_fwr_1 (T := x_T4) (.int) rfl (by decide) ⟨"SessionHost$Caller", Or.inr ⟨"SessionHost", x_n 179 (by decide +kernel)⟩, Or.inl rfl⟩ (Or.inl rfl) (by decide +kernel) rfl (x_fwr_0)
theorem x_efwr86 : x_fwr (x_on 0) false 162 0 [(1, 0)] := x_fwr_1 (T := x_T1) (.int) rfl (by decide) ⟨"SessionHost$Clock", Or.inr ⟨"SessionHost", x_n 115 (by decide +kernel)⟩, Or.inl rfl⟩ (Or.inl rfl) (by decide +kernel) rfl (x_fwr_0)
theorem x_efwr87 : x_fwr (x_on 19) true 11 3 [(9, 0)] := x_fwr_1 (T := x_T9) (.int) rfl (by decide) ⟨"SessionHost$Task", Or.inl (x_w 780 (by decide +kernel) (by decide +kernel)), Or.inl rfl⟩ (Or.inl rfl) (by decide +kernel) rfl (x_fwr_0)
theorem x_efwr88 : x_fwr (x_on 19) true 15 4 [(9, 1)] := x_fwr_1 (T := x_T9) (.boolean) rfl (by decide) ⟨"SessionHost$Task", Or.inl (x_w 782 (by decide +kernel) (by decide +kernel)), Or.inl rfl⟩ (Or.inl rfl) (by decide +kernel) rfl (x_fwr_0)
theorem x_efwr89 : x_fwr (x_on 19) true 19 5 [(9, 0)] := x_fwr_1 (T := x_T9) (.int) rfl (by decide) ⟨"SessionHost$Task", Or.inl (x_w 783 (by decide +kernel) (by decide +kernel)), Or.inl rfl⟩ (Or.inl rfl) (by decide +kernel) rfl (x_fwr_0)
theorem x_efwr90 : x_fwr (x_on 19) true 22 0 [(9, 2)] := x_fwr_1 (T := x_T9) (.object "SessionHost$Target") rfl (by decide) ⟨"SessionHost$Task", Or.inl (x_w 775 (by decide +kernel) (by decide +kernel)), Or.inl rfl⟩ (Or.inr ⟨rfl, rfl, rfl, x_w 775 (by decide +kernel) (by decide +kernel)⟩) (by decide +kernel) rfl (x_fwr_0)
theorem x_efwr91 : x_fwr (x_on 19) true 26 1 [(9, 0)] := x_fwr_1 (T := x_T9) (.int) rfl (by decide) ⟨"SessionHost$Task", Or.inl (x_w 777 (by decide +kernel) (by decide +kernel)), Or.inl rfl⟩ (Or.inr ⟨rfl, rfl, rfl, x_w 777 (by decide +kernel) (by decide +kernel)⟩) (by decide +kernel) rfl (x_fwr_0)
theorem x_efwr92 : x_fwr (x_on 19) true 29 2 [(9, 1)] := x_fwr_1 (T := x_T9) (.boolean) rfl (by decide) ⟨"SessionHost$Task", Or.inl (x_w 779 (by decide +kernel) (by decide +kernel)), Or.inl rfl⟩ (Or.inr ⟨rfl, rfl, rfl, x_w 779 (by decide +kernel) (by decide +kernel)⟩) (by decide +kernel) rfl (x_fwr_0)
theorem x_efwr93 : x_fwr (x_on 19) false 15 4 [(9, 1)] := x_fwr_1 (T := x_T9) (.boolean) rfl (by decide) ⟨"SessionHost$Task", Or.inl (x_w 782 (by decide +kernel) (by decide +kernel)), Or.inl rfl⟩ (Or.inl rfl) (by decide +kernel) rfl (x_fwr_0)
theorem x_efwr94 : x_fwr (x_on 20) true 7 3 [(11, 2)] := x_fwr_1 (T := x_T11) (.array (.int)) rfl (by decide) ⟨"SessionHostModel", Or.inl (x_w 868 (by decide +kernel) (by decide +kernel)), Or.inl rfl⟩ (Or.inr ⟨rfl, rfl, rfl, x_w 868 (by decide +kernel) (by decide +kernel)⟩) (by decide +kernel) rfl (x_fwr_0)
theorem x_efwr95 : x_fwr (x_on 20) true 13 4 [(11, 2)] := x_fwr_1 (T := x_T11) (.array (.int)) rfl (by decide) ⟨"SessionHostModel", Or.inl (x_w 869 (by decide +kernel) (by decide +kernel)), Or.inl rfl⟩ (Or.inr ⟨rfl, rfl, rfl, x_w 869 (by decide +kernel) (by decide +kernel)⟩) (by decide +kernel) rfl (x_fwr_0)
theorem x_efwr96 : x_fwr (x_on 20) true 16 5 [(11, 2)] := x_fwr_1 (T := x_T11) (.array (.int)) rfl (by decide) ⟨"SessionHostModel", Or.inl (x_w 870 (by decide +kernel) (by decide +kernel)), Or.inl rfl⟩ (Or.inr ⟨rfl, rfl, rfl, x_w 870 (by decide +kernel) (by decide +kernel)⟩) (by decide +kernel) rfl (x_fwr_0)
theorem x_efwr97 : x_fwr (x_on 20) true 19 6 [(11, 2)] := x_fwr_1 (T := x_T11) (.array (.int)) rfl (by decide) ⟨"SessionHostModel", Or.inl (x_w 871 (by decide +kernel) (by decide +kernel)), Or.inl rfl⟩ (Or.inr ⟨rfl, rfl, rfl, x_w 871 (by decide +kernel) (by decide +kernel)⟩) (by decide +kernel) rfl (x_fwr_0)
theorem x_efwr98 : x_fwr (x_on 20) true 22 7 [(11, 2)] := x_fwr_1 (T := x_T11) (.array (.int)) rfl (by decide) ⟨"SessionHostModel", Or.inl (x_w 872 (by decide +kernel) (by decide +kernel)), Or.inl rfl⟩ (Or.inr ⟨rfl, rfl, rfl, x_w 872 (by decide +kernel) (by decide +kernel)⟩) (by decide +kernel) rfl (x_fwr_0)
theorem x_efwr99 : x_fwr (x_on 20) true 25 8 [(11, 2)] := x_fwr_1 (T := x_T11) (.array (.int)) rfl (by decide) ⟨"SessionHostModel", Or.inl (x_w 873 (by decide +kernel) (by decide +kernel)), Or.inl rfl⟩ (Or.inr ⟨rfl, rfl, rfl, x_w 873 (by decide +kernel) (by decide +kernel)⟩) (by decide +kernel) rfl (x_fwr_0)
theorem x_efwr100 : x_fwr (x_on 20) true 28 9 [(11, 2)] := x_fwr_1 (T := x_T11) (.array (.int)) rfl (by decide) ⟨"SessionHostModel", Or.inl (x_w 874 (by decide +kernel) (by decide +kernel)), Or.inl rfl⟩ (Or.inr ⟨rfl, rfl, rfl, x_w 874 (by decide +kernel) (by decide +kernel)⟩) (by decide +kernel) rfl (x_fwr_0)
theorem x_efwr101 : x_fwr (x_on 20) true 31 10 [(11, 2)] := x_fwr_1 (T := x_T11) (.array (.int)) rfl (by decide) ⟨"SessionHostModel", Or.inl (x_w 875 (by decide +kernel) (by decide +kernel)), Or.inl rfl⟩ (Or.inr ⟨rfl, rfl, rfl, x_w 875 (by decide +kernel) (by decide +kernel)⟩) (by decide +kernel) rfl (x_fwr_0)
theorem x_efwr102 : x_fwr (x_on 20) true 34 11 [(11, 2)] := x_fwr_1 (T := x_T11) (.array (.int)) rfl (by decide) ⟨"SessionHostModel", Or.inl (x_w 876 (by decide +kernel) (by decide +kernel)), Or.inl rfl⟩ (Or.inr ⟨rfl, rfl, rfl, x_w 876 (by decide +kernel) (by decide +kernel)⟩) (by decide +kernel) rfl (x_fwr_0)
theorem x_efwr103 : x_fwr (x_on 20) true 37 13 [(11, 2)] := x_fwr_1 (T := x_T11) (.array (.int)) rfl (by decide) ⟨"SessionHostModel", Or.inl (x_w 878 (by decide +kernel) (by decide +kernel)), Or.inl rfl⟩ (Or.inr ⟨rfl, rfl, rfl, x_w 878 (by decide +kernel) (by decide +kernel)⟩) (by decide +kernel) rfl (x_fwr_0)
theorem x_efwr104 : x_fwr (x_on 20) true 40 14 [(11, 2)] := x_fwr_1 (T := x_T11) (.array (.int)) rfl (by decide) ⟨"SessionHostModel", Or.inl (x_w 879 (by decide +kernel) (by decide +kernel)), Or.inl rfl⟩ (Or.inr ⟨rfl, rfl, rfl, x_w 879 (by decide +kernel) (by decide +kernel)⟩) (by decide +kernel) rfl (x_fwr_0)
theorem x_efwr105 : x_fwr (x_on 20) true 43 15 [(11, 2)] := x_fwr_1 (T := x_T11) (.array (.int)) rfl (by decide) ⟨"SessionHostModel", Or.inl (x_w 880 (by decide +kernel) (by decide +kernel)), Or.inl rfl⟩ (Or.inr ⟨rfl, rfl, rfl, x_w 880 (by decide +kernel) (by decide +kernel)⟩) (by decide +kernel) rfl (x_fwr_0)
theorem x_efwr106 : x_fwr (x_on 20) true 46 16 [(11, 2)] := x_fwr_1 (T := x_T11) (.array (.int)) rfl (by decide) ⟨"SessionHostModel", Or.inl (x_w 881 (by decide +kernel) (by decide +kernel)), Or.inl rfl⟩ (Or.inr ⟨rfl, rfl, rfl, x_w 881 (by decide +kernel) (by decide +kernel)⟩) (by decide +kernel) rfl (x_fwr_0)
theorem x_efwr107 : x_fwr (x_on 20) true 49 17 [(11, 2)] := x_fwr_1 (T := x_T11) (.array (.int)) rfl (by decide) ⟨"SessionHostModel", Or.inl (x_w 882 (by decide +kernel) (by decide +kernel)), Or.inl rfl⟩ (Or.inr ⟨rfl, rfl, rfl, x_w 882 (by decide +kernel) (by decide +kernel)⟩) (by decide +kernel) rfl (x_fwr_0)
theorem x_efwr108 : x_fwr (x_on 20) true 52 19 [(11, 2)] := x_fwr_1 (T := x_T11) (.array (.int)) rfl (by decide) ⟨"SessionHostModel", Or.inl (x_w 884 (by decide +kernel) (by decide +kernel)), Or.inl rfl⟩ (Or.inr ⟨rfl, rfl, rfl, x_w 884 (by decide +kernel) (by decide +kernel)⟩) (by decide +kernel) rfl (x_fwr_0)
theorem x_efwr109 : x_fwr (x_on 20) true 55 20 [(11, 2)] := x_fwr_1 (T := x_T11) (.array (.int)) rfl (by decide) ⟨"SessionHostModel", Or.inl (x_w 885 (by decide +kernel) (by decide +kernel)), Or.inl rfl⟩ (Or.inr ⟨rfl, rfl, rfl, x_w 885 (by decide +kernel) (by decide +kernel)⟩) (by decide +kernel) rfl (x_fwr_0)
theorem x_efwr110 : x_fwr (x_on 20) true 58 21 [(11, 2)] := x_fwr_1 (T := x_T11) (.array (.int)) rfl (by decide) ⟨"SessionHostModel", Or.inl (x_w 886 (by decide +kernel) (by decide +kernel)), Or.inl rfl⟩ (Or.inr ⟨rfl, rfl, rfl, x_w 886 (by decide +kernel) (by decide +kernel)⟩) (by decide +kernel) rfl (x_fwr_0)
theorem x_efwr111 : x_fwr (x_on 20) true 61 22 [(11, 2)] := x_fwr_1 (T := x_T11) (.array (.int)) rfl (by decide) ⟨"SessionHostModel", Or.inl (x_w 887 (by decide +kernel) (by decide +kernel)), Or.inl rfl⟩ (Or.inr ⟨rfl, rfl, rfl, x_w 887 (by decide +kernel) (by decide +kernel)⟩) (by decide +kernel) rfl (x_fwr_0)
theorem x_efwr112 : x_fwr (x_on 20) true 64 23 [(11, 2)] := x_fwr_1 (T := x_T11) (.array (.int)) rfl (by decide) ⟨"SessionHostModel", Or.inl (x_w 888 (by decide +kernel) (by decide +kernel)), Or.inl rfl⟩ (Or.inr ⟨rfl, rfl, rfl, x_w 888 (by decide +kernel) (by decide +kernel)⟩) (by decide +kernel) rfl (x_fwr_0)
theorem x_efwr113 : x_fwr (x_on 20) true 67 25 [(11, 2)] := x_fwr_1 (T := x_T11) (.array (.int)) rfl (by decide) ⟨"SessionHostModel", Or.inl (x_w 890 (by decide +kernel) (by decide +kernel)), Or.inl rfl⟩ (Or.inr ⟨rfl, rfl, rfl, x_w 890 (by decide +kernel) (by decide +kernel)⟩) (by decide +kernel) rfl (x_fwr_0)
theorem x_efwr114 : x_fwr (x_on 20) true 70 26 [(11, 2)] := x_fwr_1 (T := x_T11) (.array (.int)) rfl (by decide) ⟨"SessionHostModel", Or.inl (x_w 891 (by decide +kernel) (by decide +kernel)), Or.inl rfl⟩ (Or.inr ⟨rfl, rfl, rfl, x_w 891 (by decide +kernel) (by decide +kernel)⟩) (by decide +kernel) rfl (x_fwr_0)
theorem x_efwr115 : x_fwr (x_on 20) true 73 27 [(11, 2)] := x_fwr_1 (T := x_T11) (.array (.int)) rfl (by decide) ⟨"SessionHostModel", Or.inl (x_w 892 (by decide +kernel) (by decide +kernel)), Or.inl rfl⟩ (Or.inr ⟨rfl, rfl, rfl, x_w 892 (by decide +kernel) (by decide +kernel)⟩) (by decide +kernel) rfl (x_fwr_0)
theorem x_efwr116 : x_fwr (x_on 20) true 76 28 [(11, 2)] := x_fwr_1 (T := x_T11) (.array (.int)) rfl (by decide) ⟨"SessionHostModel", Or.inl (x_w 893 (by decide +kernel) (by decide +kernel)), Or.inl rfl⟩ (Or.inr ⟨rfl, rfl, rfl, x_w 893 (by decide +kernel) (by decide +kernel)⟩) (by decide +kernel) rfl (x_fwr_0)
theorem x_efwr117 : x_fwr (x_on 20) true 79 29 [(11, 2)] := x_fwr_1 (T := x_T11) (.array (.int)) rfl (by decide) ⟨"SessionHostModel", Or.inl (x_w 894 (by decide +kernel) (by decide +kernel)), Or.inl rfl⟩ (Or.inr ⟨rfl, rfl, rfl, x_w 894 (by decide +kernel) (by decide +kernel)⟩) (by decide +kernel) rfl (x_fwr_0)
theorem x_efwr118 : x_fwr (x_on 20) true 82 30 [(11, 2)] := x_fwr_1 (T := x_T11) (.array (.int)) rfl (by decide) ⟨"SessionHostModel", Or.inl (x_w 895 (by decide +kernel) (by decide +kernel)), Or.inl rfl⟩ (Or.inr ⟨rfl, rfl, rfl, x_w 895 (by decide +kernel) (by decide +kernel)⟩) (by decide +kernel) rfl (x_fwr_0)
theorem x_efwr119 : x_fwr (x_on 20) true 85 31 [(11, 2)] := x_fwr_1 (T := x_T11) (.array (.int)) rfl (by decide) ⟨"SessionHostModel", Or.inl (x_w 896 (by decide +kernel) (by decide +kernel)), Or.inl rfl⟩ (Or.inr ⟨rfl, rfl, rfl, x_w 896 (by decide +kernel) (by decide +kernel)⟩) (by decide +kernel) rfl (x_fwr_0)
theorem x_efwr120 : x_fwr (x_on 20) true 88 32 [(11, 2)] := x_fwr_1 (T := x_T11) (.array (.int)) rfl (by decide) ⟨"SessionHostModel", Or.inl (x_w 897 (by decide +kernel) (by decide +kernel)), Or.inl rfl⟩ (Or.inr ⟨rfl, rfl, rfl, x_w 897 (by decide +kernel) (by decide +kernel)⟩) (by decide +kernel) rfl (x_fwr_0)
theorem x_efwr121 : x_fwr (x_on 20) true 91 34 [(11, 2)] := x_fwr_1 (T := x_T11) (.array (.int)) rfl (by decide) ⟨"SessionHostModel", Or.inl (x_w 899 (by decide +kernel) (by decide +kernel)), Or.inl rfl⟩ (Or.inr ⟨rfl, rfl, rfl, x_w 899 (by decide +kernel) (by decide +kernel)⟩) (by decide +kernel) rfl (x_fwr_0)
theorem x_efwr122 : x_fwr (x_on 20) true 94 36 [(11, 2)] := x_fwr_1 (T := x_T11) (.array (.int)) rfl (by decide) ⟨"SessionHostModel", Or.inl (x_w 901 (by decide +kernel) (by decide +kernel)), Or.inl rfl⟩ (Or.inr ⟨rfl, rfl, rfl, x_w 901 (by decide +kernel) (by decide +kernel)⟩) (by decide +kernel) rfl (x_fwr_0)
theorem x_efwr123 : x_fwr (x_on 20) true 97 37 [(11, 2)] := x_fwr_1 (T := x_T11) (.array (.int)) rfl (by decide) ⟨"SessionHostModel", Or.inl (x_w 902 (by decide +kernel) (by decide +kernel)), Or.inl rfl⟩ (Or.inr ⟨rfl, rfl, rfl, x_w 902 (by decide +kernel) (by decide +kernel)⟩) (by decide +kernel) rfl (x_fwr_0)
theorem x_efwr124 : x_fwr (x_on 20) true 100 38 [(11, 2)] := x_fwr_1 (T := x_T11) (.array (.int)) rfl (by decide) ⟨"SessionHostModel", Or.inl (x_w 903 (by decide +kernel) (by decide +kernel)), Or.inl rfl⟩ (Or.inr ⟨rfl, rfl, rfl, x_w 903 (by decide +kernel) (by decide +kernel)⟩) (by decide +kernel) rfl (x_fwr_0)
theorem x_efwr125 : x_fwr (x_on 20) true 103 39 [(11, 2)] := x_fwr_1 (T := x_T11) (.array (.int)) rfl (by decide) ⟨"SessionHostModel", Or.inl (x_w 904 (by decide +kernel) (by decide +kernel)), Or.inl rfl⟩ (Or.inr ⟨rfl, rfl, rfl, x_w 904 (by decide +kernel) (by decide +kernel)⟩) (by decide +kernel) rfl (x_fwr_0)
theorem x_efwr126 : x_fwr (x_on 20) true 106 40 [(11, 2)] := x_fwr_1 (T := x_T11) (.array (.boolean)) rfl (by decide) ⟨"SessionHostModel", Or.inl (x_w 905 (by decide +kernel) (by decide +kernel)), Or.inl rfl⟩ (Or.inr ⟨rfl, rfl, rfl, x_w 905 (by decide +kernel) (by decide +kernel)⟩) (by decide +kernel) rfl (x_fwr_0)
theorem x_efwr127 : x_fwr (x_on 20) true 110 41 [(11, 2)] := x_fwr_1 (T := x_T11) (.array (.boolean)) rfl (by decide) ⟨"SessionHostModel", Or.inl (x_w 906 (by decide +kernel) (by decide +kernel)), Or.inl rfl⟩ (Or.inr ⟨rfl, rfl, rfl, x_w 906 (by decide +kernel) (by decide +kernel)⟩) (by decide +kernel) rfl (x_fwr_0)
theorem x_efwr128 : x_fwr (x_on 20) true 113 42 [(11, 2)] := x_fwr_1 (T := x_T11) (.array (.int)) rfl (by decide) ⟨"SessionHostModel", Or.inl (x_w 907 (by decide +kernel) (by decide +kernel)), Or.inl rfl⟩ (Or.inr ⟨rfl, rfl, rfl, x_w 907 (by decide +kernel) (by decide +kernel)⟩) (by decide +kernel) rfl (x_fwr_0)
theorem x_efwr129 : x_fwr (x_on 20) true 116 45 [(11, 2)] := x_fwr_1 (T := x_T11) (.array (.int)) rfl (by decide) ⟨"SessionHostModel", Or.inl (x_w 910 (by decide +kernel) (by decide +kernel)), Or.inl rfl⟩ (Or.inr ⟨rfl, rfl, rfl, x_w 910 (by decide +kernel) (by decide +kernel)⟩) (by decide +kernel) rfl (x_fwr_0)
theorem x_efwr130 : x_fwr (x_on 20) false 133 2 [(11, 0)] := x_fwr_1 (T := x_T11) (.int) rfl (by decide) ⟨"SessionHostModel", Or.inl (x_w 867 (by decide +kernel) (by decide +kernel)), Or.inl rfl⟩ (Or.inl rfl) (by decide +kernel) rfl (x_fwr_0)
theorem x_efwr131 : x_fwr (x_on 20) false 130 0 [(11, 0)] := x_fwr_1 (T := x_T11) (.int) rfl (by decide) ⟨"SessionHostModel", Or.inl (x_w 865 (by decide +kernel) (by decide +kernel)), Or.inl rfl⟩ (Or.inl rfl) (by decide +kernel) rfl (x_fwr_0)
theorem x_efwr132 : x_fwr (x_on 20) false 148 12 [(11, 0)] := x_fwr_1 (T := x_T11) (.int) rfl (by decide) ⟨"SessionHostModel", Or.inl (x_w 877 (by decide +kernel) (by decide +kernel)), Or.inl rfl⟩ (Or.inl rfl) (by decide +kernel) rfl (x_fwr_0)
theorem x_efwr133 : x_fwr (x_on 20) false 123 43 [(11, 0)] := x_fwr_1 (T := x_T11) (.int) rfl (by decide) ⟨"SessionHostModel", Or.inl (x_w 908 (by decide +kernel) (by decide +kernel)), Or.inl rfl⟩ (Or.inl rfl) (by decide +kernel) rfl (x_fwr_0)
theorem x_efwr134 : x_fwr (x_on 20) false 119 44 [(11, 0)] := x_fwr_1 (T := x_T11) (.int) rfl (by decide) ⟨"SessionHostModel", Or.inl (x_w 909 (by decide +kernel) (by decide +kernel)), Or.inl rfl⟩ (Or.inl rfl) (by decide +kernel) rfl (x_fwr_0)
theorem x_efwr135 : x_fwr (x_on 20) false 155 18 [(11, 0)] := x_fwr_1 (T := x_T11) (.int) rfl (by decide) ⟨"SessionHostModel", Or.inl (x_w 883 (by decide +kernel) (by decide +kernel)), Or.inl rfl⟩ (Or.inl rfl) (by decide +kernel) rfl (x_fwr_0)
theorem x_efwr136 : x_fwr (x_on 20) false 223 24 [(11, 0)] := x_fwr_1 (T := x_T11) (.int) rfl (by decide) ⟨"SessionHostModel", Or.inl (x_w 889 (by decide +kernel) (by decide +kernel)), Or.inl rfl⟩ (Or.inl rfl) (by decide +kernel) rfl (x_fwr_0)
theorem x_efwr137 : x_fwr (x_on 20) false 188 33 [(11, 0)] := x_fwr_1 (T := x_T11) (.int) rfl (by decide) ⟨"SessionHostModel", Or.inl (x_w 898 (by decide +kernel) (by decide +kernel)), Or.inl rfl⟩ (Or.inl rfl) (by decide +kernel) rfl (x_fwr_0)
theorem x_efwr138 : x_fwr (x_on 20) false 185 1 [(11, 0)] := x_fwr_1 (T := x_T11) (.int) rfl (by decide) ⟨"SessionHostModel", Or.inl (x_w 866 (by decide +kernel) (by decide +kernel)), Or.inl rfl⟩ (Or.inl rfl) (by decide +kernel) rfl (x_fwr_0)
theorem x_efwr139 : x_fwr (x_on 20) false 205 35 [(11, 0)] := x_fwr_1 (T := x_T11) (.int) rfl (by decide) ⟨"SessionHostModel", Or.inl (x_w 900 (by decide +kernel) (by decide +kernel)), Or.inl rfl⟩ (Or.inl rfl) (by decide +kernel) rfl (x_fwr_0)
def x_tfwr : List (Nat × Nat × Bool × Nat × List (Nat × Nat)) := [(0, 10, true, 0, [(10, 2)]), (0, 19, true, 1, [(10, 2)]), (0, 26, true, 2, [(10, 2)]), (0, 32, true, 3, [(10, 2)]), (0, 38, true, 4, [(10, 2)]), (0, 44, true, 5, [(10, 2)]), (0, 51, true, 6, [(10, 2)]), (0, 55, true, 7, [(10, 2)]), (0, 58, true, 8, [(10, 0)]), (0, 62, true, 9, [(10, 0)]), (2, 11, true, 0, [(0, 2)]), (2, 15, true, 1, [(0, 0)]), (2, 19, true, 2, [(0, 0)]), (3, 7, true, 0, [(1, 0)]), (3, 13, true, 1, [(1, 0)]), (4, 9, true, 0, [(2, 2)]), (5, 9, true, 1, [(3, 2)]), (6, 7, true, 0, [(3, 0)]), (8, 11, true, 1, [(4, 2)]), (8, 17, true, 2, [(4, 2)]), (8, 21, true, 3, [(4, 2)]), (8, 24, true, 4, [(4, 0)]), (8, 28, true, 5, [(4, 2)]), (8, 32, true, 6, [(4, 0)]), (8, 35, true, 7, [(4, 0)]), (8, 38, true, 8, [(4, 0)]), (8, 41, true, 9, [(4, 2)]), (8, 45, true, 0, [(4, 0)]), (0, 58, false, 8, [(10, 0)]), (9, 10, true, 0, [(5, 2)]), (9, 16, true, 1, [(5, 0)]), (9, 20, true, 2, [(5, 0)]), (9, 23, true, 3, [(5, 0)]), (10, 9, true, 5, [(6, 2)]), (10, 15, true, 6, [(6, 0)]), (10, 19, true, 7, [(6, 0)]), (10, 22, true, 4, [(6, 0)]), (11, 10, true, 0, [(6, 2), (7, 2), (8, 2)]), (11, 16, true, 1, [(6, 2), (7, 2), (8, 2)]), (11, 20, true, 2, [(6, 0), (7, 0), (8, 0)]), (11, 24, true, 3, [(6, 0), (7, 0), (8, 0)]), (12, 14, true, 4, [(7, 2)]), (12, 20, true, 7, [(7, 1)]), (12, 24, true, 8, [(7, 1)]), (12, 27, true, 9, [(7, 0)]), (12, 31, true, 10, [(7, 0)]), (12, 34, true, 11, [(7, 0)]), (12, 37, true, 5, [(7, 1)]), (12, 40, true, 6, [(7, 1)]), (5, 63, false, 0, [(3, 0)]), (5, 48, false, 2, [(3, 0)]), (5, 9, false, 1, [(3, 2)]), (0, 62, false, 9, [(10, 0)]), (12, 24, false, 8, [(7, 1)]), (12, 20, false, 7, [(7, 1)]), (12, 27, false, 9, [(7, 0)]), (2, 19, false, 2, [(0, 0)]), (2, 15, false, 1, [(0, 0)]), (18, 15, true, 6, [(8, 0)]), (18, 20, true, 7, [(8, 0)]), (18, 23, true, 8, [(8, 1)]), (18, 27, true, 9, [(8, 0)]), (18, 30, true, 10, [(8, 0)]), (18, 33, true, 4, [(8, 2)]), (18, 37, true, 5, [(8, 2)]), (18, 15, false, 6, [(8, 0)]), (18, 20, false, 7, [(8, 0)]), (18, 27, false, 9, [(8, 0)]), (18, 30, false, 10, [(8, 0)]), (3, 13, false, 1, [(1, 0)]), (8, 28, false, 5, [(4, 2)]), (10, 15, false, 6, [(6, 0)]), (10, 19, false, 7, [(6, 0)]), (18, 23, false, 8, [(8, 1)]), (12, 31, false, 10, [(7, 0)]), (12, 34, false, 11, [(7, 0)]), (8, 24, false, 4, [(4, 0)]), (8, 38, false, 8, [(4, 0)]), (8, 41, false, 9, [(4, 2)]), (19, 11, false, 3, [(9, 0)]), (19, 19, false, 5, [(9, 0)]), (0, 298, false, 3, [(9, 0)]), (0, 301, false, 9, [(4, 2)]), (8, 32, false, 6, [(4, 0)]), (8, 35, false, 7, [(4, 0)]), (0, 195, false, 4, [(4, 0)]), (0, 162, false, 0, [(1, 0)]), (19, 11, true, 3, [(9, 0)]), (19, 15, true, 4, [(9, 1)]), (19, 19, true, 5, [(9, 0)]), (19, 22, true, 0, [(9, 2)]), (19, 26, true, 1, [(9, 0)]), (19, 29, true, 2, [(9, 1)]), (19, 15, false, 4, [(9, 1)]), (20, 7, true, 3, [(11, 2)]), (20, 13, true, 4, [(11, 2)]), (20, 16, true, 5, [(11, 2)]), (20, 19, true, 6, [(11, 2)]), (20, 22, true, 7, [(11, 2)]), (20, 25, true, 8, [(11, 2)]), (20, 28, true, 9, [(11, 2)]), (20, 31, true, 10, [(11, 2)]), (20, 34, true, 11, [(11, 2)]), (20, 37, true, 13, [(11, 2)]), (20, 40, true, 14, [(11, 2)]), (20, 43, true, 15, [(11, 2)]), (20, 46, true, 16, [(11, 2)]), (20, 49, true, 17, [(11, 2)]), (20, 52, true, 19, [(11, 2)]), (20, 55, true, 20, [(11, 2)]), (20, 58, true, 21, [(11, 2)]), (20, 61, true, 22, [(11, 2)]), (20, 64, true, 23, [(11, 2)]), (20, 67, true, 25, [(11, 2)]), (20, 70, true, 26, [(11, 2)]), (20, 73, true, 27, [(11, 2)]), (20, 76, true, 28, [(11, 2)]), (20, 79, true, 29, [(11, 2)]), (20, 82, true, 30, [(11, 2)]), (20, 85, true, 31, [(11, 2)]), (20, 88, true, 32, [(11, 2)]), (20, 91, true, 34, [(11, 2)]), (20, 94, true, 36, [(11, 2)]), (20, 97, true, 37, [(11, 2)]), (20, 100, true, 38, [(11, 2)]), (20, 103, true, 39, [(11, 2)]), (20, 106, true, 40, [(11, 2)]), (20, 110, true, 41, [(11, 2)]), (20, 113, true, 42, [(11, 2)]), (20, 116, true, 45, [(11, 2)]), (20, 133, false, 2, [(11, 0)]), (20, 130, false, 0, [(11, 0)]), (20, 148, false, 12, [(11, 0)]), (20, 123, false, 43, [(11, 0)]), (20, 119, false, 44, [(11, 0)]), (20, 155, false, 18, [(11, 0)]), (20, 223, false, 24, [(11, 0)]), (20, 188, false, 33, [(11, 0)]), (20, 185, false, 1, [(11, 0)]), (20, 205, false, 35, [(11, 0)])]
theorem x_tfwr_ok : ∀ q ∈ x_tfwr, x_fwr (x_on q.1) q.2.2.1 q.2.1 q.2.2.2.1 q.2.2.2.2 := List.forall_mem_cons.mpr ⟨x_efwr0, List.forall_mem_cons.mpr ⟨x_efwr1, List.forall_mem_cons.mpr ⟨x_efwr2, List.forall_mem_cons.mpr ⟨x_efwr3, List.forall_mem_cons.mpr ⟨x_efwr4, List.forall_mem_cons.mpr ⟨x_efwr5, List.forall_mem_cons.mpr ⟨x_efwr6, List.forall_mem_cons.mpr ⟨x_efwr7, List.forall_mem_cons.mpr ⟨x_efwr8, List.forall_mem_cons.mpr ⟨x_efwr9, List.forall_mem_cons.mpr ⟨x_efwr10, List.forall_mem_cons.mpr ⟨x_efwr11, List.forall_mem_cons.mpr ⟨x_efwr12, List.forall_mem_cons.mpr ⟨x_efwr13, List.forall_mem_cons.mpr ⟨x_efwr14, List.forall_mem_cons.mpr ⟨x_efwr15, List.forall_mem_cons.mpr ⟨x_efwr16, List.forall_mem_cons.mpr ⟨x_efwr17, List.forall_mem_cons.mpr ⟨x_efwr18, List.forall_mem_cons.mpr ⟨x_efwr19, List.forall_mem_cons.mpr ⟨x_efwr20, List.forall_mem_cons.mpr ⟨x_efwr21, List.forall_mem_cons.mpr ⟨x_efwr22, List.forall_mem_cons.mpr ⟨x_efwr23, List.forall_mem_cons.mpr ⟨x_efwr24, List.forall_mem_cons.mpr ⟨x_efwr25, List.forall_mem_cons.mpr ⟨x_efwr26, List.forall_mem_cons.mpr ⟨x_efwr27, List.forall_mem_cons.mpr ⟨x_efwr28, List.forall_mem_cons.mpr ⟨x_efwr29, List.forall_mem_cons.mpr ⟨x_efwr30, List.forall_mem_cons.mpr ⟨x_efwr31, List.forall_mem_cons.mpr ⟨x_efwr32, List.forall_mem_cons.mpr ⟨x_efwr33, List.forall_mem_cons.mpr ⟨x_efwr34, List.forall_mem_cons.mpr ⟨x_efwr35, List.forall_mem_cons.mpr ⟨x_efwr36, List.forall_mem_cons.mpr ⟨x_efwr37, List.forall_mem_cons.mpr ⟨x_efwr38, List.forall_mem_cons.mpr ⟨x_efwr39, List.forall_mem_cons.mpr ⟨x_efwr40, List.forall_mem_cons.mpr ⟨x_efwr41, List.forall_mem_cons.mpr ⟨x_efwr42, List.forall_mem_cons.mpr ⟨x_efwr43, List.forall_mem_cons.mpr ⟨x_efwr44, List.forall_mem_cons.mpr ⟨x_efwr45, List.forall_mem_cons.mpr ⟨x_efwr46, List.forall_mem_cons.mpr ⟨x_efwr47, List.forall_mem_cons.mpr ⟨x_efwr48, List.forall_mem_cons.mpr ⟨x_efwr49, List.forall_mem_cons.mpr ⟨x_efwr50, List.forall_mem_cons.mpr ⟨x_efwr51, List.forall_mem_cons.mpr ⟨x_efwr52, List.forall_mem_cons.mpr ⟨x_efwr53, List.forall_mem_cons.mpr ⟨x_efwr54, List.forall_mem_cons.mpr ⟨x_efwr55, List.forall_mem_cons.mpr ⟨x_efwr56, List.forall_mem_cons.mpr ⟨x_efwr57, List.forall_mem_cons.mpr ⟨x_efwr58, List.forall_mem_cons.mpr ⟨x_efwr59, List.forall_mem_cons.mpr ⟨x_efwr60, List.forall_mem_cons.mpr ⟨x_efwr61, List.forall_mem_cons.mpr ⟨x_efwr62, List.forall_mem_cons.mpr ⟨x_efwr63, List.forall_mem_cons.mpr ⟨x_efwr64, List.forall_mem_cons.mpr ⟨x_efwr65, List.forall_mem_cons.mpr ⟨x_efwr66, List.forall_mem_cons.mpr ⟨x_efwr67, List.forall_mem_cons.mpr ⟨x_efwr68, List.forall_mem_cons.mpr ⟨x_efwr69, List.forall_mem_cons.mpr ⟨x_efwr70, List.forall_mem_cons.mpr ⟨x_efwr71, List.forall_mem_cons.mpr ⟨x_efwr72, List.forall_mem_cons.mpr ⟨x_efwr73, List.forall_mem_cons.mpr ⟨x_efwr74, List.forall_mem_cons.mpr ⟨x_efwr75, List.forall_mem_cons.mpr ⟨x_efwr76, List.forall_mem_cons.mpr ⟨x_efwr77, List.forall_mem_cons.mpr ⟨x_efwr78, List.forall_mem_cons.mpr ⟨x_efwr79, List.forall_mem_cons.mpr ⟨x_efwr80, List.forall_mem_cons.mpr ⟨x_efwr81, List.forall_mem_cons.mpr ⟨x_efwr82, List.forall_mem_cons.mpr ⟨x_efwr83, List.forall_mem_cons.mpr ⟨x_efwr84, List.forall_mem_cons.mpr ⟨x_efwr85, List.forall_mem_cons.mpr ⟨x_efwr86, List.forall_mem_cons.mpr ⟨x_efwr87, List.forall_mem_cons.mpr ⟨x_efwr88, List.forall_mem_cons.mpr ⟨x_efwr89, List.forall_mem_cons.mpr ⟨x_efwr90, List.forall_mem_cons.mpr ⟨x_efwr91, List.forall_mem_cons.mpr ⟨x_efwr92, List.forall_mem_cons.mpr ⟨x_efwr93, List.forall_mem_cons.mpr ⟨x_efwr94, List.forall_mem_cons.mpr ⟨x_efwr95, List.forall_mem_cons.mpr ⟨x_efwr96, List.forall_mem_cons.mpr ⟨x_efwr97, List.forall_mem_cons.mpr ⟨x_efwr98, List.forall_mem_cons.mpr ⟨x_efwr99, List.forall_mem_cons.mpr ⟨x_efwr100, List.forall_mem_cons.mpr ⟨x_efwr101, List.forall_mem_cons.mpr ⟨x_efwr102, List.forall_mem_cons.mpr ⟨x_efwr103, List.forall_mem_cons.mpr ⟨x_efwr104, List.forall_mem_cons.mpr ⟨x_efwr105, List.forall_mem_cons.mpr ⟨x_efwr106, List.forall_mem_cons.mpr ⟨x_efwr107, List.forall_mem_cons.mpr ⟨x_efwr108, List.forall_mem_cons.mpr ⟨x_efwr109, List.forall_mem_cons.mpr ⟨x_efwr110, List.forall_mem_cons.mpr ⟨x_efwr111, List.forall_mem_cons.mpr ⟨x_efwr112, List.forall_mem_cons.mpr ⟨x_efwr113, List.forall_mem_cons.mpr ⟨x_efwr114, List.forall_mem_cons.mpr ⟨x_efwr115, List.forall_mem_cons.mpr ⟨x_efwr116, List.forall_mem_cons.mpr ⟨x_efwr117, List.forall_mem_cons.mpr ⟨x_efwr118, List.forall_mem_cons.mpr ⟨x_efwr119, List.forall_mem_cons.mpr ⟨x_efwr120, List.forall_mem_cons.mpr ⟨x_efwr121, List.forall_mem_cons.mpr ⟨x_efwr122, List.forall_mem_cons.mpr ⟨x_efwr123, List.forall_mem_cons.mpr ⟨x_efwr124, List.forall_mem_cons.mpr ⟨x_efwr125, List.forall_mem_cons.mpr ⟨x_efwr126, List.forall_mem_cons.mpr ⟨x_efwr127, List.forall_mem_cons.mpr ⟨x_efwr128, List.forall_mem_cons.mpr ⟨x_efwr129, List.forall_mem_cons.mpr ⟨x_efwr130, List.forall_mem_cons.mpr ⟨x_efwr131, List.forall_mem_cons.mpr ⟨x_efwr132, List.forall_mem_cons.mpr ⟨x_efwr133, List.forall_mem_cons.mpr ⟨x_efwr134, List.forall_mem_cons.mpr ⟨x_efwr135, List.forall_mem_cons.mpr ⟨x_efwr136, List.forall_mem_cons.mpr ⟨x_efwr137, List.forall_mem_cons.mpr ⟨x_efwr138, List.forall_mem_cons.mpr ⟨x_efwr139, (fun _ h => nomatch h)⟩⟩⟩⟩⟩⟩⟩⟩⟩⟩⟩⟩⟩⟩⟩⟩⟩⟩⟩⟩⟩⟩⟩⟩⟩⟩⟩⟩⟩⟩⟩⟩⟩⟩⟩⟩⟩⟩⟩⟩⟩⟩⟩⟩⟩⟩⟩⟩⟩⟩⟩⟩⟩⟩⟩⟩⟩⟩⟩⟩⟩⟩⟩⟩⟩⟩⟩⟩⟩⟩⟩⟩⟩⟩⟩⟩⟩⟩⟩⟩⟩⟩⟩⟩⟩⟩⟩⟩⟩⟩⟩⟩⟩⟩⟩⟩⟩⟩⟩⟩⟩⟩⟩⟩⟩⟩⟩⟩⟩⟩⟩⟩⟩⟩⟩⟩⟩⟩⟩⟩⟩⟩⟩⟩⟩⟩⟩⟩⟩⟩⟩⟩⟩⟩⟩⟩⟩⟩⟩⟩
theorem x_esta0 : x_ss (x_on 0) 68 10 2 := ⟨x_m10, x_w 245 (by decide +kernel) (by decide +kernel), Or.inl (x_w 244 (by decide +kernel) (by decide +kernel))⟩
theorem x_esta1 : x_ss (x_on 0) 91 24 3 := ⟨x_m24, x_w 393 (by decide +kernel) (by decide +kernel), Or.inr ⟨"SessionHost", x_n 392 (by decide +kernel)⟩⟩
theorem x_esta2 : x_ss (x_on 5) 118 21 2 := ⟨x_m21, x_w 383 (by decide +kernel) (by decide +kernel), Or.inl (x_w 382 (by decide +kernel) (by decide +kernel))⟩
theorem x_esta3 : x_ss (x_on 13) 105 22 3 := ⟨x_m22, x_w 386 (by decide +kernel) (by decide +kernel), Or.inl (x_w 385 (by decide +kernel) (by decide +kernel))⟩
theorem x_esta4 : x_ss (x_on 12) 51 24 3 := ⟨x_m24, x_w 393 (by decide +kernel) (by decide +kernel), Or.inl (x_w 396 (by decide +kernel) (by decide +kernel))⟩
theorem x_esta5 : x_ss (x_on 5) 73 29 3 := ⟨x_m29, x_w 414 (by decide +kernel) (by decide +kernel), Or.inl (x_w 413 (by decide +kernel) (by decide +kernel))⟩
theorem x_esta6 : x_ss (x_on 5) 66 32 2 := ⟨x_m32, x_w 424 (by decide +kernel) (by decide +kernel), Or.inl (x_w 423 (by decide +kernel) (by decide +kernel))⟩
theorem x_esta7 : x_ss (x_on 5) 79 30 2 := ⟨x_m30, x_w 417 (by decide +kernel) (by decide +kernel), Or.inl (x_w 454 (by decide +kernel) (by decide +kernel))⟩
theorem x_esta8 : x_ss (x_on 15) 194 30 2 := ⟨x_m30, x_w 417 (by decide +kernel) (by decide +kernel), Or.inl (x_w 416 (by decide +kernel) (by decide +kernel))⟩
theorem x_esta9 : x_ss (x_on 15) 201 31 2 := ⟨x_m31, x_w 421 (by decide +kernel) (by decide +kernel), Or.inl (x_w 420 (by decide +kernel) (by decide +kernel))⟩
theorem x_esta10 : x_ss (x_on 17) 300 33 3 := ⟨x_m33, x_w 443 (by decide +kernel) (by decide +kernel), Or.inl (x_w 442 (by decide +kernel) (by decide +kernel))⟩
theorem x_esta11 : x_ss (x_on 17) 304 34 2 := ⟨x_m34, x_w 449 (by decide +kernel) (by decide +kernel), Or.inl (x_w 448 (by decide +kernel) (by decide +kernel))⟩
def x_tsta : List (Nat × Nat × Nat × Nat) := [(0, 68, 10, 2), (0, 91, 24, 3), (5, 118, 21, 2), (13, 105, 22, 3), (12, 51, 24, 3), (5, 73, 29, 3), (5, 66, 32, 2), (5, 79, 30, 2), (15, 194, 30, 2), (15, 201, 31, 2), (17, 300, 33, 3), (17, 304, 34, 2)]
theorem x_tsta_ok : ∀ q ∈ x_tsta, x_ss (x_on q.1) q.2.1 q.2.2.1 q.2.2.2 := List.forall_mem_cons.mpr ⟨x_esta0, List.forall_mem_cons.mpr ⟨x_esta1, List.forall_mem_cons.mpr ⟨x_esta2, List.forall_mem_cons.mpr ⟨x_esta3, List.forall_mem_cons.mpr ⟨x_esta4, List.forall_mem_cons.mpr ⟨x_esta5, List.forall_mem_cons.mpr ⟨x_esta6, List.forall_mem_cons.mpr ⟨x_esta7, List.forall_mem_cons.mpr ⟨x_esta8, List.forall_mem_cons.mpr ⟨x_esta9, List.forall_mem_cons.mpr ⟨x_esta10, List.forall_mem_cons.mpr ⟨x_esta11, (fun _ h => nomatch h)⟩⟩⟩⟩⟩⟩⟩⟩⟩⟩⟩⟩
theorem x_espc0 : x_si (x_on 0) 9 2 0 := ⟨x_m2, ⟨rfl, rfl⟩, x_w 92 (by decide +kernel) (by decide +kernel), Or.inr ⟨"SessionHost", x_n 91 (by decide +kernel)⟩⟩
theorem x_espc1 : x_si (x_on 0) 18 3 0 := ⟨x_m3, ⟨rfl, rfl⟩, x_w 110 (by decide +kernel) (by decide +kernel), Or.inr ⟨"SessionHost", x_n 109 (by decide +kernel)⟩⟩
theorem x_espc2 : x_si (x_on 0) 25 4 0 := ⟨x_m4, ⟨rfl, rfl⟩, x_w 125 (by decide +kernel) (by decide +kernel), Or.inr ⟨"SessionHost", x_n 124 (by decide +kernel)⟩⟩
theorem x_espc3 : x_si (x_on 0) 50 5 0 := ⟨x_m5, ⟨rfl, rfl⟩, x_w 141 (by decide +kernel) (by decide +kernel), Or.inl (x_w 140 (by decide +kernel) (by decide +kernel))⟩
theorem x_espc4 : x_si (x_on 0) 65 8 1 := ⟨x_m8, ⟨rfl, rfl⟩, x_w 166 (by decide +kernel) (by decide +kernel), Or.inl (x_w 165 (by decide +kernel) (by decide +kernel))⟩
theorem x_espc5 : x_si (x_on 5) 1 6 0 := ⟨x_m6, ⟨rfl, rfl⟩, x_w 144 (by decide +kernel) (by decide +kernel), Or.inl (x_w 143 (by decide +kernel) (by decide +kernel))⟩
theorem x_espc6 : x_si (x_on 6) 1 7 0 := ⟨x_m7, ⟨rfl, rfl⟩, x_w 147 (by decide +kernel) (by decide +kernel), Or.inl (x_w 146 (by decide +kernel) (by decide +kernel))⟩
theorem x_espc7 : x_si (x_on 0) 72 11 3 := ⟨x_m11, ⟨rfl, rfl⟩, x_w 249 (by decide +kernel) (by decide +kernel), Or.inl (x_w 248 (by decide +kernel) (by decide +kernel))⟩
theorem x_espc8 : x_si (x_on 0) 77 12 3 := ⟨x_m12, ⟨rfl, rfl⟩, x_w 273 (by decide +kernel) (by decide +kernel), Or.inl (x_w 272 (by decide +kernel) (by decide +kernel))⟩
theorem x_espc9 : x_si (x_on 0) 82 14 3 := ⟨x_m14, ⟨rfl, rfl⟩, x_w 320 (by decide +kernel) (by decide +kernel), Or.inl (x_w 319 (by decide +kernel) (by decide +kernel))⟩
theorem x_espc10 : x_si (x_on 9) 9 5 0 := ⟨x_m5, ⟨rfl, rfl⟩, x_w 141 (by decide +kernel) (by decide +kernel), Or.inl (x_w 253 (by decide +kernel) (by decide +kernel))⟩
theorem x_espc11 : x_si (x_on 10) 3 13 3 := ⟨x_m13, ⟨rfl, rfl⟩, x_w 276 (by decide +kernel) (by decide +kernel), Or.inl (x_w 275 (by decide +kernel) (by decide +kernel))⟩
theorem x_espc12 : x_si (x_on 11) 9 5 0 := ⟨x_m5, ⟨rfl, rfl⟩, x_w 141 (by decide +kernel) (by decide +kernel), Or.inl (x_w 280 (by decide +kernel) (by decide +kernel))⟩
theorem x_espc13 : x_si (x_on 12) 3 13 3 := ⟨x_m13, ⟨rfl, rfl⟩, x_w 276 (by decide +kernel) (by decide +kernel), Or.inl (x_w 322 (by decide +kernel) (by decide +kernel))⟩
theorem x_espc14 : x_si (x_on 12) 11 5 0 := ⟨x_m5, ⟨rfl, rfl⟩, x_w 141 (by decide +kernel) (by decide +kernel), Or.inl (x_w 324 (by decide +kernel) (by decide +kernel))⟩
theorem x_espc15 : x_si (x_on 0) 122 43 3 := ⟨x_m43, ⟨rfl, rfl⟩, x_w 493 (by decide +kernel) (by decide +kernel), Or.inl (x_w 492 (by decide +kernel) (by decide +kernel))⟩
theorem x_espc16 : x_si (x_on 18) 9 13 3 := ⟨x_m13, ⟨rfl, rfl⟩, x_w 276 (by decide +kernel) (by decide +kernel), Or.inl (x_w 495 (by decide +kernel) (by decide +kernel))⟩
theorem x_espc17 : x_si (x_on 0) 173 100 3 := ⟨x_m100, ⟨rfl, rfl⟩, x_w 772 (by decide +kernel) (by decide +kernel), Or.inl (x_w 771 (by decide +kernel) (by decide +kernel))⟩
def x_tspc : List (Nat × Nat × Nat × Nat) := [(0, 9, 2, 0), (0, 18, 3, 0), (0, 25, 4, 0), (0, 50, 5, 0), (0, 65, 8, 1), (5, 1, 6, 0), (6, 1, 7, 0), (0, 72, 11, 3), (0, 77, 12, 3), (0, 82, 14, 3), (9, 9, 5, 0), (10, 3, 13, 3), (11, 9, 5, 0), (12, 3, 13, 3), (12, 11, 5, 0), (0, 122, 43, 3), (18, 9, 13, 3), (0, 173, 100, 3)]
theorem x_tspc_ok : ∀ q ∈ x_tspc, x_si (x_on q.1) q.2.1 q.2.2.1 q.2.2.2 := List.forall_mem_cons.mpr ⟨x_espc0, List.forall_mem_cons.mpr ⟨x_espc1, List.forall_mem_cons.mpr ⟨x_espc2, List.forall_mem_cons.mpr ⟨x_espc3, List.forall_mem_cons.mpr ⟨x_espc4, List.forall_mem_cons.mpr ⟨x_espc5, List.forall_mem_cons.mpr ⟨x_espc6, List.forall_mem_cons.mpr ⟨x_espc7, List.forall_mem_cons.mpr ⟨x_espc8, List.forall_mem_cons.mpr ⟨x_espc9, List.forall_mem_cons.mpr ⟨x_espc10, List.forall_mem_cons.mpr ⟨x_espc11, List.forall_mem_cons.mpr ⟨x_espc12, List.forall_mem_cons.mpr ⟨x_espc13, List.forall_mem_cons.mpr ⟨x_espc14, List.forall_mem_cons.mpr ⟨x_espc15, List.forall_mem_cons.mpr ⟨x_espc16, List.forall_mem_cons.mpr ⟨x_espc17, (fun _ h => nomatch h)⟩⟩⟩⟩⟩⟩⟩⟩⟩⟩⟩⟩⟩⟩⟩⟩⟩⟩
theorem x_evir0 : x_sv (x_on 0) 83 1 10 16 := ⟨x_m16, x_w 364 (by decide +kernel) (by decide +kernel), _, rfl, Or.inl ⟨x_w 0 (by decide +kernel) (by decide +kernel), Or.inl (x_w 362 (by decide +kernel) (by decide +kernel))⟩⟩
theorem x_evir1 : x_sv (x_on 0) 87 1 7 18 := ⟨x_m18, x_w 371 (by decide +kernel) (by decide +kernel), _, rfl, Or.inl ⟨x_w 372 (by decide +kernel) (by decide +kernel), Or.inl (x_w 370 (by decide +kernel) (by decide +kernel))⟩⟩
theorem x_evir2 : x_sv (x_on 0) 98 1 3 25 := ⟨x_m25, x_w 398 (by decide +kernel) (by decide +kernel), _, rfl, Or.inl ⟨x_w 399 (by decide +kernel) (by decide +kernel), Or.inl (x_w 397 (by decide +kernel) (by decide +kernel))⟩⟩
theorem x_evir3 : x_sv (x_on 0) 136 1 10 17 := ⟨x_m17, x_w 368 (by decide +kernel) (by decide +kernel), _, rfl, Or.inl ⟨x_w 1 (by decide +kernel) (by decide +kernel), Or.inl (x_w 366 (by decide +kernel) (by decide +kernel))⟩⟩
theorem x_evir4 : x_sv (x_on 12) 43 0 3 19 := ⟨x_m19, x_w 375 (by decide +kernel) (by decide +kernel), _, rfl, Or.inl ⟨x_w 376 (by decide +kernel) (by decide +kernel), Or.inl (x_w 374 (by decide +kernel) (by decide +kernel))⟩⟩
theorem x_evir5 : x_sv (x_on 12) 47 1 3 20 := ⟨x_m20, x_w 379 (by decide +kernel) (by decide +kernel), _, rfl, Or.inl ⟨x_w 380 (by decide +kernel) (by decide +kernel), Or.inl (x_w 378 (by decide +kernel) (by decide +kernel))⟩⟩
theorem x_evir6 : x_sv (x_on 5) 123 1 3 23 := ⟨x_m23, x_w 389 (by decide +kernel) (by decide +kernel), _, rfl, Or.inl ⟨x_w 390 (by decide +kernel) (by decide +kernel), Or.inl (x_w 388 (by decide +kernel) (by decide +kernel))⟩⟩
theorem x_evir7 : x_sv (x_on 5) 131 3 3 26 := ⟨x_m26, x_w 403 (by decide +kernel) (by decide +kernel), _, rfl, Or.inl ⟨x_w 2 (by decide +kernel) (by decide +kernel), Or.inl (x_w 401 (by decide +kernel) (by decide +kernel))⟩⟩
theorem x_evir8 : x_sv (x_on 5) 129 0 3 27 := ⟨x_m27, x_w 407 (by decide +kernel) (by decide +kernel), _, rfl, Or.inl ⟨x_w 3 (by decide +kernel) (by decide +kernel), Or.inl (x_w 405 (by decide +kernel) (by decide +kernel))⟩⟩
theorem x_evir9 : x_sv (x_on 5) 69 1 3 28 := ⟨x_m28, x_w 411 (by decide +kernel) (by decide +kernel), _, rfl, Or.inl ⟨x_w 4 (by decide +kernel) (by decide +kernel), Or.inl (x_w 409 (by decide +kernel) (by decide +kernel))⟩⟩
theorem x_evir10 : x_sv (x_on 0) 102 2 2 36 := ⟨x_m36, x_w 461 (by decide +kernel) (by decide +kernel), _, rfl, Or.inl ⟨x_w 462 (by decide +kernel) (by decide +kernel), Or.inl (x_w 460 (by decide +kernel) (by decide +kernel))⟩⟩
theorem x_evir11 : x_sv (x_on 0) 110 1 7 38 := ⟨x_m38, x_w 470 (by decide +kernel) (by decide +kernel), _, rfl, Or.inl ⟨x_w 5 (by decide +kernel) (by decide +kernel), Or.inr ⟨"SessionHost", x_n 468 (by decide +kernel)⟩⟩⟩
theorem x_evir12 : x_sv (x_on 0) 113 0 10 41 := ⟨x_m41, x_w 483 (by decide +kernel) (by decide +kernel), _, rfl, Or.inl ⟨x_w 6 (by decide +kernel) (by decide +kernel), Or.inl (x_w 481 (by decide +kernel) (by decide +kernel))⟩⟩
theorem x_evir13 : x_sv (x_on 12) 55 1 7 38 := ⟨x_m38, x_w 470 (by decide +kernel) (by decide +kernel), _, rfl, Or.inl ⟨x_w 5 (by decide +kernel) (by decide +kernel), Or.inl (x_w 472 (by decide +kernel) (by decide +kernel))⟩⟩
theorem x_evir14 : x_sv (x_on 12) 63 0 0 39 := ⟨x_m39, x_w 474 (by decide +kernel) (by decide +kernel), _, rfl, Or.inl ⟨x_w 475 (by decide +kernel) (by decide +kernel), Or.inl (x_w 473 (by decide +kernel) (by decide +kernel))⟩⟩
theorem x_evir15 : x_sv (x_on 2) 22 3 0 40 := ⟨x_m40, x_w 478 (by decide +kernel) (by decide +kernel), _, rfl, Or.inl ⟨x_w 479 (by decide +kernel) (by decide +kernel), Or.inl (x_w 477 (by decide +kernel) (by decide +kernel))⟩⟩
theorem x_evir16 : x_sv (x_on 0) 117 0 3 19 := ⟨x_m19, x_w 375 (by decide +kernel) (by decide +kernel), _, rfl, Or.inl ⟨x_w 376 (by decide +kernel) (by decide +kernel), Or.inl (x_w 489 (by decide +kernel) (by decide +kernel))⟩⟩
theorem x_evir17 : x_sv (x_on 0) 125 0 8 44 := ⟨x_m44, x_w 528 (by decide +kernel) (by decide +kernel), _, rfl, Or.inl ⟨x_w 529 (by decide +kernel) (by decide +kernel), Or.inl (x_w 527 (by decide +kernel) (by decide +kernel))⟩⟩
theorem x_evir18 : x_sv (x_on 0) 129 0 10 47 := ⟨x_m47, x_w 542 (by decide +kernel) (by decide +kernel), _, rfl, Or.inl ⟨x_w 8 (by decide +kernel) (by decide +kernel), Or.inl (x_w 540 (by decide +kernel) (by decide +kernel))⟩⟩
theorem x_evir19 : x_sv (x_on 18) 45 0 0 39 := ⟨x_m39, x_w 474 (by decide +kernel) (by decide +kernel), _, rfl, Or.inl ⟨x_w 475 (by decide +kernel) (by decide +kernel), Or.inl (x_w 531 (by decide +kernel) (by decide +kernel))⟩⟩
theorem x_evir20 : x_sv (x_on 18) 51 0 8 45 := ⟨x_m45, x_w 534 (by decide +kernel) (by decide +kernel), _, rfl, Or.inl ⟨x_w 7 (by decide +kernel) (by decide +kernel), Or.inl (x_w 532 (by decide +kernel) (by decide +kernel))⟩⟩
theorem x_evir21 : x_sv (x_on 18) 55 0 1 46 := ⟨x_m46, x_w 537 (by decide +kernel) (by decide +kernel), _, rfl, Or.inl ⟨x_w 538 (by decide +kernel) (by decide +kernel), Or.inl (x_w 536 (by decide +kernel) (by decide +kernel))⟩⟩
theorem x_evir22 : x_sv (x_on 0) 277 1 10 48 := ⟨x_m48, x_w 546 (by decide +kernel) (by decide +kernel), _, rfl, Or.inl ⟨x_w 9 (by decide +kernel) (by decide +kernel), Or.inl (x_w 544 (by decide +kernel) (by decide +kernel))⟩⟩
theorem x_evir23 : x_sv (x_on 0) 176 1 3 20 := ⟨x_m20, x_w 379 (by decide +kernel) (by decide +kernel), _, rfl, Or.inl ⟨x_w 380 (by decide +kernel) (by decide +kernel), Or.inl (x_w 552 (by decide +kernel) (by decide +kernel))⟩⟩
theorem x_evir24 : x_sv (x_on 0) 281 1 10 65 := ⟨x_m65, x_w 623 (by decide +kernel) (by decide +kernel), _, rfl, Or.inl ⟨x_w 12 (by decide +kernel) (by decide +kernel), Or.inl (x_w 621 (by decide +kernel) (by decide +kernel))⟩⟩
theorem x_evir25 : x_sv (x_on 0) 285 0 5 70 := ⟨x_m70, x_w 643 (by decide +kernel) (by decide +kernel), _, rfl, Or.inl ⟨x_w 644 (by decide +kernel) (by decide +kernel), Or.inl (x_w 642 (by decide +kernel) (by decide +kernel))⟩⟩
theorem x_evir26 : x_sv (x_on 0) 236 0 3 49 := ⟨x_m49, x_w 549 (by decide +kernel) (by decide +kernel), _, rfl, Or.inl ⟨x_w 550 (by decide +kernel) (by decide +kernel), Or.inl (x_w 548 (by decide +kernel) (by decide +kernel))⟩⟩
theorem x_evir27 : x_sv (x_on 0) 239 3 6 50 := ⟨x_m50, x_w 557 (by decide +kernel) (by decide +kernel), _, rfl, Or.inr ⟨⟨"SessionHost$Target", "judge", "(LSessionHost$Caller;IZ)I"⟩, "SessionHost$Target", x_w 553 (by decide +kernel) (by decide +kernel), x_w 555 (by decide +kernel) (by decide +kernel), x_w 556 (by decide +kernel) (by decide +kernel), ⟨(by decide +kernel), (by decide +kernel), (by decide +kernel)⟩, Or.inr (x_n 554 (by decide +kernel))⟩⟩
theorem x_evir28 : x_sv (x_on 0) 239 3 7 53 := ⟨x_m53, x_w 567 (by decide +kernel) (by decide +kernel), _, rfl, Or.inr ⟨⟨"SessionHost$Target", "judge", "(LSessionHost$Caller;IZ)I"⟩, "SessionHost$Target", x_w 553 (by decide +kernel) (by decide +kernel), x_w 555 (by decide +kernel) (by decide +kernel), x_w 566 (by decide +kernel) (by decide +kernel), ⟨(by decide +kernel), (by decide +kernel), (by decide +kernel)⟩, Or.inr (x_n 554 (by decide +kernel))⟩⟩
theorem x_evir29 : x_sv (x_on 0) 239 3 8 51 := ⟨x_m51, x_w 560 (by decide +kernel) (by decide +kernel), _, rfl, Or.inr ⟨⟨"SessionHost$Target", "judge", "(LSessionHost$Caller;IZ)I"⟩, "SessionHost$Target", x_w 553 (by decide +kernel) (by decide +kernel), x_w 555 (by decide +kernel) (by decide +kernel), x_w 559 (by decide +kernel) (by decide +kernel), ⟨(by decide +kernel), (by decide +kernel), (by decide +kernel)⟩, Or.inr (x_n 554 (by decide +kernel))⟩⟩
theorem x_evir30 : x_sv (x_on 0) 189 0 4 55 := ⟨x_m55, x_w 575 (by decide +kernel) (by decide +kernel), _, rfl, Or.inl ⟨x_w 576 (by decide +kernel) (by decide +kernel), Or.inl (x_w 574 (by decide +kernel) (by decide +kernel))⟩⟩
theorem x_evir31 : x_sv (x_on 0) 243 3 10 58 := ⟨x_m58, x_w 591 (by decide +kernel) (by decide +kernel), _, rfl, Or.inl ⟨x_w 11 (by decide +kernel) (by decide +kernel), Or.inl (x_w 589 (by decide +kernel) (by decide +kernel))⟩⟩
theorem x_evir32 : x_sv (x_on 0) 192 1 4 63 := ⟨x_m63, x_w 613 (by decide +kernel) (by decide +kernel), _, rfl, Or.inl ⟨x_w 614 (by decide +kernel) (by decide +kernel), Or.inl (x_w 612 (by decide +kernel) (by decide +kernel))⟩⟩
theorem x_evir33 : x_sv (x_on 18) 63 1 4 52 := ⟨x_m52, x_w 563 (by decide +kernel) (by decide +kernel), _, rfl, Or.inl ⟨x_w 564 (by decide +kernel) (by decide +kernel), Or.inl (x_w 562 (by decide +kernel) (by decide +kernel))⟩⟩
theorem x_evir34 : x_sv (x_on 12) 68 1 4 52 := ⟨x_m52, x_w 563 (by decide +kernel) (by decide +kernel), _, rfl, Or.inl ⟨x_w 564 (by decide +kernel) (by decide +kernel), Or.inl (x_w 569 (by decide +kernel) (by decide +kernel))⟩⟩
theorem x_evir35 : x_sv (x_on 12) 74 1 4 54 := ⟨x_m54, x_w 571 (by decide +kernel) (by decide +kernel), _, rfl, Or.inl ⟨x_w 572 (by decide +kernel) (by decide +kernel), Or.inl (x_w 570 (by decide +kernel) (by decide +kernel))⟩⟩
theorem x_evir36 : x_sv (x_on 8) 62 0 3 19 := ⟨x_m19, x_w 375 (by decide +kernel) (by decide +kernel), _, rfl, Or.inl ⟨x_w 376 (by decide +kernel) (by decide +kernel), Or.inl (x_w 578 (by decide +kernel) (by decide +kernel))⟩⟩
theorem x_evir37 : x_sv (x_on 8) 66 1 3 20 := ⟨x_m20, x_w 379 (by decide +kernel) (by decide +kernel), _, rfl, Or.inl ⟨x_w 380 (by decide +kernel) (by decide +kernel), Or.inl (x_w 579 (by decide +kernel) (by decide +kernel))⟩⟩
theorem x_evir38 : x_sv (x_on 8) 70 1 3 56 := ⟨x_m56, x_w 581 (by decide +kernel) (by decide +kernel), _, rfl, Or.inl ⟨x_w 582 (by decide +kernel) (by decide +kernel), Or.inl (x_w 580 (by decide +kernel) (by decide +kernel))⟩⟩
theorem x_evir39 : x_sv (x_on 5) 144 2 3 57 := ⟨x_m57, x_w 586 (by decide +kernel) (by decide +kernel), _, rfl, Or.inl ⟨x_w 10 (by decide +kernel) (by decide +kernel), Or.inl (x_w 584 (by decide +kernel) (by decide +kernel))⟩⟩
theorem x_evir40 : x_sv (x_on 0) 254 1 6 59 := ⟨x_m59, x_w 597 (by decide +kernel) (by decide +kernel), _, rfl, Or.inr ⟨⟨"SessionHost$Target", "take", "(I)I"⟩, "SessionHost$Target", x_w 593 (by decide +kernel) (by decide +kernel), x_w 595 (by decide +kernel) (by decide +kernel), x_w 596 (by decide +kernel) (by decide +kernel), ⟨(by decide +kernel), (by decide +kernel), (by decide +kernel)⟩, Or.inr (x_n 594 (by decide +kernel))⟩⟩
theorem x_evir41 : x_sv (x_on 0) 254 1 7 61 := ⟨x_m61, x_w 605 (by decide +kernel) (by decide +kernel), _, rfl, Or.inr ⟨⟨"SessionHost$Target", "take", "(I)I"⟩, "SessionHost$Target", x_w 593 (by decide +kernel) (by decide +kernel), x_w 595 (by decide +kernel) (by decide +kernel), x_w 604 (by decide +kernel) (by decide +kernel), ⟨(by decide +kernel), (by decide +kernel), (by decide +kernel)⟩, Or.inr (x_n 594 (by decide +kernel))⟩⟩
theorem x_evir42 : x_sv (x_on 0) 254 1 8 60 := ⟨x_m60, x_w 601 (by decide +kernel) (by decide +kernel), _, rfl, Or.inr ⟨⟨"SessionHost$Target", "take", "(I)I"⟩, "SessionHost$Target", x_w 593 (by decide +kernel) (by decide +kernel), x_w 595 (by decide +kernel) (by decide +kernel), x_w 600 (by decide +kernel) (by decide +kernel), ⟨(by decide +kernel), (by decide +kernel), (by decide +kernel)⟩, Or.inr (x_n 594 (by decide +kernel))⟩⟩
theorem x_evir43 : x_sv (x_on 0) 257 3 4 62 := ⟨x_m62, x_w 608 (by decide +kernel) (by decide +kernel), _, rfl, Or.inl ⟨x_w 609 (by decide +kernel) (by decide +kernel), Or.inl (x_w 607 (by decide +kernel) (by decide +kernel))⟩⟩
theorem x_evir44 : x_sv (x_on 0) 263 3 0 40 := ⟨x_m40, x_w 478 (by decide +kernel) (by decide +kernel), _, rfl, Or.inl ⟨x_w 479 (by decide +kernel) (by decide +kernel), Or.inl (x_w 611 (by decide +kernel) (by decide +kernel))⟩⟩
theorem x_evir45 : x_sv (x_on 10) 29 0 0 39 := ⟨x_m39, x_w 474 (by decide +kernel) (by decide +kernel), _, rfl, Or.inl ⟨x_w 475 (by decide +kernel) (by decide +kernel), Or.inl (x_w 599 (by decide +kernel) (by decide +kernel))⟩⟩
theorem x_evir46 : x_sv (x_on 18) 69 3 0 40 := ⟨x_m40, x_w 478 (by decide +kernel) (by decide +kernel), _, rfl, Or.inl ⟨x_w 479 (by decide +kernel) (by decide +kernel), Or.inl (x_w 603 (by decide +kernel) (by decide +kernel))⟩⟩
theorem x_evir47 : x_sv (x_on 8) 76 1 9 64 := ⟨x_m64, x_w 617 (by decide +kernel) (by decide +kernel), _, rfl, Or.inl ⟨x_w 618 (by decide +kernel) (by decide +kernel), Or.inl (x_w 616 (by decide +kernel) (by decide +kernel))⟩⟩
theorem x_evir48 : x_sv (x_on 0) 291 0 9 66 := ⟨x_m66, x_w 626 (by decide +kernel) (by decide +kernel), _, rfl, Or.inl ⟨x_w 627 (by decide +kernel) (by decide +kernel), Or.inl (x_w 625 (by decide +kernel) (by decide +kernel))⟩⟩
theorem x_evir49 : x_sv (x_on 0) 294 0 10 67 := ⟨x_m67, x_w 631 (by decide +kernel) (by decide +kernel), _, rfl, Or.inl ⟨x_w 13 (by decide +kernel) (by decide +kernel), Or.inl (x_w 629 (by decide +kernel) (by decide +kernel))⟩⟩
theorem x_evir50 : x_sv (x_on 0) 148 3 10 68 := ⟨x_m68, x_w 635 (by decide +kernel) (by decide +kernel), _, rfl, Or.inl ⟨x_w 14 (by decide +kernel) (by decide +kernel), Or.inl (x_w 633 (by decide +kernel) (by decide +kernel))⟩⟩
theorem x_evir51 : x_sv (x_on 0) 250 3 4 69 := ⟨x_m69, x_w 638 (by decide +kernel) (by decide +kernel), _, rfl, Or.inl ⟨x_w 639 (by decide +kernel) (by decide +kernel), Or.inl (x_w 637 (by decide +kernel) (by decide +kernel))⟩⟩
theorem x_evir52 : x_sv (x_on 8) 56 1 3 25 := ⟨x_m25, x_w 398 (by decide +kernel) (by decide +kernel), _, rfl, Or.inl ⟨x_w 399 (by decide +kernel) (by decide +kernel), Or.inl (x_w 641 (by decide +kernel) (by decide +kernel))⟩⟩
theorem x_evir53 : x_sv (x_on 9) 38 0 5 71 := ⟨x_m71, x_w 647 (by decide +kernel) (by decide +kernel), _, rfl, Or.inl ⟨x_w 648 (by decide +kernel) (by decide +kernel), Or.inl (x_w 646 (by decide +kernel) (by decide +kernel))⟩⟩
theorem x_evir54 : x_sv (x_on 9) 41 0 5 72 := ⟨x_m72, x_w 655 (by decide +kernel) (by decide +kernel), _, rfl, Or.inl ⟨x_w 15 (by decide +kernel) (by decide +kernel), Or.inl (x_w 653 (by decide +kernel) (by decide +kernel))⟩⟩
theorem x_evir55 : x_sv (x_on 9) 45 0 8 73 := ⟨x_m73, x_w 658 (by decide +kernel) (by decide +kernel), _, rfl, Or.inl ⟨x_w 659 (by decide +kernel) (by decide +kernel), Or.inl (x_w 657 (by decide +kernel) (by decide +kernel))⟩⟩
theorem x_evir56 : x_sv (x_on 9) 26 0 3 19 := ⟨x_m19, x_w 375 (by decide +kernel) (by decide +kernel), _, rfl, Or.inl ⟨x_w 376 (by decide +kernel) (by decide +kernel), Or.inl (x_w 650 (by decide +kernel) (by decide +kernel))⟩⟩
theorem x_evir57 : x_sv (x_on 9) 29 1 3 20 := ⟨x_m20, x_w 379 (by decide +kernel) (by decide +kernel), _, rfl, Or.inl ⟨x_w 380 (by decide +kernel) (by decide +kernel), Or.inl (x_w 651 (by decide +kernel) (by decide +kernel))⟩⟩
theorem x_evir58 : x_sv (x_on 0) 132 1 10 75 := ⟨x_m75, x_w 667 (by decide +kernel) (by decide +kernel), _, rfl, Or.inl ⟨x_w 16 (by decide +kernel) (by decide +kernel), Or.inl (x_w 665 (by decide +kernel) (by decide +kernel))⟩⟩
theorem x_evir59 : x_sv (x_on 0) 140 0 4 76 := ⟨x_m76, x_w 670 (by decide +kernel) (by decide +kernel), _, rfl, Or.inl ⟨x_w 671 (by decide +kernel) (by decide +kernel), Or.inl (x_w 669 (by decide +kernel) (by decide +kernel))⟩⟩
theorem x_evir60 : x_sv (x_on 0) 144 1 6 78 := ⟨x_m78, x_w 678 (by decide +kernel) (by decide +kernel), _, rfl, Or.inl ⟨x_w 680 (by decide +kernel) (by decide +kernel), Or.inl (x_w 677 (by decide +kernel) (by decide +kernel))⟩⟩
theorem x_evir61 : x_sv (x_on 0) 144 1 7 78 := ⟨x_m78, x_w 678 (by decide +kernel) (by decide +kernel), _, rfl, Or.inl ⟨x_w 682 (by decide +kernel) (by decide +kernel), Or.inl (x_w 677 (by decide +kernel) (by decide +kernel))⟩⟩
theorem x_evir62 : x_sv (x_on 0) 144 1 8 78 := ⟨x_m78, x_w 678 (by decide +kernel) (by decide +kernel), _, rfl, Or.inl ⟨x_w 681 (by decide +kernel) (by decide +kernel), Or.inl (x_w 677 (by decide +kernel) (by decide +kernel))⟩⟩
theorem x_evir63 : x_sv (x_on 8) 48 0 4 77 := ⟨x_m77, x_w 674 (by decide +kernel) (by decide +kernel), _, rfl, Or.inl ⟨x_w 675 (by decide +kernel) (by decide +kernel), Or.inl (x_w 673 (by decide +kernel) (by decide +kernel))⟩⟩
theorem x_evir64 : x_sv (x_on 0) 152 0 4 80 := ⟨x_m80, x_w 689 (by decide +kernel) (by decide +kernel), _, rfl, Or.inl ⟨x_w 690 (by decide +kernel) (by decide +kernel), Or.inl (x_w 688 (by decide +kernel) (by decide +kernel))⟩⟩
theorem x_evir65 : x_sv (x_on 0) 155 2 10 81 := ⟨x_m81, x_w 694 (by decide +kernel) (by decide +kernel), _, rfl, Or.inl ⟨x_w 17 (by decide +kernel) (by decide +kernel), Or.inl (x_w 692 (by decide +kernel) (by decide +kernel))⟩⟩
theorem x_evir66 : x_sv (x_on 0) 159 0 10 87 := ⟨x_m87, x_w 719 (by decide +kernel) (by decide +kernel), _, rfl, Or.inl ⟨x_w 19 (by decide +kernel) (by decide +kernel), Or.inl (x_w 717 (by decide +kernel) (by decide +kernel))⟩⟩
theorem x_evir67 : x_sv (x_on 0) 267 1 2 82 := ⟨x_m82, x_w 697 (by decide +kernel) (by decide +kernel), _, rfl, Or.inl ⟨x_w 698 (by decide +kernel) (by decide +kernel), Or.inl (x_w 696 (by decide +kernel) (by decide +kernel))⟩⟩
theorem x_evir68 : x_sv (x_on 0) 273 4 6 83 := ⟨x_m83, x_w 704 (by decide +kernel) (by decide +kernel), _, rfl, Or.inr ⟨⟨"SessionHost$Target", "giveBack", "(IIIZ)V"⟩, "SessionHost$Target", x_w 700 (by decide +kernel) (by decide +kernel), x_w 702 (by decide +kernel) (by decide +kernel), x_w 703 (by decide +kernel) (by decide +kernel), ⟨(by decide +kernel), (by decide +kernel), (by decide +kernel)⟩, Or.inr (x_n 701 (by decide +kernel))⟩⟩
theorem x_evir69 : x_sv (x_on 0) 273 4 7 86 := ⟨x_m86, x_w 715 (by decide +kernel) (by decide +kernel), _, rfl, Or.inr ⟨⟨"SessionHost$Target", "giveBack", "(IIIZ)V"⟩, "SessionHost$Target", x_w 700 (by decide +kernel) (by decide +kernel), x_w 702 (by decide +kernel) (by decide +kernel), x_w 714 (by decide +kernel) (by decide +kernel), ⟨(by decide +kernel), (by decide +kernel), (by decide +kernel)⟩, Or.inr (x_n 701 (by decide +kernel))⟩⟩
theorem x_evir70 : x_sv (x_on 0) 273 4 8 84 := ⟨x_m84, x_w 708 (by decide +kernel) (by decide +kernel), _, rfl, Or.inr ⟨⟨"SessionHost$Target", "giveBack", "(IIIZ)V"⟩, "SessionHost$Target", x_w 700 (by decide +kernel) (by decide +kernel), x_w 702 (by decide +kernel) (by decide +kernel), x_w 707 (by decide +kernel) (by decide +kernel), ⟨(by decide +kernel), (by decide +kernel), (by decide +kernel)⟩, Or.inr (x_n 701 (by decide +kernel))⟩⟩
theorem x_evir71 : x_sv (x_on 10) 35 3 0 40 := ⟨x_m40, x_w 478 (by decide +kernel) (by decide +kernel), _, rfl, Or.inl ⟨x_w 479 (by decide +kernel) (by decide +kernel), Or.inl (x_w 706 (by decide +kernel) (by decide +kernel))⟩⟩
theorem x_evir72 : x_sv (x_on 18) 73 1 8 85 := ⟨x_m85, x_w 712 (by decide +kernel) (by decide +kernel), _, rfl, Or.inl ⟨x_w 18 (by decide +kernel) (by decide +kernel), Or.inl (x_w 710 (by decide +kernel) (by decide +kernel))⟩⟩
theorem x_evir73 : x_sv (x_on 0) 321 0 10 88 := ⟨x_m88, x_w 723 (by decide +kernel) (by decide +kernel), _, rfl, Or.inl ⟨x_w 20 (by decide +kernel) (by decide +kernel), Or.inl (x_w 721 (by decide +kernel) (by decide +kernel))⟩⟩
theorem x_evir74 : x_sv (x_on 0) 318 0 8 89 := ⟨x_m89, x_w 726 (by decide +kernel) (by decide +kernel), _, rfl, Or.inl ⟨x_w 727 (by decide +kernel) (by decide +kernel), Or.inl (x_w 725 (by decide +kernel) (by decide +kernel))⟩⟩
theorem x_evir75 : x_sv (x_on 0) 324 0 6 90 := ⟨x_m90, x_w 730 (by decide +kernel) (by decide +kernel), _, rfl, Or.inl ⟨x_w 731 (by decide +kernel) (by decide +kernel), Or.inl (x_w 729 (by decide +kernel) (by decide +kernel))⟩⟩
theorem x_evir76 : x_sv (x_on 0) 327 0 10 92 := ⟨x_m92, x_w 739 (by decide +kernel) (by decide +kernel), _, rfl, Or.inl ⟨x_w 22 (by decide +kernel) (by decide +kernel), Or.inl (x_w 737 (by decide +kernel) (by decide +kernel))⟩⟩
theorem x_evir77 : x_sv (x_on 0) 331 0 7 93 := ⟨x_m93, x_w 742 (by decide +kernel) (by decide +kernel), _, rfl, Or.inl ⟨x_w 743 (by decide +kernel) (by decide +kernel), Or.inl (x_w 741 (by decide +kernel) (by decide +kernel))⟩⟩
theorem x_evir78 : x_sv (x_on 10) 39 0 6 91 := ⟨x_m91, x_w 735 (by decide +kernel) (by decide +kernel), _, rfl, Or.inl ⟨x_w 21 (by decide +kernel) (by decide +kernel), Or.inl (x_w 733 (by decide +kernel) (by decide +kernel))⟩⟩
theorem x_evir79 : x_sv (x_on 12) 77 3 0 40 := ⟨x_m40, x_w 478 (by decide +kernel) (by decide +kernel), _, rfl, Or.inl ⟨x_w 479 (by decide +kernel) (by decide +kernel), Or.inl (x_w 745 (by decide +kernel) (by decide +kernel))⟩⟩
theorem x_evir80 : x_sv (x_on 0) 165 0 10 95 := ⟨x_m95, x_w 752 (by decide +kernel) (by decide +kernel), _, rfl, Or.inl ⟨x_w 23 (by decide +kernel) (by decide +kernel), Or.inl (x_w 750 (by decide +kernel) (by decide +kernel))⟩⟩
theorem x_evir81 : x_sv (x_on 0) 168 0 10 97 := ⟨x_m97, x_w 760 (by decide +kernel) (by decide +kernel), _, rfl, Or.inl ⟨x_w 24 (by decide +kernel) (by decide +kernel), Or.inl (x_w 758 (by decide +kernel) (by decide +kernel))⟩⟩
theorem x_evir82 : x_sv (x_on 0) 312 1 4 96 := ⟨x_m96, x_w 755 (by decide +kernel) (by decide +kernel), _, rfl, Or.inl ⟨x_w 756 (by decide +kernel) (by decide +kernel), Or.inl (x_w 754 (by decide +kernel) (by decide +kernel))⟩⟩
theorem x_evir83 : x_sv (x_on 0) 315 0 8 98 := ⟨x_m98, x_w 763 (by decide +kernel) (by decide +kernel), _, rfl, Or.inl ⟨x_w 764 (by decide +kernel) (by decide +kernel), Or.inl (x_w 762 (by decide +kernel) (by decide +kernel))⟩⟩
theorem x_evir84 : x_sv (x_on 0) 180 0 9 102 := ⟨x_m102, x_w 802 (by decide +kernel) (by decide +kernel), _, rfl, Or.inl ⟨x_w 803 (by decide +kernel) (by decide +kernel), Or.inl (x_w 801 (by decide +kernel) (by decide +kernel))⟩⟩
theorem x_evir85 : x_sv (x_on 0) 183 0 9 104 := ⟨x_m104, x_w 810 (by decide +kernel) (by decide +kernel), _, rfl, Or.inl ⟨x_w 811 (by decide +kernel) (by decide +kernel), Or.inl (x_w 809 (by decide +kernel) (by decide +kernel))⟩⟩
theorem x_evir86 : x_sv (x_on 0) 186 0 4 77 := ⟨x_m77, x_w 674 (by decide +kernel) (by decide +kernel), _, rfl, Or.inl ⟨x_w 675 (by decide +kernel) (by decide +kernel), Or.inl (x_w 813 (by decide +kernel) (by decide +kernel))⟩⟩
theorem x_evir87 : x_sv (x_on 0) 211 0 9 110 := ⟨x_m110, x_w 835 (by decide +kernel) (by decide +kernel), _, rfl, Or.inl ⟨x_w 836 (by decide +kernel) (by decide +kernel), Or.inl (x_w 834 (by decide +kernel) (by decide +kernel))⟩⟩
theorem x_evir88 : x_sv (x_on 0) 214 0 5 71 := ⟨x_m71, x_w 647 (by decide +kernel) (by decide +kernel), _, rfl, Or.inl ⟨x_w 648 (by decide +kernel) (by decide +kernel), Or.inl (x_w 842 (by decide +kernel) (by decide +kernel))⟩⟩
theorem x_evir89 : x_sv (x_on 0) 229 1 0 115 := ⟨x_m115, x_w 856 (by decide +kernel) (by decide +kernel), _, rfl, Or.inl ⟨x_w 857 (by decide +kernel) (by decide +kernel), Or.inl (x_w 855 (by decide +kernel) (by decide +kernel))⟩⟩
theorem x_evir90 : x_sv (x_on 20) 136 1 11 119 := ⟨x_m119, x_w 1015 (by decide +kernel) (by decide +kernel), _, rfl, Or.inl ⟨x_w 25 (by decide +kernel) (by decide +kernel), Or.inl (x_w 1013 (by decide +kernel) (by decide +kernel))⟩⟩
theorem x_evir91 : x_sv (x_on 20) 140 1 11 120 := ⟨x_m120, x_w 1019 (by decide +kernel) (by decide +kernel), _, rfl, Or.inl ⟨x_w 26 (by decide +kernel) (by decide +kernel), Or.inl (x_w 1017 (by decide +kernel) (by decide +kernel))⟩⟩
theorem x_evir92 : x_sv (x_on 20) 151 1 11 123 := ⟨x_m123, x_w 1031 (by decide +kernel) (by decide +kernel), _, rfl, Or.inl ⟨x_w 27 (by decide +kernel) (by decide +kernel), Or.inl (x_w 1029 (by decide +kernel) (by decide +kernel))⟩⟩
theorem x_evir93 : x_sv (x_on 20) 144 0 11 124 := ⟨x_m124, x_w 1035 (by decide +kernel) (by decide +kernel), _, rfl, Or.inl ⟨x_w 28 (by decide +kernel) (by decide +kernel), Or.inl (x_w 1033 (by decide +kernel) (by decide +kernel))⟩⟩
theorem x_evir94 : x_sv (x_on 20) 126 3 11 125 := ⟨x_m125, x_w 1039 (by decide +kernel) (by decide +kernel), _, rfl, Or.inl ⟨x_w 29 (by decide +kernel) (by decide +kernel), Or.inl (x_w 1037 (by decide +kernel) (by decide +kernel))⟩⟩
theorem x_evir95 : x_sv (x_on 20) 226 1 11 127 := ⟨x_m127, x_w 1047 (by decide +kernel) (by decide +kernel), _, rfl, Or.inl ⟨x_w 30 (by decide +kernel) (by decide +kernel), Or.inl (x_w 1045 (by decide +kernel) (by decide +kernel))⟩⟩
theorem x_evir96 : x_sv (x_on 20) 229 0 11 128 := ⟨x_m128, x_w 1051 (by decide +kernel) (by decide +kernel), _, rfl, Or.inl ⟨x_w 31 (by decide +kernel) (by decide +kernel), Or.inl (x_w 1049 (by decide +kernel) (by decide +kernel))⟩⟩
theorem x_evir97 : x_sv (x_on 20) 214 0 11 129 := ⟨x_m129, x_w 1055 (by decide +kernel) (by decide +kernel), _, rfl, Or.inl ⟨x_w 32 (by decide +kernel) (by decide +kernel), Or.inl (x_w 1053 (by decide +kernel) (by decide +kernel))⟩⟩
theorem x_evir98 : x_sv (x_on 20) 217 0 11 140 := ⟨x_m140, x_w 1099 (by decide +kernel) (by decide +kernel), _, rfl, Or.inl ⟨x_w 43 (by decide +kernel) (by decide +kernel), Or.inl (x_w 1097 (by decide +kernel) (by decide +kernel))⟩⟩
theorem x_evir99 : x_sv (x_on 20) 220 1 11 144 := ⟨x_m144, x_w 1115 (by decide +kernel) (by decide +kernel), _, rfl, Or.inl ⟨x_w 47 (by decide +kernel) (by decide +kernel), Or.inl (x_w 1113 (by decide +kernel) (by decide +kernel))⟩⟩
theorem x_evir100 : x_sv (x_on 20) 199 1 11 130 := ⟨x_m130, x_w 1059 (by decide +kernel) (by decide +kernel), _, rfl, Or.inl ⟨x_w 33 (by decide +kernel) (by decide +kernel), Or.inl (x_w 1057 (by decide +kernel) (by decide +kernel))⟩⟩
theorem x_evir101 : x_sv (x_on 20) 195 2 11 131 := ⟨x_m131, x_w 1063 (by decide +kernel) (by decide +kernel), _, rfl, Or.inl ⟨x_w 34 (by decide +kernel) (by decide +kernel), Or.inl (x_w 1061 (by decide +kernel) (by decide +kernel))⟩⟩
theorem x_evir102 : x_sv (x_on 20) 174 2 11 137 := ⟨x_m137, x_w 1087 (by decide +kernel) (by decide +kernel), _, rfl, Or.inl ⟨x_w 40 (by decide +kernel) (by decide +kernel), Or.inl (x_w 1085 (by decide +kernel) (by decide +kernel))⟩⟩
theorem x_evir103 : x_sv (x_on 20) 191 3 11 138 := ⟨x_m138, x_w 1091 (by decide +kernel) (by decide +kernel), _, rfl, Or.inl ⟨x_w 41 (by decide +kernel) (by decide +kernel), Or.inl (x_w 1089 (by decide +kernel) (by decide +kernel))⟩⟩
theorem x_evir104 : x_sv (x_on 20) 158 1 11 132 := ⟨x_m132, x_w 1067 (by decide +kernel) (by decide +kernel), _, rfl, Or.inl ⟨x_w 35 (by decide +kernel) (by decide +kernel), Or.inl (x_w 1065 (by decide +kernel) (by decide +kernel))⟩⟩
theorem x_evir105 : x_sv (x_on 20) 164 1 11 133 := ⟨x_m133, x_w 1071 (by decide +kernel) (by decide +kernel), _, rfl, Or.inl ⟨x_w 36 (by decide +kernel) (by decide +kernel), Or.inl (x_w 1069 (by decide +kernel) (by decide +kernel))⟩⟩
theorem x_evir106 : x_sv (x_on 20) 167 1 11 135 := ⟨x_m135, x_w 1079 (by decide +kernel) (by decide +kernel), _, rfl, Or.inl ⟨x_w 38 (by decide +kernel) (by decide +kernel), Or.inl (x_w 1077 (by decide +kernel) (by decide +kernel))⟩⟩
theorem x_evir107 : x_sv (x_on 20) 170 4 11 136 := ⟨x_m136, x_w 1083 (by decide +kernel) (by decide +kernel), _, rfl, Or.inl ⟨x_w 39 (by decide +kernel) (by decide +kernel), Or.inl (x_w 1081 (by decide +kernel) (by decide +kernel))⟩⟩
theorem x_evir108 : x_sv (x_on 20) 161 1 11 134 := ⟨x_m134, x_w 1075 (by decide +kernel) (by decide +kernel), _, rfl, Or.inl ⟨x_w 37 (by decide +kernel) (by decide +kernel), Or.inl (x_w 1073 (by decide +kernel) (by decide +kernel))⟩⟩
theorem x_evir109 : x_sv (x_on 20) 178 1 11 139 := ⟨x_m139, x_w 1095 (by decide +kernel) (by decide +kernel), _, rfl, Or.inl ⟨x_w 42 (by decide +kernel) (by decide +kernel), Or.inl (x_w 1093 (by decide +kernel) (by decide +kernel))⟩⟩
theorem x_evir110 : x_sv (x_on 20) 208 3 11 141 := ⟨x_m141, x_w 1103 (by decide +kernel) (by decide +kernel), _, rfl, Or.inl ⟨x_w 44 (by decide +kernel) (by decide +kernel), Or.inl (x_w 1101 (by decide +kernel) (by decide +kernel))⟩⟩
theorem x_evir111 : x_sv (x_on 20) 181 2 11 142 := ⟨x_m142, x_w 1107 (by decide +kernel) (by decide +kernel), _, rfl, Or.inl ⟨x_w 45 (by decide +kernel) (by decide +kernel), Or.inl (x_w 1105 (by decide +kernel) (by decide +kernel))⟩⟩
theorem x_evir112 : x_sv (x_on 20) 202 3 11 143 := ⟨x_m143, x_w 1111 (by decide +kernel) (by decide +kernel), _, rfl, Or.inl ⟨x_w 46 (by decide +kernel) (by decide +kernel), Or.inl (x_w 1109 (by decide +kernel) (by decide +kernel))⟩⟩
theorem x_evir113 : x_sv (x_on 20) 211 1 11 145 := ⟨x_m145, x_w 1119 (by decide +kernel) (by decide +kernel), _, rfl, Or.inl ⟨x_w 48 (by decide +kernel) (by decide +kernel), Or.inl (x_w 1117 (by decide +kernel) (by decide +kernel))⟩⟩
theorem x_evir114 : x_sv (x_on 20) 232 1 11 147 := ⟨x_m147, x_w 1127 (by decide +kernel) (by decide +kernel), _, rfl, Or.inl ⟨x_w 49 (by decide +kernel) (by decide +kernel), Or.inl (x_w 1125 (by decide +kernel) (by decide +kernel))⟩⟩
theorem x_evir115 : x_sv (x_on 20) 235 2 11 148 := ⟨x_m148, x_w 1131 (by decide +kernel) (by decide +kernel), _, rfl, Or.inl ⟨x_w 50 (by decide +kernel) (by decide +kernel), Or.inl (x_w 1129 (by decide +kernel) (by decide +kernel))⟩⟩
theorem x_evir116 : x_sv (x_on 20) 238 1 11 150 := ⟨x_m150, x_w 1139 (by decide +kernel) (by decide +kernel), _, rfl, Or.inl ⟨x_w 51 (by decide +kernel) (by decide +kernel), Or.inl (x_w 1137 (by decide +kernel) (by decide +kernel))⟩⟩
theorem x_evir117 : x_sv (x_on 20) 241 5 11 151 := ⟨x_m151, x_w 1143 (by decide +kernel) (by decide +kernel), _, rfl, Or.inl ⟨x_w 52 (by decide +kernel) (by decide +kernel), Or.inl (x_w 1141 (by decide +kernel) (by decide +kernel))⟩⟩
theorem x_evir118 : x_sv (x_on 20) 245 0 11 152 := ⟨x_m152, x_w 1147 (by decide +kernel) (by decide +kernel), _, rfl, Or.inl ⟨x_w 53 (by decide +kernel) (by decide +kernel), Or.inl (x_w 1145 (by decide +kernel) (by decide +kernel))⟩⟩
theorem x_evir119 : x_sv (x_on 20) 249 0 11 153 := ⟨x_m153, x_w 1151 (by decide +kernel) (by decide +kernel), _, rfl, Or.inl ⟨x_w 54 (by decide +kernel) (by decide +kernel), Or.inl (x_w 1149 (by decide +kernel) (by decide +kernel))⟩⟩
theorem x_evir120 : x_sv (x_on 20) 252 1 11 154 := ⟨x_m154, x_w 1155 (by decide +kernel) (by decide +kernel), _, rfl, Or.inl ⟨x_w 55 (by decide +kernel) (by decide +kernel), Or.inl (x_w 1153 (by decide +kernel) (by decide +kernel))⟩⟩
theorem x_evir121 : x_sv (x_on 20) 255 1 11 155 := ⟨x_m155, x_w 1159 (by decide +kernel) (by decide +kernel), _, rfl, Or.inl ⟨x_w 56 (by decide +kernel) (by decide +kernel), Or.inl (x_w 1157 (by decide +kernel) (by decide +kernel))⟩⟩
theorem x_evir122 : x_sv (x_on 20) 258 0 11 157 := ⟨x_m157, x_w 1167 (by decide +kernel) (by decide +kernel), _, rfl, Or.inl ⟨x_w 57 (by decide +kernel) (by decide +kernel), Or.inl (x_w 1165 (by decide +kernel) (by decide +kernel))⟩⟩
theorem x_evir123 : x_sv (x_on 20) 261 0 11 158 := ⟨x_m158, x_w 1171 (by decide +kernel) (by decide +kernel), _, rfl, Or.inl ⟨x_w 58 (by decide +kernel) (by decide +kernel), Or.inl (x_w 1169 (by decide +kernel) (by decide +kernel))⟩⟩
def x_tvir : List (Nat × Nat × Nat × Nat × Nat) := [(0, 83, 1, 10, 16), (0, 87, 1, 7, 18), (0, 98, 1, 3, 25), (0, 136, 1, 10, 17), (12, 43, 0, 3, 19), (12, 47, 1, 3, 20), (5, 123, 1, 3, 23), (5, 131, 3, 3, 26), (5, 129, 0, 3, 27), (5, 69, 1, 3, 28), (0, 102, 2, 2, 36), (0, 110, 1, 7, 38), (0, 113, 0, 10, 41), (12, 55, 1, 7, 38), (12, 63, 0, 0, 39), (2, 22, 3, 0, 40), (0, 117, 0, 3, 19), (0, 125, 0, 8, 44), (0, 129, 0, 10, 47), (18, 45, 0, 0, 39), (18, 51, 0, 8, 45), (18, 55, 0, 1, 46), (0, 277, 1, 10, 48), (0, 176, 1, 3, 20), (0, 281, 1, 10, 65), (0, 285, 0, 5, 70), (0, 236, 0, 3, 49), (0, 239, 3, 6, 50), (0, 239, 3, 7, 53), (0, 239, 3, 8, 51), (0, 189, 0, 4, 55), (0, 243, 3, 10, 58), (0, 192, 1, 4, 63), (18, 63, 1, 4, 52), (12, 68, 1, 4, 52), (12, 74, 1, 4, 54), (8, 62, 0, 3, 19), (8, 66, 1, 3, 20), (8, 70, 1, 3, 56), (5, 144, 2, 3, 57), (0, 254, 1, 6, 59), (0, 254, 1, 7, 61), (0, 254, 1, 8, 60), (0, 257, 3, 4, 62), (0, 263, 3, 0, 40), (10, 29, 0, 0, 39), (18, 69, 3, 0, 40), (8, 76, 1, 9, 64), (0, 291, 0, 9, 66), (0, 294, 0, 10, 67), (0, 148, 3, 10, 68), (0, 250, 3, 4, 69), (8, 56, 1, 3, 25), (9, 38, 0, 5, 71), (9, 41, 0, 5, 72), (9, 45, 0, 8, 73), (9, 26, 0, 3, 19), (9, 29, 1, 3, 20), (0, 132, 1, 10, 75), (0, 140, 0, 4, 76), (0, 144, 1, 6, 78), (0, 144, 1, 7, 78), (0, 144, 1, 8, 78), (8, 48, 0, 4, 77), (0, 152, 0, 4, 80), (0, 155, 2, 10, 81), (0, 159, 0, 10, 87), (0, 267, 1, 2, 82), (0, 273, 4, 6, 83), (0, 273, 4, 7, 86), (0, 273, 4, 8, 84), (10, 35, 3, 0, 40), (18, 73, 1, 8, 85), (0, 321, 0, 10, 88), (0, 318, 0, 8, 89), (0, 324, 0, 6, 90), (0, 327, 0, 10, 92), (0, 331, 0, 7, 93), (10, 39, 0, 6, 91), (12, 77, 3, 0, 40), (0, 165, 0, 10, 95), (0, 168, 0, 10, 97), (0, 312, 1, 4, 96), (0, 315, 0, 8, 98), (0, 180, 0, 9, 102), (0, 183, 0, 9, 104), (0, 186, 0, 4, 77), (0, 211, 0, 9, 110), (0, 214, 0, 5, 71), (0, 229, 1, 0, 115), (20, 136, 1, 11, 119), (20, 140, 1, 11, 120), (20, 151, 1, 11, 123), (20, 144, 0, 11, 124), (20, 126, 3, 11, 125), (20, 226, 1, 11, 127), (20, 229, 0, 11, 128), (20, 214, 0, 11, 129), (20, 217, 0, 11, 140), (20, 220, 1, 11, 144), (20, 199, 1, 11, 130), (20, 195, 2, 11, 131), (20, 174, 2, 11, 137), (20, 191, 3, 11, 138), (20, 158, 1, 11, 132), (20, 164, 1, 11, 133), (20, 167, 1, 11, 135), (20, 170, 4, 11, 136), (20, 161, 1, 11, 134), (20, 178, 1, 11, 139), (20, 208, 3, 11, 141), (20, 181, 2, 11, 142), (20, 202, 3, 11, 143), (20, 211, 1, 11, 145), (20, 232, 1, 11, 147), (20, 235, 2, 11, 148), (20, 238, 1, 11, 150), (20, 241, 5, 11, 151), (20, 245, 0, 11, 152), (20, 249, 0, 11, 153), (20, 252, 1, 11, 154), (20, 255, 1, 11, 155), (20, 258, 0, 11, 157), (20, 261, 0, 11, 158)]
theorem x_tvir_ok : ∀ q ∈ x_tvir, x_sv (x_on q.1) q.2.1 q.2.2.1 q.2.2.2.1 q.2.2.2.2 := List.forall_mem_cons.mpr ⟨x_evir0, List.forall_mem_cons.mpr ⟨x_evir1, List.forall_mem_cons.mpr ⟨x_evir2, List.forall_mem_cons.mpr ⟨x_evir3, List.forall_mem_cons.mpr ⟨x_evir4, List.forall_mem_cons.mpr ⟨x_evir5, List.forall_mem_cons.mpr ⟨x_evir6, List.forall_mem_cons.mpr ⟨x_evir7, List.forall_mem_cons.mpr ⟨x_evir8, List.forall_mem_cons.mpr ⟨x_evir9, List.forall_mem_cons.mpr ⟨x_evir10, List.forall_mem_cons.mpr ⟨x_evir11, List.forall_mem_cons.mpr ⟨x_evir12, List.forall_mem_cons.mpr ⟨x_evir13, List.forall_mem_cons.mpr ⟨x_evir14, List.forall_mem_cons.mpr ⟨x_evir15, List.forall_mem_cons.mpr ⟨x_evir16, List.forall_mem_cons.mpr ⟨x_evir17, List.forall_mem_cons.mpr ⟨x_evir18, List.forall_mem_cons.mpr ⟨x_evir19, List.forall_mem_cons.mpr ⟨x_evir20, List.forall_mem_cons.mpr ⟨x_evir21, List.forall_mem_cons.mpr ⟨x_evir22, List.forall_mem_cons.mpr ⟨x_evir23, List.forall_mem_cons.mpr ⟨x_evir24, List.forall_mem_cons.mpr ⟨x_evir25, List.forall_mem_cons.mpr ⟨x_evir26, List.forall_mem_cons.mpr ⟨x_evir27, List.forall_mem_cons.mpr ⟨x_evir28, List.forall_mem_cons.mpr ⟨x_evir29, List.forall_mem_cons.mpr ⟨x_evir30, List.forall_mem_cons.mpr ⟨x_evir31, List.forall_mem_cons.mpr ⟨x_evir32, List.forall_mem_cons.mpr ⟨x_evir33, List.forall_mem_cons.mpr ⟨x_evir34, List.forall_mem_cons.mpr ⟨x_evir35, List.forall_mem_cons.mpr ⟨x_evir36, List.forall_mem_cons.mpr ⟨x_evir37, List.forall_mem_cons.mpr ⟨x_evir38, List.forall_mem_cons.mpr ⟨x_evir39, List.forall_mem_cons.mpr ⟨x_evir40, List.forall_mem_cons.mpr ⟨x_evir41, List.forall_mem_cons.mpr ⟨x_evir42, List.forall_mem_cons.mpr ⟨x_evir43, List.forall_mem_cons.mpr ⟨x_evir44, List.forall_mem_cons.mpr ⟨x_evir45, List.forall_mem_cons.mpr ⟨x_evir46, List.forall_mem_cons.mpr ⟨x_evir47, List.forall_mem_cons.mpr ⟨x_evir48, List.forall_mem_cons.mpr ⟨x_evir49, List.forall_mem_cons.mpr ⟨x_evir50, List.forall_mem_cons.mpr ⟨x_evir51, List.forall_mem_cons.mpr ⟨x_evir52, List.forall_mem_cons.mpr ⟨x_evir53, List.forall_mem_cons.mpr ⟨x_evir54, List.forall_mem_cons.mpr ⟨x_evir55, List.forall_mem_cons.mpr ⟨x_evir56, List.forall_mem_cons.mpr ⟨x_evir57, List.forall_mem_cons.mpr ⟨x_evir58, List.forall_mem_cons.mpr ⟨x_evir59, List.forall_mem_cons.mpr ⟨x_evir60, List.forall_mem_cons.mpr ⟨x_evir61, List.forall_mem_cons.mpr ⟨x_evir62, List.forall_mem_cons.mpr ⟨x_evir63, List.forall_mem_cons.mpr ⟨x_evir64, List.forall_mem_cons.mpr ⟨x_evir65, List.forall_mem_cons.mpr ⟨x_evir66, List.forall_mem_cons.mpr ⟨x_evir67, List.forall_mem_cons.mpr ⟨x_evir68, List.forall_mem_cons.mpr ⟨x_evir69, List.forall_mem_cons.mpr ⟨x_evir70, List.forall_mem_cons.mpr ⟨x_evir71, List.forall_mem_cons.mpr ⟨x_evir72, List.forall_mem_cons.mpr ⟨x_evir73, List.forall_mem_cons.mpr ⟨x_evir74, List.forall_mem_cons.mpr ⟨x_evir75, List.forall_mem_cons.mpr ⟨x_evir76, List.forall_mem_cons.mpr ⟨x_evir77, List.forall_mem_cons.mpr ⟨x_evir78, List.forall_mem_cons.mpr ⟨x_evir79, List.forall_mem_cons.mpr ⟨x_evir80, List.forall_mem_cons.mpr ⟨x_evir81, List.forall_mem_cons.mpr ⟨x_evir82, List.forall_mem_cons.mpr ⟨x_evir83, List.forall_mem_cons.mpr ⟨x_evir84, List.forall_mem_cons.mpr ⟨x_evir85, List.forall_mem_cons.mpr ⟨x_evir86, List.forall_mem_cons.mpr ⟨x_evir87, List.forall_mem_cons.mpr ⟨x_evir88, List.forall_mem_cons.mpr ⟨x_evir89, List.forall_mem_cons.mpr ⟨x_evir90, List.forall_mem_cons.mpr ⟨x_evir91, List.forall_mem_cons.mpr ⟨x_evir92, List.forall_mem_cons.mpr ⟨x_evir93, List.forall_mem_cons.mpr ⟨x_evir94, List.forall_mem_cons.mpr ⟨x_evir95, List.forall_mem_cons.mpr ⟨x_evir96, List.forall_mem_cons.mpr ⟨x_evir97, List.forall_mem_cons.mpr ⟨x_evir98, List.forall_mem_cons.mpr ⟨x_evir99, List.forall_mem_cons.mpr ⟨x_evir100, List.forall_mem_cons.mpr ⟨x_evir101, List.forall_mem_cons.mpr ⟨x_evir102, List.forall_mem_cons.mpr ⟨x_evir103, List.forall_mem_cons.mpr ⟨x_evir104, List.forall_mem_cons.mpr ⟨x_evir105, List.forall_mem_cons.mpr ⟨x_evir106, List.forall_mem_cons.mpr ⟨x_evir107, List.forall_mem_cons.mpr ⟨x_evir108, List.forall_mem_cons.mpr ⟨x_evir109, List.forall_mem_cons.mpr ⟨x_evir110, List.forall_mem_cons.mpr ⟨x_evir111, List.forall_mem_cons.mpr ⟨x_evir112, List.forall_mem_cons.mpr ⟨x_evir113, List.forall_mem_cons.mpr ⟨x_evir114, List.forall_mem_cons.mpr ⟨x_evir115, List.forall_mem_cons.mpr ⟨x_evir116, List.forall_mem_cons.mpr ⟨x_evir117, List.forall_mem_cons.mpr ⟨x_evir118, List.forall_mem_cons.mpr ⟨x_evir119, List.forall_mem_cons.mpr ⟨x_evir120, List.forall_mem_cons.mpr ⟨x_evir121, List.forall_mem_cons.mpr ⟨x_evir122, List.forall_mem_cons.mpr ⟨x_evir123, (fun _ h => nomatch h)⟩⟩⟩⟩⟩⟩⟩⟩⟩⟩⟩⟩⟩⟩⟩⟩⟩⟩⟩⟩⟩⟩⟩⟩⟩⟩⟩⟩⟩⟩⟩⟩⟩⟩⟩⟩⟩⟩⟩⟩⟩⟩⟩⟩⟩⟩⟩⟩⟩⟩⟩⟩⟩⟩⟩⟩⟩⟩⟩⟩⟩⟩⟩⟩⟩⟩⟩⟩⟩⟩⟩⟩⟩⟩⟩⟩⟩⟩⟩⟩⟩⟩⟩⟩⟩⟩⟩⟩⟩⟩⟩⟩⟩⟩⟩⟩⟩⟩⟩⟩⟩⟩⟩⟩⟩⟩⟩⟩⟩⟩⟩⟩⟩⟩⟩⟩⟩⟩⟩⟩⟩⟩⟩⟩
theorem x_enew0 : x_nw (x_on 0) 7 0 := ⟨_, _, _, x_t0, rfl, x_w 89 (by decide +kernel) (by decide +kernel), x_w 90 (by decide +kernel) (by decide +kernel), x_w 61 (by decide +kernel) (by decide +kernel), x_y0, x_d0, rfl⟩
theorem x_enew1 : x_nw (x_on 0) 16 1 := ⟨_, _, _, x_t1, rfl, x_w 107 (by decide +kernel) (by decide +kernel), x_w 108 (by decide +kernel) (by decide +kernel), x_w 62 (by decide +kernel) (by decide +kernel), x_y1, x_d1, rfl⟩
theorem x_enew2 : x_nw (x_on 0) 23 2 := ⟨_, _, _, x_t2, rfl, x_w 122 (by decide +kernel) (by decide +kernel), x_w 123 (by decide +kernel) (by decide +kernel), x_w 63 (by decide +kernel) (by decide +kernel), x_y2, x_d2, rfl⟩
theorem x_enew3 : x_nw (x_on 0) 48 3 := ⟨_, _, _, x_t3, rfl, x_w 138 (by decide +kernel) (by decide +kernel), x_w 139 (by decide +kernel) (by decide +kernel), x_w 66 (by decide +kernel) (by decide +kernel), x_y3, x_d3, rfl⟩
theorem x_enew4 : x_nw (x_on 0) 30 4 := ⟨_, _, _, x_t4, rfl, x_w 132 (by decide +kernel) (by decide +kernel), x_w 164 (by decide +kernel) (by decide +kernel), x_w 67 (by decide +kernel) (by decide +kernel), x_y4, x_d4, rfl⟩
theorem x_enew5 : x_nw (x_on 0) 42 5 := ⟨_, _, _, x_t5, rfl, x_w 136 (by decide +kernel) (by decide +kernel), x_w 247 (by decide +kernel) (by decide +kernel), x_w 69 (by decide +kernel) (by decide +kernel), x_y5, x_d5, rfl⟩
theorem x_enew6 : x_nw (x_on 0) 75 6 := ⟨_, _, _, x_t6, rfl, x_w 270 (by decide +kernel) (by decide +kernel), x_w 271 (by decide +kernel) (by decide +kernel), x_w 71 (by decide +kernel) (by decide +kernel), x_y6, x_d6, rfl⟩
theorem x_enew7 : x_nw (x_on 0) 80 7 := ⟨_, _, _, x_t7, rfl, x_w 317 (by decide +kernel) (by decide +kernel), x_w 318 (by decide +kernel) (by decide +kernel), x_w 72 (by decide +kernel) (by decide +kernel), x_y7, x_d7, rfl⟩
theorem x_enew8 : x_nw (x_on 9) 7 3 := ⟨_, _, _, x_t3, rfl, x_w 252 (by decide +kernel) (by decide +kernel), x_w 139 (by decide +kernel) (by decide +kernel), x_w 66 (by decide +kernel) (by decide +kernel), x_y3, x_d3, rfl⟩
theorem x_enew9 : x_nw (x_on 11) 7 3 := ⟨_, _, _, x_t3, rfl, x_w 279 (by decide +kernel) (by decide +kernel), x_w 139 (by decide +kernel) (by decide +kernel), x_w 66 (by decide +kernel) (by decide +kernel), x_y3, x_d3, rfl⟩
theorem x_enew10 : x_nw (x_on 12) 9 3 := ⟨_, _, _, x_t3, rfl, x_w 323 (by decide +kernel) (by decide +kernel), x_w 139 (by decide +kernel) (by decide +kernel), x_w 66 (by decide +kernel) (by decide +kernel), x_y3, x_d3, rfl⟩
theorem x_enew11 : x_nw (x_on 0) 120 8 := ⟨_, _, _, x_t8, rfl, x_w 490 (by decide +kernel) (by decide +kernel), x_w 491 (by decide +kernel) (by decide +kernel), x_w 79 (by decide +kernel) (by decide +kernel), x_y8, x_d8, rfl⟩
theorem x_enew12 : x_nw (x_on 0) 171 9 := ⟨_, _, _, x_t9, rfl, x_w 620 (by decide +kernel) (by decide +kernel), x_w 770 (by decide +kernel) (by decide +kernel), x_w 80 (by decide +kernel) (by decide +kernel), x_y9, x_d9, rfl⟩
def x_tnew : List (Nat × Nat × Nat) := [(0, 7, 0), (0, 16, 1), (0, 23, 2), (0, 48, 3), (0, 30, 4), (0, 42, 5), (0, 75, 6), (0, 80, 7), (9, 7, 3), (11, 7, 3), (12, 9, 3), (0, 120, 8), (0, 171, 9)]
theorem x_tnew_ok : ∀ q ∈ x_tnew, x_nw (x_on q.1) q.2.1 q.2.2 := List.forall_mem_cons.mpr ⟨x_enew0, List.forall_mem_cons.mpr ⟨x_enew1, List.forall_mem_cons.mpr ⟨x_enew2, List.forall_mem_cons.mpr ⟨x_enew3, List.forall_mem_cons.mpr ⟨x_enew4, List.forall_mem_cons.mpr ⟨x_enew5, List.forall_mem_cons.mpr ⟨x_enew6, List.forall_mem_cons.mpr ⟨x_enew7, List.forall_mem_cons.mpr ⟨x_enew8, List.forall_mem_cons.mpr ⟨x_enew9, List.forall_mem_cons.mpr ⟨x_enew10, List.forall_mem_cons.mpr ⟨x_enew11, List.forall_mem_cons.mpr ⟨x_enew12, (fun _ h => nomatch h)⟩⟩⟩⟩⟩⟩⟩⟩⟩⟩⟩⟩⟩
theorem x_eanw0 : x_aq (x_on 0) 30 2 := ⟨_, rfl, x_w 132 (by decide +kernel) (by decide +kernel), (by decide +kernel)⟩
theorem x_eanw1 : x_aq (x_on 0) 36 3 := ⟨_, rfl, x_w 134 (by decide +kernel) (by decide +kernel), (by decide +kernel)⟩
theorem x_eanw2 : x_aq (x_on 0) 42 4 := ⟨_, rfl, x_w 136 (by decide +kernel) (by decide +kernel), (by decide +kernel)⟩
theorem x_eanw3 : x_aq (x_on 8) 9 3 := ⟨_, rfl, x_w 169 (by decide +kernel) (by decide +kernel), (by decide +kernel)⟩
theorem x_eanw4 : x_aq (x_on 5) 7 5 := ⟨_, rfl, x_w 455 (by decide +kernel) (by decide +kernel), (by decide +kernel)⟩
theorem x_eanw5 : x_aq (x_on 17) 2 5 := ⟨_, rfl, x_w 447 (by decide +kernel) (by decide +kernel), (by decide +kernel)⟩
def x_tanw : List (Nat × Nat × Nat) := [(0, 30, 2), (0, 36, 3), (0, 42, 4), (8, 9, 3), (5, 7, 5), (17, 2, 5)]
theorem x_tanw_ok : ∀ q ∈ x_tanw, x_aq (x_on q.1) q.2.1 q.2.2 := List.forall_mem_cons.mpr ⟨x_eanw0, List.forall_mem_cons.mpr ⟨x_eanw1, List.forall_mem_cons.mpr ⟨x_eanw2, List.forall_mem_cons.mpr ⟨x_eanw3, List.forall_mem_cons.mpr ⟨x_eanw4, List.forall_mem_cons.mpr ⟨x_eanw5, (fun _ h => nomatch h)⟩⟩⟩⟩⟩⟩
theorem x_ecst0 : x_cq (x_on 0) 80 [(7, 1)] := ⟨"SessionHost$Singleton", x_w 317 (by decide +kernel) (by decide +kernel), List.forall_mem_cons.mpr ⟨⟨_, rfl, Or.inl rfl⟩, (fun _ h => nomatch h)⟩⟩
theorem x_ecst1 : x_cq (x_on 12) 15 [(7, 1)] := ⟨"SessionHost$Singleton", x_w 395 (by decide +kernel) (by decide +kernel), List.forall_mem_cons.mpr ⟨⟨_, rfl, Or.inl rfl⟩, (fun _ h => nomatch h)⟩⟩
theorem x_ecst2 : x_cq (x_on 17) 110 [] := ⟨"[Ljava/lang/Object;", x_w 445 (by decide +kernel) (by decide +kernel), (fun _ h => nomatch h)⟩
theorem x_ecst3 : x_cq (x_on 0) 171 [(9, 1)] := ⟨"SessionHost$Task", x_w 620 (by decide +kernel) (by decide +kernel), List.forall_mem_cons.mpr ⟨⟨_, rfl, Or.inl rfl⟩, (fun _ h => nomatch h)⟩⟩
theorem x_ecst4 : x_cq (x_on 0) 30 [(4, 1)] := ⟨"SessionHost$Caller", x_w 132 (by decide +kernel) (by decide +kernel), List.forall_mem_cons.mpr ⟨⟨_, rfl, Or.inl rfl⟩, (fun _ h => nomatch h)⟩⟩
theorem x_ecst5 : x_cq (x_on 9) 33 [(8, 1)] := ⟨"SessionHost$Session", x_w 652 (by decide +kernel) (by decide +kernel), List.forall_mem_cons.mpr ⟨⟨_, rfl, Or.inl rfl⟩, (fun _ h => nomatch h)⟩⟩
theorem x_ecst6 : x_cq (x_on 0) 120 [(8, 1)] := ⟨"SessionHost$Session", x_w 490 (by decide +kernel) (by decide +kernel), List.forall_mem_cons.mpr ⟨⟨_, rfl, Or.inl rfl⟩, (fun _ h => nomatch h)⟩⟩
theorem x_ecst7 : x_cq (x_on 0) 75 [(6, 1)] := ⟨"SessionHost$Pool", x_w 270 (by decide +kernel) (by decide +kernel), List.forall_mem_cons.mpr ⟨⟨_, rfl, Or.inl rfl⟩, (fun _ h => nomatch h)⟩⟩
def x_tcst : List (Nat × Nat × List (Nat × Nat)) := [(0, 80, [(7, 1)]), (12, 15, [(7, 1)]), (17, 110, []), (0, 171, [(9, 1)]), (0, 30, [(4, 1)]), (9, 33, [(8, 1)]), (0, 120, [(8, 1)]), (0, 75, [(6, 1)])]
theorem x_tcst_ok : ∀ q ∈ x_tcst, x_cq (x_on q.1) q.2.1 q.2.2 := List.forall_mem_cons.mpr ⟨x_ecst0, List.forall_mem_cons.mpr ⟨x_ecst1, List.forall_mem_cons.mpr ⟨x_ecst2, List.forall_mem_cons.mpr ⟨x_ecst3, List.forall_mem_cons.mpr ⟨x_ecst4, List.forall_mem_cons.mpr ⟨x_ecst5, List.forall_mem_cons.mpr ⟨x_ecst6, List.forall_mem_cons.mpr ⟨x_ecst7, (fun _ h => nomatch h)⟩⟩⟩⟩⟩⟩⟩⟩
theorem x_eins0 : x_iq (x_on 0) 80 [(0, 0), (1, 0), (2, 0), (3, 0), (4, 0), (5, 0), (6, 0), (7, 1), (8, 0), (9, 0), (10, 0), (11, 0)] := ⟨"SessionHost$Singleton", x_w 317 (by decide +kernel) (by decide +kernel), List.forall_mem_cons.mpr ⟨⟨_, rfl, Or.inr ⟨rfl, (by decide +kernel)⟩⟩, List.forall_mem_cons.mpr ⟨⟨_, rfl, Or.inr ⟨rfl, (by decide +kernel)⟩⟩, List.forall_mem_cons.mpr ⟨⟨_, rfl, Or.inr ⟨rfl, (by decide +kernel)⟩⟩, List.forall_mem_cons.mpr ⟨⟨_, rfl, Or.inr ⟨rfl, (by decide +kernel)⟩⟩, List.forall_mem_cons.mpr ⟨⟨_, rfl, Or.inr ⟨rfl, (by decide +kernel)⟩⟩, List.forall_mem_cons.mpr ⟨⟨_, rfl, Or.inr ⟨rfl, (by decide +kernel)⟩⟩, List.forall_mem_cons.mpr ⟨⟨_, rfl, Or.inr ⟨rfl, (by decide +kernel)⟩⟩, List.forall_mem_cons.mpr ⟨⟨_, rfl, Or.inl ⟨rfl, Or.inl rfl⟩⟩, List.forall_mem_cons.mpr ⟨⟨_, rfl, Or.inr ⟨rfl, (by decide +kernel)⟩⟩, List.forall_mem_cons.mpr ⟨⟨_, rfl, Or.inr ⟨rfl, (by decide +kernel)⟩⟩, List.forall_mem_cons.mpr ⟨⟨_, rfl, Or.inr ⟨rfl, (by decide +kernel)⟩⟩, List.forall_mem_cons.mpr ⟨⟨_, rfl, Or.inr ⟨rfl, (by decide +kernel)⟩⟩, (fun _ h => nomatch h)⟩⟩⟩⟩⟩⟩⟩⟩⟩⟩⟩⟩⟩
theorem x_eins1 : x_iq (x_on 0) 75 [(0, 0), (1, 0), (2, 0), (3, 0), (4, 0), (5, 0), (6, 1), (7, 0), (8, 0), (9, 0), (10, 0), (11, 0)] := ⟨"SessionHost$Pool", x_w 270 (by decide +kernel) (by decide +kernel), List.forall_mem_cons.mpr ⟨⟨_, rfl, Or.inr ⟨rfl, (by decide +kernel)⟩⟩, List.forall_mem_cons.mpr ⟨⟨_, rfl, Or.inr ⟨rfl, (by decide +kernel)⟩⟩, List.forall_mem_cons.mpr ⟨⟨_, rfl, Or.inr ⟨rfl, (by decide +kernel)⟩⟩, List.forall_mem_cons.mpr ⟨⟨_, rfl, Or.inr ⟨rfl, (by decide +kernel)⟩⟩, List.forall_mem_cons.mpr ⟨⟨_, rfl, Or.inr ⟨rfl, (by decide +kernel)⟩⟩, List.forall_mem_cons.mpr ⟨⟨_, rfl, Or.inr ⟨rfl, (by decide +kernel)⟩⟩, List.forall_mem_cons.mpr ⟨⟨_, rfl, Or.inl ⟨rfl, Or.inl rfl⟩⟩, List.forall_mem_cons.mpr ⟨⟨_, rfl, Or.inr ⟨rfl, (by decide +kernel)⟩⟩, List.forall_mem_cons.mpr ⟨⟨_, rfl, Or.inr ⟨rfl, (by decide +kernel)⟩⟩, List.forall_mem_cons.mpr ⟨⟨_, rfl, Or.inr ⟨rfl, (by decide +kernel)⟩⟩, List.forall_mem_cons.mpr ⟨⟨_, rfl, Or.inr ⟨rfl, (by decide +kernel)⟩⟩, List.forall_mem_cons.mpr ⟨⟨_, rfl, Or.inr ⟨rfl, (by decide +kernel)⟩⟩, (fun _ h => nomatch h)⟩⟩⟩⟩⟩⟩⟩⟩⟩⟩⟩⟩⟩
def x_tins : List (Nat × Nat × List (Nat × Nat)) := [(0, 80, [(0, 0), (1, 0), (2, 0), (3, 0), (4, 0), (5, 0), (6, 0), (7, 1), (8, 0), (9, 0), (10, 0), (11, 0)]), (0, 75, [(0, 0), (1, 0), (2, 0), (3, 0), (4, 0), (5, 0), (6, 1), (7, 0), (8, 0), (9, 0), (10, 0), (11, 0)])]
theorem x_tins_ok : ∀ q ∈ x_tins, x_iq (x_on q.1) q.2.1 q.2.2 := List.forall_mem_cons.mpr ⟨x_eins0, List.forall_mem_cons.mpr ⟨x_eins1, (fun _ h => nomatch h)⟩⟩
theorem x_eoin0 : x_oq (x_on 0) 1 := ⟨x_w 86 (by decide +kernel) (by decide +kernel), x_w 87 (by decide +kernel) (by decide +kernel), x_w 88 (by decide +kernel) (by decide +kernel)⟩
theorem x_eoin1 : x_oq (x_on 2) 3 := ⟨x_w 94 (by decide +kernel) (by decide +kernel), x_w 87 (by decide +kernel) (by decide +kernel), x_w 88 (by decide +kernel) (by decide +kernel)⟩
theorem x_eoin2 : x_oq (x_on 3) 1 := ⟨x_w 112 (by decide +kernel) (by decide +kernel), x_w 87 (by decide +kernel) (by decide +kernel), x_w 88 (by decide +kernel) (by decide +kernel)⟩
theorem x_eoin3 : x_oq (x_on 4) 3 := ⟨x_w 127 (by decide +kernel) (by decide +kernel), x_w 87 (by decide +kernel) (by decide +kernel), x_w 88 (by decide +kernel) (by decide +kernel)⟩
theorem x_eoin4 : x_oq (x_on 7) 1 := ⟨x_w 149 (by decide +kernel) (by decide +kernel), x_w 87 (by decide +kernel) (by decide +kernel), x_w 88 (by decide +kernel) (by decide +kernel)⟩
theorem x_eoin5 : x_oq (x_on 8) 3 := ⟨x_w 168 (by decide +kernel) (by decide +kernel), x_w 87 (by decide +kernel) (by decide +kernel), x_w 88 (by decide +kernel) (by decide +kernel)⟩
theorem x_eoin6 : x_oq (x_on 9) 1 := ⟨x_w 251 (by decide +kernel) (by decide +kernel), x_w 87 (by decide +kernel) (by decide +kernel), x_w 88 (by decide +kernel) (by decide +kernel)⟩
theorem x_eoin7 : x_oq (x_on 11) 1 := ⟨x_w 278 (by decide +kernel) (by decide +kernel), x_w 87 (by decide +kernel) (by decide +kernel), x_w 88 (by decide +kernel) (by decide +kernel)⟩
theorem x_eoin8 : x_oq (x_on 19) 3 := ⟨x_w 774 (by decide +kernel) (by decide +kernel), x_w 87 (by decide +kernel) (by decide +kernel), x_w 88 (by decide +kernel) (by decide +kernel)⟩
theorem x_eoin9 : x_oq (x_on 20) 1 := ⟨x_w 864 (by decide +kernel) (by decide +kernel), x_w 87 (by decide +kernel) (by decide +kernel), x_w 88 (by decide +kernel) (by decide +kernel)⟩
def x_toin : List (Nat × Nat) := [(0, 1), (2, 3), (3, 1), (4, 3), (7, 1), (8, 3), (9, 1), (11, 1), (19, 3), (20, 1)]
theorem x_toin_ok : ∀ q ∈ x_toin, x_oq (x_on q.1) q.2 := List.forall_mem_cons.mpr ⟨x_eoin0, List.forall_mem_cons.mpr ⟨x_eoin1, List.forall_mem_cons.mpr ⟨x_eoin2, List.forall_mem_cons.mpr ⟨x_eoin3, List.forall_mem_cons.mpr ⟨x_eoin4, List.forall_mem_cons.mpr ⟨x_eoin5, List.forall_mem_cons.mpr ⟨x_eoin6, List.forall_mem_cons.mpr ⟨x_eoin7, List.forall_mem_cons.mpr ⟨x_eoin8, List.forall_mem_cons.mpr ⟨x_eoin9, (fun _ h => nomatch h)⟩⟩⟩⟩⟩⟩⟩⟩⟩⟩
theorem x_egst0 : Cond.fieldLink (x_on 5) 39 "java/util/ArrayList" "DEFAULTCAPACITY_EMPTY_ELEMENTDATA" "[Ljava/lang/Object;" ∈ x_ws := x_w 150 (by decide +kernel) (by decide +kernel)
def x_tgst : List (Nat × Nat) := [(5, 39)]
theorem x_tgst_ok : ∀ q ∈ x_tgst, Cond.fieldLink (x_on q.1) q.2 "java/util/ArrayList" "DEFAULTCAPACITY_EMPTY_ELEMENTDATA" "[Ljava/lang/Object;" ∈ x_ws := List.forall_mem_cons.mpr ⟨x_egst0, (fun _ h => nomatch h)⟩
theorem x_eldi0 : Cond.constant (x_on 15) 200 2147483639 ∈ x_ws := x_w 419 (by decide +kernel) (by decide +kernel)
def x_tldi : List (Nat × Nat × Int32) := [(15, 200, 2147483639)]
theorem x_tldi_ok : ∀ q ∈ x_tldi, Cond.constant (x_on q.1) q.2.1 q.2.2 ∈ x_ws := List.forall_mem_cons.mpr ⟨x_eldi0, (fun _ h => nomatch h)⟩
theorem x_eldm0 : Cond.classLink (x_on 17) 110 "[Ljava/lang/Object;" ∈ x_ws := x_w 445 (by decide +kernel) (by decide +kernel)
def x_tldm : List (Nat × Nat) := [(17, 110)]
theorem x_tldm_ok : ∀ q ∈ x_tldm, Cond.classLink (x_on q.1) q.2 "[Ljava/lang/Object;" ∈ x_ws := List.forall_mem_cons.mpr ⟨x_eldm0, (fun _ h => nomatch h)⟩
theorem x_ecpy0 : x_sc (x_on 17) 150 5 := ⟨rfl, x_w 451 (by decide +kernel) (by decide +kernel), x_w 453 (by decide +kernel) (by decide +kernel), x_w 452 (by decide +kernel) (by decide +kernel), x_w 78 (by decide +kernel) (by decide +kernel)⟩
theorem x_ecpy1 : x_sc (x_on 5) 112 5 := ⟨rfl, x_w 588 (by decide +kernel) (by decide +kernel), x_w 453 (by decide +kernel) (by decide +kernel), x_w 452 (by decide +kernel) (by decide +kernel), x_w 78 (by decide +kernel) (by decide +kernel)⟩
def x_tcpy : List (Nat × Nat × Nat) := [(17, 150, 5), (5, 112, 5)]
theorem x_tcpy_ok : ∀ q ∈ x_tcpy, x_sc (x_on q.1) q.2.1 q.2.2 := List.forall_mem_cons.mpr ⟨x_ecpy0, List.forall_mem_cons.mpr ⟨x_ecpy1, (fun _ h => nomatch h)⟩⟩
theorem x_egtc0 : x_sg (x_on 17) 86 5 := ⟨rfl, x_w 426 (by decide +kernel) (by decide +kernel), x_n 1228 (by decide +kernel), x_w 1227 (by decide +kernel) (by decide +kernel), x_w 427 (by decide +kernel) (by decide +kernel), x_w 441 (by decide +kernel) (by decide +kernel)⟩
def x_tgtc : List (Nat × Nat × Nat) := [(17, 86, 5)]
theorem x_tgtc_ok : ∀ q ∈ x_tgtc, x_sg (x_on q.1) q.2.1 q.2.2 := List.forall_mem_cons.mpr ⟨x_egtc0, (fun _ h => nomatch h)⟩
def x_ast : List (Nat × Nat) := [(2, 4), (3, 6), (3, 7), (3, 8), (4, 5), (5, 0), (5, 1), (5, 2), (5, 4), (5, 5), (5, 6), (5, 7), (5, 8), (5, 9), (5, 10), (5, 11)]
theorem x_ast_ok : ∀ q ∈ x_ast, ∃ (E : String) (r : vw_C), x_ty[q.1]? = some (.object E) ∧ x_cl[q.2]? = some r ∧ (r.1 = E ∨ Cond.castable r.1 E ∈ lw_tbl) := List.forall_mem_cons.mpr ⟨⟨_, _, rfl, rfl, Or.inl rfl⟩, List.forall_mem_cons.mpr ⟨⟨_, _, rfl, rfl, Or.inr (x_n 1240 (by decide +kernel))⟩, List.forall_mem_cons.mpr ⟨⟨_, _, rfl, rfl, Or.inr (x_n 1242 (by decide +kernel))⟩, List.forall_mem_cons.mpr ⟨⟨_, _, rfl, rfl, Or.inr (x_n 1241 (by decide +kernel))⟩, List.forall_mem_cons.mpr ⟨⟨_, _, rfl, rfl, Or.inl rfl⟩, List.forall_mem_cons.mpr ⟨⟨_, _, rfl, rfl, Or.inr (x_n 1230 (by decide +kernel))⟩, List.forall_mem_cons.mpr ⟨⟨_, _, rfl, rfl, Or.inr (x_n 1231 (by decide +kernel))⟩, List.forall_mem_cons.mpr ⟨⟨_, _, rfl, rfl, Or.inr (x_n 1232 (by decide +kernel))⟩, List.forall_mem_cons.mpr ⟨⟨_, _, rfl, rfl, Or.inr (x_n 1233 (by decide +kernel))⟩, List.forall_mem_cons.mpr ⟨⟨_, _, rfl, rfl, Or.inr (x_n 1235 (by decide +kernel))⟩, List.forall_mem_cons.mpr ⟨⟨_, _, rfl, rfl, Or.inr (x_n 1236 (by decide +kernel))⟩, List.forall_mem_cons.mpr ⟨⟨_, _, rfl, rfl, Or.inr (x_n 1237 (by decide +kernel))⟩, List.forall_mem_cons.mpr ⟨⟨_, _, rfl, rfl, Or.inr (x_n 1238 (by decide +kernel))⟩, List.forall_mem_cons.mpr ⟨⟨_, _, rfl, rfl, Or.inr (x_n 1239 (by decide +kernel))⟩, List.forall_mem_cons.mpr ⟨⟨_, _, rfl, rfl, Or.inr (x_n 1229 (by decide +kernel))⟩, List.forall_mem_cons.mpr ⟨⟨_, _, rfl, rfl, Or.inr (x_n 1234 (by decide +kernel))⟩, (fun _ h => nomatch h)⟩⟩⟩⟩⟩⟩⟩⟩⟩⟩⟩⟩⟩⟩⟩⟩
def x_ald : List (Nat × Nat) := [(2, 0), (3, 0), (4, 0), (5, 0)]
theorem x_ald_ok : ∀ q ∈ x_ald, ∃ C, x_ty[q.1]? = some (.object C) := List.forall_mem_cons.mpr ⟨⟨_, rfl⟩, List.forall_mem_cons.mpr ⟨⟨_, rfl⟩, List.forall_mem_cons.mpr ⟨⟨_, rfl⟩, List.forall_mem_cons.mpr ⟨⟨_, rfl⟩, (fun _ h => nomatch h)⟩⟩⟩⟩
theorem x_aci : Cond.arrayClass .int ∈ x_ws := x_w 106 (by decide +kernel) (by decide +kernel)
theorem x_acb : Cond.arrayClass .boolean ∈ x_ws := x_w 1004 (by decide +kernel) (by decide +kernel)
end
section
/-! One look of the kernel at a method's blocks: x_chk; then x_mok. -/
def x_fitb (own nL : Nat) (rt : Option FieldType) (ini : Bool) (pc : Nat) (o : XO) : Bool := match o.1 with
  | .iconst n => decide (Int32.ofInt n = o.2.2.2.2 ∧ o.2.1 = 1)
  | .bipush n => decide ((Int8.ofInt n).toInt32 = o.2.2.2.2 ∧ o.2.1 = 2)
  | .sipush n => decide ((Int16.ofInt n).toInt32 = o.2.2.2.2 ∧ o.2.1 = 3)
  | .aconst_null => decide (o.2.1 = 1)
  | .getstatic i => decide (o.2.1 = 3) && x_tgst.contains (own, i)
  | .iload j => decide (j = o.2.2.1 ∧ o.2.1 = 2)
  | .iload_n q => decide ((q : Nat) = o.2.2.1 ∧ o.2.1 = 1)
  | .aload j => decide (j = o.2.2.1 ∧ o.2.1 = 2)
  | .aload_n q => decide ((q : Nat) = o.2.2.1 ∧ o.2.1 = 1)
  | .istore j => decide ((j = o.2.2.1 ∧ o.2.1 = 2) ∧ o.2.2.1 < nL)
  | .istore_n q => decide (((q : Nat) = o.2.2.1 ∧ o.2.1 = 1) ∧ o.2.2.1 < nL)
  | .astore j => decide ((j = o.2.2.1 ∧ o.2.1 = 2) ∧ o.2.2.1 < nL)
  | .astore_n q => decide (((q : Nat) = o.2.2.1 ∧ o.2.1 = 1) ∧ o.2.2.1 < nL)
  | .iinc j n => decide (j = o.2.2.1 ∧ Int32.ofInt n = o.2.2.2.2 ∧ o.2.1 = 3)
  | .iadd => decide (o.2.1 = 1)
  | .isub => decide (o.2.1 = 1)
  | .imul => decide (o.2.1 = 1)
  | .iand => decide (o.2.1 = 1)
  | .ior => decide (o.2.1 = 1)
  | .ixor => decide (o.2.1 = 1)
  | .idiv => decide (o.2.1 = 1)
  | .irem => decide (o.2.1 = 1)
  | .ishl => decide (o.2.1 = 1)
  | .ishr => decide (o.2.1 = 1)
  | .ineg => decide (o.2.1 = 1)
  | .dup => decide (o.2.1 = 1)
  | .dup_x1 => decide (o.2.1 = 1)
  | .dup2 => decide (o.2.1 = 1)
  | .pop => decide (o.2.1 = 1)
  | .ifCond _ off => decide (o.2.1 = 3 ∧ (pc : Int) + off = (o.2.2.1 : Int))
  | .if_icmp _ off => decide (o.2.1 = 3 ∧ (pc : Int) + off = (o.2.2.1 : Int))
  | .if_acmp _ off => decide (o.2.1 = 3 ∧ (pc : Int) + off = (o.2.2.1 : Int))
  | .ifnull off => decide (o.2.1 = 3 ∧ (pc : Int) + off = (o.2.2.1 : Int))
  | .ifnonnull off => decide (o.2.1 = 3 ∧ (pc : Int) + off = (o.2.2.1 : Int))
  | .goto off => decide (o.2.1 = 3 ∧ (pc : Int) + off = (o.2.2.1 : Int))
  | .tableswitch d l h os => decide (0 ≤ (pc : Int) + d ∧ (os.toList.length : Int) = h - l + 1 ∧ ∀ z ∈ os.toList, 0 ≤ (pc : Int) + z)
  | .ireturn => decide (o.2.1 = 1) && (match rt with
    | some ty => decide (x_kd ty = o.2.2.1)
    | none => false)
  | .areturn => decide (o.2.1 = 1) && (match rt with
    | some ty => decide (x_kd ty = 2)
    | none => false)
  | .return_ => decide (o.2.1 = 1) && rt.isNone
  | .getfield i => decide (o.2.1 = 3) && x_tfld.contains (own, i, o.2.2.1, o.2.2.2.1)
  | .putfield i => decide (o.2.1 = 3) && x_tfwr.contains (own, i, ini, o.2.2.1, o.2.2.2.1)
  | .arraylength => decide (o.2.1 = 1)
  | .iaload => decide (o.2.1 = 1 ∧ o.2.2.1 = 0)
  | .baload => decide (o.2.1 = 1 ∧ o.2.2.1 = 1)
  | .aaload => decide (o.2.1 = 1 ∧ o.2.2.2.1 = x_ald)
  | .iastore => decide (o.2.1 = 1 ∧ o.2.2.1 = 0)
  | .bastore => decide (o.2.1 = 1 ∧ o.2.2.1 = 1)
  | .aastore => decide (o.2.1 = 1 ∧ o.2.2.2.1 = x_ast)
  | .new i => decide (o.2.1 = 3) && x_tnew.contains (own, i, o.2.2.1)
  | .newarray aty => decide (o.2.1 = 2 ∧ ((aty = .int ∧ o.2.2.1 = 0) ∨ (aty = .boolean ∧ o.2.2.1 = 1)))
  | .anewarray i => decide (o.2.1 = 3) && x_tanw.contains (own, i, o.2.2.1)
  | .checkcast i => decide (o.2.1 = 3) && x_tcst.contains (own, i, o.2.2.2.1)
  | .instanceof i => decide (o.2.1 = 3) && x_tins.contains (own, i, o.2.2.2.1)
  | .ldc i => decide (o.2.1 = 2) && ((decide (o.2.2.2.1 = []) && x_tldi.contains (own, i, o.2.2.2.2)) || (decide (o.2.2.2.1 ≠ []) && x_tldm.contains (own, i)))
  | .invokestatic i => decide (o.2.1 = 3) && o.2.2.2.1.all fun q => (decide (q.2 = 0) && x_tsta.contains (own, i, o.2.2.1, q.1)) || (decide (q.2 = 3) && x_tcpy.contains (own, i, o.2.2.1))
  | .invokespecial i => decide (o.2.1 = 3) && ((decide (o.2.2.2.1 = []) && x_toin.contains (own, i)) || (decide (o.2.2.2.1 ≠ []) && o.2.2.2.1.all fun q => x_tspc.contains (own, i, o.2.2.1, q.1)))
  | .invokevirtual i => decide (o.2.1 = 3) && (decide (o.2.2.2.1 ≠ []) || x_tgtc.contains (own, i, o.2.2.1)) && o.2.2.2.1.all fun q => x_tvir.contains (own, i, o.2.2.1, q.1, q.2)
  | _ => false
theorem x_and {a b : Bool} (h : (a && b) = true) : a = true ∧ b = true := by simpa using h
theorem x_or {a b : Bool} (h : (a || b) = true) : a = true ∨ b = true := by simpa using h
theorem x_con {α : Type} [BEq α] [LawfulBEq α] {l : List α} {a : α} (h : l.contains a = true) : a ∈ l := List.contains_iff_mem.mp h
set_option maxHeartbeats 4000000 in
theorem x_fitb_ok {own nL : Nat} {rt : Option FieldType} {ini : Bool} {pc : Nat} {o : XO} (h : x_fitb own nL rt ini pc o = true) : x_fit (x_on own) nL rt ini pc o := by
  obtain ⟨i, len, ax, al, cv⟩ := o
  cases i with
  | getstatic i => exact ⟨of_decide_eq_true (x_and h).1, x_tgst_ok _ (x_con (x_and h).2)⟩
  | ireturn =>
    refine ⟨of_decide_eq_true (x_and h).1, ?_⟩
    have h2 := (x_and h).2
    cases rt with
    | none => cases h2
    | some ty => exact ⟨ty, rfl, of_decide_eq_true h2⟩
  | areturn =>
    refine ⟨of_decide_eq_true (x_and h).1, ?_⟩
    have h2 := (x_and h).2
    cases rt with
    | none => cases h2
    | some ty => exact ⟨ty, rfl, of_decide_eq_true h2⟩
  | return_ => exact ⟨of_decide_eq_true (x_and h).1, by simpa using (x_and h).2⟩
  | getfield i => exact ⟨of_decide_eq_true (x_and h).1, x_tfld_ok _ (x_con (x_and h).2)⟩
  | putfield i => exact ⟨of_decide_eq_true (x_and h).1, x_tfwr_ok _ (x_con (x_and h).2)⟩
  | iaload =>
    obtain ⟨h1, h2⟩ : len = 1 ∧ ax = 0 := of_decide_eq_true h
    subst h2
    exact ⟨h1, rfl⟩
  | baload =>
    obtain ⟨h1, h2⟩ : len = 1 ∧ ax = 1 := of_decide_eq_true h
    subst h2
    exact ⟨h1, rfl⟩
  | iastore =>
    obtain ⟨h1, h2⟩ : len = 1 ∧ ax = 0 := of_decide_eq_true h
    subst h2
    exact ⟨h1, rfl⟩
  | bastore =>
    obtain ⟨h1, h2⟩ : len = 1 ∧ ax = 1 := of_decide_eq_true h
    subst h2
    exact ⟨h1, rfl⟩
  | aaload =>
    obtain ⟨h1, h2⟩ : len = 1 ∧ al = x_ald := of_decide_eq_true h
    subst h2
    exact ⟨h1, x_ald_ok⟩
  | aastore =>
    obtain ⟨h1, h2⟩ : len = 1 ∧ al = x_ast := of_decide_eq_true h
    subst h2
    exact ⟨h1, x_ast_ok⟩
  | new i => exact ⟨of_decide_eq_true (x_and h).1, x_tnew_ok _ (x_con (x_and h).2)⟩
  | newarray aty =>
    obtain ⟨h1, ⟨rfl, h3⟩ | ⟨rfl, h3⟩⟩ : len = 2 ∧ ((aty = .int ∧ ax = 0) ∨ (aty = .boolean ∧ ax = 1)) := of_decide_eq_true h
    · subst h3
      exact ⟨h1, rfl, Or.inl rfl, x_aci⟩
    · subst h3
      exact ⟨h1, rfl, Or.inr rfl, x_acb⟩
  | anewarray i => exact ⟨of_decide_eq_true (x_and h).1, x_tanw_ok _ (x_con (x_and h).2)⟩
  | checkcast i => exact ⟨of_decide_eq_true (x_and h).1, x_tcst_ok _ (x_con (x_and h).2)⟩
  | instanceof i => exact ⟨of_decide_eq_true (x_and h).1, x_tins_ok _ (x_con (x_and h).2)⟩
  | ldc i =>
    refine ⟨of_decide_eq_true (x_and h).1, ?_⟩
    rcases x_or (x_and h).2 with h2 | h2
    · exact Or.inl ⟨of_decide_eq_true (x_and h2).1, x_tldi_ok _ (x_con (x_and h2).2)⟩
    · exact Or.inr ⟨of_decide_eq_true (x_and h2).1, x_tldm_ok _ (x_con (x_and h2).2)⟩
  | invokestatic i =>
    refine ⟨of_decide_eq_true (x_and h).1, fun q hq => ?_⟩
    rcases x_or (List.all_eq_true.mp (x_and h).2 q hq) with h2 | h2
    · exact Or.inl ⟨of_decide_eq_true (x_and h2).1, x_tsta_ok _ (x_con (x_and h2).2)⟩
    · exact Or.inr ⟨of_decide_eq_true (x_and h2).1, x_tcpy_ok _ (x_con (x_and h2).2)⟩
  | invokespecial i =>
    refine ⟨of_decide_eq_true (x_and h).1, ?_⟩
    rcases x_or (x_and h).2 with h2 | h2
    · exact Or.inl ⟨of_decide_eq_true (x_and h2).1, x_toin_ok _ (x_con (x_and h2).2)⟩
    · exact Or.inr ⟨of_decide_eq_true (x_and h2).1, fun q hq => x_tspc_ok _ (x_con (List.all_eq_true.mp (x_and h2).2 q hq))⟩
  | invokevirtual i =>
    refine ⟨of_decide_eq_true (x_and (x_and h).1).1, fun hn => ?_, fun q hq => x_tvir_ok _ (x_con (List.all_eq_true.mp (x_and h).2 q hq))⟩
    rcases x_or (x_and (x_and h).1).2 with h2 | h2
    · exact absurd hn (of_decide_eq_true h2)
    · exact x_tgtc_ok _ (x_con h2)
  | _ => first | (simp only [x_fitb, decide_eq_true_eq] at h; exact h) | (simp [x_fitb] at h)
def x_chk (own nL : Nat) (rt : Option FieldType) (ini : Bool) (cc : ByteArray) : Nat → List XO → Bool
  | _, [] => true
  | pc, o :: r => decide (decode cc pc = .ok (o.1, o.2.1)) && (x_fitb own nL rt ini pc o && x_chk own nL rt ini cc (pc + o.2.1) r)
theorem x_chk_ok {own nL : Nat} {rt : Option FieldType} {ini : Bool} {cc : ByteArray} : ∀ (pc : Nat) (l : List XO), x_chk own nL rt ini cc pc l = true → x_fits (x_on own) nL rt ini cc pc l
  | _, [], _ => trivial
  | pc, o :: r, h => ⟨⟨of_decide_eq_true (x_and h).1, x_fitb_ok (x_and (x_and h).2).1⟩, x_chk_ok _ r (x_and (x_and h).2).2⟩
def x_chm (y own : Nat) (ini : Bool) (B : List (Nat × List XO)) : Bool := plainFor (x_mt y).1 && B.all fun q => x_chk own (x_mt y).2.2.1 (x_mt y).2.2.2 ini (x_mt y).2.1 q.1 q.2
theorem x_chm_ok {y own : Nat} {ini : Bool} {B : List (Nat × List XO)} (h0 : (x_mt y).1.cls = x_on own) (h1 : ini = true → (x_mt y).1.name = "<init>") (h : x_chm y own ini B = true) : x_mok y (x_on own) ini B :=
  ⟨h0, (x_and h).1, h1, fun q hq => x_chk_ok _ _ (List.all_eq_true.mp (x_and h).2 q hq)⟩
end
section
/-! Printed by wip/whole/gen.py: the methods, block by block. -/
def b_ArrayList_init : List (Nat × List XO) := [(0, [(.aload_n 0, 1, 0, [], 0), (.invokespecial 1, 3, 6, [(0, 0)], 0), (.aload_n 0, 1, 0, [], 0), (.getstatic 39, 3, 0, [], 0), (.putfield 9, 3, 1, [(3, 2)], 0), (.return_, 1, 0, [], 0)])]
theorem ok_ArrayList_init : x_mok y_ArrayList_init (x_on 5) true b_ArrayList_init := x_chm_ok rfl (fun _ => rfl) (by decide +kernel)
def b_AbstractList_init : List (Nat × List XO) := [(0, [(.aload_n 0, 1, 0, [], 0), (.invokespecial 1, 3, 7, [(0, 0)], 0), (.aload_n 0, 1, 0, [], 0), (.iconst 0, 1, 0, [], 0), (.putfield 7, 3, 0, [(3, 0)], 0), (.return_, 1, 0, [], 0)])]
theorem ok_AbstractList_init : x_mok y_AbstractList_init (x_on 6) true b_AbstractList_init := x_chm_ok rfl (fun _ => rfl) (by decide +kernel)
def b_AbstractCollection_init : List (Nat × List XO) := [(0, [(.aload_n 0, 1, 0, [], 0), (.invokespecial 1, 3, 0, [], 0), (.return_, 1, 0, [], 0)])]
theorem ok_AbstractCollection_init : x_mok y_AbstractCollection_init (x_on 7) true b_AbstractCollection_init := x_chm_ok rfl (fun _ => rfl) (by decide +kernel)
def b_ArrayList_size : List (Nat × List XO) := [(0, [(.aload_n 0, 1, 0, [], 0), (.getfield 48, 3, 2, [(3, 0)], 0), (.ireturn, 1, 0, [], 0)])]
theorem ok_ArrayList_size : x_mok y_ArrayList_size (x_on 5) false b_ArrayList_size := x_chm_ok rfl (by decide) (by decide +kernel)
def b_ArrayList_get : List (Nat × List XO) := [(0, [(.iload_n 1, 1, 1, [], 0), (.aload_n 0, 1, 0, [], 0), (.getfield 48, 3, 2, [(3, 0)], 0), (.invokestatic 118, 3, 21, [(2, 0)], 0), (.pop, 1, 0, [], 0), (.aload_n 0, 1, 0, [], 0), (.iload_n 1, 1, 1, [], 0), (.invokevirtual 123, 3, 1, [(3, 23)], 0), (.areturn, 1, 0, [], 0)])]
theorem ok_ArrayList_get : x_mok y_ArrayList_get (x_on 5) false b_ArrayList_get := x_chm_ok rfl (by decide) (by decide +kernel)
def b_Objects_checkIndex : List (Nat × List XO) := [(0, [(.iload_n 0, 1, 0, [], 0), (.iload_n 1, 1, 1, [], 0), (.aconst_null, 1, 0, [], 0), (.invokestatic 105, 3, 22, [(3, 0)], 0), (.ireturn, 1, 0, [], 0)])]
theorem ok_Objects_checkIndex : x_mok y_Objects_checkIndex (x_on 13) false b_Objects_checkIndex := x_chm_ok rfl (by decide) (by decide +kernel)
def b_Preconditions_checkIndex : List (Nat × List XO) := [(0, [(.iload_n 0, 1, 0, [], 0), (.ifCond .lt 8, 3, 9, [], 0), (.iload_n 0, 1, 0, [], 0), (.iload_n 1, 1, 1, [], 0), (.if_icmp .lt 10, 3, 16, [], 0)]),
  (9, [(.aload_n 2, 1, 2, [], 0), (.iload_n 0, 1, 0, [], 0), (.iload_n 1, 1, 1, [], 0)]),
  (16, [(.iload_n 0, 1, 0, [], 0), (.ireturn, 1, 0, [], 0)])]
theorem ok_Preconditions_checkIndex : x_mok y_Preconditions_checkIndex (x_on 14) false b_Preconditions_checkIndex := x_chm_ok rfl (by decide) (by decide +kernel)
def b_ArrayList_elementData : List (Nat × List XO) := [(0, [(.aload_n 0, 1, 0, [], 0), (.getfield 9, 3, 1, [(3, 2)], 0), (.iload_n 1, 1, 1, [], 0), (.aaload, 1, 0, x_ald, 0), (.areturn, 1, 0, [], 0)])]
theorem ok_ArrayList_elementData : x_mok y_ArrayList_elementData (x_on 5) false b_ArrayList_elementData := x_chm_ok rfl (by decide) (by decide +kernel)
def b_ArrayList_add : List (Nat × List XO) := [(0, [(.aload_n 0, 1, 0, [], 0), (.dup, 1, 0, [], 0), (.getfield 63, 3, 0, [(3, 0)], 0), (.iconst 1, 1, 0, [], 1), (.iadd, 1, 0, [], 0), (.putfield 63, 3, 0, [(3, 0)], 0), (.aload_n 0, 1, 0, [], 0), (.aload_n 1, 1, 1, [], 0), (.aload_n 0, 1, 0, [], 0), (.getfield 9, 3, 1, [(3, 2)], 0), (.aload_n 0, 1, 0, [], 0), (.getfield 48, 3, 2, [(3, 0)], 0), (.invokevirtual 131, 3, 3, [(3, 26)], 0), (.iconst 1, 1, 0, [], 1), (.ireturn, 1, 1, [], 0)])]
theorem ok_ArrayList_add : x_mok y_ArrayList_add (x_on 5) false b_ArrayList_add := x_chm_ok rfl (by decide) (by decide +kernel)
def b_ArrayList_add2 : List (Nat × List XO) := [(0, [(.iload_n 3, 1, 3, [], 0), (.aload_n 2, 1, 2, [], 0), (.arraylength, 1, 0, [], 0), (.if_icmp .ne 8, 3, 11, [], 0), (.aload_n 0, 1, 0, [], 0), (.invokevirtual 129, 3, 0, [(3, 27)], 0), (.astore_n 2, 1, 2, [], 0)]),
  (11, [(.aload_n 2, 1, 2, [], 0), (.iload_n 3, 1, 3, [], 0), (.aload_n 1, 1, 1, [], 0), (.aastore, 1, 0, x_ast, 0), (.aload_n 0, 1, 0, [], 0), (.iload_n 3, 1, 3, [], 0), (.iconst 1, 1, 0, [], 1), (.iadd, 1, 0, [], 0), (.putfield 48, 3, 2, [(3, 0)], 0), (.return_, 1, 0, [], 0)])]
theorem ok_ArrayList_add2 : x_mok y_ArrayList_add2 (x_on 5) false b_ArrayList_add2 := x_chm_ok rfl (by decide) (by decide +kernel)
def b_ArrayList_grow : List (Nat × List XO) := [(0, [(.aload_n 0, 1, 0, [], 0), (.aload_n 0, 1, 0, [], 0), (.getfield 48, 3, 2, [(3, 0)], 0), (.iconst 1, 1, 0, [], 1), (.iadd, 1, 0, [], 0), (.invokevirtual 69, 3, 1, [(3, 28)], 0), (.areturn, 1, 0, [], 0)])]
theorem ok_ArrayList_grow : x_mok y_ArrayList_grow (x_on 5) false b_ArrayList_grow := x_chm_ok rfl (by decide) (by decide +kernel)
def b_ArrayList_grow2 : List (Nat × List XO) := [(0, [(.aload_n 0, 1, 0, [], 0), (.getfield 9, 3, 1, [(3, 2)], 0), (.arraylength, 1, 0, [], 0), (.istore_n 2, 1, 2, [], 0), (.iload_n 2, 1, 2, [], 0), (.ifCond .gt 13, 3, 20, [], 0), (.aload_n 0, 1, 0, [], 0), (.getfield 9, 3, 1, [(3, 2)], 0), (.getstatic 39, 3, 0, [], 0), (.if_acmp .eq 28, 3, 45, [], 0)]),
  (20, [(.iload_n 2, 1, 2, [], 0), (.iload_n 1, 1, 1, [], 0), (.iload_n 2, 1, 2, [], 0), (.isub, 1, 0, [], 0), (.iload_n 2, 1, 2, [], 0), (.iconst 1, 1, 0, [], 1), (.ishr, 1, 0, [], 0), (.invokestatic 73, 3, 29, [(3, 0)], 0), (.istore_n 3, 1, 3, [], 0), (.aload_n 0, 1, 0, [], 0), (.aload_n 0, 1, 0, [], 0), (.getfield 9, 3, 1, [(3, 2)], 0), (.iload_n 3, 1, 3, [], 0), (.invokestatic 66, 3, 32, [(2, 0)], 0), (.dup_x1, 1, 0, [], 0), (.putfield 9, 3, 1, [(3, 2)], 0), (.areturn, 1, 0, [], 0)]),
  (45, [(.aload_n 0, 1, 0, [], 0), (.bipush 10, 2, 0, [], 10), (.iload_n 1, 1, 1, [], 0), (.invokestatic 79, 3, 30, [(2, 0)], 0), (.anewarray 7, 3, 5, [], 0), (.dup_x1, 1, 0, [], 0), (.putfield 9, 3, 1, [(3, 2)], 0), (.areturn, 1, 0, [], 0)])]
theorem ok_ArrayList_grow2 : x_mok y_ArrayList_grow2 (x_on 5) false b_ArrayList_grow2 := x_chm_ok rfl (by decide) (by decide +kernel)
def b_ArraysSupport_newLength : List (Nat × List XO) := [(0, [(.iload_n 0, 1, 0, [], 0), (.iload_n 1, 1, 1, [], 0), (.iload_n 2, 1, 2, [], 0), (.invokestatic 194, 3, 30, [(2, 0)], 0), (.iadd, 1, 0, [], 0), (.istore_n 3, 1, 3, [], 0), (.iconst 0, 1, 0, [], 0), (.iload_n 3, 1, 3, [], 0), (.if_icmp .ge 11, 3, 21, [], 0), (.iload_n 3, 1, 3, [], 0), (.ldc 200, 2, 0, [], 2147483639), (.if_icmp .gt 5, 3, 21, [], 0), (.iload_n 3, 1, 3, [], 0), (.ireturn, 1, 0, [], 0)]),
  (21, [(.iload_n 0, 1, 0, [], 0), (.iload_n 1, 1, 1, [], 0), (.invokestatic 201, 3, 31, [(2, 0)], 0), (.ireturn, 1, 0, [], 0)])]
theorem ok_ArraysSupport_newLength : x_mok y_ArraysSupport_newLength (x_on 15) false b_ArraysSupport_newLength := x_chm_ok rfl (by decide) (by decide +kernel)
def b_Math_max : List (Nat × List XO) := [(0, [(.iload_n 0, 1, 0, [], 0), (.iload_n 1, 1, 1, [], 0), (.if_icmp .lt 7, 3, 9, [], 0), (.iload_n 0, 1, 0, [], 0), (.goto 4, 3, 10, [], 0)]),
  (9, [(.iload_n 1, 1, 1, [], 0)]),
  (10, [(.ireturn, 1, 0, [], 0)])]
theorem ok_Math_max : x_mok y_Math_max (x_on 16) false b_Math_max := x_chm_ok rfl (by decide) (by decide +kernel)
def b_ArraysSupport_hugeLength : List (Nat × List XO) := [(0, [(.iload_n 0, 1, 0, [], 0), (.iload_n 1, 1, 1, [], 0), (.iadd, 1, 0, [], 0), (.istore_n 2, 1, 2, [], 0), (.iload_n 2, 1, 2, [], 0), (.ifCond .ge 44, 3, 49, [], 0)]),
  (11, [(.dup, 1, 0, [], 0)]),
  (15, [(.dup, 1, 0, [], 0)]),
  (24, [(.iload_n 0, 1, 0, [], 0)]),
  (33, [(.iload_n 1, 1, 1, [], 0)]),
  (49, [(.iload_n 2, 1, 2, [], 0), (.ldc 200, 2, 0, [], 2147483639), (.if_icmp .gt 6, 3, 58, [], 0), (.ldc 200, 2, 0, [], 2147483639), (.ireturn, 1, 0, [], 0)]),
  (58, [(.iload_n 2, 1, 2, [], 0), (.ireturn, 1, 0, [], 0)])]
theorem ok_ArraysSupport_hugeLength : x_mok y_ArraysSupport_hugeLength (x_on 15) false b_ArraysSupport_hugeLength := x_chm_ok rfl (by decide) (by decide +kernel)
def b_Arrays_copyOf : List (Nat × List XO) := [(0, [(.aload_n 0, 1, 0, [], 0), (.iload_n 1, 1, 1, [], 0), (.aload_n 0, 1, 0, [], 0), (.invokevirtual 86, 3, 5, [], 0), (.invokestatic 300, 3, 33, [(3, 0)], 0), (.areturn, 1, 0, [], 0)])]
theorem ok_Arrays_copyOf : x_mok y_Arrays_copyOf (x_on 17) false b_Arrays_copyOf := x_chm_ok rfl (by decide) (by decide +kernel)
def b_Arrays_copyOf2 : List (Nat × List XO) := [(0, [(.aload_n 2, 1, 2, [], 0), (.ldc 110, 2, 0, [(0, 0)], 0), (.if_acmp .ne 10, 3, 13, [], 0), (.iload_n 1, 1, 1, [], 0), (.anewarray 2, 3, 5, [], 0), (.goto 14, 3, 24, [], 0)]),
  (13, [(.aload_n 2, 1, 2, [], 0)]),
  (17, [(.iload_n 1, 1, 1, [], 0)]),
  (24, [(.astore_n 3, 1, 3, [], 0), (.aload_n 0, 1, 0, [], 0), (.iconst 0, 1, 0, [], 0), (.aload_n 3, 1, 3, [], 0), (.iconst 0, 1, 0, [], 0), (.aload_n 0, 1, 0, [], 0), (.arraylength, 1, 0, [], 0), (.iload_n 1, 1, 1, [], 0), (.invokestatic 304, 3, 34, [(2, 0)], 0), (.invokestatic 150, 3, 5, [(5, 3)], 0), (.aload_n 3, 1, 3, [], 0), (.areturn, 1, 0, [], 0)])]
theorem ok_Arrays_copyOf2 : x_mok y_Arrays_copyOf2 (x_on 17) false b_Arrays_copyOf2 := x_chm_ok rfl (by decide) (by decide +kernel)
def b_Math_min : List (Nat × List XO) := [(0, [(.iload_n 0, 1, 0, [], 0), (.iload_n 1, 1, 1, [], 0), (.if_icmp .gt 7, 3, 9, [], 0), (.iload_n 0, 1, 0, [], 0), (.goto 4, 3, 10, [], 0)]),
  (9, [(.iload_n 1, 1, 1, [], 0)]),
  (10, [(.ireturn, 1, 0, [], 0)])]
theorem ok_Math_min : x_mok y_Math_min (x_on 16) false b_Math_min := x_chm_ok rfl (by decide) (by decide +kernel)
def b_ArrayList_isEmpty : List (Nat × List XO) := [(0, [(.aload_n 0, 1, 0, [], 0), (.getfield 48, 3, 2, [(3, 0)], 0), (.ifCond .ne 7, 3, 11, [], 0), (.iconst 1, 1, 0, [], 1), (.goto 4, 3, 12, [], 0)]),
  (11, [(.iconst 0, 1, 0, [], 0)]),
  (12, [(.ireturn, 1, 1, [], 0)])]
theorem ok_ArrayList_isEmpty : x_mok y_ArrayList_isEmpty (x_on 5) false b_ArrayList_isEmpty := x_chm_ok rfl (by decide) (by decide +kernel)
def b_ArrayList_remove : List (Nat × List XO) := [(0, [(.iload_n 1, 1, 1, [], 0), (.aload_n 0, 1, 0, [], 0), (.getfield 48, 3, 2, [(3, 0)], 0), (.invokestatic 118, 3, 21, [(2, 0)], 0), (.pop, 1, 0, [], 0), (.aload_n 0, 1, 0, [], 0), (.getfield 9, 3, 1, [(3, 2)], 0), (.astore_n 2, 1, 2, [], 0), (.aload_n 2, 1, 2, [], 0), (.iload_n 1, 1, 1, [], 0), (.aaload, 1, 0, x_ald, 0), (.astore_n 3, 1, 3, [], 0), (.aload_n 0, 1, 0, [], 0), (.aload_n 2, 1, 2, [], 0), (.iload_n 1, 1, 1, [], 0), (.invokevirtual 144, 3, 2, [(3, 57)], 0), (.aload_n 3, 1, 3, [], 0), (.areturn, 1, 0, [], 0)])]
theorem ok_ArrayList_remove : x_mok y_ArrayList_remove (x_on 5) false b_ArrayList_remove := x_chm_ok rfl (by decide) (by decide +kernel)
def b_ArrayList_fastRemove : List (Nat × List XO) := [(0, [(.aload_n 0, 1, 0, [], 0), (.dup, 1, 0, [], 0), (.getfield 63, 3, 0, [(3, 0)], 0), (.iconst 1, 1, 0, [], 1), (.iadd, 1, 0, [], 0), (.putfield 63, 3, 0, [(3, 0)], 0), (.aload_n 0, 1, 0, [], 0), (.getfield 48, 3, 2, [(3, 0)], 0), (.iconst 1, 1, 0, [], 1), (.isub, 1, 0, [], 0), (.dup, 1, 0, [], 0), (.istore_n 3, 1, 3, [], 0), (.iload_n 2, 1, 2, [], 0), (.if_icmp .le 15, 3, 34, [], 0), (.aload_n 1, 1, 1, [], 0), (.iload_n 2, 1, 2, [], 0), (.iconst 1, 1, 0, [], 1), (.iadd, 1, 0, [], 0), (.aload_n 1, 1, 1, [], 0), (.iload_n 2, 1, 2, [], 0), (.iload_n 3, 1, 3, [], 0), (.iload_n 2, 1, 2, [], 0), (.isub, 1, 0, [], 0), (.invokestatic 112, 3, 5, [(5, 3)], 0)]),
  (34, [(.aload_n 1, 1, 1, [], 0), (.aload_n 0, 1, 0, [], 0), (.iload_n 3, 1, 3, [], 0), (.dup_x1, 1, 0, [], 0), (.putfield 48, 3, 2, [(3, 0)], 0), (.aconst_null, 1, 0, [], 0), (.aastore, 1, 0, x_ast, 0), (.return_, 1, 0, [], 0)])]
theorem ok_ArrayList_fastRemove : x_mok y_ArrayList_fastRemove (x_on 5) false b_ArrayList_fastRemove := x_chm_ok rfl (by decide) (by decide +kernel)
end
section
/-! How a proof over the executor goes on; ArrayList's methods. -/
theorem x_o {e : Option XE} {ci : Nat} {fs : List Value} {K : Nat → List Value → Prop} (h : e = some (.inl (ci, fs))) (k : K ci fs) : ∃ (ci : Nat) (fs : List Value), e = some (.inl (ci, fs)) ∧ K ci fs := ⟨ci, fs, h, k⟩
theorem x_a {e : Option XE} {ti n : Nat} {g : Nat → Value} {K : Nat → Nat → (Nat → Value) → Prop} (h : e = some (.inr (ti, n, g))) (k : K ti n g) : ∃ (ti n : Nat) (g : Nat → Value), e = some (.inr (ti, n, g)) ∧ K ti n g := ⟨ti, n, g, h, k⟩
theorem x_u {f : XH} {a b : Nat} {e : Option XE} {e' : Option XE} (hne : a ≠ b) (h : f a = e) : va_up f b e' a = e := (va_up_ne f e' hne).trans h
theorem c_AL_size {X : XC} {a : Nat} {f : XH} {m n : Int32} {d : Value} (h : f a = some (.inl (3, [.int m, d, .int n]))) : Holds X y_ArrayList_size [.ref a] f 0 0 0 0 (fun r f' => r = some (.int n) ∧ f' = f) := by
  refine x_met ok_ArrayList_size (by simp [x_one]) (Nat.le_of_ble_eq_true rfl) fun go st => ?_
  refine st 0 _ _ _ _ _ _ rfl ?_
  refine x_o h ?_
  exact And.intro rfl rfl
theorem c_AL_isEmpty {X : XC} {a : Nat} {f : XH} {m n : Int32} {d : Value} (h : f a = some (.inl (3, [.int m, d, .int n]))) : Holds X y_ArrayList_isEmpty [.ref a] f 0 0 0 0 (fun r f' => r = some (.int (if n = 0 then 1 else 0)) ∧ f' = f) := by
  refine x_met ok_ArrayList_isEmpty (by simp [x_one]) (Nat.le_of_ble_eq_true rfl) fun go st => ?_
  refine st 0 _ _ _ _ _ _ rfl ?_
  refine x_o h ?_
  refine And.intro (fun hc => ?_) (fun hc => ?_)
  · refine st 11 _ _ _ _ _ _ rfl ?_
    refine st 12 _ _ _ _ _ _ rfl ?_
    exact And.intro (Or.inl rfl) ⟨by rw [if_neg hc], rfl⟩
  · refine st 12 _ _ _ _ _ _ rfl ?_
    exact And.intro (Or.inr rfl) ⟨by rw [if_pos hc], rfl⟩
theorem c_checkIndex0 {X : XC} {f : XH} {i n : Int32} (h0 : ¬ i < 0) (h1 : i < n) : Holds X y_Preconditions_checkIndex [.int i, .int n, .null] f 0 0 0 0 (fun r f' => r = some (.int i) ∧ f' = f) := by
  refine x_met ok_Preconditions_checkIndex (by simp [x_one]) (Nat.le_of_ble_eq_true rfl) fun go st => ?_
  refine st 0 _ _ _ _ _ _ rfl ?_
  refine And.intro (fun hc => absurd hc h0) (fun _ => ?_)
  refine And.intro (fun _ => ?_) (fun hc => absurd h1 hc)
  refine st 16 _ _ _ _ _ _ rfl ?_
  exact And.intro rfl rfl
theorem c_checkIndex {X : XC} {f : XH} {i n : Int32} (h0 : ¬ i < 0) (h1 : i < n) : Holds X y_Objects_checkIndex [.int i, .int n] f 1 22 0 0 (fun r f' => r = some (.int i) ∧ f' = f) := by
  refine x_met ok_Objects_checkIndex (by simp [x_one]) (Nat.le_of_ble_eq_true rfl) fun go st => ?_
  refine st 0 _ _ _ _ _ _ rfl ?_
  conv => whnf
  refine ⟨_, _, _, _, _, c_checkIndex0 h0 h1, ?_, ?_⟩
  · decide
  rintro r f' ⟨rfl, rfl⟩
  exact And.intro rfl rfl
end
section
/-! Printed by wip/whole/gen.py: the methods, block by block. -/
def b_H_init : List (Nat × List XO) := [(0, [(.aload_n 0, 1, 0, [], 0), (.invokespecial 1, 3, 0, [], 0), (.aload_n 0, 1, 0, [], 0), (.new 7, 3, 0, [], 0), (.dup, 1, 0, [], 0), (.invokespecial 9, 3, 2, [(0, 0)], 0), (.putfield 10, 3, 0, [(10, 2)], 0), (.aload_n 0, 1, 0, [], 0), (.new 16, 3, 1, [], 0), (.dup, 1, 0, [], 0), (.invokespecial 18, 3, 3, [(0, 0)], 0), (.putfield 19, 3, 1, [(10, 2)], 0), (.aload_n 0, 1, 0, [], 0), (.new 23, 3, 2, [], 0), (.dup, 1, 0, [], 0), (.invokespecial 25, 3, 4, [(0, 0)], 0), (.putfield 26, 3, 2, [(10, 2)], 0), (.aload_n 0, 1, 0, [], 0), (.bipush 8, 2, 0, [], 8), (.anewarray 30, 3, 2, [], 0), (.putfield 32, 3, 3, [(10, 2)], 0), (.aload_n 0, 1, 0, [], 0), (.bipush 32, 2, 0, [], 32), (.anewarray 36, 3, 3, [], 0), (.putfield 38, 3, 4, [(10, 2)], 0), (.aload_n 0, 1, 0, [], 0), (.bipush 8, 2, 0, [], 8), (.anewarray 42, 3, 4, [], 0), (.putfield 44, 3, 5, [(10, 2)], 0), (.aload_n 0, 1, 0, [], 0), (.new 48, 3, 3, [], 0), (.dup, 1, 0, [], 0), (.invokespecial 50, 3, 5, [(0, 0)], 0), (.putfield 51, 3, 6, [(10, 2)], 0), (.aload_n 0, 1, 0, [], 0), (.new 48, 3, 3, [], 0), (.dup, 1, 0, [], 0), (.invokespecial 50, 3, 5, [(0, 0)], 0), (.putfield 55, 3, 7, [(10, 2)], 0), (.aload_n 0, 1, 0, [], 0), (.iconst 0, 1, 0, [], 0), (.putfield 58, 3, 8, [(10, 0)], 0), (.aload_n 0, 1, 0, [], 0), (.iconst 0, 1, 0, [], 0), (.putfield 62, 3, 9, [(10, 0)], 0), (.iconst 0, 1, 0, [], 0), (.istore_n 1, 1, 1, [], 0)]),
  (98, [(.iload_n 1, 1, 1, [], 0), (.bipush 8, 2, 0, [], 8), (.if_icmp .ge 23, 3, 124, [], 0), (.aload_n 0, 1, 0, [], 0), (.getfield 32, 3, 3, [(10, 2)], 0), (.iload_n 1, 1, 1, [], 0), (.new 30, 3, 4, [], 0), (.dup, 1, 0, [], 0), (.iload_n 1, 1, 1, [], 0), (.invokespecial 65, 3, 8, [(1, 0)], 0), (.aastore, 1, 0, x_ast, 0), (.iinc 1 1, 3, 1, [], 1), (.goto (-23), 3, 98, [], 0)]),
  (124, [(.return_, 1, 0, [], 0)])]
theorem ok_H_init : x_mok y_H_init (x_on 0) true b_H_init := x_chm_ok rfl (fun _ => rfl) (by decide +kernel)
def b_Journal_init : List (Nat × List XO) := [(0, [(.aload_n 0, 1, 0, [], 0), (.invokespecial 3, 3, 0, [], 0), (.aload_n 0, 1, 0, [], 0), (.bipush 64, 2, 0, [], 64), (.newarray .int, 2, 0, [], 0), (.putfield 11, 3, 0, [(0, 2)], 0), (.aload_n 0, 1, 0, [], 0), (.iconst 0, 1, 0, [], 0), (.putfield 15, 3, 1, [(0, 0)], 0), (.aload_n 0, 1, 0, [], 0), (.iconst 0, 1, 0, [], 0), (.putfield 19, 3, 2, [(0, 0)], 0), (.return_, 1, 0, [], 0)])]
theorem ok_Journal_init : x_mok y_Journal_init (x_on 2) true b_Journal_init := x_chm_ok rfl (fun _ => rfl) (by decide +kernel)
def b_Clock_init : List (Nat × List XO) := [(0, [(.aload_n 0, 1, 0, [], 0), (.invokespecial 1, 3, 0, [], 0), (.aload_n 0, 1, 0, [], 0), (.iconst 0, 1, 0, [], 0), (.putfield 7, 3, 0, [(1, 0)], 0), (.aload_n 0, 1, 0, [], 0), (.iconst 0, 1, 0, [], 0), (.putfield 13, 3, 1, [(1, 0)], 0), (.return_, 1, 0, [], 0)])]
theorem ok_Clock_init : x_mok y_Clock_init (x_on 3) true b_Clock_init := x_chm_ok rfl (fun _ => rfl) (by decide +kernel)
def b_ExceptionTypes_init : List (Nat × List XO) := [(0, [(.aload_n 0, 1, 0, [], 0), (.invokespecial 3, 3, 0, [], 0), (.aload_n 0, 1, 0, [], 0), (.bipush 8, 2, 0, [], 8), (.newarray .int, 2, 0, [], 0), (.putfield 9, 3, 0, [(2, 2)], 0), (.return_, 1, 0, [], 0)])]
theorem ok_ExceptionTypes_init : x_mok y_ExceptionTypes_init (x_on 4) true b_ExceptionTypes_init := x_chm_ok rfl (fun _ => rfl) (by decide +kernel)
def b_Caller_init : List (Nat × List XO) := [(0, [(.aload_n 0, 1, 0, [], 0), (.invokespecial 3, 3, 0, [], 0), (.aload_n 0, 1, 0, [], 0), (.iconst 4, 1, 0, [], 4), (.anewarray 9, 3, 3, [], 0), (.putfield 11, 3, 1, [(4, 2)], 0), (.aload_n 0, 1, 0, [], 0), (.iconst 4, 1, 0, [], 4), (.newarray .int, 2, 0, [], 0), (.putfield 17, 3, 2, [(4, 2)], 0), (.aload_n 0, 1, 0, [], 0), (.iconst 4, 1, 0, [], 4), (.newarray .int, 2, 0, [], 0), (.putfield 21, 3, 3, [(4, 2)], 0), (.aload_n 0, 1, 0, [], 0), (.iconst 0, 1, 0, [], 0), (.putfield 24, 3, 4, [(4, 0)], 0), (.aload_n 0, 1, 0, [], 0), (.aconst_null, 1, 0, [], 0), (.putfield 28, 3, 5, [(4, 2)], 0), (.aload_n 0, 1, 0, [], 0), (.iconst 0, 1, 0, [], 0), (.putfield 32, 3, 6, [(4, 0)], 0), (.aload_n 0, 1, 0, [], 0), (.iconst 0, 1, 0, [], 0), (.putfield 35, 3, 7, [(4, 0)], 0), (.aload_n 0, 1, 0, [], 0), (.iconst (-1), 1, 0, [], (-1)), (.putfield 38, 3, 8, [(4, 0)], 0), (.aload_n 0, 1, 0, [], 0), (.aconst_null, 1, 0, [], 0), (.putfield 41, 3, 9, [(4, 2)], 0), (.aload_n 0, 1, 0, [], 0), (.iload_n 1, 1, 1, [], 0), (.putfield 45, 3, 0, [(4, 0)], 0), (.return_, 1, 0, [], 0)])]
theorem ok_Caller_init : x_mok y_Caller_init (x_on 8) true b_Caller_init := x_chm_ok rfl (fun _ => rfl) (by decide +kernel)
def b_H_component : List (Nat × List XO) := [(0, [(.aload_n 0, 1, 0, [], 0), (.getfield 62, 3, 9, [(10, 0)], 0), (.ifCond .ne 12, 3, 16, [], 0), (.aload_n 0, 1, 0, [], 0), (.getfield 58, 3, 8, [(10, 0)], 0), (.bipush 8, 2, 0, [], 8), (.if_icmp .lt 5, 3, 18, [], 0)]),
  (16, [(.iconst (-1), 1, 0, [], (-1)), (.ireturn, 1, 0, [], 0)]),
  (18, [(.iload_n 1, 1, 1, [], 0), (.iload_n 2, 1, 2, [], 0), (.invokestatic 68, 3, 10, [(2, 0)], 0), (.ifCond .eq 14, 3, 37, [], 0), (.iload_n 3, 1, 3, [], 0), (.iconst (-1), 1, 0, [], (-1)), (.if_icmp .lt 9, 3, 37, [], 0), (.iload_n 3, 1, 3, [], 0), (.bipush 100, 2, 0, [], 100), (.if_icmp .le 5, 3, 39, [], 0)]),
  (37, [(.iconst (-1), 1, 0, [], (-1)), (.ireturn, 1, 0, [], 0)]),
  (39, [(.iload 4, 2, 4, [], 0), (.ifCond .lt 19, 3, 60, [], 0), (.iload 4, 2, 4, [], 0), (.iload_n 1, 1, 1, [], 0), (.iconst 1, 1, 0, [], 1), (.if_icmp .ne 8, 3, 56, [], 0), (.bipush 100, 2, 0, [], 100), (.goto 4, 3, 57, [], 0)]),
  (56, [(.iconst 0, 1, 0, [], 0)]),
  (57, [(.if_icmp .le 5, 3, 62, [], 0)]),
  (60, [(.iconst (-1), 1, 0, [], (-1)), (.ireturn, 1, 0, [], 0)]),
  (62, [(.aload_n 0, 1, 0, [], 0), (.getfield 58, 3, 8, [(10, 0)], 0), (.istore 5, 2, 5, [], 0), (.aload_n 0, 1, 0, [], 0), (.dup, 1, 0, [], 0), (.getfield 58, 3, 8, [(10, 0)], 0), (.iconst 1, 1, 0, [], 1), (.iadd, 1, 0, [], 0), (.putfield 58, 3, 8, [(10, 0)], 0), (.iload_n 1, 1, 1, [], 0), (.iconst 1, 1, 0, [], 1), (.if_icmp .ne 24, 3, 104, [], 0), (.aload_n 0, 1, 0, [], 0), (.getfield 44, 3, 5, [(10, 2)], 0), (.iload 5, 2, 5, [], 0), (.new 42, 3, 5, [], 0), (.dup, 1, 0, [], 0), (.iload_n 2, 1, 2, [], 0), (.iload_n 3, 1, 3, [], 0), (.iload 4, 2, 4, [], 0), (.invokespecial 72, 3, 11, [(3, 0)], 0), (.aastore, 1, 0, x_ast, 0), (.goto 50, 3, 151, [], 0)]),
  (104, [(.iload_n 1, 1, 1, [], 0), (.ifCond .ne 26, 3, 131, [], 0), (.aload_n 0, 1, 0, [], 0), (.getfield 38, 3, 4, [(10, 2)], 0), (.iload 5, 2, 5, [], 0), (.new 75, 3, 6, [], 0), (.dup, 1, 0, [], 0), (.iload_n 2, 1, 2, [], 0), (.iload_n 3, 1, 3, [], 0), (.aload_n 0, 1, 0, [], 0), (.getfield 10, 3, 0, [(10, 2)], 0), (.invokespecial 77, 3, 12, [(3, 0)], 0), (.aastore, 1, 0, x_ast, 0), (.goto 23, 3, 151, [], 0)]),
  (131, [(.aload_n 0, 1, 0, [], 0), (.getfield 38, 3, 4, [(10, 2)], 0), (.iload 5, 2, 5, [], 0), (.new 80, 3, 7, [], 0), (.dup, 1, 0, [], 0), (.iload_n 2, 1, 2, [], 0), (.iload_n 3, 1, 3, [], 0), (.aload_n 0, 1, 0, [], 0), (.getfield 10, 3, 0, [(10, 2)], 0), (.invokespecial 82, 3, 14, [(3, 0)], 0), (.aastore, 1, 0, x_ast, 0)]),
  (151, [(.iload 5, 2, 5, [], 0), (.ireturn, 1, 0, [], 0)])]
theorem ok_H_component : x_mok y_H_component (x_on 0) false b_H_component := x_chm_ok rfl (by decide) (by decide +kernel)
def b_H_isSizeOfKind : List (Nat × List XO) := [(0, [(.iload_n 0, 1, 0, [], 0), (.iconst 2, 1, 0, [], 2), (.if_icmp .ne 18, 3, 20, [], 0), (.iload_n 1, 1, 1, [], 0), (.ifCond .lt 12, 3, 18, [], 0), (.iload_n 1, 1, 1, [], 0), (.iconst 3, 1, 0, [], 3), (.if_icmp .gt 7, 3, 18, [], 0), (.iconst 1, 1, 0, [], 1), (.goto 4, 3, 19, [], 0)]),
  (18, [(.iconst 0, 1, 0, [], 0)]),
  (19, [(.ireturn, 1, 1, [], 0)]),
  (20, [(.iload_n 0, 1, 0, [], 0), (.ifCond .eq 8, 3, 29, [], 0), (.iload_n 0, 1, 0, [], 0), (.iconst 1, 1, 0, [], 1), (.if_icmp .ne 17, 3, 43, [], 0)]),
  (29, [(.iload_n 1, 1, 1, [], 0), (.iconst 1, 1, 0, [], 1), (.if_icmp .lt 12, 3, 43, [], 0), (.iload_n 1, 1, 1, [], 0), (.iconst 4, 1, 0, [], 4), (.if_icmp .gt 7, 3, 43, [], 0), (.iconst 1, 1, 0, [], 1), (.goto 4, 3, 44, [], 0)]),
  (43, [(.iconst 0, 1, 0, [], 0)]),
  (44, [(.ireturn, 1, 1, [], 0)])]
theorem ok_H_isSizeOfKind : x_mok y_H_isSizeOfKind (x_on 0) false b_H_isSizeOfKind := x_chm_ok rfl (by decide) (by decide +kernel)
def b_Stateful_init : List (Nat × List XO) := [(0, [(.aload_n 0, 1, 0, [], 0), (.invokespecial 1, 3, 0, [], 0), (.aload_n 0, 1, 0, [], 0), (.new 7, 3, 3, [], 0), (.dup, 1, 0, [], 0), (.invokespecial 9, 3, 5, [(0, 0)], 0), (.putfield 10, 3, 0, [(5, 2)], 0), (.aload_n 0, 1, 0, [], 0), (.iload_n 1, 1, 1, [], 0), (.putfield 16, 3, 1, [(5, 0)], 0), (.aload_n 0, 1, 0, [], 0), (.iload_n 2, 1, 2, [], 0), (.putfield 20, 3, 2, [(5, 0)], 0), (.aload_n 0, 1, 0, [], 0), (.iload_n 3, 1, 3, [], 0), (.putfield 23, 3, 3, [(5, 0)], 0), (.return_, 1, 0, [], 0)])]
theorem ok_Stateful_init : x_mok y_Stateful_init (x_on 9) true b_Stateful_init := x_chm_ok rfl (fun _ => rfl) (by decide +kernel)
def b_Pool_init : List (Nat × List XO) := [(0, [(.aload_n 0, 1, 0, [], 0), (.aload_n 3, 1, 3, [], 0), (.iload_n 2, 1, 2, [], 0), (.iconst 1, 1, 0, [], 1), (.invokespecial 3, 3, 13, [(3, 0)], 0), (.aload_n 0, 1, 0, [], 0), (.iconst 4, 1, 0, [], 4), (.newarray .int, 2, 0, [], 0), (.putfield 9, 3, 5, [(6, 2)], 0), (.aload_n 0, 1, 0, [], 0), (.iconst 0, 1, 0, [], 0), (.putfield 15, 3, 6, [(6, 0)], 0), (.aload_n 0, 1, 0, [], 0), (.iconst 0, 1, 0, [], 0), (.putfield 19, 3, 7, [(6, 0)], 0), (.aload_n 0, 1, 0, [], 0), (.iload_n 1, 1, 1, [], 0), (.putfield 22, 3, 4, [(6, 0)], 0), (.return_, 1, 0, [], 0)])]
theorem ok_Pool_init : x_mok y_Pool_init (x_on 10) true b_Pool_init := x_chm_ok rfl (fun _ => rfl) (by decide +kernel)
def b_Target_init : List (Nat × List XO) := [(0, [(.aload_n 0, 1, 0, [], 0), (.invokespecial 1, 3, 0, [], 0), (.aload_n 0, 1, 0, [], 0), (.new 7, 3, 3, [], 0), (.dup, 1, 0, [], 0), (.invokespecial 9, 3, 5, [(0, 0)], 0), (.putfield 10, 3, 0, [(6, 2), (7, 2), (8, 2)], 0), (.aload_n 0, 1, 0, [], 0), (.aload_n 1, 1, 1, [], 0), (.putfield 16, 3, 1, [(6, 2), (7, 2), (8, 2)], 0), (.aload_n 0, 1, 0, [], 0), (.iload_n 2, 1, 2, [], 0), (.putfield 20, 3, 2, [(6, 0), (7, 0), (8, 0)], 0), (.aload_n 0, 1, 0, [], 0), (.iload_n 3, 1, 3, [], 0), (.putfield 24, 3, 3, [(6, 0), (7, 0), (8, 0)], 0), (.return_, 1, 0, [], 0)])]
theorem ok_Target_init : x_mok y_Target_init (x_on 11) true b_Target_init := x_chm_ok rfl (fun _ => rfl) (by decide +kernel)
def b_Singleton_init : List (Nat × List XO) := [(0, [(.aload_n 0, 1, 0, [], 0), (.aload_n 3, 1, 3, [], 0), (.iload_n 2, 1, 2, [], 0), (.iconst 2, 1, 0, [], 2), (.invokespecial 3, 3, 13, [(3, 0)], 0), (.aload_n 0, 1, 0, [], 0), (.new 9, 3, 3, [], 0), (.dup, 1, 0, [], 0), (.invokespecial 11, 3, 5, [(0, 0)], 0), (.putfield 14, 3, 4, [(7, 2)], 0), (.aload_n 0, 1, 0, [], 0), (.iconst 0, 1, 0, [], 0), (.putfield 20, 3, 7, [(7, 1)], 0), (.aload_n 0, 1, 0, [], 0), (.iconst 0, 1, 0, [], 0), (.putfield 24, 3, 8, [(7, 1)], 0), (.aload_n 0, 1, 0, [], 0), (.iconst (-1), 1, 0, [], (-1)), (.putfield 27, 3, 9, [(7, 0)], 0), (.aload_n 0, 1, 0, [], 0), (.iconst 0, 1, 0, [], 0), (.putfield 31, 3, 10, [(7, 0)], 0), (.aload_n 0, 1, 0, [], 0), (.iconst 0, 1, 0, [], 0), (.putfield 34, 3, 11, [(7, 0)], 0), (.aload_n 0, 1, 0, [], 0), (.iload_n 1, 1, 1, [], 0), (.iconst 1, 1, 0, [], 1), (.if_icmp .eq 8, 3, 54, [], 0), (.iload_n 1, 1, 1, [], 0), (.iconst 3, 1, 0, [], 3), (.if_icmp .ne 7, 3, 58, [], 0)]),
  (54, [(.iconst 1, 1, 0, [], 1), (.goto 4, 3, 59, [], 0)]),
  (58, [(.iconst 0, 1, 0, [], 0)]),
  (59, [(.putfield 37, 3, 5, [(7, 1)], 0), (.aload_n 0, 1, 0, [], 0), (.iload_n 1, 1, 1, [], 0), (.iconst 2, 1, 0, [], 2), (.if_icmp .eq 8, 3, 73, [], 0), (.iload_n 1, 1, 1, [], 0), (.iconst 3, 1, 0, [], 3), (.if_icmp .ne 7, 3, 77, [], 0)]),
  (73, [(.iconst 1, 1, 0, [], 1), (.goto 4, 3, 78, [], 0)]),
  (77, [(.iconst 0, 1, 0, [], 0)]),
  (78, [(.putfield 40, 3, 6, [(7, 1)], 0), (.return_, 1, 0, [], 0)])]
theorem ok_Singleton_init : x_mok y_Singleton_init (x_on 12) true b_Singleton_init := x_chm_ok rfl (fun _ => rfl) (by decide +kernel)
def b_H_depends : List (Nat × List XO) := [(0, [(.aload_n 0, 1, 0, [], 0), (.iload_n 1, 1, 1, [], 0), (.invokevirtual 83, 3, 1, [(10, 16)], 0), (.astore_n 3, 1, 3, [], 0), (.aload_n 0, 1, 0, [], 0), (.iload_n 2, 1, 2, [], 0), (.invokevirtual 83, 3, 1, [(10, 16)], 0), (.astore 4, 2, 4, [], 0), (.aload_n 0, 1, 0, [], 0), (.getfield 62, 3, 9, [(10, 0)], 0), (.ifCond .ne 12, 3, 29, [], 0), (.aload_n 3, 1, 3, [], 0), (.ifnull 8, 3, 29, [], 0), (.aload 4, 2, 4, [], 0), (.ifnonnull 5, 3, 31, [], 0)]),
  (29, [(.iconst 0, 1, 0, [], 0), (.ireturn, 1, 1, [], 0)]),
  (31, [(.aload_n 3, 1, 3, [], 0), (.aload 4, 2, 4, [], 0), (.invokevirtual 87, 3, 1, [(7, 18)], 0), (.ifCond .ne 13, 3, 50, [], 0), (.aload 4, 2, 4, [], 0), (.aload_n 3, 1, 3, [], 0), (.iconst 0, 1, 0, [], 0), (.invokestatic 91, 3, 24, [(3, 0)], 0), (.ifCond .eq 5, 3, 52, [], 0)]),
  (50, [(.iconst 0, 1, 0, [], 0), (.ireturn, 1, 1, [], 0)]),
  (52, [(.aload_n 3, 1, 3, [], 0), (.getfield 95, 3, 4, [(7, 2)], 0), (.aload 4, 2, 4, [], 0), (.invokevirtual 98, 3, 1, [(3, 25)], 0), (.pop, 1, 0, [], 0), (.iconst 1, 1, 0, [], 1), (.ireturn, 1, 1, [], 0)])]
theorem ok_H_depends : x_mok y_H_depends (x_on 0) false b_H_depends := x_chm_ok rfl (by decide) (by decide +kernel)
def b_H_singletonAt : List (Nat × List XO) := [(0, [(.aload_n 0, 1, 0, [], 0), (.iload_n 1, 1, 1, [], 0), (.invokevirtual 136, 3, 1, [(10, 17)], 0), (.astore_n 3, 1, 3, [], 0), (.aload_n 3, 1, 3, [], 0), (.instanceof 80, 3, 0, [(0, 0), (1, 0), (2, 0), (3, 0), (4, 0), (5, 0), (6, 0), (7, 1), (8, 0), (9, 0), (10, 0), (11, 0)], 0), (.ifCond .eq 12, 3, 22, [], 0), (.aload_n 3, 1, 3, [], 0), (.checkcast 80, 3, 0, [(7, 1)], 0), (.astore_n 2, 1, 2, [], 0), (.aload_n 2, 1, 2, [], 0), (.goto 4, 3, 23, [], 0)]),
  (22, [(.aconst_null, 1, 0, [], 0)]),
  (23, [(.areturn, 1, 0, [], 0)])]
theorem ok_H_singletonAt : x_mok y_H_singletonAt (x_on 0) false b_H_singletonAt := x_chm_ok rfl (by decide) (by decide +kernel)
def b_H_targetAt : List (Nat × List XO) := [(0, [(.iload_n 1, 1, 1, [], 0), (.ifCond .lt 9, 3, 10, [], 0), (.iload_n 1, 1, 1, [], 0), (.bipush 32, 2, 0, [], 32), (.if_icmp .lt 7, 3, 14, [], 0)]),
  (10, [(.aconst_null, 1, 0, [], 0), (.goto 9, 3, 20, [], 0)]),
  (14, [(.aload_n 0, 1, 0, [], 0), (.getfield 38, 3, 4, [(10, 2)], 0), (.iload_n 1, 1, 1, [], 0), (.aaload, 1, 0, x_ald, 0)]),
  (20, [(.areturn, 1, 0, [], 0)])]
theorem ok_H_targetAt : x_mok y_H_targetAt (x_on 0) false b_H_targetAt := x_chm_ok rfl (by decide) (by decide +kernel)
def b_Singleton_needsDirectly : List (Nat × List XO) := [(0, [(.iconst 0, 1, 0, [], 0), (.istore_n 2, 1, 2, [], 0)]),
  (2, [(.iload_n 2, 1, 2, [], 0), (.aload_n 0, 1, 0, [], 0), (.getfield 14, 3, 4, [(7, 2)], 0), (.invokevirtual 43, 3, 0, [(3, 19)], 0), (.if_icmp .ge 23, 3, 33, [], 0), (.aload_n 0, 1, 0, [], 0), (.getfield 14, 3, 4, [(7, 2)], 0), (.iload_n 2, 1, 2, [], 0), (.invokevirtual 47, 3, 1, [(3, 20)], 0), (.aload_n 1, 1, 1, [], 0), (.if_acmp .ne 5, 3, 27, [], 0), (.iconst 1, 1, 0, [], 1), (.ireturn, 1, 1, [], 0)]),
  (27, [(.iinc 2 1, 3, 2, [], 1), (.goto (-28), 3, 2, [], 0)]),
  (33, [(.iconst 0, 1, 0, [], 0), (.ireturn, 1, 1, [], 0)])]
theorem ok_Singleton_needsDirectly : x_mok y_Singleton_needsDirectly (x_on 12) false b_Singleton_needsDirectly := x_chm_ok rfl (by decide) (by decide +kernel)
def b_Singleton_leadsTo : List (Nat × List XO) := [(0, [(.aload_n 0, 1, 0, [], 0), (.aload_n 1, 1, 1, [], 0), (.if_acmp .ne 5, 3, 7, [], 0), (.iconst 1, 1, 0, [], 1), (.ireturn, 1, 1, [], 0)]),
  (7, [(.iconst 0, 1, 0, [], 0), (.istore_n 3, 1, 3, [], 0)]),
  (9, [(.iload_n 3, 1, 3, [], 0), (.aload_n 0, 1, 0, [], 0), (.getfield 14, 3, 4, [(7, 2)], 0), (.invokevirtual 43, 3, 0, [(3, 19)], 0), (.if_icmp .ge 38, 3, 55, [], 0), (.iload_n 2, 1, 2, [], 0), (.bipush 8, 2, 0, [], 8), (.if_icmp .ge 32, 3, 55, [], 0), (.aload_n 0, 1, 0, [], 0), (.getfield 14, 3, 4, [(7, 2)], 0), (.iload_n 3, 1, 3, [], 0), (.invokevirtual 47, 3, 1, [(3, 20)], 0), (.checkcast 15, 3, 0, [(7, 1)], 0), (.aload_n 1, 1, 1, [], 0), (.iload_n 2, 1, 2, [], 0), (.iconst 1, 1, 0, [], 1), (.iadd, 1, 0, [], 0), (.invokestatic 51, 3, 24, [(3, 0)], 0), (.ifCond .eq 5, 3, 49, [], 0), (.iconst 1, 1, 0, [], 1), (.ireturn, 1, 1, [], 0)]),
  (49, [(.iinc 3 1, 3, 3, [], 1), (.goto (-43), 3, 9, [], 0)]),
  (55, [(.iconst 0, 1, 0, [], 0), (.ireturn, 1, 1, [], 0)])]
theorem ok_Singleton_leadsTo : x_mok y_Singleton_leadsTo (x_on 12) false b_Singleton_leadsTo := x_chm_ok rfl (by decide) (by decide +kernel)
def b_H_application : List (Nat × List XO) := [(0, [(.aload_n 0, 1, 0, [], 0), (.getfield 62, 3, 9, [(10, 0)], 0), (.ifCond .ne 19, 3, 23, [], 0), (.aload_n 0, 1, 0, [], 0), (.getfield 26, 3, 2, [(10, 2)], 0), (.iload_n 1, 1, 1, [], 0), (.iload_n 2, 1, 2, [], 0), (.invokevirtual 102, 3, 2, [(2, 36)], 0), (.ifCond .eq 7, 3, 23, [], 0), (.iconst 1, 1, 0, [], 1), (.goto 4, 3, 24, [], 0)]),
  (23, [(.iconst 0, 1, 0, [], 0)]),
  (24, [(.ireturn, 1, 1, [], 0)])]
theorem ok_H_application : x_mok y_H_application (x_on 0) false b_H_application := x_chm_ok rfl (by decide) (by decide +kernel)
def b_ExceptionTypes_mark : List (Nat × List XO) := [(0, [(.iload_n 1, 1, 1, [], 0), (.iconst 1, 1, 0, [], 1), (.if_icmp .lt 18, 3, 20, [], 0), (.iload_n 1, 1, 1, [], 0), (.bipush 7, 2, 0, [], 7), (.if_icmp .gt 12, 3, 20, [], 0), (.aload_n 0, 1, 0, [], 0), (.getfield 9, 3, 0, [(2, 2)], 0), (.iload_n 1, 1, 1, [], 0), (.iaload, 1, 0, [], 0), (.ifCond .eq 5, 3, 22, [], 0)]),
  (20, [(.iconst 0, 1, 0, [], 0), (.ireturn, 1, 1, [], 0)]),
  (22, [(.aload_n 0, 1, 0, [], 0), (.getfield 9, 3, 0, [(2, 2)], 0), (.iload_n 1, 1, 1, [], 0), (.iload_n 2, 1, 2, [], 0), (.ifCond .eq 7, 3, 35, [], 0), (.iconst 2, 1, 0, [], 2), (.goto 4, 3, 36, [], 0)]),
  (35, [(.iconst 1, 1, 0, [], 1)]),
  (36, [(.iastore, 1, 0, [], 0), (.iconst 1, 1, 0, [], 1), (.ireturn, 1, 1, [], 0)])]
theorem ok_ExceptionTypes_mark : x_mok y_ExceptionTypes_mark (x_on 4) false b_ExceptionTypes_mark := x_chm_ok rfl (by decide) (by decide +kernel)
def b_H_start : List (Nat × List XO) := [(0, [(.aload_n 0, 1, 0, [], 0), (.getfield 62, 3, 9, [(10, 0)], 0), (.ifCond .eq 5, 3, 9, [], 0), (.iconst (-1), 1, 0, [], (-1)), (.ireturn, 1, 0, [], 0)]),
  (9, [(.aload_n 0, 1, 0, [], 0), (.iconst 1, 1, 0, [], 1), (.putfield 62, 3, 9, [(10, 0)], 0), (.iconst 0, 1, 0, [], 0), (.istore_n 1, 1, 1, [], 0)]),
  (16, [(.iload_n 1, 1, 1, [], 0), (.bipush 8, 2, 0, [], 8), (.if_icmp .ge 31, 3, 50, [], 0), (.aload_n 0, 1, 0, [], 0), (.iload_n 1, 1, 1, [], 0), (.invokevirtual 83, 3, 1, [(10, 16)], 0), (.astore_n 2, 1, 2, [], 0), (.aload_n 2, 1, 2, [], 0), (.ifnull 15, 3, 44, [], 0), (.aload_n 2, 1, 2, [], 0), (.getfield 106, 3, 5, [(7, 1)], 0), (.ifCond .eq 8, 3, 44, [], 0), (.aload_n 2, 1, 2, [], 0), (.iconst 0, 1, 0, [], 0), (.invokevirtual 110, 3, 1, [(7, 38)], 0)]),
  (44, [(.iinc 1 1, 3, 1, [], 1), (.goto (-31), 3, 16, [], 0)]),
  (50, [(.aload_n 0, 1, 0, [], 0), (.invokevirtual 113, 3, 0, [(10, 41)], 0), (.ireturn, 1, 0, [], 0)])]
theorem ok_H_start : x_mok y_H_start (x_on 0) false b_H_start := x_chm_ok rfl (by decide) (by decide +kernel)
def b_Singleton_begin : List (Nat × List XO) := [(0, [(.aload_n 0, 1, 0, [], 0), (.getfield 20, 3, 7, [(7, 1)], 0), (.ifCond .ne 16, 3, 20, [], 0), (.aload_n 0, 1, 0, [], 0), (.getfield 24, 3, 8, [(7, 1)], 0), (.ifCond .ne 9, 3, 20, [], 0), (.iload_n 1, 1, 1, [], 0), (.bipush 8, 2, 0, [], 8), (.if_icmp .lt 4, 3, 21, [], 0)]),
  (20, [(.return_, 1, 0, [], 0)]),
  (21, [(.iconst 0, 1, 0, [], 0), (.istore_n 2, 1, 2, [], 0)]),
  (23, [(.iload_n 2, 1, 2, [], 0), (.aload_n 0, 1, 0, [], 0), (.getfield 14, 3, 4, [(7, 2)], 0), (.invokevirtual 43, 3, 0, [(3, 19)], 0), (.if_icmp .ge 43, 3, 74, [], 0), (.aload_n 0, 1, 0, [], 0), (.getfield 24, 3, 8, [(7, 1)], 0), (.ifCond .ne 36, 3, 74, [], 0), (.aload_n 0, 1, 0, [], 0), (.getfield 14, 3, 4, [(7, 2)], 0), (.iload_n 2, 1, 2, [], 0), (.invokevirtual 47, 3, 1, [(3, 20)], 0), (.checkcast 15, 3, 0, [(7, 1)], 0), (.astore_n 3, 1, 3, [], 0), (.aload_n 3, 1, 3, [], 0), (.iload_n 1, 1, 1, [], 0), (.iconst 1, 1, 0, [], 1), (.iadd, 1, 0, [], 0), (.invokevirtual 55, 3, 1, [(7, 38)], 0), (.aload_n 0, 1, 0, [], 0), (.aload_n 3, 1, 3, [], 0), (.getfield 24, 3, 8, [(7, 1)], 0), (.putfield 24, 3, 8, [(7, 1)], 0), (.iinc 2 1, 3, 2, [], 1), (.goto (-48), 3, 23, [], 0)]),
  (74, [(.aload_n 0, 1, 0, [], 0), (.aload_n 0, 1, 0, [], 0), (.getfield 24, 3, 8, [(7, 1)], 0), (.ifCond .ne 10, 3, 89, [], 0), (.aload_n 0, 1, 0, [], 0), (.getfield 40, 3, 6, [(7, 1)], 0), (.ifCond .eq 7, 3, 93, [], 0)]),
  (89, [(.iconst 1, 1, 0, [], 1), (.goto 4, 3, 94, [], 0)]),
  (93, [(.iconst 0, 1, 0, [], 0)]),
  (94, [(.putfield 24, 3, 8, [(7, 1)], 0), (.aload_n 0, 1, 0, [], 0), (.getfield 24, 3, 8, [(7, 1)], 0), (.ifCond .ne 19, 3, 120, [], 0), (.aload_n 0, 1, 0, [], 0), (.iconst 1, 1, 0, [], 1), (.putfield 20, 3, 7, [(7, 1)], 0), (.aload_n 0, 1, 0, [], 0), (.aload_n 0, 1, 0, [], 0), (.getfield 59, 3, 1, [(7, 2)], 0), (.invokevirtual 63, 3, 0, [(0, 39)], 0), (.putfield 27, 3, 9, [(7, 0)], 0)]),
  (120, [(.return_, 1, 0, [], 0)])]
theorem ok_Singleton_begin : x_mok y_Singleton_begin (x_on 12) false b_Singleton_begin := x_chm_ok rfl (by decide) (by decide +kernel)
def b_Journal_newInstance : List (Nat × List XO) := [(0, [(.aload_n 0, 1, 0, [], 0), (.getfield 19, 3, 2, [(0, 0)], 0), (.istore_n 1, 1, 1, [], 0), (.aload_n 0, 1, 0, [], 0), (.dup, 1, 0, [], 0), (.getfield 19, 3, 2, [(0, 0)], 0), (.iconst 1, 1, 0, [], 1), (.iadd, 1, 0, [], 0), (.putfield 19, 3, 2, [(0, 0)], 0), (.aload_n 0, 1, 0, [], 0), (.iconst 1, 1, 0, [], 1), (.iconst 0, 1, 0, [], 0), (.iload_n 1, 1, 1, [], 0), (.invokevirtual 22, 3, 3, [(0, 40)], 0), (.iload_n 1, 1, 1, [], 0), (.ireturn, 1, 0, [], 0)])]
theorem ok_Journal_newInstance : x_mok y_Journal_newInstance (x_on 2) false b_Journal_newInstance := x_chm_ok rfl (by decide) (by decide +kernel)
def b_Journal_note : List (Nat × List XO) := [(0, [(.aload_n 0, 1, 0, [], 0), (.getfield 11, 3, 0, [(0, 2)], 0), (.aload_n 0, 1, 0, [], 0), (.getfield 15, 3, 1, [(0, 0)], 0), (.bipush 63, 2, 0, [], 63), (.iand, 1, 0, [], 0), (.iload_n 1, 1, 1, [], 0), (.bipush 16, 2, 0, [], 16), (.iload_n 2, 1, 2, [], 0), (.imul, 1, 0, [], 0), (.iadd, 1, 0, [], 0), (.sipush 256, 3, 0, [], 256), (.iload_n 3, 1, 3, [], 0), (.imul, 1, 0, [], 0), (.iadd, 1, 0, [], 0), (.iastore, 1, 0, [], 0), (.aload_n 0, 1, 0, [], 0), (.dup, 1, 0, [], 0), (.getfield 15, 3, 1, [(0, 0)], 0), (.iconst 1, 1, 0, [], 1), (.iadd, 1, 0, [], 0), (.putfield 15, 3, 1, [(0, 0)], 0), (.return_, 1, 0, [], 0)])]
theorem ok_Journal_note : x_mok y_Journal_note (x_on 2) false b_Journal_note := x_chm_ok rfl (by decide) (by decide +kernel)
def b_H_countBegun : List (Nat × List XO) := [(0, [(.iconst 0, 1, 0, [], 0), (.istore_n 1, 1, 1, [], 0), (.iconst 0, 1, 0, [], 0), (.istore_n 2, 1, 2, [], 0)]),
  (4, [(.iload_n 2, 1, 2, [], 0), (.bipush 8, 2, 0, [], 8), (.if_icmp .ge 29, 3, 36, [], 0), (.aload_n 0, 1, 0, [], 0), (.iload_n 2, 1, 2, [], 0), (.invokevirtual 83, 3, 1, [(10, 16)], 0), (.astore_n 3, 1, 3, [], 0), (.aload_n 3, 1, 3, [], 0), (.ifnull 13, 3, 30, [], 0), (.aload_n 3, 1, 3, [], 0), (.getfield 233, 3, 7, [(7, 1)], 0), (.ifCond .eq 6, 3, 30, [], 0), (.iinc 1 1, 3, 1, [], 1)]),
  (30, [(.iinc 2 1, 3, 2, [], 1), (.goto (-29), 3, 4, [], 0)]),
  (36, [(.iload_n 1, 1, 1, [], 0), (.ireturn, 1, 0, [], 0)])]
theorem ok_H_countBegun : x_mok y_H_countBegun (x_on 0) false b_H_countBegun := x_chm_ok rfl (by decide) (by decide +kernel)
def b_H_create : List (Nat × List XO) := [(0, [(.aload_n 0, 1, 0, [], 0), (.getfield 62, 3, 9, [(10, 0)], 0), (.iconst 1, 1, 0, [], 1), (.if_icmp .ne 25, 3, 30, [], 0), (.iload_n 1, 1, 1, [], 0), (.ifCond .lt 21, 3, 30, [], 0), (.iload_n 1, 1, 1, [], 0), (.bipush 8, 2, 0, [], 8), (.if_icmp .ge 15, 3, 30, [], 0), (.aload_n 0, 1, 0, [], 0), (.getfield 51, 3, 6, [(10, 2)], 0), (.invokevirtual 117, 3, 0, [(3, 19)], 0), (.bipush 24, 2, 0, [], 24), (.if_icmp .lt 5, 3, 32, [], 0)]),
  (30, [(.iconst (-1), 1, 0, [], (-1)), (.ireturn, 1, 0, [], 0)]),
  (32, [(.aload_n 0, 1, 0, [], 0), (.getfield 44, 3, 5, [(10, 2)], 0), (.iload_n 1, 1, 1, [], 0), (.aaload, 1, 0, x_ald, 0), (.astore_n 2, 1, 2, [], 0), (.aload_n 2, 1, 2, [], 0), (.ifnonnull 5, 3, 45, [], 0), (.iconst (-1), 1, 0, [], (-1)), (.ireturn, 1, 0, [], 0)]),
  (45, [(.aload_n 0, 1, 0, [], 0), (.getfield 51, 3, 6, [(10, 2)], 0), (.invokevirtual 117, 3, 0, [(3, 19)], 0), (.istore_n 3, 1, 3, [], 0), (.new 120, 3, 8, [], 0), (.dup, 1, 0, [], 0), (.aload_n 2, 1, 2, [], 0), (.aload_n 0, 1, 0, [], 0), (.getfield 10, 3, 0, [(10, 2)], 0), (.aload_n 0, 1, 0, [], 0), (.getfield 19, 3, 1, [(10, 2)], 0), (.invokespecial 122, 3, 43, [(3, 0)], 0), (.astore 4, 2, 4, [], 0), (.aload 4, 2, 4, [], 0), (.invokevirtual 125, 3, 0, [(8, 44)], 0), (.aload_n 2, 1, 2, [], 0), (.getfield 128, 3, 0, [(5, 2)], 0), (.aload 4, 2, 4, [], 0), (.invokevirtual 98, 3, 1, [(3, 25)], 0), (.pop, 1, 0, [], 0), (.aload_n 0, 1, 0, [], 0), (.getfield 51, 3, 6, [(10, 2)], 0), (.aload 4, 2, 4, [], 0), (.invokevirtual 98, 3, 1, [(3, 25)], 0), (.pop, 1, 0, [], 0), (.aload_n 0, 1, 0, [], 0), (.getfield 38, 3, 4, [(10, 2)], 0), (.bipush 8, 2, 0, [], 8), (.iload_n 3, 1, 3, [], 0), (.iadd, 1, 0, [], 0), (.aload 4, 2, 4, [], 0), (.aastore, 1, 0, x_ast, 0), (.aload_n 0, 1, 0, [], 0), (.invokevirtual 129, 3, 0, [(10, 47)], 0), (.iload_n 3, 1, 3, [], 0), (.ireturn, 1, 0, [], 0)])]
theorem ok_H_create : x_mok y_H_create (x_on 0) false b_H_create := x_chm_ok rfl (by decide) (by decide +kernel)
def b_Session_init : List (Nat × List XO) := [(0, [(.aload_n 0, 1, 0, [], 0), (.aload_n 2, 1, 2, [], 0), (.aload_n 1, 1, 1, [], 0), (.getfield 3, 3, 2, [(5, 0)], 0), (.iconst 3, 1, 0, [], 3), (.invokespecial 9, 3, 13, [(3, 0)], 0), (.aload_n 0, 1, 0, [], 0), (.iconst (-1), 1, 0, [], (-1)), (.putfield 15, 3, 6, [(8, 0)], 0), (.aload_n 0, 1, 0, [], 0), (.iconst 0, 1, 0, [], 0), (.putfield 20, 3, 7, [(8, 0)], 0), (.aload_n 0, 1, 0, [], 0), (.iconst 0, 1, 0, [], 0), (.putfield 23, 3, 8, [(8, 1)], 0), (.aload_n 0, 1, 0, [], 0), (.iconst 0, 1, 0, [], 0), (.putfield 27, 3, 9, [(8, 0)], 0), (.aload_n 0, 1, 0, [], 0), (.iconst 0, 1, 0, [], 0), (.putfield 30, 3, 10, [(8, 0)], 0), (.aload_n 0, 1, 0, [], 0), (.aload_n 1, 1, 1, [], 0), (.putfield 33, 3, 4, [(8, 2)], 0), (.aload_n 0, 1, 0, [], 0), (.aload_n 3, 1, 3, [], 0), (.putfield 37, 3, 5, [(8, 2)], 0), (.return_, 1, 0, [], 0)])]
theorem ok_Session_init : x_mok y_Session_init (x_on 18) true b_Session_init := x_chm_ok rfl (fun _ => rfl) (by decide +kernel)
def b_Session_comeToBe : List (Nat × List XO) := [(0, [(.aload_n 0, 1, 0, [], 0), (.aload_n 0, 1, 0, [], 0), (.getfield 41, 3, 1, [(8, 2)], 0), (.invokevirtual 45, 3, 0, [(0, 39)], 0), (.putfield 15, 3, 6, [(8, 0)], 0), (.aload_n 0, 1, 0, [], 0), (.iconst 1, 1, 0, [], 1), (.putfield 20, 3, 7, [(8, 0)], 0), (.aload_n 0, 1, 0, [], 0), (.invokevirtual 51, 3, 0, [(8, 45)], 0), (.return_, 1, 0, [], 0)])]
theorem ok_Session_comeToBe : x_mok y_Session_comeToBe (x_on 18) false b_Session_comeToBe := x_chm_ok rfl (by decide) (by decide +kernel)
def b_Session_markUsed : List (Nat × List XO) := [(0, [(.aload_n 0, 1, 0, [], 0), (.aload_n 0, 1, 0, [], 0), (.getfield 37, 3, 5, [(8, 2)], 0), (.invokevirtual 55, 3, 0, [(1, 46)], 0), (.putfield 27, 3, 9, [(8, 0)], 0), (.aload_n 0, 1, 0, [], 0), (.aload_n 0, 1, 0, [], 0), (.getfield 37, 3, 5, [(8, 2)], 0), (.getfield 60, 3, 0, [(1, 0)], 0), (.putfield 30, 3, 10, [(8, 0)], 0), (.return_, 1, 0, [], 0)])]
theorem ok_Session_markUsed : x_mok y_Session_markUsed (x_on 18) false b_Session_markUsed := x_chm_ok rfl (by decide) (by decide +kernel)
def b_Clock_nextUse : List (Nat × List XO) := [(0, [(.aload_n 0, 1, 0, [], 0), (.dup, 1, 0, [], 0), (.getfield 13, 3, 1, [(1, 0)], 0), (.iconst 1, 1, 0, [], 1), (.iadd, 1, 0, [], 0), (.putfield 13, 3, 1, [(1, 0)], 0), (.aload_n 0, 1, 0, [], 0), (.getfield 13, 3, 1, [(1, 0)], 0), (.ireturn, 1, 0, [], 0)])]
theorem ok_Clock_nextUse : x_mok y_Clock_nextUse (x_on 3) false b_Clock_nextUse := x_chm_ok rfl (by decide) (by decide +kernel)
def b_H_settle : List (Nat × List XO) := [(0, [(.iconst 0, 1, 0, [], 0), (.istore_n 1, 1, 1, [], 0)]),
  (2, [(.iload_n 1, 1, 1, [], 0), (.bipush 32, 2, 0, [], 32), (.if_icmp .ge 28, 3, 33, [], 0), (.aload_n 0, 1, 0, [], 0), (.getfield 38, 3, 4, [(10, 2)], 0), (.iload_n 1, 1, 1, [], 0), (.aaload, 1, 0, x_ald, 0), (.ifnull 13, 3, 27, [], 0), (.aload_n 0, 1, 0, [], 0), (.aload_n 0, 1, 0, [], 0), (.getfield 38, 3, 4, [(10, 2)], 0), (.iload_n 1, 1, 1, [], 0), (.aaload, 1, 0, x_ald, 0), (.invokevirtual 277, 3, 1, [(10, 48)], 0)]),
  (27, [(.iinc 1 1, 3, 1, [], 1), (.goto (-28), 3, 2, [], 0)]),
  (33, [(.iconst 0, 1, 0, [], 0), (.istore_n 1, 1, 1, [], 0)]),
  (35, [(.iload_n 1, 1, 1, [], 0), (.aload_n 0, 1, 0, [], 0), (.getfield 55, 3, 7, [(10, 2)], 0), (.invokevirtual 117, 3, 0, [(3, 19)], 0), (.if_icmp .ge 24, 3, 67, [], 0), (.aload_n 0, 1, 0, [], 0), (.aload_n 0, 1, 0, [], 0), (.getfield 55, 3, 7, [(10, 2)], 0), (.iload_n 1, 1, 1, [], 0), (.invokevirtual 176, 3, 1, [(3, 20)], 0), (.checkcast 171, 3, 0, [(9, 1)], 0), (.invokevirtual 281, 3, 1, [(10, 65)], 0), (.iinc 1 1, 3, 1, [], 1), (.goto (-29), 3, 35, [], 0)]),
  (67, [(.iconst 0, 1, 0, [], 0), (.istore_n 1, 1, 1, [], 0)]),
  (69, [(.iload_n 1, 1, 1, [], 0), (.bipush 8, 2, 0, [], 8), (.if_icmp .ge 27, 3, 99, [], 0), (.aload_n 0, 1, 0, [], 0), (.getfield 44, 3, 5, [(10, 2)], 0), (.iload_n 1, 1, 1, [], 0), (.aaload, 1, 0, x_ald, 0), (.ifnull 12, 3, 93, [], 0), (.aload_n 0, 1, 0, [], 0), (.getfield 44, 3, 5, [(10, 2)], 0), (.iload_n 1, 1, 1, [], 0), (.aaload, 1, 0, x_ald, 0), (.invokevirtual 285, 3, 0, [(5, 70)], 0)]),
  (93, [(.iinc 1 1, 3, 1, [], 1), (.goto (-27), 3, 69, [], 0)]),
  (99, [(.return_, 1, 0, [], 0)])]
theorem ok_H_settle : x_mok y_H_settle (x_on 0) false b_H_settle := x_chm_ok rfl (by decide) (by decide +kernel)
def b_H_settleLine : List (Nat × List XO) := [(0, [(.iconst 0, 1, 0, [], 0), (.istore_n 2, 1, 2, [], 0)]),
  (2, [(.iload_n 2, 1, 2, [], 0), (.bipush 8, 2, 0, [], 8), (.if_icmp .ge 83, 3, 88, [], 0), (.aload_n 1, 1, 1, [], 0), (.getfield 223, 3, 0, [(6, 2), (7, 2), (8, 2)], 0), (.invokevirtual 236, 3, 0, [(3, 49)], 0), (.ifCond .ne 73, 3, 88, [], 0), (.aload_n 1, 1, 1, [], 0), (.getfield 223, 3, 0, [(6, 2), (7, 2), (8, 2)], 0), (.iconst 0, 1, 0, [], 0), (.invokevirtual 176, 3, 1, [(3, 20)], 0), (.checkcast 30, 3, 0, [(4, 1)], 0), (.astore_n 3, 1, 3, [], 0), (.aload_n 3, 1, 3, [], 0), (.getfield 288, 3, 6, [(4, 0)], 0), (.istore 4, 2, 4, [], 0), (.aload_n 1, 1, 1, [], 0), (.aload_n 3, 1, 3, [], 0), (.iload 4, 2, 4, [], 0), (.iconst 1, 1, 0, [], 1), (.invokevirtual 239, 3, 3, [(6, 50), (7, 53), (8, 51)], 0), (.istore 5, 2, 5, [], 0), (.iload 5, 2, 5, [], 0), (.bipush 21, 2, 0, [], 21), (.if_icmp .ne 4, 3, 54, [], 0), (.return_, 1, 0, [], 0)]),
  (54, [(.aload_n 3, 1, 3, [], 0), (.invokevirtual 189, 3, 0, [(4, 55)], 0), (.iload 5, 2, 5, [], 0), (.bipush 20, 2, 0, [], 20), (.if_icmp .ne 14, 3, 76, [], 0), (.aload_n 0, 1, 0, [], 0), (.aload_n 3, 1, 3, [], 0), (.aload_n 1, 1, 1, [], 0), (.iload 4, 2, 4, [], 0), (.invokevirtual 243, 3, 3, [(10, 58)], 0), (.goto 9, 3, 82, [], 0)]),
  (76, [(.aload_n 3, 1, 3, [], 0), (.iload 5, 2, 5, [], 0), (.invokevirtual 192, 3, 1, [(4, 63)], 0)]),
  (82, [(.iinc 2 1, 3, 2, [], 1), (.goto (-83), 3, 2, [], 0)]),
  (88, [(.return_, 1, 0, [], 0)])]
theorem ok_H_settleLine : x_mok y_H_settleLine (x_on 0) false b_H_settleLine := x_chm_ok rfl (by decide) (by decide +kernel)
def b_Pool_judge : List (Nat × List XO) := [(0, [(.iload_n 3, 1, 3, [], 0), (.ifCond .eq 26, 3, 27, [], 0), (.aload_n 0, 1, 0, [], 0), (.getfield 15, 3, 6, [(6, 0)], 0), (.ifCond .gt 14, 3, 22, [], 0), (.aload_n 0, 1, 0, [], 0), (.getfield 19, 3, 7, [(6, 0)], 0), (.aload_n 0, 1, 0, [], 0), (.getfield 22, 3, 4, [(6, 0)], 0), (.if_icmp .ge 8, 3, 27, [], 0)]),
  (22, [(.bipush 20, 2, 0, [], 20), (.goto 5, 3, 29, [], 0)]),
  (27, [(.bipush 21, 2, 0, [], 21)]),
  (29, [(.ireturn, 1, 0, [], 0)])]
theorem ok_Pool_judge : x_mok y_Pool_judge (x_on 10) false b_Pool_judge := x_chm_ok rfl (by decide) (by decide +kernel)
def b_Session_judge : List (Nat × List XO) := [(0, [(.aload_n 0, 1, 0, [], 0), (.getfield 20, 3, 7, [(8, 0)], 0), (.ifCond .ne 6, 3, 10, [], 0), (.bipush 9, 2, 0, [], 9), (.ireturn, 1, 0, [], 0)]),
  (10, [(.aload_n 1, 1, 1, [], 0), (.aload_n 0, 1, 0, [], 0), (.invokevirtual 63, 3, 1, [(4, 52)], 0), (.ifCond .eq 6, 3, 21, [], 0), (.bipush 12, 2, 0, [], 12), (.ireturn, 1, 0, [], 0)]),
  (21, [(.aload_n 0, 1, 0, [], 0), (.getfield 23, 3, 8, [(8, 1)], 0), (.ifCond .eq 8, 3, 33, [], 0), (.bipush 21, 2, 0, [], 21), (.goto 5, 3, 35, [], 0)]),
  (33, [(.bipush 20, 2, 0, [], 20)]),
  (35, [(.ireturn, 1, 0, [], 0)])]
theorem ok_Session_judge : x_mok y_Session_judge (x_on 18) false b_Session_judge := x_chm_ok rfl (by decide) (by decide +kernel)
def b_Caller_hasMethodIn : List (Nat × List XO) := [(0, [(.iconst 0, 1, 0, [], 0), (.istore_n 2, 1, 2, [], 0)]),
  (2, [(.iload_n 2, 1, 2, [], 0), (.aload_n 0, 1, 0, [], 0), (.getfield 24, 3, 4, [(4, 0)], 0), (.if_icmp .ge 21, 3, 28, [], 0), (.aload_n 0, 1, 0, [], 0), (.getfield 11, 3, 1, [(4, 2)], 0), (.iload_n 2, 1, 2, [], 0), (.aaload, 1, 0, x_ald, 0), (.aload_n 1, 1, 1, [], 0), (.if_acmp .ne 5, 3, 22, [], 0), (.iconst 1, 1, 0, [], 1), (.ireturn, 1, 1, [], 0)]),
  (22, [(.iinc 2 1, 3, 2, [], 1), (.goto (-23), 3, 2, [], 0)]),
  (28, [(.iconst 0, 1, 0, [], 0), (.ireturn, 1, 1, [], 0)])]
theorem ok_Caller_hasMethodIn : x_mok y_Caller_hasMethodIn (x_on 8) false b_Caller_hasMethodIn := x_chm_ok rfl (by decide) (by decide +kernel)
def b_Singleton_judge : List (Nat × List XO) := [(0, [(.aload_n 0, 1, 0, [], 0), (.getfield 24, 3, 8, [(7, 1)], 0), (.ifCond .eq 6, 3, 10, [], 0), (.bipush 9, 2, 0, [], 9), (.ireturn, 1, 0, [], 0)]),
  (10, [(.aload_n 1, 1, 1, [], 0), (.aload_n 0, 1, 0, [], 0), (.invokevirtual 68, 3, 1, [(4, 52)], 0), (.ifCond .eq 23, 3, 38, [], 0), (.iload_n 2, 1, 2, [], 0), (.ifCond .eq 11, 3, 30, [], 0), (.aload_n 1, 1, 1, [], 0), (.aload_n 0, 1, 0, [], 0), (.invokevirtual 74, 3, 1, [(4, 54)], 0), (.ifCond .eq 8, 3, 35, [], 0)]),
  (30, [(.bipush 20, 2, 0, [], 20), (.goto 5, 3, 37, [], 0)]),
  (35, [(.bipush 12, 2, 0, [], 12)]),
  (37, [(.ireturn, 1, 0, [], 0)]),
  (38, [(.iload_n 2, 1, 2, [], 0), (.ifCond .ne 18, 3, 57, [], 0), (.aload_n 0, 1, 0, [], 0), (.getfield 34, 3, 11, [(7, 0)], 0), (.ifCond .ne 7, 3, 53, [], 0), (.iconst 1, 1, 0, [], 1), (.goto 19, 3, 69, [], 0)]),
  (53, [(.iconst 0, 1, 0, [], 0), (.goto 15, 3, 69, [], 0)]),
  (57, [(.aload_n 0, 1, 0, [], 0), (.getfield 31, 3, 10, [(7, 0)], 0), (.ifCond .ne 7, 3, 68, [], 0), (.iconst 1, 1, 0, [], 1), (.goto 4, 3, 69, [], 0)]),
  (68, [(.iconst 0, 1, 0, [], 0)]),
  (69, [(.istore 4, 2, 4, [], 0), (.iload_n 3, 1, 3, [], 0), (.ifCond .eq 13, 3, 85, [], 0), (.iload 4, 2, 4, [], 0), (.ifCond .eq 8, 3, 85, [], 0), (.bipush 20, 2, 0, [], 20), (.goto 5, 3, 87, [], 0)]),
  (85, [(.bipush 21, 2, 0, [], 21)]),
  (87, [(.ireturn, 1, 0, [], 0)])]
theorem ok_Singleton_judge : x_mok y_Singleton_judge (x_on 12) false b_Singleton_judge := x_chm_ok rfl (by decide) (by decide +kernel)
def b_Caller_writesIn : List (Nat × List XO) := [(0, [(.iconst 0, 1, 0, [], 0), (.istore_n 2, 1, 2, [], 0)]),
  (2, [(.iload_n 2, 1, 2, [], 0), (.aload_n 0, 1, 0, [], 0), (.getfield 24, 3, 4, [(4, 0)], 0), (.if_icmp .ge 31, 3, 38, [], 0), (.aload_n 0, 1, 0, [], 0), (.getfield 11, 3, 1, [(4, 2)], 0), (.iload_n 2, 1, 2, [], 0), (.aaload, 1, 0, x_ald, 0), (.aload_n 1, 1, 1, [], 0), (.if_acmp .ne 15, 3, 32, [], 0), (.aload_n 0, 1, 0, [], 0), (.getfield 21, 3, 3, [(4, 2)], 0), (.iload_n 2, 1, 2, [], 0), (.iaload, 1, 0, [], 0), (.iconst 1, 1, 0, [], 1), (.if_icmp .ne 5, 3, 32, [], 0), (.iconst 1, 1, 0, [], 1), (.ireturn, 1, 1, [], 0)]),
  (32, [(.iinc 2 1, 3, 2, [], 1), (.goto (-33), 3, 2, [], 0)]),
  (38, [(.iconst 0, 1, 0, [], 0), (.ireturn, 1, 1, [], 0)])]
theorem ok_Caller_writesIn : x_mok y_Caller_writesIn (x_on 8) false b_Caller_writesIn := x_chm_ok rfl (by decide) (by decide +kernel)
def b_Caller_leaveLine : List (Nat × List XO) := [(0, [(.aload_n 0, 1, 0, [], 0), (.getfield 28, 3, 5, [(4, 2)], 0), (.ifnonnull 4, 3, 8, [], 0), (.return_, 1, 0, [], 0)]),
  (8, [(.aload_n 0, 1, 0, [], 0), (.getfield 28, 3, 5, [(4, 2)], 0), (.getfield 52, 3, 0, [(6, 2), (7, 2), (8, 2)], 0), (.astore_n 1, 1, 1, [], 0), (.aload_n 0, 1, 0, [], 0), (.aconst_null, 1, 0, [], 0), (.putfield 28, 3, 5, [(4, 2)], 0), (.iconst 0, 1, 0, [], 0), (.istore_n 2, 1, 2, [], 0)]),
  (23, [(.iload_n 2, 1, 2, [], 0), (.aload_n 1, 1, 1, [], 0), (.invokevirtual 62, 3, 0, [(3, 19)], 0), (.if_icmp .ge 25, 3, 53, [], 0), (.aload_n 1, 1, 1, [], 0), (.iload_n 2, 1, 2, [], 0), (.invokevirtual 66, 3, 1, [(3, 20)], 0), (.aload_n 0, 1, 0, [], 0), (.if_acmp .ne 10, 3, 47, [], 0), (.aload_n 1, 1, 1, [], 0), (.iload_n 2, 1, 2, [], 0), (.invokevirtual 70, 3, 1, [(3, 56)], 0), (.pop, 1, 0, [], 0), (.return_, 1, 0, [], 0)]),
  (47, [(.iinc 2 1, 3, 2, [], 1), (.goto (-27), 3, 23, [], 0)]),
  (53, [(.return_, 1, 0, [], 0)])]
theorem ok_Caller_leaveLine : x_mok y_Caller_leaveLine (x_on 8) false b_Caller_leaveLine := x_chm_ok rfl (by decide) (by decide +kernel)
def b_H_enter : List (Nat × List XO) := [(0, [(.aload_n 2, 1, 2, [], 0), (.iload_n 3, 1, 3, [], 0), (.invokevirtual 254, 3, 1, [(6, 59), (7, 61), (8, 60)], 0), (.istore 4, 2, 4, [], 0), (.aload_n 1, 1, 1, [], 0), (.aload_n 2, 1, 2, [], 0), (.iload 4, 2, 4, [], 0), (.iload_n 3, 1, 3, [], 0), (.invokevirtual 257, 3, 3, [(4, 62)], 0), (.aload_n 0, 1, 0, [], 0), (.getfield 10, 3, 0, [(10, 2)], 0), (.bipush 7, 2, 0, [], 7), (.aload_n 1, 1, 1, [], 0), (.getfield 260, 3, 0, [(4, 0)], 0), (.iconst 1, 1, 0, [], 1), (.iadd, 1, 0, [], 0), (.iload 4, 2, 4, [], 0), (.invokevirtual 263, 3, 3, [(0, 40)], 0), (.return_, 1, 0, [], 0)])]
theorem ok_H_enter : x_mok y_H_enter (x_on 0) false b_H_enter := x_chm_ok rfl (by decide) (by decide +kernel)
def b_Pool_take : List (Nat × List XO) := [(0, [(.aload_n 0, 1, 0, [], 0), (.getfield 15, 3, 6, [(6, 0)], 0), (.ifCond .le 23, 3, 27, [], 0), (.aload_n 0, 1, 0, [], 0), (.dup, 1, 0, [], 0), (.getfield 15, 3, 6, [(6, 0)], 0), (.iconst 1, 1, 0, [], 1), (.isub, 1, 0, [], 0), (.putfield 15, 3, 6, [(6, 0)], 0), (.aload_n 0, 1, 0, [], 0), (.getfield 9, 3, 5, [(6, 2)], 0), (.aload_n 0, 1, 0, [], 0), (.getfield 15, 3, 6, [(6, 0)], 0), (.iaload, 1, 0, [], 0), (.ireturn, 1, 0, [], 0)]),
  (27, [(.aload_n 0, 1, 0, [], 0), (.dup, 1, 0, [], 0), (.getfield 19, 3, 7, [(6, 0)], 0), (.iconst 1, 1, 0, [], 1), (.iadd, 1, 0, [], 0), (.putfield 19, 3, 7, [(6, 0)], 0), (.aload_n 0, 1, 0, [], 0), (.getfield 25, 3, 1, [(6, 2)], 0), (.invokevirtual 29, 3, 0, [(0, 39)], 0), (.ireturn, 1, 0, [], 0)])]
theorem ok_Pool_take : x_mok y_Pool_take (x_on 10) false b_Pool_take := x_chm_ok rfl (by decide) (by decide +kernel)
def b_Session_take : List (Nat × List XO) := [(0, [(.aload_n 0, 1, 0, [], 0), (.getfield 20, 3, 7, [(8, 0)], 0), (.iconst 3, 1, 0, [], 3), (.if_icmp .ne 21, 3, 26, [], 0), (.aload_n 0, 1, 0, [], 0), (.iconst 1, 1, 0, [], 1), (.putfield 20, 3, 7, [(8, 0)], 0), (.aload_n 0, 1, 0, [], 0), (.getfield 41, 3, 1, [(8, 2)], 0), (.iconst 5, 1, 0, [], 5), (.iconst 0, 1, 0, [], 0), (.aload_n 0, 1, 0, [], 0), (.getfield 15, 3, 6, [(8, 0)], 0), (.invokevirtual 69, 3, 3, [(0, 40)], 0)]),
  (26, [(.aload_n 0, 1, 0, [], 0), (.iconst 1, 1, 0, [], 1), (.putfield 23, 3, 8, [(8, 1)], 0), (.aload_n 0, 1, 0, [], 0), (.getfield 15, 3, 6, [(8, 0)], 0), (.ireturn, 1, 0, [], 0)])]
theorem ok_Session_take : x_mok y_Session_take (x_on 18) false b_Session_take := x_chm_ok rfl (by decide) (by decide +kernel)
def b_Singleton_take : List (Nat × List XO) := [(0, [(.aload_n 0, 1, 0, [], 0), (.dup, 1, 0, [], 0), (.getfield 31, 3, 10, [(7, 0)], 0), (.iconst 1, 1, 0, [], 1), (.iadd, 1, 0, [], 0), (.putfield 31, 3, 10, [(7, 0)], 0), (.iload_n 1, 1, 1, [], 0), (.iconst 1, 1, 0, [], 1), (.if_icmp .ne 13, 3, 25, [], 0), (.aload_n 0, 1, 0, [], 0), (.dup, 1, 0, [], 0), (.getfield 34, 3, 11, [(7, 0)], 0), (.iconst 1, 1, 0, [], 1), (.iadd, 1, 0, [], 0), (.putfield 34, 3, 11, [(7, 0)], 0)]),
  (25, [(.aload_n 0, 1, 0, [], 0), (.getfield 27, 3, 9, [(7, 0)], 0), (.ireturn, 1, 0, [], 0)])]
theorem ok_Singleton_take : x_mok y_Singleton_take (x_on 12) false b_Singleton_take := x_chm_ok rfl (by decide) (by decide +kernel)
def b_Caller_push : List (Nat × List XO) := [(0, [(.aload_n 0, 1, 0, [], 0), (.getfield 24, 3, 4, [(4, 0)], 0), (.iconst 4, 1, 0, [], 4), (.if_icmp .ge 43, 3, 48, [], 0), (.aload_n 0, 1, 0, [], 0), (.getfield 11, 3, 1, [(4, 2)], 0), (.aload_n 0, 1, 0, [], 0), (.getfield 24, 3, 4, [(4, 0)], 0), (.aload_n 1, 1, 1, [], 0), (.aastore, 1, 0, x_ast, 0), (.aload_n 0, 1, 0, [], 0), (.getfield 17, 3, 2, [(4, 2)], 0), (.aload_n 0, 1, 0, [], 0), (.getfield 24, 3, 4, [(4, 0)], 0), (.iload_n 2, 1, 2, [], 0), (.iastore, 1, 0, [], 0), (.aload_n 0, 1, 0, [], 0), (.getfield 21, 3, 3, [(4, 2)], 0), (.aload_n 0, 1, 0, [], 0), (.getfield 24, 3, 4, [(4, 0)], 0), (.iload_n 3, 1, 3, [], 0), (.iastore, 1, 0, [], 0), (.aload_n 0, 1, 0, [], 0), (.dup, 1, 0, [], 0), (.getfield 24, 3, 4, [(4, 0)], 0), (.iconst 1, 1, 0, [], 1), (.iadd, 1, 0, [], 0), (.putfield 24, 3, 4, [(4, 0)], 0)]),
  (48, [(.return_, 1, 0, [], 0)])]
theorem ok_Caller_push : x_mok y_Caller_push (x_on 8) false b_Caller_push := x_chm_ok rfl (by decide) (by decide +kernel)
def b_Caller_gets : List (Nat × List XO) := [(0, [(.aload_n 0, 1, 0, [], 0), (.iload_n 1, 1, 1, [], 0), (.putfield 38, 3, 8, [(4, 0)], 0), (.aload_n 0, 1, 0, [], 0), (.getfield 41, 3, 9, [(4, 2)], 0), (.ifnull 23, 3, 32, [], 0), (.aload_n 0, 1, 0, [], 0), (.getfield 24, 3, 4, [(4, 0)], 0), (.ifCond .ne 16, 3, 32, [], 0), (.aload_n 0, 1, 0, [], 0), (.getfield 41, 3, 9, [(4, 2)], 0), (.iload_n 1, 1, 1, [], 0), (.invokevirtual 76, 3, 1, [(9, 64)], 0), (.aload_n 0, 1, 0, [], 0), (.aconst_null, 1, 0, [], 0), (.putfield 41, 3, 9, [(4, 2)], 0)]),
  (32, [(.return_, 1, 0, [], 0)])]
theorem ok_Caller_gets : x_mok y_Caller_gets (x_on 8) false b_Caller_gets := x_chm_ok rfl (by decide) (by decide +kernel)
def b_Task_endWith : List (Nat × List XO) := [(0, [(.aload_n 0, 1, 0, [], 0), (.iconst 4, 1, 0, [], 4), (.putfield 11, 3, 3, [(9, 0)], 0), (.aload_n 0, 1, 0, [], 0), (.iload_n 1, 1, 1, [], 0), (.putfield 19, 3, 5, [(9, 0)], 0), (.return_, 1, 0, [], 0)])]
theorem ok_Task_endWith : x_mok y_Task_endWith (x_on 19) false b_Task_endWith := x_chm_ok rfl (by decide) (by decide +kernel)
def b_H_handOut : List (Nat × List XO) := [(0, [(.aload_n 1, 1, 1, [], 0), (.invokevirtual 291, 3, 0, [(9, 66)], 0), (.ifCond .eq 10, 3, 14, [], 0), (.aload_n 0, 1, 0, [], 0), (.invokevirtual 294, 3, 0, [(10, 67)], 0), (.goto 4, 3, 15, [], 0)]),
  (14, [(.aconst_null, 1, 0, [], 0)]),
  (15, [(.astore_n 2, 1, 2, [], 0), (.aload_n 2, 1, 2, [], 0), (.ifnull 27, 3, 44, [], 0), (.aload_n 1, 1, 1, [], 0), (.iconst 2, 1, 0, [], 2), (.putfield 298, 3, 3, [(9, 0)], 0), (.aload_n 2, 1, 2, [], 0), (.aload_n 1, 1, 1, [], 0), (.putfield 301, 3, 9, [(4, 2)], 0), (.aload_n 0, 1, 0, [], 0), (.aload_n 2, 1, 2, [], 0), (.aload_n 1, 1, 1, [], 0), (.getfield 305, 3, 0, [(9, 2)], 0), (.aload_n 1, 1, 1, [], 0), (.getfield 309, 3, 1, [(9, 0)], 0), (.invokevirtual 148, 3, 3, [(10, 68)], 0), (.pop, 1, 0, [], 0)]),
  (44, [(.return_, 1, 0, [], 0)])]
theorem ok_H_handOut : x_mok y_H_handOut (x_on 0) false b_H_handOut := x_chm_ok rfl (by decide) (by decide +kernel)
def b_Task_isWaiting : List (Nat × List XO) := [(0, [(.aload_n 0, 1, 0, [], 0), (.getfield 11, 3, 3, [(9, 0)], 0), (.iconst 1, 1, 0, [], 1), (.if_icmp .ne 7, 3, 12, [], 0), (.iconst 1, 1, 0, [], 1), (.goto 4, 3, 13, [], 0)]),
  (12, [(.iconst 0, 1, 0, [], 0)]),
  (13, [(.ireturn, 1, 1, [], 0)])]
theorem ok_Task_isWaiting : x_mok y_Task_isWaiting (x_on 19) false b_Task_isWaiting := x_chm_ok rfl (by decide) (by decide +kernel)
def b_H_freeWorker : List (Nat × List XO) := [(0, [(.bipush 6, 2, 0, [], 6), (.istore_n 1, 1, 1, [], 0)]),
  (3, [(.iload_n 1, 1, 1, [], 0), (.bipush 8, 2, 0, [], 8), (.if_icmp .ge 28, 3, 34, [], 0), (.aload_n 0, 1, 0, [], 0), (.getfield 32, 3, 3, [(10, 2)], 0), (.iload_n 1, 1, 1, [], 0), (.aaload, 1, 0, x_ald, 0), (.getfield 301, 3, 9, [(4, 2)], 0), (.ifnonnull 10, 3, 28, [], 0), (.aload_n 0, 1, 0, [], 0), (.getfield 32, 3, 3, [(10, 2)], 0), (.iload_n 1, 1, 1, [], 0), (.aaload, 1, 0, x_ald, 0), (.areturn, 1, 0, [], 0)]),
  (28, [(.iinc 1 1, 3, 1, [], 1), (.goto (-28), 3, 3, [], 0)]),
  (34, [(.aconst_null, 1, 0, [], 0), (.areturn, 1, 0, [], 0)])]
theorem ok_H_freeWorker : x_mok y_H_freeWorker (x_on 0) false b_H_freeWorker := x_chm_ok rfl (by decide) (by decide +kernel)
def b_H_makeCall : List (Nat × List XO) := [(0, [(.aload_n 2, 1, 2, [], 0), (.instanceof 80, 3, 0, [(0, 0), (1, 0), (2, 0), (3, 0), (4, 0), (5, 0), (6, 0), (7, 1), (8, 0), (9, 0), (10, 0), (11, 0)], 0), (.ifCond .eq 15, 3, 19, [], 0), (.aload_n 2, 1, 2, [], 0), (.checkcast 80, 3, 0, [(7, 1)], 0), (.astore 4, 2, 4, [], 0), (.aload 4, 2, 4, [], 0), (.iconst 0, 1, 0, [], 0), (.invokevirtual 110, 3, 1, [(7, 38)], 0)]),
  (19, [(.aload_n 2, 1, 2, [], 0), (.aload_n 1, 1, 1, [], 0), (.iload_n 3, 1, 3, [], 0), (.aload_n 2, 1, 2, [], 0), (.getfield 223, 3, 0, [(6, 2), (7, 2), (8, 2)], 0), (.invokevirtual 236, 3, 0, [(3, 49)], 0), (.invokevirtual 239, 3, 3, [(6, 50), (7, 53), (8, 51)], 0), (.istore 4, 2, 4, [], 0), (.iload 4, 2, 4, [], 0), (.bipush 20, 2, 0, [], 20), (.if_icmp .ne 13, 3, 51, [], 0), (.aload_n 0, 1, 0, [], 0), (.aload_n 1, 1, 1, [], 0), (.aload_n 2, 1, 2, [], 0), (.iload_n 3, 1, 3, [], 0), (.invokevirtual 243, 3, 3, [(10, 58)], 0), (.bipush 20, 2, 0, [], 20), (.ireturn, 1, 0, [], 0)]),
  (51, [(.iload 4, 2, 4, [], 0), (.bipush 21, 2, 0, [], 21), (.if_icmp .ne 26, 3, 81, [], 0), (.aload_n 2, 1, 2, [], 0), (.getfield 247, 3, 2, [(6, 0), (7, 0), (8, 0)], 0), (.ifCond .eq 19, 3, 81, [], 0), (.aload_n 1, 1, 1, [], 0), (.aload_n 2, 1, 2, [], 0), (.iload_n 3, 1, 3, [], 0), (.aload_n 0, 1, 0, [], 0), (.getfield 19, 3, 1, [(10, 2)], 0), (.getfield 162, 3, 0, [(1, 0)], 0), (.invokevirtual 250, 3, 3, [(4, 69)], 0), (.bipush 21, 2, 0, [], 21), (.ireturn, 1, 0, [], 0)]),
  (81, [(.iload 4, 2, 4, [], 0), (.bipush 21, 2, 0, [], 21), (.if_icmp .ne 8, 3, 93, [], 0), (.bipush 11, 2, 0, [], 11), (.goto 5, 3, 95, [], 0)]),
  (93, [(.iload 4, 2, 4, [], 0)]),
  (95, [(.istore 5, 2, 5, [], 0), (.aload_n 1, 1, 1, [], 0), (.iload 5, 2, 5, [], 0), (.invokevirtual 192, 3, 1, [(4, 63)], 0), (.iload 5, 2, 5, [], 0), (.ireturn, 1, 0, [], 0)])]
theorem ok_H_makeCall : x_mok y_H_makeCall (x_on 0) false b_H_makeCall := x_chm_ok rfl (by decide) (by decide +kernel)
def b_Caller_joinLine : List (Nat × List XO) := [(0, [(.aload_n 0, 1, 0, [], 0), (.aload_n 1, 1, 1, [], 0), (.putfield 28, 3, 5, [(4, 2)], 0), (.aload_n 0, 1, 0, [], 0), (.iload_n 2, 1, 2, [], 0), (.putfield 32, 3, 6, [(4, 0)], 0), (.aload_n 0, 1, 0, [], 0), (.iload_n 3, 1, 3, [], 0), (.putfield 35, 3, 7, [(4, 0)], 0), (.aload_n 1, 1, 1, [], 0), (.getfield 52, 3, 0, [(6, 2), (7, 2), (8, 2)], 0), (.aload_n 0, 1, 0, [], 0), (.invokevirtual 56, 3, 1, [(3, 25)], 0), (.pop, 1, 0, [], 0), (.return_, 1, 0, [], 0)])]
theorem ok_Caller_joinLine : x_mok y_Caller_joinLine (x_on 8) false b_Caller_joinLine := x_chm_ok rfl (by decide) (by decide +kernel)
def b_Stateful_putAwayBeyondSize : List (Nat × List XO) := [(0, [(.aload_n 0, 1, 0, [], 0), (.invokevirtual 38, 3, 0, [(5, 71)], 0), (.aload_n 0, 1, 0, [], 0), (.getfield 16, 3, 1, [(5, 0)], 0), (.isub, 1, 0, [], 0), (.istore_n 1, 1, 1, [], 0), (.iconst 0, 1, 0, [], 0), (.istore_n 2, 1, 2, [], 0)]),
  (12, [(.iload_n 2, 1, 2, [], 0), (.iload_n 1, 1, 1, [], 0), (.if_icmp .ge 22, 3, 36, [], 0), (.aload_n 0, 1, 0, [], 0), (.invokevirtual 41, 3, 0, [(5, 72)], 0), (.astore_n 3, 1, 3, [], 0), (.aload_n 3, 1, 3, [], 0), (.ifnull 7, 3, 30, [], 0), (.aload_n 3, 1, 3, [], 0), (.invokevirtual 45, 3, 0, [(8, 73)], 0)]),
  (30, [(.iinc 2 1, 3, 2, [], 1), (.goto (-21), 3, 12, [], 0)]),
  (36, [(.return_, 1, 0, [], 0)])]
theorem ok_Stateful_putAwayBeyondSize : x_mok y_Stateful_putAwayBeyondSize (x_on 9) false b_Stateful_putAwayBeyondSize := x_chm_ok rfl (by decide) (by decide +kernel)
def b_Stateful_countInMemory : List (Nat × List XO) := [(0, [(.iconst 0, 1, 0, [], 0), (.istore_n 1, 1, 1, [], 0), (.iconst 0, 1, 0, [], 0), (.istore_n 2, 1, 2, [], 0)]),
  (4, [(.iload_n 2, 1, 2, [], 0), (.aload_n 0, 1, 0, [], 0), (.getfield 10, 3, 0, [(5, 2)], 0), (.invokevirtual 26, 3, 0, [(3, 19)], 0), (.if_icmp .ge 30, 3, 42, [], 0), (.aload_n 0, 1, 0, [], 0), (.getfield 10, 3, 0, [(5, 2)], 0), (.iload_n 2, 1, 2, [], 0), (.invokevirtual 29, 3, 1, [(3, 20)], 0), (.checkcast 33, 3, 0, [(8, 1)], 0), (.getfield 35, 3, 7, [(8, 0)], 0), (.iconst 1, 1, 0, [], 1), (.if_icmp .ne 6, 3, 36, [], 0), (.iinc 1 1, 3, 1, [], 1)]),
  (36, [(.iinc 2 1, 3, 2, [], 1), (.goto (-35), 3, 4, [], 0)]),
  (42, [(.iload_n 1, 1, 1, [], 0), (.ireturn, 1, 0, [], 0)])]
theorem ok_Stateful_countInMemory : x_mok y_Stateful_countInMemory (x_on 9) false b_Stateful_countInMemory := x_chm_ok rfl (by decide) (by decide +kernel)
def b_Stateful_longestUnused : List (Nat × List XO) := [(0, [(.aconst_null, 1, 0, [], 0), (.astore_n 1, 1, 1, [], 0), (.iconst 0, 1, 0, [], 0), (.istore_n 2, 1, 2, [], 0)]),
  (4, [(.iload_n 2, 1, 2, [], 0), (.aload_n 0, 1, 0, [], 0), (.getfield 10, 3, 0, [(5, 2)], 0), (.invokevirtual 26, 3, 0, [(3, 19)], 0), (.if_icmp .ge 53, 3, 65, [], 0), (.aload_n 0, 1, 0, [], 0), (.getfield 10, 3, 0, [(5, 2)], 0), (.iload_n 2, 1, 2, [], 0), (.invokevirtual 29, 3, 1, [(3, 20)], 0), (.checkcast 33, 3, 0, [(8, 1)], 0), (.astore_n 3, 1, 3, [], 0), (.aload_n 3, 1, 3, [], 0), (.getfield 35, 3, 7, [(8, 0)], 0), (.iconst 1, 1, 0, [], 1), (.if_icmp .ne 27, 3, 59, [], 0), (.aload_n 3, 1, 3, [], 0), (.getfield 48, 3, 8, [(8, 1)], 0), (.ifCond .ne 20, 3, 59, [], 0), (.aload_n 1, 1, 1, [], 0), (.ifnull 14, 3, 57, [], 0), (.aload_n 3, 1, 3, [], 0), (.getfield 52, 3, 9, [(8, 0)], 0), (.aload_n 1, 1, 1, [], 0), (.getfield 52, 3, 9, [(8, 0)], 0), (.if_icmp .ge 5, 3, 59, [], 0)]),
  (57, [(.aload_n 3, 1, 3, [], 0), (.astore_n 1, 1, 1, [], 0)]),
  (59, [(.iinc 2 1, 3, 2, [], 1), (.goto (-58), 3, 4, [], 0)]),
  (65, [(.aload_n 1, 1, 1, [], 0), (.areturn, 1, 0, [], 0)])]
theorem ok_Stateful_longestUnused : x_mok y_Stateful_longestUnused (x_on 9) false b_Stateful_longestUnused := x_chm_ok rfl (by decide) (by decide +kernel)
def b_Session_putAway : List (Nat × List XO) := [(0, [(.aload_n 0, 1, 0, [], 0), (.iconst 3, 1, 0, [], 3), (.putfield 20, 3, 7, [(8, 0)], 0), (.aload_n 0, 1, 0, [], 0), (.getfield 41, 3, 1, [(8, 2)], 0), (.iconst 4, 1, 0, [], 4), (.iconst 0, 1, 0, [], 0), (.aload_n 0, 1, 0, [], 0), (.getfield 15, 3, 6, [(8, 0)], 0), (.invokevirtual 69, 3, 3, [(0, 40)], 0), (.return_, 1, 0, [], 0)])]
theorem ok_Session_putAway : x_mok y_Session_putAway (x_on 18) false b_Session_putAway := x_chm_ok rfl (by decide) (by decide +kernel)
def b_H_call : List (Nat × List XO) := [(0, [(.aload_n 0, 1, 0, [], 0), (.iload_n 1, 1, 1, [], 0), (.invokevirtual 132, 3, 1, [(10, 75)], 0), (.astore 4, 2, 4, [], 0), (.aload_n 0, 1, 0, [], 0), (.iload_n 2, 1, 2, [], 0), (.invokevirtual 136, 3, 1, [(10, 17)], 0), (.astore 5, 2, 5, [], 0), (.aload_n 0, 1, 0, [], 0), (.getfield 62, 3, 9, [(10, 0)], 0), (.iconst 1, 1, 0, [], 1), (.if_icmp .ne 16, 3, 35, [], 0), (.aload 4, 2, 4, [], 0), (.ifnull 11, 3, 35, [], 0), (.aload 4, 2, 4, [], 0), (.invokevirtual 140, 3, 0, [(4, 76)], 0), (.ifCond .ne 5, 3, 37, [], 0)]),
  (35, [(.iconst (-1), 1, 0, [], (-1)), (.ireturn, 1, 0, [], 0)]),
  (37, [(.aload 5, 2, 5, [], 0), (.ifnull 12, 3, 51, [], 0), (.aload 5, 2, 5, [], 0), (.iload_n 3, 1, 3, [], 0), (.invokevirtual 144, 3, 1, [(6, 78), (7, 78), (8, 78)], 0), (.ifCond .ne 5, 3, 53, [], 0)]),
  (51, [(.iconst (-1), 1, 0, [], (-1)), (.ireturn, 1, 0, [], 0)]),
  (53, [(.aload_n 0, 1, 0, [], 0), (.aload 4, 2, 4, [], 0), (.aload 5, 2, 5, [], 0), (.iload_n 3, 1, 3, [], 0), (.invokevirtual 148, 3, 3, [(10, 68)], 0), (.istore 6, 2, 6, [], 0), (.aload_n 0, 1, 0, [], 0), (.invokevirtual 129, 3, 0, [(10, 47)], 0), (.iload 6, 2, 6, [], 0), (.ireturn, 1, 0, [], 0)])]
theorem ok_H_call : x_mok y_H_call (x_on 0) false b_H_call := x_chm_ok rfl (by decide) (by decide +kernel)
def b_H_callerAt : List (Nat × List XO) := [(0, [(.iload_n 1, 1, 1, [], 0), (.ifCond .lt 9, 3, 10, [], 0), (.iload_n 1, 1, 1, [], 0), (.bipush 8, 2, 0, [], 8), (.if_icmp .lt 7, 3, 14, [], 0)]),
  (10, [(.aconst_null, 1, 0, [], 0), (.goto 9, 3, 20, [], 0)]),
  (14, [(.aload_n 0, 1, 0, [], 0), (.getfield 32, 3, 3, [(10, 2)], 0), (.iload_n 1, 1, 1, [], 0), (.aaload, 1, 0, x_ald, 0)]),
  (20, [(.areturn, 1, 0, [], 0)])]
theorem ok_H_callerAt : x_mok y_H_callerAt (x_on 0) false b_H_callerAt := x_chm_ok rfl (by decide) (by decide +kernel)
def b_Caller_mayCall : List (Nat × List XO) := [(0, [(.aload_n 0, 1, 0, [], 0), (.getfield 45, 3, 0, [(4, 0)], 0), (.bipush 6, 2, 0, [], 6), (.if_icmp .lt 14, 3, 20, [], 0), (.aload_n 0, 1, 0, [], 0), (.getfield 24, 3, 4, [(4, 0)], 0), (.ifCond .ne 7, 3, 20, [], 0), (.iconst 1, 1, 0, [], 1), (.goto 4, 3, 21, [], 0)]),
  (20, [(.iconst 0, 1, 0, [], 0)]),
  (21, [(.istore_n 1, 1, 1, [], 0), (.aload_n 0, 1, 0, [], 0), (.invokevirtual 48, 3, 0, [(4, 77)], 0), (.ifCond .ne 19, 3, 45, [], 0), (.aload_n 0, 1, 0, [], 0), (.getfield 24, 3, 4, [(4, 0)], 0), (.iconst 4, 1, 0, [], 4), (.if_icmp .ge 11, 3, 45, [], 0), (.iload_n 1, 1, 1, [], 0), (.ifCond .ne 7, 3, 45, [], 0), (.iconst 1, 1, 0, [], 1), (.goto 4, 3, 46, [], 0)]),
  (45, [(.iconst 0, 1, 0, [], 0)]),
  (46, [(.ireturn, 1, 1, [], 0)])]
theorem ok_Caller_mayCall : x_mok y_Caller_mayCall (x_on 8) false b_Caller_mayCall := x_chm_ok rfl (by decide) (by decide +kernel)
def b_Caller_waits : List (Nat × List XO) := [(0, [(.aload_n 0, 1, 0, [], 0), (.getfield 28, 3, 5, [(4, 2)], 0), (.ifnull 7, 3, 11, [], 0), (.iconst 1, 1, 0, [], 1), (.goto 4, 3, 12, [], 0)]),
  (11, [(.iconst 0, 1, 0, [], 0)]),
  (12, [(.ireturn, 1, 1, [], 0)])]
theorem ok_Caller_waits : x_mok y_Caller_waits (x_on 8) false b_Caller_waits := x_chm_ok rfl (by decide) (by decide +kernel)
def b_Target_hasMode : List (Nat × List XO) := [(0, [(.iload_n 1, 1, 1, [], 0), (.ifCond .lt 15, 3, 16, [], 0), (.iload_n 1, 1, 1, [], 0), (.aload_n 0, 1, 0, [], 0), (.getfield 24, 3, 3, [(6, 0), (7, 0), (8, 0)], 0), (.if_icmp .ge 7, 3, 16, [], 0), (.iconst 1, 1, 0, [], 1), (.goto 4, 3, 17, [], 0)]),
  (16, [(.iconst 0, 1, 0, [], 0)]),
  (17, [(.ireturn, 1, 1, [], 0)])]
theorem ok_Target_hasMode : x_mok y_Target_hasMode (x_on 11) false b_Target_hasMode := x_chm_ok rfl (by decide) (by decide +kernel)
def b_H_finish : List (Nat × List XO) := [(0, [(.aload_n 0, 1, 0, [], 0), (.iload_n 1, 1, 1, [], 0), (.invokevirtual 132, 3, 1, [(10, 75)], 0), (.astore_n 3, 1, 3, [], 0), (.aload_n 3, 1, 3, [], 0), (.ifnull 20, 3, 27, [], 0), (.aload_n 3, 1, 3, [], 0), (.invokevirtual 152, 3, 0, [(4, 80)], 0), (.ifCond .eq 13, 3, 27, [], 0), (.iload_n 2, 1, 2, [], 0), (.ifCond .lt 9, 3, 27, [], 0), (.iload_n 2, 1, 2, [], 0), (.bipush 7, 2, 0, [], 7), (.if_icmp .le 5, 3, 29, [], 0)]),
  (27, [(.iconst (-1), 1, 0, [], (-1)), (.ireturn, 1, 0, [], 0)]),
  (29, [(.aload_n 0, 1, 0, [], 0), (.aload_n 3, 1, 3, [], 0), (.iload_n 2, 1, 2, [], 0), (.invokevirtual 155, 3, 2, [(10, 81)], 0), (.istore 4, 2, 4, [], 0), (.aload_n 0, 1, 0, [], 0), (.getfield 62, 3, 9, [(10, 0)], 0), (.iconst 1, 1, 0, [], 1), (.if_icmp .ne 10, 3, 52, [], 0), (.aload_n 0, 1, 0, [], 0), (.invokevirtual 129, 3, 0, [(10, 47)], 0), (.goto 7, 3, 56, [], 0)]),
  (52, [(.aload_n 0, 1, 0, [], 0), (.invokevirtual 159, 3, 0, [(10, 87)], 0)]),
  (56, [(.iload 4, 2, 4, [], 0), (.ireturn, 1, 0, [], 0)])]
theorem ok_H_finish : x_mok y_H_finish (x_on 0) false b_H_finish := x_chm_ok rfl (by decide) (by decide +kernel)
def b_Caller_mayEnd : List (Nat × List XO) := [(0, [(.aload_n 0, 1, 0, [], 0), (.getfield 24, 3, 4, [(4, 0)], 0), (.ifCond .le 14, 3, 18, [], 0), (.aload_n 0, 1, 0, [], 0), (.invokevirtual 48, 3, 0, [(4, 77)], 0), (.ifCond .ne 7, 3, 18, [], 0), (.iconst 1, 1, 0, [], 1), (.goto 4, 3, 19, [], 0)]),
  (18, [(.iconst 0, 1, 0, [], 0)]),
  (19, [(.ireturn, 1, 1, [], 0)])]
theorem ok_Caller_mayEnd : x_mok y_Caller_mayEnd (x_on 8) false b_Caller_mayEnd := x_chm_ok rfl (by decide) (by decide +kernel)
def b_H_endMethod : List (Nat × List XO) := [(0, [(.aload_n 1, 1, 1, [], 0), (.getfield 195, 3, 4, [(4, 0)], 0), (.iconst 1, 1, 0, [], 1), (.isub, 1, 0, [], 0), (.istore_n 3, 1, 3, [], 0), (.aload_n 1, 1, 1, [], 0), (.getfield 266, 3, 1, [(4, 2)], 0), (.iload_n 3, 1, 3, [], 0), (.aaload, 1, 0, x_ald, 0), (.astore 4, 2, 4, [], 0), (.aload_n 1, 1, 1, [], 0), (.getfield 201, 3, 2, [(4, 2)], 0), (.iload_n 3, 1, 3, [], 0), (.iaload, 1, 0, [], 0), (.istore 5, 2, 5, [], 0), (.iload_n 2, 1, 2, [], 0), (.ifCond .eq 18, 3, 42, [], 0), (.aload_n 0, 1, 0, [], 0), (.getfield 26, 3, 2, [(10, 2)], 0), (.iload_n 2, 1, 2, [], 0), (.invokevirtual 267, 3, 1, [(2, 82)], 0), (.ifCond .ne 7, 3, 42, [], 0), (.iconst 1, 1, 0, [], 1), (.goto 4, 3, 43, [], 0)]),
  (42, [(.iconst 0, 1, 0, [], 0)]),
  (43, [(.istore 6, 2, 6, [], 0), (.aload_n 1, 1, 1, [], 0), (.iload_n 3, 1, 3, [], 0), (.putfield 195, 3, 4, [(4, 0)], 0), (.aload_n 0, 1, 0, [], 0), (.getfield 10, 3, 0, [(10, 2)], 0), (.bipush 8, 2, 0, [], 8), (.aload_n 1, 1, 1, [], 0), (.getfield 260, 3, 0, [(4, 0)], 0), (.iconst 1, 1, 0, [], 1), (.iadd, 1, 0, [], 0), (.iload 5, 2, 5, [], 0), (.invokevirtual 263, 3, 3, [(0, 40)], 0), (.aload 4, 2, 4, [], 0), (.ifnull 19, 3, 88, [], 0), (.aload 4, 2, 4, [], 0), (.iload 5, 2, 5, [], 0), (.aload_n 1, 1, 1, [], 0), (.getfield 270, 3, 3, [(4, 2)], 0), (.iload_n 3, 1, 3, [], 0), (.iaload, 1, 0, [], 0), (.iload_n 2, 1, 2, [], 0), (.iload 6, 2, 6, [], 0), (.invokevirtual 273, 3, 4, [(6, 83), (7, 86), (8, 84)], 0)]),
  (88, [(.iload 6, 2, 6, [], 0), (.ifCond .eq 8, 3, 98, [], 0), (.bipush 8, 2, 0, [], 8), (.goto 4, 3, 99, [], 0)]),
  (98, [(.iload_n 2, 1, 2, [], 0)]),
  (99, [(.istore 7, 2, 7, [], 0), (.aload_n 1, 1, 1, [], 0), (.iload 7, 2, 7, [], 0), (.invokevirtual 192, 3, 1, [(4, 63)], 0), (.iload 7, 2, 7, [], 0), (.ireturn, 1, 0, [], 0)])]
theorem ok_H_endMethod : x_mok y_H_endMethod (x_on 0) false b_H_endMethod := x_chm_ok rfl (by decide) (by decide +kernel)
def b_ExceptionTypes_isApplication : List (Nat × List XO) := [(0, [(.aload_n 0, 1, 0, [], 0), (.getfield 9, 3, 0, [(2, 2)], 0), (.iload_n 1, 1, 1, [], 0), (.iaload, 1, 0, [], 0), (.ifCond .eq 5, 3, 11, [], 0), (.iconst 1, 1, 0, [], 1), (.ireturn, 1, 1, [], 0)]),
  (11, [(.iload_n 1, 1, 1, [], 0), (.iconst 2, 1, 0, [], 2), (.idiv, 1, 0, [], 0), (.istore_n 2, 1, 2, [], 0)]),
  (15, [(.iload_n 2, 1, 2, [], 0), (.iconst 1, 1, 0, [], 1), (.if_icmp .lt 35, 3, 52, [], 0), (.aload_n 0, 1, 0, [], 0), (.getfield 9, 3, 0, [(2, 2)], 0), (.iload_n 2, 1, 2, [], 0), (.iaload, 1, 0, [], 0), (.ifCond .eq 19, 3, 45, [], 0), (.aload_n 0, 1, 0, [], 0), (.getfield 9, 3, 0, [(2, 2)], 0), (.iload_n 2, 1, 2, [], 0), (.iaload, 1, 0, [], 0), (.iconst 2, 1, 0, [], 2), (.if_icmp .ne 7, 3, 43, [], 0), (.iconst 1, 1, 0, [], 1), (.goto 4, 3, 44, [], 0)]),
  (43, [(.iconst 0, 1, 0, [], 0)]),
  (44, [(.ireturn, 1, 1, [], 0)]),
  (45, [(.iload_n 2, 1, 2, [], 0), (.iconst 2, 1, 0, [], 2), (.idiv, 1, 0, [], 0), (.istore_n 2, 1, 2, [], 0), (.goto (-34), 3, 15, [], 0)]),
  (52, [(.iconst 0, 1, 0, [], 0), (.ireturn, 1, 1, [], 0)])]
theorem ok_ExceptionTypes_isApplication : x_mok y_ExceptionTypes_isApplication (x_on 4) false b_ExceptionTypes_isApplication := x_chm_ok rfl (by decide) (by decide +kernel)
def b_Pool_giveBack : List (Nat × List XO) := [(0, [(.iload 4, 2, 4, [], 0), (.ifCond .eq 26, 3, 28, [], 0), (.aload_n 0, 1, 0, [], 0), (.dup, 1, 0, [], 0), (.getfield 19, 3, 7, [(6, 0)], 0), (.iconst 1, 1, 0, [], 1), (.isub, 1, 0, [], 0), (.putfield 19, 3, 7, [(6, 0)], 0), (.aload_n 0, 1, 0, [], 0), (.getfield 25, 3, 1, [(6, 2)], 0), (.iconst 3, 1, 0, [], 3), (.iconst 0, 1, 0, [], 0), (.iload_n 1, 1, 1, [], 0), (.invokevirtual 35, 3, 3, [(0, 40)], 0), (.goto 31, 3, 56, [], 0)]),
  (28, [(.aload_n 0, 1, 0, [], 0), (.getfield 15, 3, 6, [(6, 0)], 0), (.iconst 4, 1, 0, [], 4), (.if_icmp .ge 23, 3, 56, [], 0), (.aload_n 0, 1, 0, [], 0), (.getfield 9, 3, 5, [(6, 2)], 0), (.aload_n 0, 1, 0, [], 0), (.getfield 15, 3, 6, [(6, 0)], 0), (.iload_n 1, 1, 1, [], 0), (.iastore, 1, 0, [], 0), (.aload_n 0, 1, 0, [], 0), (.dup, 1, 0, [], 0), (.getfield 15, 3, 6, [(6, 0)], 0), (.iconst 1, 1, 0, [], 1), (.iadd, 1, 0, [], 0), (.putfield 15, 3, 6, [(6, 0)], 0)]),
  (56, [(.return_, 1, 0, [], 0)])]
theorem ok_Pool_giveBack : x_mok y_Pool_giveBack (x_on 10) false b_Pool_giveBack := x_chm_ok rfl (by decide) (by decide +kernel)
def b_Session_giveBack : List (Nat × List XO) := [(0, [(.aload_n 0, 1, 0, [], 0), (.iconst 0, 1, 0, [], 0), (.putfield 23, 3, 8, [(8, 1)], 0), (.aload_n 0, 1, 0, [], 0), (.invokevirtual 51, 3, 0, [(8, 45)], 0), (.iload 4, 2, 4, [], 0), (.ifCond .eq 11, 3, 22, [], 0), (.aload_n 0, 1, 0, [], 0), (.iconst 3, 1, 0, [], 3), (.invokevirtual 73, 3, 1, [(8, 85)], 0), (.goto 22, 3, 41, [], 0)]),
  (22, [(.iload_n 2, 1, 2, [], 0), (.iconst 1, 1, 0, [], 1), (.if_icmp .eq 12, 3, 36, [], 0), (.iload_n 2, 1, 2, [], 0), (.iconst 2, 1, 0, [], 2), (.if_icmp .ne 12, 3, 41, [], 0), (.iload_n 3, 1, 3, [], 0), (.ifCond .ne 8, 3, 41, [], 0)]),
  (36, [(.aload_n 0, 1, 0, [], 0), (.iconst 2, 1, 0, [], 2), (.invokevirtual 73, 3, 1, [(8, 85)], 0)]),
  (41, [(.return_, 1, 0, [], 0)])]
theorem ok_Session_giveBack : x_mok y_Session_giveBack (x_on 18) false b_Session_giveBack := x_chm_ok rfl (by decide) (by decide +kernel)
def b_Session_vanish : List (Nat × List XO) := [(0, [(.aload_n 0, 1, 0, [], 0), (.iconst 0, 1, 0, [], 0), (.putfield 20, 3, 7, [(8, 0)], 0), (.aload_n 0, 1, 0, [], 0), (.getfield 41, 3, 1, [(8, 2)], 0), (.iload_n 1, 1, 1, [], 0), (.iconst 0, 1, 0, [], 0), (.aload_n 0, 1, 0, [], 0), (.getfield 15, 3, 6, [(8, 0)], 0), (.invokevirtual 69, 3, 3, [(0, 40)], 0), (.return_, 1, 0, [], 0)])]
theorem ok_Session_vanish : x_mok y_Session_vanish (x_on 18) false b_Session_vanish := x_chm_ok rfl (by decide) (by decide +kernel)
def b_Singleton_giveBack : List (Nat × List XO) := [(0, [(.aload_n 0, 1, 0, [], 0), (.dup, 1, 0, [], 0), (.getfield 31, 3, 10, [(7, 0)], 0), (.iconst 1, 1, 0, [], 1), (.isub, 1, 0, [], 0), (.putfield 31, 3, 10, [(7, 0)], 0), (.iload_n 2, 1, 2, [], 0), (.iconst 1, 1, 0, [], 1), (.if_icmp .ne 13, 3, 25, [], 0), (.aload_n 0, 1, 0, [], 0), (.dup, 1, 0, [], 0), (.getfield 34, 3, 11, [(7, 0)], 0), (.iconst 1, 1, 0, [], 1), (.isub, 1, 0, [], 0), (.putfield 34, 3, 11, [(7, 0)], 0)]),
  (25, [(.return_, 1, 0, [], 0)])]
theorem ok_Singleton_giveBack : x_mok y_Singleton_giveBack (x_on 12) false b_Singleton_giveBack := x_chm_ok rfl (by decide) (by decide +kernel)
def b_H_endIfNoMethodIsLeft : List (Nat × List XO) := [(0, [(.iconst 0, 1, 0, [], 0), (.istore_n 1, 1, 1, [], 0)]),
  (2, [(.iload_n 1, 1, 1, [], 0), (.bipush 8, 2, 0, [], 8), (.if_icmp .ge 22, 3, 27, [], 0), (.aload_n 0, 1, 0, [], 0), (.getfield 32, 3, 3, [(10, 2)], 0), (.iload_n 1, 1, 1, [], 0), (.aaload, 1, 0, x_ald, 0), (.getfield 195, 3, 4, [(4, 0)], 0), (.ifCond .le 4, 3, 21, [], 0), (.return_, 1, 0, [], 0)]),
  (21, [(.iinc 1 1, 3, 1, [], 1), (.goto (-22), 3, 2, [], 0)]),
  (27, [(.aload_n 0, 1, 0, [], 0), (.invokevirtual 321, 3, 0, [(10, 88)], 0), (.return_, 1, 0, [], 0)])]
theorem ok_H_endIfNoMethodIsLeft : x_mok y_H_endIfNoMethodIsLeft (x_on 0) false b_H_endIfNoMethodIsLeft := x_chm_ok rfl (by decide) (by decide +kernel)
def b_H_endAll : List (Nat × List XO) := [(0, [(.aload_n 0, 1, 0, [], 0), (.iconst 3, 1, 0, [], 3), (.putfield 62, 3, 9, [(10, 0)], 0), (.iconst 0, 1, 0, [], 0), (.istore_n 1, 1, 1, [], 0)]),
  (7, [(.iload_n 1, 1, 1, [], 0), (.aload_n 0, 1, 0, [], 0), (.getfield 51, 3, 6, [(10, 2)], 0), (.invokevirtual 117, 3, 0, [(3, 19)], 0), (.if_icmp .ge 40, 3, 55, [], 0), (.aload_n 0, 1, 0, [], 0), (.getfield 51, 3, 6, [(10, 2)], 0), (.iload_n 1, 1, 1, [], 0), (.invokevirtual 176, 3, 1, [(3, 20)], 0), (.checkcast 120, 3, 0, [(8, 1)], 0), (.getfield 208, 3, 7, [(8, 0)], 0), (.ifCond .eq 17, 3, 49, [], 0), (.aload_n 0, 1, 0, [], 0), (.getfield 51, 3, 6, [(10, 2)], 0), (.iload_n 1, 1, 1, [], 0), (.invokevirtual 176, 3, 1, [(3, 20)], 0), (.checkcast 120, 3, 0, [(8, 1)], 0), (.invokevirtual 318, 3, 0, [(8, 89)], 0)]),
  (49, [(.iinc 1 1, 3, 1, [], 1), (.goto (-45), 3, 7, [], 0)]),
  (55, [(.iconst 0, 1, 0, [], 0), (.istore_n 1, 1, 1, [], 0)]),
  (57, [(.iload_n 1, 1, 1, [], 0), (.bipush 8, 2, 0, [], 8), (.if_icmp .ge 32, 3, 92, [], 0), (.aload_n 0, 1, 0, [], 0), (.getfield 38, 3, 4, [(10, 2)], 0), (.iload_n 1, 1, 1, [], 0), (.aaload, 1, 0, x_ald, 0), (.astore_n 3, 1, 3, [], 0), (.aload_n 3, 1, 3, [], 0), (.instanceof 75, 3, 0, [(0, 0), (1, 0), (2, 0), (3, 0), (4, 0), (5, 0), (6, 1), (7, 0), (8, 0), (9, 0), (10, 0), (11, 0)], 0), (.ifCond .eq 12, 3, 86, [], 0), (.aload_n 3, 1, 3, [], 0), (.checkcast 75, 3, 0, [(6, 1)], 0), (.astore_n 2, 1, 2, [], 0), (.aload_n 2, 1, 2, [], 0), (.invokevirtual 324, 3, 0, [(6, 90)], 0)]),
  (86, [(.iinc 1 1, 3, 1, [], 1), (.goto (-32), 3, 57, [], 0)]),
  (92, [(.iconst 0, 1, 0, [], 0), (.istore_n 1, 1, 1, [], 0)]),
  (94, [(.iload_n 1, 1, 1, [], 0), (.bipush 8, 2, 0, [], 8), (.if_icmp .ge 22, 3, 119, [], 0), (.aload_n 0, 1, 0, [], 0), (.invokevirtual 327, 3, 0, [(10, 92)], 0), (.astore_n 2, 1, 2, [], 0), (.aload_n 2, 1, 2, [], 0), (.ifnull 7, 3, 113, [], 0), (.aload_n 2, 1, 2, [], 0), (.invokevirtual 331, 3, 0, [(7, 93)], 0)]),
  (113, [(.iinc 1 1, 3, 1, [], 1), (.goto (-22), 3, 94, [], 0)]),
  (119, [(.return_, 1, 0, [], 0)])]
theorem ok_H_endAll : x_mok y_H_endAll (x_on 0) false b_H_endAll := x_chm_ok rfl (by decide) (by decide +kernel)
def b_Session_retire : List (Nat × List XO) := [(0, [(.aload_n 0, 1, 0, [], 0), (.aload_n 0, 1, 0, [], 0), (.getfield 20, 3, 7, [(8, 0)], 0), (.iconst 1, 1, 0, [], 1), (.if_icmp .ne 7, 3, 13, [], 0), (.iconst 2, 1, 0, [], 2), (.goto 5, 3, 15, [], 0)]),
  (13, [(.bipush 6, 2, 0, [], 6)]),
  (15, [(.invokevirtual 73, 3, 1, [(8, 85)], 0), (.return_, 1, 0, [], 0)])]
theorem ok_Session_retire : x_mok y_Session_retire (x_on 18) false b_Session_retire := x_chm_ok rfl (by decide) (by decide +kernel)
def b_Pool_destroyAll : List (Nat × List XO) := [(0, [(.iconst 0, 1, 0, [], 0), (.istore_n 1, 1, 1, [], 0)]),
  (2, [(.iload_n 1, 1, 1, [], 0), (.iconst 4, 1, 0, [], 4), (.if_icmp .ge 29, 3, 33, [], 0), (.aload_n 0, 1, 0, [], 0), (.getfield 15, 3, 6, [(6, 0)], 0), (.ifCond .le 22, 3, 33, [], 0), (.aload_n 0, 1, 0, [], 0), (.getfield 25, 3, 1, [(6, 2)], 0), (.iconst 2, 1, 0, [], 2), (.iconst 0, 1, 0, [], 0), (.aload_n 0, 1, 0, [], 0), (.invokevirtual 39, 3, 0, [(6, 91)], 0), (.invokevirtual 35, 3, 3, [(0, 40)], 0), (.iinc 1 1, 3, 1, [], 1), (.goto (-28), 3, 2, [], 0)]),
  (33, [(.aload_n 0, 1, 0, [], 0), (.iconst 0, 1, 0, [], 0), (.putfield 19, 3, 7, [(6, 0)], 0), (.return_, 1, 0, [], 0)])]
theorem ok_Pool_destroyAll : x_mok y_Pool_destroyAll (x_on 10) false b_Pool_destroyAll := x_chm_ok rfl (by decide) (by decide +kernel)
def b_Pool_takeLowest : List (Nat × List XO) := [(0, [(.iconst 0, 1, 0, [], 0), (.istore_n 1, 1, 1, [], 0), (.iconst 1, 1, 0, [], 1), (.istore_n 2, 1, 2, [], 0)]),
  (4, [(.iload_n 2, 1, 2, [], 0), (.aload_n 0, 1, 0, [], 0), (.getfield 15, 3, 6, [(6, 0)], 0), (.if_icmp .ge 26, 3, 35, [], 0), (.aload_n 0, 1, 0, [], 0), (.getfield 9, 3, 5, [(6, 2)], 0), (.iload_n 2, 1, 2, [], 0), (.iaload, 1, 0, [], 0), (.aload_n 0, 1, 0, [], 0), (.getfield 9, 3, 5, [(6, 2)], 0), (.iload_n 1, 1, 1, [], 0), (.iaload, 1, 0, [], 0), (.if_icmp .ge 5, 3, 29, [], 0), (.iload_n 2, 1, 2, [], 0), (.istore_n 1, 1, 1, [], 0)]),
  (29, [(.iinc 2 1, 3, 2, [], 1), (.goto (-28), 3, 4, [], 0)]),
  (35, [(.aload_n 0, 1, 0, [], 0), (.getfield 9, 3, 5, [(6, 2)], 0), (.iload_n 1, 1, 1, [], 0), (.iaload, 1, 0, [], 0), (.istore_n 2, 1, 2, [], 0), (.aload_n 0, 1, 0, [], 0), (.dup, 1, 0, [], 0), (.getfield 15, 3, 6, [(6, 0)], 0), (.iconst 1, 1, 0, [], 1), (.isub, 1, 0, [], 0), (.putfield 15, 3, 6, [(6, 0)], 0), (.aload_n 0, 1, 0, [], 0), (.getfield 9, 3, 5, [(6, 2)], 0), (.iload_n 1, 1, 1, [], 0), (.aload_n 0, 1, 0, [], 0), (.getfield 9, 3, 5, [(6, 2)], 0), (.aload_n 0, 1, 0, [], 0), (.getfield 15, 3, 6, [(6, 0)], 0), (.iaload, 1, 0, [], 0), (.iastore, 1, 0, [], 0), (.iload_n 2, 1, 2, [], 0), (.ireturn, 1, 0, [], 0)])]
theorem ok_Pool_takeLowest : x_mok y_Pool_takeLowest (x_on 10) false b_Pool_takeLowest := x_chm_ok rfl (by decide) (by decide +kernel)
def b_H_latestBegun : List (Nat × List XO) := [(0, [(.aconst_null, 1, 0, [], 0), (.astore_n 1, 1, 1, [], 0), (.iconst 0, 1, 0, [], 0), (.istore_n 2, 1, 2, [], 0)]),
  (4, [(.iload_n 2, 1, 2, [], 0), (.bipush 8, 2, 0, [], 8), (.if_icmp .ge 44, 3, 51, [], 0), (.aload_n 0, 1, 0, [], 0), (.iload_n 2, 1, 2, [], 0), (.invokevirtual 83, 3, 1, [(10, 16)], 0), (.astore_n 3, 1, 3, [], 0), (.aload_n 3, 1, 3, [], 0), (.ifnull 28, 3, 45, [], 0), (.aload_n 3, 1, 3, [], 0), (.getfield 220, 3, 9, [(7, 0)], 0), (.iconst (-1), 1, 0, [], (-1)), (.if_icmp .eq 20, 3, 45, [], 0), (.aload_n 1, 1, 1, [], 0), (.ifnull 14, 3, 43, [], 0), (.aload_n 3, 1, 3, [], 0), (.getfield 220, 3, 9, [(7, 0)], 0), (.aload_n 1, 1, 1, [], 0), (.getfield 220, 3, 9, [(7, 0)], 0), (.if_icmp .le 5, 3, 45, [], 0)]),
  (43, [(.aload_n 3, 1, 3, [], 0), (.astore_n 1, 1, 1, [], 0)]),
  (45, [(.iinc 2 1, 3, 2, [], 1), (.goto (-44), 3, 4, [], 0)]),
  (51, [(.aload_n 1, 1, 1, [], 0), (.areturn, 1, 0, [], 0)])]
theorem ok_H_latestBegun : x_mok y_H_latestBegun (x_on 0) false b_H_latestBegun := x_chm_ok rfl (by decide) (by decide +kernel)
def b_Singleton_destroy : List (Nat × List XO) := [(0, [(.aload_n 0, 1, 0, [], 0), (.getfield 59, 3, 1, [(7, 2)], 0), (.iconst 2, 1, 0, [], 2), (.iconst 0, 1, 0, [], 0), (.aload_n 0, 1, 0, [], 0), (.getfield 27, 3, 9, [(7, 0)], 0), (.invokevirtual 77, 3, 3, [(0, 40)], 0), (.aload_n 0, 1, 0, [], 0), (.iconst (-1), 1, 0, [], (-1)), (.putfield 27, 3, 9, [(7, 0)], 0), (.return_, 1, 0, [], 0)])]
theorem ok_Singleton_destroy : x_mok y_Singleton_destroy (x_on 12) false b_Singleton_destroy := x_chm_ok rfl (by decide) (by decide +kernel)
def b_H_tick : List (Nat × List XO) := [(0, [(.aload_n 0, 1, 0, [], 0), (.getfield 62, 3, 9, [(10, 0)], 0), (.iconst 1, 1, 0, [], 1), (.if_icmp .ne 13, 3, 18, [], 0), (.iload_n 1, 1, 1, [], 0), (.ifCond .lt 9, 3, 18, [], 0), (.iload_n 1, 1, 1, [], 0), (.bipush 50, 2, 0, [], 50), (.if_icmp .le 5, 3, 20, [], 0)]),
  (18, [(.iconst (-1), 1, 0, [], (-1)), (.ireturn, 1, 0, [], 0)]),
  (20, [(.iconst 0, 1, 0, [], 0), (.istore_n 2, 1, 2, [], 0), (.iconst 0, 1, 0, [], 0), (.istore_n 3, 1, 3, [], 0), (.iconst 0, 1, 0, [], 0), (.istore 4, 2, 4, [], 0)]),
  (27, [(.iload 4, 2, 4, [], 0), (.iload_n 1, 1, 1, [], 0), (.if_icmp .ge 40, 3, 70, [], 0), (.aload_n 0, 1, 0, [], 0), (.getfield 19, 3, 1, [(10, 2)], 0), (.dup, 1, 0, [], 0), (.getfield 162, 3, 0, [(1, 0)], 0), (.iconst 1, 1, 0, [], 1), (.iadd, 1, 0, [], 0), (.putfield 162, 3, 0, [(1, 0)], 0), (.iload_n 2, 1, 2, [], 0), (.aload_n 0, 1, 0, [], 0), (.invokevirtual 165, 3, 0, [(10, 95)], 0), (.iadd, 1, 0, [], 0), (.istore_n 2, 1, 2, [], 0), (.aload_n 0, 1, 0, [], 0), (.invokevirtual 129, 3, 0, [(10, 47)], 0), (.iload_n 3, 1, 3, [], 0), (.aload_n 0, 1, 0, [], 0), (.invokevirtual 168, 3, 0, [(10, 97)], 0), (.iadd, 1, 0, [], 0), (.istore_n 3, 1, 3, [], 0), (.iinc 4 1, 3, 4, [], 1), (.goto (-40), 3, 27, [], 0)]),
  (70, [(.iload_n 2, 1, 2, [], 0), (.bipush 100, 2, 0, [], 100), (.iload_n 3, 1, 3, [], 0), (.imul, 1, 0, [], 0), (.iadd, 1, 0, [], 0), (.ireturn, 1, 0, [], 0)])]
theorem ok_H_tick : x_mok y_H_tick (x_on 0) false b_H_tick := x_chm_ok rfl (by decide) (by decide +kernel)
def b_H_timeOutCallers : List (Nat × List XO) := [(0, [(.iconst 0, 1, 0, [], 0), (.istore_n 1, 1, 1, [], 0), (.iconst 0, 1, 0, [], 0), (.istore_n 2, 1, 2, [], 0)]),
  (4, [(.iload_n 2, 1, 2, [], 0), (.bipush 8, 2, 0, [], 8), (.if_icmp .ge 51, 3, 58, [], 0), (.aload_n 0, 1, 0, [], 0), (.getfield 32, 3, 3, [(10, 2)], 0), (.iload_n 2, 1, 2, [], 0), (.aaload, 1, 0, x_ald, 0), (.aload_n 0, 1, 0, [], 0), (.getfield 19, 3, 1, [(10, 2)], 0), (.getfield 162, 3, 0, [(1, 0)], 0), (.invokevirtual 312, 3, 1, [(4, 96)], 0), (.ifCond .eq 26, 3, 52, [], 0), (.aload_n 0, 1, 0, [], 0), (.getfield 32, 3, 3, [(10, 2)], 0), (.iload_n 2, 1, 2, [], 0), (.aaload, 1, 0, x_ald, 0), (.invokevirtual 189, 3, 0, [(4, 55)], 0), (.aload_n 0, 1, 0, [], 0), (.getfield 32, 3, 3, [(10, 2)], 0), (.iload_n 2, 1, 2, [], 0), (.aaload, 1, 0, x_ald, 0), (.bipush 10, 2, 0, [], 10), (.invokevirtual 192, 3, 1, [(4, 63)], 0), (.iinc 1 1, 3, 1, [], 1)]),
  (52, [(.iinc 2 1, 3, 2, [], 1), (.goto (-51), 3, 4, [], 0)]),
  (58, [(.iload_n 1, 1, 1, [], 0), (.ireturn, 1, 0, [], 0)])]
theorem ok_H_timeOutCallers : x_mok y_H_timeOutCallers (x_on 0) false b_H_timeOutCallers := x_chm_ok rfl (by decide) (by decide +kernel)
def b_Caller_hasWaitedOut : List (Nat × List XO) := [(0, [(.aload_n 0, 1, 0, [], 0), (.getfield 28, 3, 5, [(4, 2)], 0), (.ifnull 14, 3, 18, [], 0), (.aload_n 0, 1, 0, [], 0), (.getfield 28, 3, 5, [(4, 2)], 0), (.getfield 73, 3, 2, [(6, 0), (7, 0), (8, 0)], 0), (.iconst (-1), 1, 0, [], (-1)), (.if_icmp .ne 5, 3, 20, [], 0)]),
  (18, [(.iconst 0, 1, 0, [], 0), (.ireturn, 1, 1, [], 0)]),
  (20, [(.aload_n 0, 1, 0, [], 0), (.getfield 35, 3, 7, [(4, 0)], 0), (.iload_n 1, 1, 1, [], 0), (.aload_n 0, 1, 0, [], 0), (.getfield 28, 3, 5, [(4, 2)], 0), (.getfield 73, 3, 2, [(6, 0), (7, 0), (8, 0)], 0), (.isub, 1, 0, [], 0), (.if_icmp .gt 7, 3, 40, [], 0), (.iconst 1, 1, 0, [], 1), (.goto 4, 3, 41, [], 0)]),
  (40, [(.iconst 0, 1, 0, [], 0)]),
  (41, [(.ireturn, 1, 1, [], 0)])]
theorem ok_Caller_hasWaitedOut : x_mok y_Caller_hasWaitedOut (x_on 8) false b_Caller_hasWaitedOut := x_chm_ok rfl (by decide) (by decide +kernel)
def b_H_retireIdleSessions : List (Nat × List XO) := [(0, [(.iconst 0, 1, 0, [], 0), (.istore_n 1, 1, 1, [], 0), (.iconst 0, 1, 0, [], 0), (.istore_n 2, 1, 2, [], 0)]),
  (4, [(.iload_n 2, 1, 2, [], 0), (.aload_n 0, 1, 0, [], 0), (.getfield 51, 3, 6, [(10, 2)], 0), (.invokevirtual 117, 3, 0, [(3, 19)], 0), (.if_icmp .ge 43, 3, 55, [], 0), (.aload_n 0, 1, 0, [], 0), (.getfield 51, 3, 6, [(10, 2)], 0), (.iload_n 2, 1, 2, [], 0), (.invokevirtual 176, 3, 1, [(3, 20)], 0), (.checkcast 120, 3, 0, [(8, 1)], 0), (.invokevirtual 315, 3, 0, [(8, 98)], 0), (.ifCond .eq 20, 3, 49, [], 0), (.aload_n 0, 1, 0, [], 0), (.getfield 51, 3, 6, [(10, 2)], 0), (.iload_n 2, 1, 2, [], 0), (.invokevirtual 176, 3, 1, [(3, 20)], 0), (.checkcast 120, 3, 0, [(8, 1)], 0), (.invokevirtual 318, 3, 0, [(8, 89)], 0), (.iinc 1 1, 3, 1, [], 1)]),
  (49, [(.iinc 2 1, 3, 2, [], 1), (.goto (-48), 3, 4, [], 0)]),
  (55, [(.iload_n 1, 1, 1, [], 0), (.ireturn, 1, 0, [], 0)])]
theorem ok_H_retireIdleSessions : x_mok y_H_retireIdleSessions (x_on 0) false b_H_retireIdleSessions := x_chm_ok rfl (by decide) (by decide +kernel)
def b_Session_isIdleTooLong : List (Nat × List XO) := [(0, [(.aload_n 0, 1, 0, [], 0), (.getfield 20, 3, 7, [(8, 0)], 0), (.ifCond .eq 20, 3, 24, [], 0), (.aload_n 0, 1, 0, [], 0), (.getfield 23, 3, 8, [(8, 1)], 0), (.ifCond .ne 13, 3, 24, [], 0), (.aload_n 0, 1, 0, [], 0), (.getfield 33, 3, 4, [(8, 2)], 0), (.getfield 77, 3, 3, [(5, 0)], 0), (.ifCond .ne 5, 3, 26, [], 0)]),
  (24, [(.iconst 0, 1, 0, [], 0), (.ireturn, 1, 1, [], 0)]),
  (26, [(.aload_n 0, 1, 0, [], 0), (.getfield 30, 3, 10, [(8, 0)], 0), (.aload_n 0, 1, 0, [], 0), (.getfield 37, 3, 5, [(8, 2)], 0), (.getfield 60, 3, 0, [(1, 0)], 0), (.aload_n 0, 1, 0, [], 0), (.getfield 33, 3, 4, [(8, 2)], 0), (.getfield 77, 3, 3, [(5, 0)], 0), (.isub, 1, 0, [], 0), (.if_icmp .gt 7, 3, 52, [], 0), (.iconst 1, 1, 0, [], 1), (.goto 4, 3, 53, [], 0)]),
  (52, [(.iconst 0, 1, 0, [], 0)]),
  (53, [(.ireturn, 1, 1, [], 0)])]
theorem ok_Session_isIdleTooLong : x_mok y_Session_isIdleTooLong (x_on 18) false b_Session_isIdleTooLong := x_chm_ok rfl (by decide) (by decide +kernel)
def b_H_submit : List (Nat × List XO) := [(0, [(.aload_n 0, 1, 0, [], 0), (.iload_n 1, 1, 1, [], 0), (.invokevirtual 136, 3, 1, [(10, 17)], 0), (.astore 4, 2, 4, [], 0), (.aload_n 0, 1, 0, [], 0), (.getfield 62, 3, 9, [(10, 0)], 0), (.iconst 1, 1, 0, [], 1), (.if_icmp .ne 29, 3, 41, [], 0), (.aload 4, 2, 4, [], 0), (.ifnull 24, 3, 41, [], 0), (.aload 4, 2, 4, [], 0), (.iload_n 2, 1, 2, [], 0), (.invokevirtual 144, 3, 1, [(6, 78), (7, 78), (8, 78)], 0), (.ifCond .eq 15, 3, 41, [], 0), (.aload_n 0, 1, 0, [], 0), (.getfield 55, 3, 7, [(10, 2)], 0), (.invokevirtual 117, 3, 0, [(3, 19)], 0), (.bipush 24, 2, 0, [], 24), (.if_icmp .lt 5, 3, 43, [], 0)]),
  (41, [(.iconst (-1), 1, 0, [], (-1)), (.ireturn, 1, 0, [], 0)]),
  (43, [(.aload_n 0, 1, 0, [], 0), (.getfield 55, 3, 7, [(10, 2)], 0), (.invokevirtual 117, 3, 0, [(3, 19)], 0), (.istore 5, 2, 5, [], 0), (.aload_n 0, 1, 0, [], 0), (.getfield 55, 3, 7, [(10, 2)], 0), (.new 171, 3, 9, [], 0), (.dup, 1, 0, [], 0), (.aload 4, 2, 4, [], 0), (.iload_n 2, 1, 2, [], 0), (.iload_n 3, 1, 3, [], 0), (.invokespecial 173, 3, 100, [(3, 0)], 0), (.invokevirtual 98, 3, 1, [(3, 25)], 0), (.pop, 1, 0, [], 0), (.aload_n 0, 1, 0, [], 0), (.invokevirtual 129, 3, 0, [(10, 47)], 0), (.iload 5, 2, 5, [], 0), (.ireturn, 1, 0, [], 0)])]
theorem ok_H_submit : x_mok y_H_submit (x_on 0) false b_H_submit := x_chm_ok rfl (by decide) (by decide +kernel)
def b_Task_init : List (Nat × List XO) := [(0, [(.aload_n 0, 1, 0, [], 0), (.invokespecial 3, 3, 0, [], 0), (.aload_n 0, 1, 0, [], 0), (.iconst 1, 1, 0, [], 1), (.putfield 11, 3, 3, [(9, 0)], 0), (.aload_n 0, 1, 0, [], 0), (.iconst 0, 1, 0, [], 0), (.putfield 15, 3, 4, [(9, 1)], 0), (.aload_n 0, 1, 0, [], 0), (.iconst (-1), 1, 0, [], (-1)), (.putfield 19, 3, 5, [(9, 0)], 0), (.aload_n 0, 1, 0, [], 0), (.aload_n 1, 1, 1, [], 0), (.putfield 22, 3, 0, [(9, 2)], 0), (.aload_n 0, 1, 0, [], 0), (.iload_n 2, 1, 2, [], 0), (.putfield 26, 3, 1, [(9, 0)], 0), (.aload_n 0, 1, 0, [], 0), (.iload_n 3, 1, 3, [], 0), (.putfield 29, 3, 2, [(9, 1)], 0), (.return_, 1, 0, [], 0)])]
theorem ok_Task_init : x_mok y_Task_init (x_on 19) true b_Task_init := x_chm_ok rfl (fun _ => rfl) (by decide +kernel)
def b_H_cancel : List (Nat × List XO) := [(0, [(.iload_n 1, 1, 1, [], 0), (.ifCond .lt 14, 3, 15, [], 0), (.iload_n 1, 1, 1, [], 0), (.aload_n 0, 1, 0, [], 0), (.getfield 55, 3, 7, [(10, 2)], 0), (.invokevirtual 117, 3, 0, [(3, 19)], 0), (.if_icmp .lt 5, 3, 17, [], 0)]),
  (15, [(.iconst 0, 1, 0, [], 0), (.ireturn, 1, 0, [], 0)]),
  (17, [(.aload_n 0, 1, 0, [], 0), (.getfield 55, 3, 7, [(10, 2)], 0), (.iload_n 1, 1, 1, [], 0), (.invokevirtual 176, 3, 1, [(3, 20)], 0), (.checkcast 171, 3, 0, [(9, 1)], 0), (.invokevirtual 180, 3, 0, [(9, 102)], 0), (.ireturn, 1, 0, [], 0)])]
theorem ok_H_cancel : x_mok y_H_cancel (x_on 0) false b_H_cancel := x_chm_ok rfl (by decide) (by decide +kernel)
def b_Task_calledOff : List (Nat × List XO) := [(0, [(.aload_n 0, 1, 0, [], 0), (.getfield 11, 3, 3, [(9, 0)], 0), (.iconst 1, 1, 0, [], 1), (.if_icmp .ne 10, 3, 15, [], 0), (.aload_n 0, 1, 0, [], 0), (.iconst 3, 1, 0, [], 3), (.putfield 11, 3, 3, [(9, 0)], 0), (.iconst 1, 1, 0, [], 1), (.ireturn, 1, 0, [], 0)]),
  (15, [(.aload_n 0, 1, 0, [], 0), (.getfield 11, 3, 3, [(9, 0)], 0), (.iconst 2, 1, 0, [], 2), (.if_icmp .ne 10, 3, 30, [], 0), (.aload_n 0, 1, 0, [], 0), (.iconst 1, 1, 0, [], 1), (.putfield 15, 3, 4, [(9, 1)], 0), (.iconst 2, 1, 0, [], 2), (.ireturn, 1, 0, [], 0)]),
  (30, [(.iconst 0, 1, 0, [], 0), (.ireturn, 1, 0, [], 0)])]
theorem ok_Task_calledOff : x_mok y_Task_calledOff (x_on 19) false b_Task_calledOff := x_chm_ok rfl (by decide) (by decide +kernel)
def b_H_shutdown : List (Nat × List XO) := [(0, [(.aload_n 0, 1, 0, [], 0), (.getfield 62, 3, 9, [(10, 0)], 0), (.iconst 1, 1, 0, [], 1), (.if_icmp .eq 5, 3, 10, [], 0), (.iconst (-1), 1, 0, [], (-1)), (.ireturn, 1, 0, [], 0)]),
  (10, [(.iconst 0, 1, 0, [], 0), (.istore_n 1, 1, 1, [], 0)]),
  (12, [(.iload_n 1, 1, 1, [], 0), (.aload_n 0, 1, 0, [], 0), (.getfield 55, 3, 7, [(10, 2)], 0), (.invokevirtual 117, 3, 0, [(3, 19)], 0), (.if_icmp .ge 23, 3, 43, [], 0), (.aload_n 0, 1, 0, [], 0), (.getfield 55, 3, 7, [(10, 2)], 0), (.iload_n 1, 1, 1, [], 0), (.invokevirtual 176, 3, 1, [(3, 20)], 0), (.checkcast 171, 3, 0, [(9, 1)], 0), (.invokevirtual 183, 3, 0, [(9, 104)], 0), (.iinc 1 1, 3, 1, [], 1), (.goto (-28), 3, 12, [], 0)]),
  (43, [(.iconst 0, 1, 0, [], 0), (.istore_n 1, 1, 1, [], 0), (.iconst 0, 1, 0, [], 0), (.istore_n 2, 1, 2, [], 0)]),
  (47, [(.iload_n 2, 1, 2, [], 0), (.bipush 8, 2, 0, [], 8), (.if_icmp .ge 44, 3, 94, [], 0), (.aload_n 0, 1, 0, [], 0), (.getfield 32, 3, 3, [(10, 2)], 0), (.iload_n 2, 1, 2, [], 0), (.aaload, 1, 0, x_ald, 0), (.invokevirtual 186, 3, 0, [(4, 77)], 0), (.ifCond .eq 26, 3, 88, [], 0), (.aload_n 0, 1, 0, [], 0), (.getfield 32, 3, 3, [(10, 2)], 0), (.iload_n 2, 1, 2, [], 0), (.aaload, 1, 0, x_ald, 0), (.invokevirtual 189, 3, 0, [(4, 55)], 0), (.aload_n 0, 1, 0, [], 0), (.getfield 32, 3, 3, [(10, 2)], 0), (.iload_n 2, 1, 2, [], 0), (.aaload, 1, 0, x_ald, 0), (.bipush 13, 2, 0, [], 13), (.invokevirtual 192, 3, 1, [(4, 63)], 0), (.iinc 1 1, 3, 1, [], 1)]),
  (88, [(.iinc 2 1, 3, 2, [], 1), (.goto (-44), 3, 47, [], 0)]),
  (94, [(.aload_n 0, 1, 0, [], 0), (.iconst 2, 1, 0, [], 2), (.putfield 62, 3, 9, [(10, 0)], 0), (.aload_n 0, 1, 0, [], 0), (.invokevirtual 159, 3, 0, [(10, 87)], 0), (.iload_n 1, 1, 1, [], 0), (.ireturn, 1, 0, [], 0)])]
theorem ok_H_shutdown : x_mok y_H_shutdown (x_on 0) false b_H_shutdown := x_chm_ok rfl (by decide) (by decide +kernel)
def b_Task_dropIfWaiting : List (Nat × List XO) := [(0, [(.aload_n 0, 1, 0, [], 0), (.getfield 11, 3, 3, [(9, 0)], 0), (.iconst 1, 1, 0, [], 1), (.if_icmp .ne 8, 3, 13, [], 0), (.aload_n 0, 1, 0, [], 0), (.iconst 3, 1, 0, [], 3), (.putfield 11, 3, 3, [(9, 0)], 0)]),
  (13, [(.return_, 1, 0, [], 0)])]
theorem ok_Task_dropIfWaiting : x_mok y_Task_dropIfWaiting (x_on 19) false b_Task_dropIfWaiting := x_chm_ok rfl (by decide) (by decide +kernel)
def b_H_state : List (Nat × List XO) := [(0, [(.aload_n 0, 1, 0, [], 0), (.iload_n 1, 1, 1, [], 0), (.invokevirtual 132, 3, 1, [(10, 75)], 0), (.astore_n 2, 1, 2, [], 0), (.aload_n 2, 1, 2, [], 0), (.ifnonnull 5, 3, 12, [], 0), (.iconst (-1), 1, 0, [], (-1)), (.ireturn, 1, 0, [], 0)]),
  (12, [(.aload_n 2, 1, 2, [], 0), (.invokevirtual 186, 3, 0, [(4, 77)], 0), (.ifCond .eq 13, 3, 29, [], 0), (.aload_n 2, 1, 2, [], 0), (.getfield 195, 3, 4, [(4, 0)], 0), (.bipush 8, 2, 0, [], 8), (.iadd, 1, 0, [], 0), (.goto 7, 3, 33, [], 0)]),
  (29, [(.aload_n 2, 1, 2, [], 0), (.getfield 195, 3, 4, [(4, 0)], 0)]),
  (33, [(.ireturn, 1, 0, [], 0)])]
theorem ok_H_state : x_mok y_H_state (x_on 0) false b_H_state := x_chm_ok rfl (by decide) (by decide +kernel)
def b_H_result : List (Nat × List XO) := [(0, [(.aload_n 0, 1, 0, [], 0), (.iload_n 1, 1, 1, [], 0), (.invokevirtual 132, 3, 1, [(10, 75)], 0), (.astore_n 2, 1, 2, [], 0), (.aload_n 2, 1, 2, [], 0), (.ifnonnull 7, 3, 14, [], 0), (.iconst (-1), 1, 0, [], (-1)), (.goto 7, 3, 18, [], 0)]),
  (14, [(.aload_n 2, 1, 2, [], 0), (.getfield 198, 3, 8, [(4, 0)], 0)]),
  (18, [(.ireturn, 1, 0, [], 0)])]
theorem ok_H_result : x_mok y_H_result (x_on 0) false b_H_result := x_chm_ok rfl (by decide) (by decide +kernel)
def b_H_instance : List (Nat × List XO) := [(0, [(.aload_n 0, 1, 0, [], 0), (.iload_n 1, 1, 1, [], 0), (.invokevirtual 132, 3, 1, [(10, 75)], 0), (.astore_n 2, 1, 2, [], 0), (.aload_n 2, 1, 2, [], 0), (.ifnull 10, 3, 17, [], 0), (.aload_n 2, 1, 2, [], 0), (.getfield 195, 3, 4, [(4, 0)], 0), (.ifCond .ne 7, 3, 21, [], 0)]),
  (17, [(.iconst (-1), 1, 0, [], (-1)), (.goto 14, 3, 32, [], 0)]),
  (21, [(.aload_n 2, 1, 2, [], 0), (.getfield 201, 3, 2, [(4, 2)], 0), (.aload_n 2, 1, 2, [], 0), (.getfield 195, 3, 4, [(4, 0)], 0), (.iconst 1, 1, 0, [], 1), (.isub, 1, 0, [], 0), (.iaload, 1, 0, [], 0)]),
  (32, [(.ireturn, 1, 0, [], 0)])]
theorem ok_H_instance : x_mok y_H_instance (x_on 0) false b_H_instance := x_chm_ok rfl (by decide) (by decide +kernel)
def b_H_session : List (Nat × List XO) := [(0, [(.iload_n 1, 1, 1, [], 0), (.ifCond .lt 14, 3, 15, [], 0), (.iload_n 1, 1, 1, [], 0), (.aload_n 0, 1, 0, [], 0), (.getfield 51, 3, 6, [(10, 2)], 0), (.invokevirtual 117, 3, 0, [(3, 19)], 0), (.if_icmp .lt 5, 3, 17, [], 0)]),
  (15, [(.iconst 0, 1, 0, [], 0), (.ireturn, 1, 0, [], 0)]),
  (17, [(.aload_n 0, 1, 0, [], 0), (.getfield 51, 3, 6, [(10, 2)], 0), (.iload_n 1, 1, 1, [], 0), (.invokevirtual 176, 3, 1, [(3, 20)], 0), (.checkcast 120, 3, 0, [(8, 1)], 0), (.astore_n 2, 1, 2, [], 0), (.aload_n 2, 1, 2, [], 0), (.getfield 205, 3, 8, [(8, 1)], 0), (.ifCond .eq 7, 3, 40, [], 0), (.iconst 2, 1, 0, [], 2), (.goto 7, 3, 44, [], 0)]),
  (40, [(.aload_n 2, 1, 2, [], 0), (.getfield 208, 3, 7, [(8, 0)], 0)]),
  (44, [(.ireturn, 1, 0, [], 0)])]
theorem ok_H_session : x_mok y_H_session (x_on 0) false b_H_session := x_chm_ok rfl (by decide) (by decide +kernel)
def b_H_task : List (Nat × List XO) := [(0, [(.iload_n 1, 1, 1, [], 0), (.ifCond .lt 14, 3, 15, [], 0), (.iload_n 1, 1, 1, [], 0), (.aload_n 0, 1, 0, [], 0), (.getfield 55, 3, 7, [(10, 2)], 0), (.invokevirtual 117, 3, 0, [(3, 19)], 0), (.if_icmp .lt 5, 3, 17, [], 0)]),
  (15, [(.iconst 0, 1, 0, [], 0), (.ireturn, 1, 0, [], 0)]),
  (17, [(.aload_n 0, 1, 0, [], 0), (.getfield 55, 3, 7, [(10, 2)], 0), (.iload_n 1, 1, 1, [], 0), (.invokevirtual 176, 3, 1, [(3, 20)], 0), (.checkcast 171, 3, 0, [(9, 1)], 0), (.invokevirtual 211, 3, 0, [(9, 110)], 0), (.ireturn, 1, 0, [], 0)])]
theorem ok_H_task : x_mok y_H_task (x_on 0) false b_H_task := x_chm_ok rfl (by decide) (by decide +kernel)
def b_Task_describe : List (Nat × List XO) := [(0, [(.aload_n 0, 1, 0, [], 0), (.getfield 15, 3, 4, [(9, 1)], 0), (.ifCond .eq 13, 3, 17, [], 0), (.aload_n 0, 1, 0, [], 0), (.getfield 11, 3, 3, [(9, 0)], 0), (.bipush 8, 2, 0, [], 8), (.iadd, 1, 0, [], 0), (.goto 7, 3, 21, [], 0)]),
  (17, [(.aload_n 0, 1, 0, [], 0), (.getfield 11, 3, 3, [(9, 0)], 0)]),
  (21, [(.istore_n 1, 1, 1, [], 0), (.aload_n 0, 1, 0, [], 0), (.getfield 11, 3, 3, [(9, 0)], 0), (.iconst 4, 1, 0, [], 4), (.if_icmp .ne 24, 3, 51, [], 0), (.aload_n 0, 1, 0, [], 0), (.getfield 29, 3, 2, [(9, 1)], 0), (.ifCond .eq 17, 3, 51, [], 0), (.iload_n 1, 1, 1, [], 0), (.bipush 16, 2, 0, [], 16), (.aload_n 0, 1, 0, [], 0), (.getfield 19, 3, 5, [(9, 0)], 0), (.iconst 1, 1, 0, [], 1), (.iadd, 1, 0, [], 0), (.imul, 1, 0, [], 0), (.iadd, 1, 0, [], 0), (.goto 4, 3, 52, [], 0)]),
  (51, [(.iload_n 1, 1, 1, [], 0)]),
  (52, [(.ireturn, 1, 0, [], 0)])]
theorem ok_Task_describe : x_mok y_Task_describe (x_on 19) false b_Task_describe := x_chm_ok rfl (by decide) (by decide +kernel)
def b_H_instances : List (Nat × List XO) := [(0, [(.iload_n 1, 1, 1, [], 0), (.ifCond .lt 11, 3, 12, [], 0), (.iload_n 1, 1, 1, [], 0), (.aload_n 0, 1, 0, [], 0), (.getfield 58, 3, 8, [(10, 0)], 0), (.if_icmp .lt 5, 3, 14, [], 0)]),
  (12, [(.iconst (-1), 1, 0, [], (-1)), (.ireturn, 1, 0, [], 0)]),
  (14, [(.aload_n 0, 1, 0, [], 0), (.getfield 44, 3, 5, [(10, 2)], 0), (.iload_n 1, 1, 1, [], 0), (.aaload, 1, 0, x_ald, 0), (.ifnull 13, 3, 33, [], 0), (.aload_n 0, 1, 0, [], 0), (.getfield 44, 3, 5, [(10, 2)], 0), (.iload_n 1, 1, 1, [], 0), (.aaload, 1, 0, x_ald, 0), (.invokevirtual 214, 3, 0, [(5, 71)], 0), (.ireturn, 1, 0, [], 0)]),
  (33, [(.aload_n 0, 1, 0, [], 0), (.getfield 38, 3, 4, [(10, 2)], 0), (.iload_n 1, 1, 1, [], 0), (.aaload, 1, 0, x_ald, 0), (.astore_n 3, 1, 3, [], 0), (.aload_n 3, 1, 3, [], 0), (.instanceof 75, 3, 0, [(0, 0), (1, 0), (2, 0), (3, 0), (4, 0), (5, 0), (6, 1), (7, 0), (8, 0), (9, 0), (10, 0), (11, 0)], 0), (.ifCond .eq 13, 3, 57, [], 0), (.aload_n 3, 1, 3, [], 0), (.checkcast 75, 3, 0, [(6, 1)], 0), (.astore_n 2, 1, 2, [], 0), (.aload_n 2, 1, 2, [], 0), (.getfield 217, 3, 7, [(6, 0)], 0), (.ireturn, 1, 0, [], 0)]),
  (57, [(.aload_n 0, 1, 0, [], 0), (.iload_n 1, 1, 1, [], 0), (.invokevirtual 83, 3, 1, [(10, 16)], 0), (.astore_n 2, 1, 2, [], 0), (.aload_n 2, 1, 2, [], 0), (.ifnull 15, 3, 79, [], 0), (.aload_n 2, 1, 2, [], 0), (.getfield 220, 3, 9, [(7, 0)], 0), (.iconst (-1), 1, 0, [], (-1)), (.if_icmp .eq 7, 3, 79, [], 0), (.iconst 1, 1, 0, [], 1), (.goto 4, 3, 80, [], 0)]),
  (79, [(.iconst 0, 1, 0, [], 0)]),
  (80, [(.ireturn, 1, 0, [], 0)])]
theorem ok_H_instances : x_mok y_H_instances (x_on 0) false b_H_instances := x_chm_ok rfl (by decide) (by decide +kernel)
def b_H_waiting : List (Nat × List XO) := [(0, [(.aload_n 0, 1, 0, [], 0), (.iload_n 1, 1, 1, [], 0), (.invokevirtual 136, 3, 1, [(10, 17)], 0), (.astore_n 2, 1, 2, [], 0), (.aload_n 2, 1, 2, [], 0), (.ifnonnull 7, 3, 14, [], 0), (.iconst (-1), 1, 0, [], (-1)), (.goto 10, 3, 21, [], 0)]),
  (14, [(.aload_n 2, 1, 2, [], 0), (.getfield 223, 3, 0, [(6, 2), (7, 2), (8, 2)], 0), (.invokevirtual 117, 3, 0, [(3, 19)], 0)]),
  (21, [(.ireturn, 1, 0, [], 0)])]
theorem ok_H_waiting : x_mok y_H_waiting (x_on 0) false b_H_waiting := x_chm_ok rfl (by decide) (by decide +kernel)
def b_H_events : List (Nat × List XO) := [(0, [(.aload_n 0, 1, 0, [], 0), (.getfield 10, 3, 0, [(10, 2)], 0), (.getfield 226, 3, 1, [(0, 0)], 0), (.ireturn, 1, 0, [], 0)])]
theorem ok_H_events : x_mok y_H_events (x_on 0) false b_H_events := x_chm_ok rfl (by decide) (by decide +kernel)
def b_H_event : List (Nat × List XO) := [(0, [(.aload_n 0, 1, 0, [], 0), (.getfield 10, 3, 0, [(10, 2)], 0), (.iload_n 1, 1, 1, [], 0), (.invokevirtual 229, 3, 1, [(0, 115)], 0), (.ireturn, 1, 0, [], 0)])]
theorem ok_H_event : x_mok y_H_event (x_on 0) false b_H_event := x_chm_ok rfl (by decide) (by decide +kernel)
def b_Journal_back : List (Nat × List XO) := [(0, [(.iload_n 1, 1, 1, [], 0), (.ifCond .lt 17, 3, 18, [], 0), (.iload_n 1, 1, 1, [], 0), (.bipush 64, 2, 0, [], 64), (.if_icmp .ge 11, 3, 18, [], 0), (.iload_n 1, 1, 1, [], 0), (.aload_n 0, 1, 0, [], 0), (.getfield 15, 3, 1, [(0, 0)], 0), (.if_icmp .lt 5, 3, 20, [], 0)]),
  (18, [(.iconst (-1), 1, 0, [], (-1)), (.ireturn, 1, 0, [], 0)]),
  (20, [(.aload_n 0, 1, 0, [], 0), (.getfield 11, 3, 0, [(0, 2)], 0), (.aload_n 0, 1, 0, [], 0), (.getfield 15, 3, 1, [(0, 0)], 0), (.iconst 1, 1, 0, [], 1), (.isub, 1, 0, [], 0), (.iload_n 1, 1, 1, [], 0), (.isub, 1, 0, [], 0), (.bipush 63, 2, 0, [], 63), (.iand, 1, 0, [], 0), (.iaload, 1, 0, [], 0), (.ireturn, 1, 0, [], 0)])]
theorem ok_Journal_back : x_mok y_Journal_back (x_on 2) false b_Journal_back := x_chm_ok rfl (by decide) (by decide +kernel)
end
section
/-! Printed by wip/whole/gen.py: the methods, block by block. -/
def b_R_init : List (Nat × List XO) := [(0, [(.aload_n 0, 1, 0, [], 0), (.invokespecial 1, 3, 0, [], 0), (.aload_n 0, 1, 0, [], 0), (.bipush 8, 2, 0, [], 8), (.newarray .int, 2, 0, [], 0), (.putfield 7, 3, 3, [(11, 2)], 0), (.aload_n 0, 1, 0, [], 0), (.bipush 8, 2, 0, [], 8), (.newarray .int, 2, 0, [], 0), (.putfield 13, 3, 4, [(11, 2)], 0), (.aload_n 0, 1, 0, [], 0), (.bipush 8, 2, 0, [], 8), (.newarray .int, 2, 0, [], 0), (.putfield 16, 3, 5, [(11, 2)], 0), (.aload_n 0, 1, 0, [], 0), (.bipush 8, 2, 0, [], 8), (.newarray .int, 2, 0, [], 0), (.putfield 19, 3, 6, [(11, 2)], 0), (.aload_n 0, 1, 0, [], 0), (.bipush 64, 2, 0, [], 64), (.newarray .int, 2, 0, [], 0), (.putfield 22, 3, 7, [(11, 2)], 0), (.aload_n 0, 1, 0, [], 0), (.bipush 8, 2, 0, [], 8), (.newarray .int, 2, 0, [], 0), (.putfield 25, 3, 8, [(11, 2)], 0), (.aload_n 0, 1, 0, [], 0), (.bipush 8, 2, 0, [], 8), (.newarray .int, 2, 0, [], 0), (.putfield 28, 3, 9, [(11, 2)], 0), (.aload_n 0, 1, 0, [], 0), (.bipush 8, 2, 0, [], 8), (.newarray .int, 2, 0, [], 0), (.putfield 31, 3, 10, [(11, 2)], 0), (.aload_n 0, 1, 0, [], 0), (.bipush 8, 2, 0, [], 8), (.newarray .int, 2, 0, [], 0), (.putfield 34, 3, 11, [(11, 2)], 0), (.aload_n 0, 1, 0, [], 0), (.bipush 8, 2, 0, [], 8), (.newarray .int, 2, 0, [], 0), (.putfield 37, 3, 13, [(11, 2)], 0), (.aload_n 0, 1, 0, [], 0), (.bipush 8, 2, 0, [], 8), (.newarray .int, 2, 0, [], 0), (.putfield 40, 3, 14, [(11, 2)], 0), (.aload_n 0, 1, 0, [], 0), (.bipush 32, 2, 0, [], 32), (.newarray .int, 2, 0, [], 0), (.putfield 43, 3, 15, [(11, 2)], 0), (.aload_n 0, 1, 0, [], 0), (.bipush 32, 2, 0, [], 32), (.newarray .int, 2, 0, [], 0), (.putfield 46, 3, 16, [(11, 2)], 0), (.aload_n 0, 1, 0, [], 0), (.bipush 8, 2, 0, [], 8), (.newarray .int, 2, 0, [], 0), (.putfield 49, 3, 17, [(11, 2)], 0), (.aload_n 0, 1, 0, [], 0), (.bipush 24, 2, 0, [], 24), (.newarray .int, 2, 0, [], 0), (.putfield 52, 3, 19, [(11, 2)], 0), (.aload_n 0, 1, 0, [], 0), (.bipush 24, 2, 0, [], 24), (.newarray .int, 2, 0, [], 0), (.putfield 55, 3, 20, [(11, 2)], 0), (.aload_n 0, 1, 0, [], 0), (.bipush 24, 2, 0, [], 24), (.newarray .int, 2, 0, [], 0), (.putfield 58, 3, 21, [(11, 2)], 0), (.aload_n 0, 1, 0, [], 0), (.bipush 24, 2, 0, [], 24), (.newarray .int, 2, 0, [], 0), (.putfield 61, 3, 22, [(11, 2)], 0), (.aload_n 0, 1, 0, [], 0), (.bipush 24, 2, 0, [], 24), (.newarray .int, 2, 0, [], 0), (.putfield 64, 3, 23, [(11, 2)], 0), (.aload_n 0, 1, 0, [], 0), (.bipush 8, 2, 0, [], 8), (.newarray .int, 2, 0, [], 0), (.putfield 67, 3, 25, [(11, 2)], 0), (.aload_n 0, 1, 0, [], 0), (.bipush 32, 2, 0, [], 32), (.newarray .int, 2, 0, [], 0), (.putfield 70, 3, 26, [(11, 2)], 0), (.aload_n 0, 1, 0, [], 0), (.bipush 32, 2, 0, [], 32), (.newarray .int, 2, 0, [], 0), (.putfield 73, 3, 27, [(11, 2)], 0), (.aload_n 0, 1, 0, [], 0), (.bipush 32, 2, 0, [], 32), (.newarray .int, 2, 0, [], 0), (.putfield 76, 3, 28, [(11, 2)], 0), (.aload_n 0, 1, 0, [], 0), (.bipush 8, 2, 0, [], 8), (.newarray .int, 2, 0, [], 0), (.putfield 79, 3, 29, [(11, 2)], 0), (.aload_n 0, 1, 0, [], 0), (.bipush 8, 2, 0, [], 8), (.newarray .int, 2, 0, [], 0), (.putfield 82, 3, 30, [(11, 2)], 0), (.aload_n 0, 1, 0, [], 0), (.bipush 8, 2, 0, [], 8), (.newarray .int, 2, 0, [], 0), (.putfield 85, 3, 31, [(11, 2)], 0), (.aload_n 0, 1, 0, [], 0), (.bipush 8, 2, 0, [], 8), (.newarray .int, 2, 0, [], 0), (.putfield 88, 3, 32, [(11, 2)], 0), (.aload_n 0, 1, 0, [], 0), (.bipush 8, 2, 0, [], 8), (.newarray .int, 2, 0, [], 0), (.putfield 91, 3, 34, [(11, 2)], 0), (.aload_n 0, 1, 0, [], 0), (.bipush 24, 2, 0, [], 24), (.newarray .int, 2, 0, [], 0), (.putfield 94, 3, 36, [(11, 2)], 0), (.aload_n 0, 1, 0, [], 0), (.bipush 24, 2, 0, [], 24), (.newarray .int, 2, 0, [], 0), (.putfield 97, 3, 37, [(11, 2)], 0), (.aload_n 0, 1, 0, [], 0), (.bipush 24, 2, 0, [], 24), (.newarray .int, 2, 0, [], 0), (.putfield 100, 3, 38, [(11, 2)], 0), (.aload_n 0, 1, 0, [], 0), (.bipush 24, 2, 0, [], 24), (.newarray .int, 2, 0, [], 0), (.putfield 103, 3, 39, [(11, 2)], 0), (.aload_n 0, 1, 0, [], 0), (.bipush 24, 2, 0, [], 24), (.newarray .boolean, 2, 1, [], 0), (.putfield 106, 3, 40, [(11, 2)], 0), (.aload_n 0, 1, 0, [], 0), (.bipush 24, 2, 0, [], 24), (.newarray .boolean, 2, 1, [], 0), (.putfield 110, 3, 41, [(11, 2)], 0), (.aload_n 0, 1, 0, [], 0), (.bipush 8, 2, 0, [], 8), (.newarray .int, 2, 0, [], 0), (.putfield 113, 3, 42, [(11, 2)], 0), (.aload_n 0, 1, 0, [], 0), (.sipush 3200, 3, 0, [], 3200), (.newarray .int, 2, 0, [], 0), (.putfield 116, 3, 45, [(11, 2)], 0), (.iconst 0, 1, 0, [], 0), (.istore_n 1, 1, 1, [], 0)]),
  (295, [(.iload_n 1, 1, 1, [], 0), (.bipush 8, 2, 0, [], 8), (.if_icmp .ge 30, 3, 328, [], 0), (.aload_n 0, 1, 0, [], 0), (.getfield 79, 3, 29, [(11, 2)], 0), (.iload_n 1, 1, 1, [], 0), (.iconst (-1), 1, 0, [], (-1)), (.iastore, 1, 0, [], 0), (.aload_n 0, 1, 0, [], 0), (.getfield 91, 3, 34, [(11, 2)], 0), (.iload_n 1, 1, 1, [], 0), (.iconst (-1), 1, 0, [], (-1)), (.iastore, 1, 0, [], 0), (.aload_n 0, 1, 0, [], 0), (.getfield 113, 3, 42, [(11, 2)], 0), (.iload_n 1, 1, 1, [], 0), (.iconst (-1), 1, 0, [], (-1)), (.iastore, 1, 0, [], 0), (.iinc 1 1, 3, 1, [], 1), (.goto (-30), 3, 295, [], 0)]),
  (328, [(.return_, 1, 0, [], 0)])]
theorem ok_R_init : x_mok y_R_init (x_on 20) true b_R_init := x_chm_ok rfl (fun _ => rfl) (by decide +kernel)
def b_R_component : List (Nat × List XO) := [(0, [(.iload_n 1, 1, 1, [], 0), (.iconst 2, 1, 0, [], 2), (.if_icmp .ne 20, 3, 22, [], 0), (.iload_n 2, 1, 2, [], 0), (.ifCond .lt 12, 3, 18, [], 0), (.iload_n 2, 1, 2, [], 0), (.iconst 3, 1, 0, [], 3), (.if_icmp .gt 7, 3, 18, [], 0), (.iconst 1, 1, 0, [], 1), (.goto 22, 3, 37, [], 0)]),
  (18, [(.iconst 0, 1, 0, [], 0), (.goto 18, 3, 37, [], 0)]),
  (22, [(.iload_n 2, 1, 2, [], 0), (.iconst 1, 1, 0, [], 1), (.if_icmp .lt 12, 3, 36, [], 0), (.iload_n 2, 1, 2, [], 0), (.iconst 4, 1, 0, [], 4), (.if_icmp .gt 7, 3, 36, [], 0), (.iconst 1, 1, 0, [], 1), (.goto 4, 3, 37, [], 0)]),
  (36, [(.iconst 0, 1, 0, [], 0)]),
  (37, [(.istore 5, 2, 5, [], 0), (.iload_n 1, 1, 1, [], 0), (.iconst 1, 1, 0, [], 1), (.if_icmp .ne 23, 3, 64, [], 0), (.iload 4, 2, 4, [], 0), (.ifCond .lt 14, 3, 60, [], 0), (.iload 4, 2, 4, [], 0), (.bipush 100, 2, 0, [], 100), (.if_icmp .gt 7, 3, 60, [], 0), (.iconst 1, 1, 0, [], 1), (.goto 17, 3, 74, [], 0)]),
  (60, [(.iconst 0, 1, 0, [], 0), (.goto 13, 3, 74, [], 0)]),
  (64, [(.iload 4, 2, 4, [], 0), (.ifCond .ne 7, 3, 73, [], 0), (.iconst 1, 1, 0, [], 1), (.goto 4, 3, 74, [], 0)]),
  (73, [(.iconst 0, 1, 0, [], 0)]),
  (74, [(.istore 6, 2, 6, [], 0), (.aload_n 0, 1, 0, [], 0), (.getfield 130, 3, 0, [(11, 0)], 0), (.ifCond .ne 42, 3, 122, [], 0), (.aload_n 0, 1, 0, [], 0), (.getfield 133, 3, 2, [(11, 0)], 0), (.bipush 8, 2, 0, [], 8), (.if_icmp .ge 33, 3, 122, [], 0), (.iload_n 1, 1, 1, [], 0), (.ifCond .lt 29, 3, 122, [], 0), (.iload_n 1, 1, 1, [], 0), (.iconst 2, 1, 0, [], 2), (.if_icmp .gt 24, 3, 122, [], 0), (.iload 5, 2, 5, [], 0), (.ifCond .eq 19, 3, 122, [], 0), (.iload_n 3, 1, 3, [], 0), (.iconst (-1), 1, 0, [], (-1)), (.if_icmp .lt 14, 3, 122, [], 0), (.iload_n 3, 1, 3, [], 0), (.bipush 100, 2, 0, [], 100), (.if_icmp .gt 8, 3, 122, [], 0), (.iload 6, 2, 6, [], 0), (.ifCond .ne 5, 3, 124, [], 0)]),
  (122, [(.iconst (-1), 1, 0, [], (-1)), (.ireturn, 1, 0, [], 0)]),
  (124, [(.aload_n 0, 1, 0, [], 0), (.getfield 7, 3, 3, [(11, 2)], 0), (.aload_n 0, 1, 0, [], 0), (.getfield 133, 3, 2, [(11, 0)], 0), (.iload_n 1, 1, 1, [], 0), (.iastore, 1, 0, [], 0), (.aload_n 0, 1, 0, [], 0), (.getfield 13, 3, 4, [(11, 2)], 0), (.aload_n 0, 1, 0, [], 0), (.getfield 133, 3, 2, [(11, 0)], 0), (.iload_n 2, 1, 2, [], 0), (.iastore, 1, 0, [], 0), (.aload_n 0, 1, 0, [], 0), (.getfield 16, 3, 5, [(11, 2)], 0), (.aload_n 0, 1, 0, [], 0), (.getfield 133, 3, 2, [(11, 0)], 0), (.iload_n 3, 1, 3, [], 0), (.iastore, 1, 0, [], 0), (.aload_n 0, 1, 0, [], 0), (.getfield 19, 3, 6, [(11, 2)], 0), (.aload_n 0, 1, 0, [], 0), (.getfield 133, 3, 2, [(11, 0)], 0), (.iload 4, 2, 4, [], 0), (.iastore, 1, 0, [], 0), (.aload_n 0, 1, 0, [], 0), (.dup, 1, 0, [], 0), (.getfield 133, 3, 2, [(11, 0)], 0), (.iconst 1, 1, 0, [], 1), (.iadd, 1, 0, [], 0), (.putfield 133, 3, 2, [(11, 0)], 0), (.aload_n 0, 1, 0, [], 0), (.getfield 133, 3, 2, [(11, 0)], 0), (.iconst 1, 1, 0, [], 1), (.isub, 1, 0, [], 0), (.ireturn, 1, 0, [], 0)])]
theorem ok_R_component : x_mok y_R_component (x_on 20) false b_R_component := x_chm_ok rfl (by decide) (by decide +kernel)
def b_R_depends : List (Nat × List XO) := [(0, [(.aload_n 0, 1, 0, [], 0), (.getfield 130, 3, 0, [(11, 0)], 0), (.ifCond .ne 36, 3, 40, [], 0), (.aload_n 0, 1, 0, [], 0), (.iload_n 1, 1, 1, [], 0), (.invokevirtual 136, 3, 1, [(11, 119)], 0), (.ifCond .eq 28, 3, 40, [], 0), (.aload_n 0, 1, 0, [], 0), (.iload_n 2, 1, 2, [], 0), (.invokevirtual 136, 3, 1, [(11, 119)], 0), (.ifCond .eq 20, 3, 40, [], 0), (.iload_n 1, 1, 1, [], 0), (.iload_n 2, 1, 2, [], 0), (.if_icmp .eq 15, 3, 40, [], 0), (.aload_n 0, 1, 0, [], 0), (.iload_n 2, 1, 2, [], 0), (.invokevirtual 140, 3, 1, [(11, 120)], 0), (.iload_n 1, 1, 1, [], 0), (.ishr, 1, 0, [], 0), (.iconst 1, 1, 0, [], 1), (.iand, 1, 0, [], 0), (.ifCond .eq 5, 3, 42, [], 0)]),
  (40, [(.iconst 0, 1, 0, [], 0), (.ireturn, 1, 1, [], 0)]),
  (42, [(.iconst 0, 1, 0, [], 0), (.istore_n 3, 1, 3, [], 0)]),
  (44, [(.iload_n 3, 1, 3, [], 0), (.aload_n 0, 1, 0, [], 0), (.getfield 25, 3, 8, [(11, 2)], 0), (.iload_n 1, 1, 1, [], 0), (.iaload, 1, 0, [], 0), (.if_icmp .ge 26, 3, 77, [], 0), (.aload_n 0, 1, 0, [], 0), (.getfield 22, 3, 7, [(11, 2)], 0), (.bipush 8, 2, 0, [], 8), (.iload_n 1, 1, 1, [], 0), (.imul, 1, 0, [], 0), (.iload_n 3, 1, 3, [], 0), (.iadd, 1, 0, [], 0), (.iaload, 1, 0, [], 0), (.iload_n 2, 1, 2, [], 0), (.if_icmp .ne 5, 3, 71, [], 0), (.iconst 0, 1, 0, [], 0), (.ireturn, 1, 1, [], 0)]),
  (71, [(.iinc 3 1, 3, 3, [], 1), (.goto (-30), 3, 44, [], 0)]),
  (77, [(.aload_n 0, 1, 0, [], 0), (.getfield 22, 3, 7, [(11, 2)], 0), (.bipush 8, 2, 0, [], 8), (.iload_n 1, 1, 1, [], 0), (.imul, 1, 0, [], 0), (.aload_n 0, 1, 0, [], 0), (.getfield 25, 3, 8, [(11, 2)], 0), (.iload_n 1, 1, 1, [], 0), (.iaload, 1, 0, [], 0), (.iadd, 1, 0, [], 0), (.iload_n 2, 1, 2, [], 0), (.iastore, 1, 0, [], 0), (.aload_n 0, 1, 0, [], 0), (.getfield 25, 3, 8, [(11, 2)], 0), (.iload_n 1, 1, 1, [], 0), (.dup2, 1, 0, [], 0), (.iaload, 1, 0, [], 0), (.iconst 1, 1, 0, [], 1), (.iadd, 1, 0, [], 0), (.iastore, 1, 0, [], 0), (.iconst 1, 1, 0, [], 1), (.ireturn, 1, 1, [], 0)])]
theorem ok_R_depends : x_mok y_R_depends (x_on 20) false b_R_depends := x_chm_ok rfl (by decide) (by decide +kernel)
def b_R_isSingleton : List (Nat × List XO) := [(0, [(.iload_n 1, 1, 1, [], 0), (.ifCond .lt 25, 3, 26, [], 0), (.iload_n 1, 1, 1, [], 0), (.aload_n 0, 1, 0, [], 0), (.getfield 133, 3, 2, [(11, 0)], 0), (.if_icmp .ge 17, 3, 26, [], 0), (.aload_n 0, 1, 0, [], 0), (.getfield 7, 3, 3, [(11, 2)], 0), (.iload_n 1, 1, 1, [], 0), (.iaload, 1, 0, [], 0), (.iconst 2, 1, 0, [], 2), (.if_icmp .ne 7, 3, 26, [], 0), (.iconst 1, 1, 0, [], 1), (.goto 4, 3, 27, [], 0)]),
  (26, [(.iconst 0, 1, 0, [], 0)]),
  (27, [(.ireturn, 1, 1, [], 0)])]
theorem ok_R_isSingleton : x_mok y_R_isSingleton (x_on 20) false b_R_isSingleton := x_chm_ok rfl (by decide) (by decide +kernel)
def b_R_below : List (Nat × List XO) := [(0, [(.iconst 0, 1, 0, [], 0), (.istore_n 2, 1, 2, [], 0), (.iconst 0, 1, 0, [], 0), (.istore_n 3, 1, 3, [], 0)]),
  (4, [(.iload_n 3, 1, 3, [], 0), (.bipush 9, 2, 0, [], 9), (.if_icmp .ge 81, 3, 88, [], 0), (.iconst 0, 1, 0, [], 0), (.istore 4, 2, 4, [], 0)]),
  (13, [(.iload 4, 2, 4, [], 0), (.aload_n 0, 1, 0, [], 0), (.getfield 133, 3, 2, [(11, 0)], 0), (.if_icmp .ge 63, 3, 82, [], 0), (.iload 4, 2, 4, [], 0), (.iload_n 1, 1, 1, [], 0), (.if_icmp .eq 12, 3, 37, [], 0), (.iload_n 2, 1, 2, [], 0), (.iload 4, 2, 4, [], 0), (.ishr, 1, 0, [], 0), (.iconst 1, 1, 0, [], 1), (.iand, 1, 0, [], 0), (.ifCond .eq 42, 3, 76, [], 0)]),
  (37, [(.iconst 0, 1, 0, [], 0), (.istore 5, 2, 5, [], 0)]),
  (40, [(.iload 5, 2, 5, [], 0), (.aload_n 0, 1, 0, [], 0), (.getfield 25, 3, 8, [(11, 2)], 0), (.iload 4, 2, 4, [], 0), (.iaload, 1, 0, [], 0), (.if_icmp .ge 27, 3, 76, [], 0), (.iload_n 2, 1, 2, [], 0), (.iconst 1, 1, 0, [], 1), (.aload_n 0, 1, 0, [], 0), (.getfield 22, 3, 7, [(11, 2)], 0), (.bipush 8, 2, 0, [], 8), (.iload 4, 2, 4, [], 0), (.imul, 1, 0, [], 0), (.iload 5, 2, 5, [], 0), (.iadd, 1, 0, [], 0), (.iaload, 1, 0, [], 0), (.ishl, 1, 0, [], 0), (.ior, 1, 0, [], 0), (.istore_n 2, 1, 2, [], 0), (.iinc 5 1, 3, 5, [], 1), (.goto (-33), 3, 40, [], 0)]),
  (76, [(.iinc 4 1, 3, 4, [], 1), (.goto (-66), 3, 13, [], 0)]),
  (82, [(.iinc 3 1, 3, 3, [], 1), (.goto (-81), 3, 4, [], 0)]),
  (88, [(.iload_n 2, 1, 2, [], 0), (.ireturn, 1, 0, [], 0)])]
theorem ok_R_below : x_mok y_R_below (x_on 20) false b_R_below := x_chm_ok rfl (by decide) (by decide +kernel)
def b_R_application : List (Nat × List XO) := [(0, [(.aload_n 0, 1, 0, [], 0), (.getfield 130, 3, 0, [(11, 0)], 0), (.ifCond .ne 23, 3, 27, [], 0), (.iload_n 1, 1, 1, [], 0), (.iconst 1, 1, 0, [], 1), (.if_icmp .lt 18, 3, 27, [], 0), (.iload_n 1, 1, 1, [], 0), (.bipush 7, 2, 0, [], 7), (.if_icmp .gt 12, 3, 27, [], 0), (.aload_n 0, 1, 0, [], 0), (.getfield 49, 3, 17, [(11, 2)], 0), (.iload_n 1, 1, 1, [], 0), (.iaload, 1, 0, [], 0), (.ifCond .eq 5, 3, 29, [], 0)]),
  (27, [(.iconst 0, 1, 0, [], 0), (.ireturn, 1, 1, [], 0)]),
  (29, [(.aload_n 0, 1, 0, [], 0), (.getfield 49, 3, 17, [(11, 2)], 0), (.iload_n 1, 1, 1, [], 0), (.iload_n 2, 1, 2, [], 0), (.ifCond .eq 7, 3, 42, [], 0), (.iconst 2, 1, 0, [], 2), (.goto 4, 3, 43, [], 0)]),
  (42, [(.iconst 1, 1, 0, [], 1)]),
  (43, [(.iastore, 1, 0, [], 0), (.iconst 1, 1, 0, [], 1), (.ireturn, 1, 1, [], 0)])]
theorem ok_R_application : x_mok y_R_application (x_on 20) false b_R_application := x_chm_ok rfl (by decide) (by decide +kernel)
def b_R_start : List (Nat × List XO) := [(0, [(.aload_n 0, 1, 0, [], 0), (.getfield 130, 3, 0, [(11, 0)], 0), (.ifCond .eq 5, 3, 9, [], 0), (.iconst (-1), 1, 0, [], (-1)), (.ireturn, 1, 0, [], 0)]),
  (9, [(.aload_n 0, 1, 0, [], 0), (.iconst 1, 1, 0, [], 1), (.putfield 130, 3, 0, [(11, 0)], 0), (.iconst 0, 1, 0, [], 0), (.istore_n 1, 1, 1, [], 0)]),
  (16, [(.iload_n 1, 1, 1, [], 0), (.aload_n 0, 1, 0, [], 0), (.getfield 133, 3, 2, [(11, 0)], 0), (.if_icmp .ge 44, 3, 65, [], 0), (.aload_n 0, 1, 0, [], 0), (.getfield 7, 3, 3, [(11, 2)], 0), (.iload_n 1, 1, 1, [], 0), (.iaload, 1, 0, [], 0), (.iconst 2, 1, 0, [], 2), (.if_icmp .ne 28, 3, 59, [], 0), (.aload_n 0, 1, 0, [], 0), (.getfield 13, 3, 4, [(11, 2)], 0), (.iload_n 1, 1, 1, [], 0), (.iaload, 1, 0, [], 0), (.iconst 1, 1, 0, [], 1), (.if_icmp .eq 13, 3, 54, [], 0), (.aload_n 0, 1, 0, [], 0), (.getfield 13, 3, 4, [(11, 2)], 0), (.iload_n 1, 1, 1, [], 0), (.iaload, 1, 0, [], 0), (.iconst 3, 1, 0, [], 3), (.if_icmp .ne 8, 3, 59, [], 0)]),
  (54, [(.aload_n 0, 1, 0, [], 0), (.iload_n 1, 1, 1, [], 0), (.invokevirtual 151, 3, 1, [(11, 123)], 0)]),
  (59, [(.iinc 1 1, 3, 1, [], 1), (.goto (-46), 3, 16, [], 0)]),
  (65, [(.aload_n 0, 1, 0, [], 0), (.getfield 148, 3, 12, [(11, 0)], 0), (.ireturn, 1, 0, [], 0)])]
theorem ok_R_start : x_mok y_R_start (x_on 20) false b_R_start := x_chm_ok rfl (by decide) (by decide +kernel)
def b_R_begin : List (Nat × List XO) := [(0, [(.aload_n 0, 1, 0, [], 0), (.getfield 28, 3, 9, [(11, 2)], 0), (.iload_n 1, 1, 1, [], 0), (.iaload, 1, 0, [], 0), (.ifCond .ne 7, 3, 13, [], 0), (.iconst 0, 1, 0, [], 0), (.goto 4, 3, 14, [], 0)]),
  (13, [(.iconst (-1), 1, 0, [], (-1))]),
  (14, [(.istore_n 2, 1, 2, [], 0), (.aload_n 0, 1, 0, [], 0), (.getfield 37, 3, 13, [(11, 2)], 0), (.iconst 0, 1, 0, [], 0), (.iload_n 1, 1, 1, [], 0), (.iastore, 1, 0, [], 0), (.aload_n 0, 1, 0, [], 0), (.getfield 40, 3, 14, [(11, 2)], 0), (.iconst 0, 1, 0, [], 0), (.iconst 0, 1, 0, [], 0), (.iastore, 1, 0, [], 0), (.iconst 0, 1, 0, [], 0), (.istore_n 3, 1, 3, [], 0)]),
  (31, [(.iload_n 3, 1, 3, [], 0), (.sipush 300, 3, 0, [], 300), (.if_icmp .ge 212, 3, 247, [], 0), (.iload_n 2, 1, 2, [], 0), (.ifCond .lt 208, 3, 247, [], 0), (.aload_n 0, 1, 0, [], 0), (.getfield 37, 3, 13, [(11, 2)], 0), (.iload_n 2, 1, 2, [], 0), (.iaload, 1, 0, [], 0), (.istore 4, 2, 4, [], 0), (.aload_n 0, 1, 0, [], 0), (.getfield 40, 3, 14, [(11, 2)], 0), (.iload_n 2, 1, 2, [], 0), (.iaload, 1, 0, [], 0), (.istore 5, 2, 5, [], 0), (.iload 5, 2, 5, [], 0), (.ifCond .le 41, 3, 101, [], 0), (.aload_n 0, 1, 0, [], 0), (.getfield 28, 3, 9, [(11, 2)], 0), (.aload_n 0, 1, 0, [], 0), (.getfield 22, 3, 7, [(11, 2)], 0), (.bipush 8, 2, 0, [], 8), (.iload 4, 2, 4, [], 0), (.imul, 1, 0, [], 0), (.iload 5, 2, 5, [], 0), (.iadd, 1, 0, [], 0), (.iconst 1, 1, 0, [], 1), (.isub, 1, 0, [], 0), (.iaload, 1, 0, [], 0), (.iaload, 1, 0, [], 0), (.iconst 2, 1, 0, [], 2), (.if_icmp .ne 17, 3, 101, [], 0), (.aload_n 0, 1, 0, [], 0), (.getfield 28, 3, 9, [(11, 2)], 0), (.iload 4, 2, 4, [], 0), (.iconst 2, 1, 0, [], 2), (.iastore, 1, 0, [], 0), (.iinc 2 (-1), 3, 2, [], (-1)), (.goto 143, 3, 241, [], 0)]),
  (101, [(.iload 5, 2, 5, [], 0), (.aload_n 0, 1, 0, [], 0), (.getfield 25, 3, 8, [(11, 2)], 0), (.iload 4, 2, 4, [], 0), (.iaload, 1, 0, [], 0), (.if_icmp .ge 66, 3, 176, [], 0), (.aload_n 0, 1, 0, [], 0), (.getfield 40, 3, 14, [(11, 2)], 0), (.iload_n 2, 1, 2, [], 0), (.iload 5, 2, 5, [], 0), (.iconst 1, 1, 0, [], 1), (.iadd, 1, 0, [], 0), (.iastore, 1, 0, [], 0), (.aload_n 0, 1, 0, [], 0), (.getfield 28, 3, 9, [(11, 2)], 0), (.aload_n 0, 1, 0, [], 0), (.getfield 22, 3, 7, [(11, 2)], 0), (.bipush 8, 2, 0, [], 8), (.iload 4, 2, 4, [], 0), (.imul, 1, 0, [], 0), (.iload 5, 2, 5, [], 0), (.iadd, 1, 0, [], 0), (.iaload, 1, 0, [], 0), (.iaload, 1, 0, [], 0), (.ifCond .ne 100, 3, 241, [], 0), (.iinc 2 1, 3, 2, [], 1), (.aload_n 0, 1, 0, [], 0), (.getfield 37, 3, 13, [(11, 2)], 0), (.iload_n 2, 1, 2, [], 0), (.aload_n 0, 1, 0, [], 0), (.getfield 22, 3, 7, [(11, 2)], 0), (.bipush 8, 2, 0, [], 8), (.iload 4, 2, 4, [], 0), (.imul, 1, 0, [], 0), (.iload 5, 2, 5, [], 0), (.iadd, 1, 0, [], 0), (.iaload, 1, 0, [], 0), (.iastore, 1, 0, [], 0), (.aload_n 0, 1, 0, [], 0), (.getfield 40, 3, 14, [(11, 2)], 0), (.iload_n 2, 1, 2, [], 0), (.iconst 0, 1, 0, [], 0), (.iastore, 1, 0, [], 0), (.goto 68, 3, 241, [], 0)]),
  (176, [(.aload_n 0, 1, 0, [], 0), (.getfield 13, 3, 4, [(11, 2)], 0), (.iload 4, 2, 4, [], 0), (.iaload, 1, 0, [], 0), (.iconst 2, 1, 0, [], 2), (.if_icmp .lt 14, 3, 198, [], 0), (.aload_n 0, 1, 0, [], 0), (.getfield 28, 3, 9, [(11, 2)], 0), (.iload 4, 2, 4, [], 0), (.iconst 2, 1, 0, [], 2), (.iastore, 1, 0, [], 0), (.goto 43, 3, 238, [], 0)]),
  (198, [(.aload_n 0, 1, 0, [], 0), (.getfield 28, 3, 9, [(11, 2)], 0), (.iload 4, 2, 4, [], 0), (.iconst 1, 1, 0, [], 1), (.iastore, 1, 0, [], 0), (.aload_n 0, 1, 0, [], 0), (.getfield 31, 3, 10, [(11, 2)], 0), (.iload 4, 2, 4, [], 0), (.aload_n 0, 1, 0, [], 0), (.invokevirtual 144, 3, 0, [(11, 124)], 0), (.iastore, 1, 0, [], 0), (.aload_n 0, 1, 0, [], 0), (.getfield 34, 3, 11, [(11, 2)], 0), (.aload_n 0, 1, 0, [], 0), (.getfield 148, 3, 12, [(11, 0)], 0), (.iload 4, 2, 4, [], 0), (.iastore, 1, 0, [], 0), (.aload_n 0, 1, 0, [], 0), (.dup, 1, 0, [], 0), (.getfield 148, 3, 12, [(11, 0)], 0), (.iconst 1, 1, 0, [], 1), (.iadd, 1, 0, [], 0), (.putfield 148, 3, 12, [(11, 0)], 0)]),
  (238, [(.iinc 2 (-1), 3, 2, [], (-1))]),
  (241, [(.iinc 3 1, 3, 3, [], 1), (.goto (-213), 3, 31, [], 0)]),
  (247, [(.return_, 1, 0, [], 0)])]
theorem ok_R_begin : x_mok y_R_begin (x_on 20) false b_R_begin := x_chm_ok rfl (by decide) (by decide +kernel)
def b_R_fresh : List (Nat × List XO) := [(0, [(.aload_n 0, 1, 0, [], 0), (.getfield 123, 3, 43, [(11, 0)], 0), (.istore_n 1, 1, 1, [], 0), (.aload_n 0, 1, 0, [], 0), (.dup, 1, 0, [], 0), (.getfield 123, 3, 43, [(11, 0)], 0), (.iconst 1, 1, 0, [], 1), (.iadd, 1, 0, [], 0), (.putfield 123, 3, 43, [(11, 0)], 0), (.aload_n 0, 1, 0, [], 0), (.iconst 1, 1, 0, [], 1), (.iconst 0, 1, 0, [], 0), (.iload_n 1, 1, 1, [], 0), (.invokevirtual 126, 3, 3, [(11, 125)], 0), (.iload_n 1, 1, 1, [], 0), (.ireturn, 1, 0, [], 0)])]
theorem ok_R_fresh : x_mok y_R_fresh (x_on 20) false b_R_fresh := x_chm_ok rfl (by decide) (by decide +kernel)
def b_R_note : List (Nat × List XO) := [(0, [(.aload_n 0, 1, 0, [], 0), (.getfield 116, 3, 45, [(11, 2)], 0), (.aload_n 0, 1, 0, [], 0), (.getfield 119, 3, 44, [(11, 0)], 0), (.iload_n 1, 1, 1, [], 0), (.bipush 16, 2, 0, [], 16), (.iload_n 2, 1, 2, [], 0), (.imul, 1, 0, [], 0), (.iadd, 1, 0, [], 0), (.sipush 256, 3, 0, [], 256), (.iload_n 3, 1, 3, [], 0), (.imul, 1, 0, [], 0), (.iadd, 1, 0, [], 0), (.iastore, 1, 0, [], 0), (.aload_n 0, 1, 0, [], 0), (.dup, 1, 0, [], 0), (.getfield 119, 3, 44, [(11, 0)], 0), (.iconst 1, 1, 0, [], 1), (.iadd, 1, 0, [], 0), (.putfield 119, 3, 44, [(11, 0)], 0), (.return_, 1, 0, [], 0)])]
theorem ok_R_note : x_mok y_R_note (x_on 20) false b_R_note := x_chm_ok rfl (by decide) (by decide +kernel)
def b_R_create : List (Nat × List XO) := [(0, [(.aload_n 0, 1, 0, [], 0), (.getfield 130, 3, 0, [(11, 0)], 0), (.iconst 1, 1, 0, [], 1), (.if_icmp .ne 34, 3, 39, [], 0), (.iload_n 1, 1, 1, [], 0), (.ifCond .lt 30, 3, 39, [], 0), (.iload_n 1, 1, 1, [], 0), (.aload_n 0, 1, 0, [], 0), (.getfield 133, 3, 2, [(11, 0)], 0), (.if_icmp .ge 22, 3, 39, [], 0), (.aload_n 0, 1, 0, [], 0), (.getfield 7, 3, 3, [(11, 2)], 0), (.iload_n 1, 1, 1, [], 0), (.iaload, 1, 0, [], 0), (.iconst 1, 1, 0, [], 1), (.if_icmp .ne 12, 3, 39, [], 0), (.aload_n 0, 1, 0, [], 0), (.getfield 155, 3, 18, [(11, 0)], 0), (.bipush 24, 2, 0, [], 24), (.if_icmp .lt 5, 3, 41, [], 0)]),
  (39, [(.iconst (-1), 1, 0, [], (-1)), (.ireturn, 1, 0, [], 0)]),
  (41, [(.aload_n 0, 1, 0, [], 0), (.getfield 155, 3, 18, [(11, 0)], 0), (.istore_n 2, 1, 2, [], 0), (.aload_n 0, 1, 0, [], 0), (.dup, 1, 0, [], 0), (.getfield 155, 3, 18, [(11, 0)], 0), (.iconst 1, 1, 0, [], 1), (.iadd, 1, 0, [], 0), (.putfield 155, 3, 18, [(11, 0)], 0), (.aload_n 0, 1, 0, [], 0), (.getfield 52, 3, 19, [(11, 2)], 0), (.iload_n 2, 1, 2, [], 0), (.iload_n 1, 1, 1, [], 0), (.iastore, 1, 0, [], 0), (.aload_n 0, 1, 0, [], 0), (.getfield 55, 3, 20, [(11, 2)], 0), (.iload_n 2, 1, 2, [], 0), (.aload_n 0, 1, 0, [], 0), (.invokevirtual 144, 3, 0, [(11, 124)], 0), (.iastore, 1, 0, [], 0), (.aload_n 0, 1, 0, [], 0), (.getfield 58, 3, 21, [(11, 2)], 0), (.iload_n 2, 1, 2, [], 0), (.iconst 1, 1, 0, [], 1), (.iastore, 1, 0, [], 0), (.aload_n 0, 1, 0, [], 0), (.iload_n 2, 1, 2, [], 0), (.invokevirtual 226, 3, 1, [(11, 127)], 0), (.aload_n 0, 1, 0, [], 0), (.invokevirtual 229, 3, 0, [(11, 128)], 0), (.iload_n 2, 1, 2, [], 0), (.ireturn, 1, 0, [], 0)])]
theorem ok_R_create : x_mok y_R_create (x_on 20) false b_R_create := x_chm_ok rfl (by decide) (by decide +kernel)
def b_R_use : List (Nat × List XO) := [(0, [(.aload_n 0, 1, 0, [], 0), (.getfield 61, 3, 22, [(11, 2)], 0), (.iload_n 1, 1, 1, [], 0), (.aload_n 0, 1, 0, [], 0), (.getfield 223, 3, 24, [(11, 0)], 0), (.iastore, 1, 0, [], 0), (.aload_n 0, 1, 0, [], 0), (.getfield 64, 3, 23, [(11, 2)], 0), (.iload_n 1, 1, 1, [], 0), (.aload_n 0, 1, 0, [], 0), (.getfield 185, 3, 1, [(11, 0)], 0), (.iastore, 1, 0, [], 0), (.aload_n 0, 1, 0, [], 0), (.dup, 1, 0, [], 0), (.getfield 223, 3, 24, [(11, 0)], 0), (.iconst 1, 1, 0, [], 1), (.iadd, 1, 0, [], 0), (.putfield 223, 3, 24, [(11, 0)], 0), (.return_, 1, 0, [], 0)])]
theorem ok_R_use : x_mok y_R_use (x_on 20) false b_R_use := x_chm_ok rfl (by decide) (by decide +kernel)
def b_R_settle : List (Nat × List XO) := [(0, [(.aload_n 0, 1, 0, [], 0), (.invokevirtual 214, 3, 0, [(11, 129)], 0), (.aload_n 0, 1, 0, [], 0), (.invokevirtual 217, 3, 0, [(11, 140)], 0), (.iconst 0, 1, 0, [], 0), (.istore_n 1, 1, 1, [], 0)]),
  (10, [(.iload_n 1, 1, 1, [], 0), (.aload_n 0, 1, 0, [], 0), (.getfield 133, 3, 2, [(11, 0)], 0), (.if_icmp .ge 24, 3, 39, [], 0), (.aload_n 0, 1, 0, [], 0), (.getfield 7, 3, 3, [(11, 2)], 0), (.iload_n 1, 1, 1, [], 0), (.iaload, 1, 0, [], 0), (.iconst 1, 1, 0, [], 1), (.if_icmp .ne 8, 3, 33, [], 0), (.aload_n 0, 1, 0, [], 0), (.iload_n 1, 1, 1, [], 0), (.invokevirtual 220, 3, 1, [(11, 144)], 0)]),
  (33, [(.iinc 1 1, 3, 1, [], 1), (.goto (-26), 3, 10, [], 0)]),
  (39, [(.return_, 1, 0, [], 0)])]
theorem ok_R_settle : x_mok y_R_settle (x_on 20) false b_R_settle := x_chm_ok rfl (by decide) (by decide +kernel)
def b_R_lines : List (Nat × List XO) := [(0, [(.iconst 0, 1, 0, [], 0), (.istore_n 1, 1, 1, [], 0)]),
  (2, [(.iload_n 1, 1, 1, [], 0), (.bipush 8, 2, 0, [], 8), (.aload_n 0, 1, 0, [], 0), (.getfield 155, 3, 18, [(11, 0)], 0), (.iadd, 1, 0, [], 0), (.if_icmp .ge 134, 3, 144, [], 0), (.iload_n 1, 1, 1, [], 0), (.bipush 8, 2, 0, [], 8), (.if_icmp .lt 19, 3, 35, [], 0), (.aload_n 0, 1, 0, [], 0), (.getfield 58, 3, 21, [(11, 2)], 0), (.iload_n 1, 1, 1, [], 0), (.bipush 8, 2, 0, [], 8), (.isub, 1, 0, [], 0), (.iaload, 1, 0, [], 0), (.ifCond .ne 7, 3, 35, [], 0), (.iconst 1, 1, 0, [], 1), (.goto 4, 3, 36, [], 0)]),
  (35, [(.iconst 0, 1, 0, [], 0)]),
  (36, [(.istore_n 2, 1, 2, [], 0), (.iconst 1, 1, 0, [], 1), (.istore_n 3, 1, 3, [], 0), (.iconst 0, 1, 0, [], 0), (.istore 4, 2, 4, [], 0)]),
  (42, [(.iload 4, 2, 4, [], 0), (.bipush 8, 2, 0, [], 8), (.if_icmp .ge 92, 3, 138, [], 0), (.iload_n 3, 1, 3, [], 0), (.ifCond .eq 88, 3, 138, [], 0), (.aload_n 0, 1, 0, [], 0), (.iload_n 1, 1, 1, [], 0), (.invokevirtual 199, 3, 1, [(11, 130)], 0), (.istore 5, 2, 5, [], 0), (.iload 5, 2, 5, [], 0), (.ifCond .lt 26, 3, 88, [], 0), (.iload_n 2, 1, 2, [], 0), (.ifCond .ne 18, 3, 84, [], 0), (.aload_n 0, 1, 0, [], 0), (.iload_n 1, 1, 1, [], 0), (.aload_n 0, 1, 0, [], 0), (.getfield 82, 3, 30, [(11, 2)], 0), (.iload 5, 2, 5, [], 0), (.iaload, 1, 0, [], 0), (.invokevirtual 195, 3, 2, [(11, 131)], 0), (.ifCond .eq 7, 3, 88, [], 0)]),
  (84, [(.iconst 1, 1, 0, [], 1), (.goto 4, 3, 89, [], 0)]),
  (88, [(.iconst 0, 1, 0, [], 0)]),
  (89, [(.istore_n 3, 1, 3, [], 0), (.iload_n 3, 1, 3, [], 0), (.ifCond .eq 41, 3, 132, [], 0), (.aload_n 0, 1, 0, [], 0), (.getfield 79, 3, 29, [(11, 2)], 0), (.iload 5, 2, 5, [], 0), (.iconst (-1), 1, 0, [], (-1)), (.iastore, 1, 0, [], 0), (.iload_n 2, 1, 2, [], 0), (.ifCond .eq 14, 3, 117, [], 0), (.aload_n 0, 1, 0, [], 0), (.iload 5, 2, 5, [], 0), (.bipush 9, 2, 0, [], 9), (.invokevirtual 174, 3, 2, [(11, 137)], 0), (.goto 18, 3, 132, [], 0)]),
  (117, [(.aload_n 0, 1, 0, [], 0), (.iload 5, 2, 5, [], 0), (.iload_n 1, 1, 1, [], 0), (.aload_n 0, 1, 0, [], 0), (.getfield 82, 3, 30, [(11, 2)], 0), (.iload 5, 2, 5, [], 0), (.iaload, 1, 0, [], 0), (.invokevirtual 191, 3, 3, [(11, 138)], 0), (.pop, 1, 0, [], 0)]),
  (132, [(.iinc 4 1, 3, 4, [], 1), (.goto (-93), 3, 42, [], 0)]),
  (138, [(.iinc 1 1, 3, 1, [], 1), (.goto (-139), 3, 2, [], 0)]),
  (144, [(.return_, 1, 0, [], 0)])]
theorem ok_R_lines : x_mok y_R_lines (x_on 20) false b_R_lines := x_chm_ok rfl (by decide) (by decide +kernel)
def b_R_firstIn : List (Nat × List XO) := [(0, [(.iconst (-1), 1, 0, [], (-1)), (.istore_n 2, 1, 2, [], 0), (.iconst 0, 1, 0, [], 0), (.istore_n 3, 1, 3, [], 0)]),
  (4, [(.iload_n 3, 1, 3, [], 0), (.bipush 8, 2, 0, [], 8), (.if_icmp .ge 40, 3, 47, [], 0), (.aload_n 0, 1, 0, [], 0), (.getfield 79, 3, 29, [(11, 2)], 0), (.iload_n 3, 1, 3, [], 0), (.iaload, 1, 0, [], 0), (.iload_n 1, 1, 1, [], 0), (.if_icmp .ne 24, 3, 41, [], 0), (.iload_n 2, 1, 2, [], 0), (.ifCond .lt 18, 3, 39, [], 0), (.aload_n 0, 1, 0, [], 0), (.getfield 88, 3, 32, [(11, 2)], 0), (.iload_n 3, 1, 3, [], 0), (.iaload, 1, 0, [], 0), (.aload_n 0, 1, 0, [], 0), (.getfield 88, 3, 32, [(11, 2)], 0), (.iload_n 2, 1, 2, [], 0), (.iaload, 1, 0, [], 0), (.if_icmp .ge 5, 3, 41, [], 0)]),
  (39, [(.iload_n 3, 1, 3, [], 0), (.istore_n 2, 1, 2, [], 0)]),
  (41, [(.iinc 3 1, 3, 3, [], 1), (.goto (-40), 3, 4, [], 0)]),
  (47, [(.iload_n 2, 1, 2, [], 0), (.ireturn, 1, 0, [], 0)])]
theorem ok_R_firstIn : x_mok y_R_firstIn (x_on 20) false b_R_firstIn := x_chm_ok rfl (by decide) (by decide +kernel)
def b_R_open : List (Nat × List XO) := [(0, [(.aload_n 0, 1, 0, [], 0), (.getfield 7, 3, 3, [(11, 2)], 0), (.aload_n 0, 1, 0, [], 0), (.iload_n 1, 1, 1, [], 0), (.invokevirtual 158, 3, 1, [(11, 132)], 0), (.iaload, 1, 0, [], 0), (.istore_n 3, 1, 3, [], 0), (.iload_n 3, 1, 3, [], 0), (.ifCond .ne 31, 3, 43, [], 0), (.aload_n 0, 1, 0, [], 0), (.iload_n 1, 1, 1, [], 0), (.invokevirtual 164, 3, 1, [(11, 133)], 0), (.ifCond .ge 17, 3, 37, [], 0), (.aload_n 0, 1, 0, [], 0), (.iload_n 1, 1, 1, [], 0), (.invokevirtual 167, 3, 1, [(11, 135)], 0), (.aload_n 0, 1, 0, [], 0), (.getfield 13, 3, 4, [(11, 2)], 0), (.iload_n 1, 1, 1, [], 0), (.iaload, 1, 0, [], 0), (.if_icmp .ge 7, 3, 41, [], 0)]),
  (37, [(.iconst 1, 1, 0, [], 1), (.goto 4, 3, 42, [], 0)]),
  (41, [(.iconst 0, 1, 0, [], 0)]),
  (42, [(.ireturn, 1, 1, [], 0)]),
  (43, [(.iload_n 3, 1, 3, [], 0), (.iconst 1, 1, 0, [], 1), (.if_icmp .ne 21, 3, 66, [], 0), (.aload_n 0, 1, 0, [], 0), (.iload_n 1, 1, 1, [], 0), (.iconst 0, 1, 0, [], 0), (.bipush 8, 2, 0, [], 8), (.iconst 0, 1, 0, [], 0), (.invokevirtual 170, 3, 4, [(11, 136)], 0), (.ifCond .ne 7, 3, 64, [], 0), (.iconst 1, 1, 0, [], 1), (.goto 4, 3, 65, [], 0)]),
  (64, [(.iconst 0, 1, 0, [], 0)]),
  (65, [(.ireturn, 1, 1, [], 0)]),
  (66, [(.aload_n 0, 1, 0, [], 0), (.iload_n 1, 1, 1, [], 0), (.iconst 0, 1, 0, [], 0), (.bipush 8, 2, 0, [], 8), (.iconst 1, 1, 0, [], 1), (.invokevirtual 170, 3, 4, [(11, 136)], 0), (.ifCond .ne 23, 3, 98, [], 0), (.iload_n 2, 1, 2, [], 0), (.ifCond .eq 15, 3, 94, [], 0), (.aload_n 0, 1, 0, [], 0), (.iload_n 1, 1, 1, [], 0), (.iconst 0, 1, 0, [], 0), (.bipush 8, 2, 0, [], 8), (.iconst 0, 1, 0, [], 0), (.invokevirtual 170, 3, 4, [(11, 136)], 0), (.ifCond .ne 7, 3, 98, [], 0)]),
  (94, [(.iconst 1, 1, 0, [], 1), (.goto 4, 3, 99, [], 0)]),
  (98, [(.iconst 0, 1, 0, [], 0)]),
  (99, [(.ireturn, 1, 1, [], 0)])]
theorem ok_R_open : x_mok y_R_open (x_on 20) false b_R_open := x_chm_ok rfl (by decide) (by decide +kernel)
def b_R_componentOf : List (Nat × List XO) := [(0, [(.iload_n 1, 1, 1, [], 0), (.bipush 8, 2, 0, [], 8), (.if_icmp .ge 7, 3, 10, [], 0), (.iload_n 1, 1, 1, [], 0), (.goto 12, 3, 19, [], 0)]),
  (10, [(.aload_n 0, 1, 0, [], 0), (.getfield 52, 3, 19, [(11, 2)], 0), (.iload_n 1, 1, 1, [], 0), (.bipush 8, 2, 0, [], 8), (.isub, 1, 0, [], 0), (.iaload, 1, 0, [], 0)]),
  (19, [(.ireturn, 1, 0, [], 0)])]
theorem ok_R_componentOf : x_mok y_R_componentOf (x_on 20) false b_R_componentOf := x_chm_ok rfl (by decide) (by decide +kernel)
def b_R_freeCell : List (Nat × List XO) := [(0, [(.iconst (-1), 1, 0, [], (-1)), (.istore_n 2, 1, 2, [], 0), (.iconst 4, 1, 0, [], 4), (.iload_n 1, 1, 1, [], 0), (.imul, 1, 0, [], 0), (.istore_n 3, 1, 3, [], 0)]),
  (6, [(.iload_n 3, 1, 3, [], 0), (.iconst 4, 1, 0, [], 4), (.iload_n 1, 1, 1, [], 0), (.imul, 1, 0, [], 0), (.iconst 4, 1, 0, [], 4), (.iadd, 1, 0, [], 0), (.if_icmp .ge 54, 3, 66, [], 0), (.aload_n 0, 1, 0, [], 0), (.getfield 43, 3, 15, [(11, 2)], 0), (.iload_n 3, 1, 3, [], 0), (.iaload, 1, 0, [], 0), (.ifCond .le 39, 3, 60, [], 0), (.aload_n 0, 1, 0, [], 0), (.aload_n 0, 1, 0, [], 0), (.getfield 43, 3, 15, [(11, 2)], 0), (.iload_n 3, 1, 3, [], 0), (.iaload, 1, 0, [], 0), (.iconst 1, 1, 0, [], 1), (.isub, 1, 0, [], 0), (.invokevirtual 161, 3, 1, [(11, 134)], 0), (.ifCond .ne 24, 3, 60, [], 0), (.iload_n 2, 1, 2, [], 0), (.ifCond .lt 18, 3, 58, [], 0), (.aload_n 0, 1, 0, [], 0), (.getfield 46, 3, 16, [(11, 2)], 0), (.iload_n 3, 1, 3, [], 0), (.iaload, 1, 0, [], 0), (.aload_n 0, 1, 0, [], 0), (.getfield 46, 3, 16, [(11, 2)], 0), (.iload_n 2, 1, 2, [], 0), (.iaload, 1, 0, [], 0), (.if_icmp .le 5, 3, 60, [], 0)]),
  (58, [(.iload_n 3, 1, 3, [], 0), (.istore_n 2, 1, 2, [], 0)]),
  (60, [(.iinc 3 1, 3, 3, [], 1), (.goto (-57), 3, 6, [], 0)]),
  (66, [(.iload_n 2, 1, 2, [], 0), (.ireturn, 1, 0, [], 0)])]
theorem ok_R_freeCell : x_mok y_R_freeCell (x_on 20) false b_R_freeCell := x_chm_ok rfl (by decide) (by decide +kernel)
def b_R_instanceInUse : List (Nat × List XO) := [(0, [(.iconst 0, 1, 0, [], 0), (.istore_n 2, 1, 2, [], 0), (.iconst 0, 1, 0, [], 0), (.istore_n 3, 1, 3, [], 0)]),
  (4, [(.iload_n 3, 1, 3, [], 0), (.bipush 8, 2, 0, [], 8), (.if_icmp .ge 54, 3, 61, [], 0), (.iconst 0, 1, 0, [], 0), (.istore 4, 2, 4, [], 0)]),
  (13, [(.iload 4, 2, 4, [], 0), (.aload_n 0, 1, 0, [], 0), (.getfield 67, 3, 25, [(11, 2)], 0), (.iload_n 3, 1, 3, [], 0), (.iaload, 1, 0, [], 0), (.if_icmp .ge 34, 3, 55, [], 0), (.iload_n 2, 1, 2, [], 0), (.ifCond .ne 18, 3, 43, [], 0), (.aload_n 0, 1, 0, [], 0), (.getfield 73, 3, 27, [(11, 2)], 0), (.iconst 4, 1, 0, [], 4), (.iload_n 3, 1, 3, [], 0), (.imul, 1, 0, [], 0), (.iload 4, 2, 4, [], 0), (.iadd, 1, 0, [], 0), (.iaload, 1, 0, [], 0), (.iload_n 1, 1, 1, [], 0), (.if_icmp .ne 7, 3, 47, [], 0)]),
  (43, [(.iconst 1, 1, 0, [], 1), (.goto 4, 3, 48, [], 0)]),
  (47, [(.iconst 0, 1, 0, [], 0)]),
  (48, [(.istore_n 2, 1, 2, [], 0), (.iinc 4 1, 3, 4, [], 1), (.goto (-39), 3, 13, [], 0)]),
  (55, [(.iinc 3 1, 3, 3, [], 1), (.goto (-54), 3, 4, [], 0)]),
  (61, [(.iload_n 2, 1, 2, [], 0), (.ireturn, 1, 1, [], 0)])]
theorem ok_R_instanceInUse : x_mok y_R_instanceInUse (x_on 20) false b_R_instanceInUse := x_chm_ok rfl (by decide) (by decide +kernel)
def b_R_pooled : List (Nat × List XO) := [(0, [(.iconst 0, 1, 0, [], 0), (.istore_n 2, 1, 2, [], 0), (.iconst 4, 1, 0, [], 4), (.iload_n 1, 1, 1, [], 0), (.imul, 1, 0, [], 0), (.istore_n 3, 1, 3, [], 0)]),
  (6, [(.iload_n 3, 1, 3, [], 0), (.iconst 4, 1, 0, [], 4), (.iload_n 1, 1, 1, [], 0), (.imul, 1, 0, [], 0), (.iconst 4, 1, 0, [], 4), (.iadd, 1, 0, [], 0), (.if_icmp .ge 26, 3, 38, [], 0), (.iload_n 2, 1, 2, [], 0), (.aload_n 0, 1, 0, [], 0), (.getfield 43, 3, 15, [(11, 2)], 0), (.iload_n 3, 1, 3, [], 0), (.iaload, 1, 0, [], 0), (.ifCond .le 7, 3, 29, [], 0), (.iconst 1, 1, 0, [], 1), (.goto 4, 3, 30, [], 0)]),
  (29, [(.iconst 0, 1, 0, [], 0)]),
  (30, [(.iadd, 1, 0, [], 0), (.istore_n 2, 1, 2, [], 0), (.iinc 3 1, 3, 3, [], 1), (.goto (-29), 3, 6, [], 0)]),
  (38, [(.iload_n 2, 1, 2, [], 0), (.ireturn, 1, 0, [], 0)])]
theorem ok_R_pooled : x_mok y_R_pooled (x_on 20) false b_R_pooled := x_chm_ok rfl (by decide) (by decide +kernel)
def b_R_methodsIn : List (Nat × List XO) := [(0, [(.iconst 0, 1, 0, [], 0), (.istore 5, 2, 5, [], 0), (.iload_n 2, 1, 2, [], 0), (.istore 6, 2, 6, [], 0)]),
  (6, [(.iload 6, 2, 6, [], 0), (.iload_n 3, 1, 3, [], 0), (.if_icmp .ge 73, 3, 82, [], 0), (.iconst 0, 1, 0, [], 0), (.istore 7, 2, 7, [], 0)]),
  (15, [(.iload 7, 2, 7, [], 0), (.aload_n 0, 1, 0, [], 0), (.getfield 67, 3, 25, [(11, 2)], 0), (.iload 6, 2, 6, [], 0), (.iaload, 1, 0, [], 0), (.if_icmp .ge 52, 3, 76, [], 0), (.iload 5, 2, 5, [], 0), (.aload_n 0, 1, 0, [], 0), (.getfield 70, 3, 26, [(11, 2)], 0), (.iconst 4, 1, 0, [], 4), (.iload 6, 2, 6, [], 0), (.imul, 1, 0, [], 0), (.iload 7, 2, 7, [], 0), (.iadd, 1, 0, [], 0), (.iaload, 1, 0, [], 0), (.iload_n 1, 1, 1, [], 0), (.if_icmp .ne 24, 3, 66, [], 0), (.aload_n 0, 1, 0, [], 0), (.getfield 76, 3, 28, [(11, 2)], 0), (.iconst 4, 1, 0, [], 4), (.iload 6, 2, 6, [], 0), (.imul, 1, 0, [], 0), (.iload 7, 2, 7, [], 0), (.iadd, 1, 0, [], 0), (.iaload, 1, 0, [], 0), (.iload 4, 2, 4, [], 0), (.if_icmp .lt 7, 3, 66, [], 0), (.iconst 1, 1, 0, [], 1), (.goto 4, 3, 67, [], 0)]),
  (66, [(.iconst 0, 1, 0, [], 0)]),
  (67, [(.iadd, 1, 0, [], 0), (.istore 5, 2, 5, [], 0), (.iinc 7 1, 3, 7, [], 1), (.goto (-58), 3, 15, [], 0)]),
  (76, [(.iinc 6 1, 3, 6, [], 1), (.goto (-73), 3, 6, [], 0)]),
  (82, [(.iload 5, 2, 5, [], 0), (.ireturn, 1, 0, [], 0)])]
theorem ok_R_methodsIn : x_mok y_R_methodsIn (x_on 20) false b_R_methodsIn := x_chm_ok rfl (by decide) (by decide +kernel)
def b_R_give : List (Nat × List XO) := [(0, [(.aload_n 0, 1, 0, [], 0), (.getfield 91, 3, 34, [(11, 2)], 0), (.iload_n 1, 1, 1, [], 0), (.iload_n 2, 1, 2, [], 0), (.iastore, 1, 0, [], 0), (.aload_n 0, 1, 0, [], 0), (.getfield 67, 3, 25, [(11, 2)], 0), (.iload_n 1, 1, 1, [], 0), (.iaload, 1, 0, [], 0), (.ifCond .ne 43, 3, 56, [], 0), (.aload_n 0, 1, 0, [], 0), (.getfield 113, 3, 42, [(11, 2)], 0), (.iload_n 1, 1, 1, [], 0), (.iaload, 1, 0, [], 0), (.ifCond .lt 34, 3, 56, [], 0), (.aload_n 0, 1, 0, [], 0), (.getfield 94, 3, 36, [(11, 2)], 0), (.aload_n 0, 1, 0, [], 0), (.getfield 113, 3, 42, [(11, 2)], 0), (.iload_n 1, 1, 1, [], 0), (.iaload, 1, 0, [], 0), (.iconst 4, 1, 0, [], 4), (.iastore, 1, 0, [], 0), (.aload_n 0, 1, 0, [], 0), (.getfield 103, 3, 39, [(11, 2)], 0), (.aload_n 0, 1, 0, [], 0), (.getfield 113, 3, 42, [(11, 2)], 0), (.iload_n 1, 1, 1, [], 0), (.iaload, 1, 0, [], 0), (.iload_n 2, 1, 2, [], 0), (.iastore, 1, 0, [], 0), (.aload_n 0, 1, 0, [], 0), (.getfield 113, 3, 42, [(11, 2)], 0), (.iload_n 1, 1, 1, [], 0), (.iconst (-1), 1, 0, [], (-1)), (.iastore, 1, 0, [], 0)]),
  (56, [(.return_, 1, 0, [], 0)])]
theorem ok_R_give : x_mok y_R_give (x_on 20) false b_R_give := x_chm_ok rfl (by decide) (by decide +kernel)
def b_R_enter : List (Nat × List XO) := [(0, [(.aload_n 0, 1, 0, [], 0), (.getfield 7, 3, 3, [(11, 2)], 0), (.aload_n 0, 1, 0, [], 0), (.iload_n 2, 1, 2, [], 0), (.invokevirtual 158, 3, 1, [(11, 132)], 0), (.iaload, 1, 0, [], 0), (.istore 5, 2, 5, [], 0), (.iload 5, 2, 5, [], 0), (.ifCond .ne 13, 3, 27, [], 0), (.aload_n 0, 1, 0, [], 0), (.iload_n 2, 1, 2, [], 0), (.invokevirtual 178, 3, 1, [(11, 139)], 0), (.istore 4, 2, 4, [], 0), (.goto 62, 3, 86, [], 0)]),
  (27, [(.iload 5, 2, 5, [], 0), (.iconst 1, 1, 0, [], 1), (.if_icmp .ne 48, 3, 78, [], 0), (.aload_n 0, 1, 0, [], 0), (.getfield 55, 3, 20, [(11, 2)], 0), (.iload_n 2, 1, 2, [], 0), (.bipush 8, 2, 0, [], 8), (.isub, 1, 0, [], 0), (.iaload, 1, 0, [], 0), (.istore 4, 2, 4, [], 0), (.aload_n 0, 1, 0, [], 0), (.getfield 58, 3, 21, [(11, 2)], 0), (.iload_n 2, 1, 2, [], 0), (.bipush 8, 2, 0, [], 8), (.isub, 1, 0, [], 0), (.iaload, 1, 0, [], 0), (.iconst 2, 1, 0, [], 2), (.if_icmp .ne 32, 3, 86, [], 0), (.aload_n 0, 1, 0, [], 0), (.getfield 58, 3, 21, [(11, 2)], 0), (.iload_n 2, 1, 2, [], 0), (.bipush 8, 2, 0, [], 8), (.isub, 1, 0, [], 0), (.iconst 1, 1, 0, [], 1), (.iastore, 1, 0, [], 0), (.aload_n 0, 1, 0, [], 0), (.iconst 5, 1, 0, [], 5), (.iconst 0, 1, 0, [], 0), (.iload 4, 2, 4, [], 0), (.invokevirtual 126, 3, 3, [(11, 125)], 0), (.goto 11, 3, 86, [], 0)]),
  (78, [(.aload_n 0, 1, 0, [], 0), (.getfield 31, 3, 10, [(11, 2)], 0), (.iload_n 2, 1, 2, [], 0), (.iaload, 1, 0, [], 0), (.istore 4, 2, 4, [], 0)]),
  (86, [(.iconst 4, 1, 0, [], 4), (.iload_n 1, 1, 1, [], 0), (.imul, 1, 0, [], 0), (.aload_n 0, 1, 0, [], 0), (.getfield 67, 3, 25, [(11, 2)], 0), (.iload_n 1, 1, 1, [], 0), (.iaload, 1, 0, [], 0), (.iadd, 1, 0, [], 0), (.istore 6, 2, 6, [], 0), (.aload_n 0, 1, 0, [], 0), (.getfield 70, 3, 26, [(11, 2)], 0), (.iload 6, 2, 6, [], 0), (.iload_n 2, 1, 2, [], 0), (.iastore, 1, 0, [], 0), (.aload_n 0, 1, 0, [], 0), (.getfield 73, 3, 27, [(11, 2)], 0), (.iload 6, 2, 6, [], 0), (.iload 4, 2, 4, [], 0), (.iastore, 1, 0, [], 0), (.aload_n 0, 1, 0, [], 0), (.getfield 76, 3, 28, [(11, 2)], 0), (.iload 6, 2, 6, [], 0), (.iload_n 3, 1, 3, [], 0), (.iastore, 1, 0, [], 0), (.aload_n 0, 1, 0, [], 0), (.getfield 67, 3, 25, [(11, 2)], 0), (.iload_n 1, 1, 1, [], 0), (.dup2, 1, 0, [], 0), (.iaload, 1, 0, [], 0), (.iconst 1, 1, 0, [], 1), (.iadd, 1, 0, [], 0), (.iastore, 1, 0, [], 0), (.aload_n 0, 1, 0, [], 0), (.bipush 7, 2, 0, [], 7), (.iload_n 1, 1, 1, [], 0), (.iconst 1, 1, 0, [], 1), (.iadd, 1, 0, [], 0), (.iload 4, 2, 4, [], 0), (.invokevirtual 126, 3, 3, [(11, 125)], 0), (.bipush 20, 2, 0, [], 20), (.ireturn, 1, 0, [], 0)])]
theorem ok_R_enter : x_mok y_R_enter (x_on 20) false b_R_enter := x_chm_ok rfl (by decide) (by decide +kernel)
def b_R_pooledInstance : List (Nat × List XO) := [(0, [(.aload_n 0, 1, 0, [], 0), (.iload_n 1, 1, 1, [], 0), (.invokevirtual 164, 3, 1, [(11, 133)], 0), (.istore_n 2, 1, 2, [], 0), (.iload_n 2, 1, 2, [], 0), (.ifCond .lt 12, 3, 19, [], 0), (.aload_n 0, 1, 0, [], 0), (.getfield 43, 3, 15, [(11, 2)], 0), (.iload_n 2, 1, 2, [], 0), (.iaload, 1, 0, [], 0), (.iconst 1, 1, 0, [], 1), (.isub, 1, 0, [], 0), (.ireturn, 1, 0, [], 0)]),
  (19, [(.iconst 4, 1, 0, [], 4), (.iload_n 1, 1, 1, [], 0), (.imul, 1, 0, [], 0), (.istore_n 3, 1, 3, [], 0), (.iconst 4, 1, 0, [], 4), (.iload_n 1, 1, 1, [], 0), (.imul, 1, 0, [], 0), (.iconst 3, 1, 0, [], 3), (.iadd, 1, 0, [], 0), (.istore 4, 2, 4, [], 0)]),
  (30, [(.iload 4, 2, 4, [], 0), (.iconst 4, 1, 0, [], 4), (.iload_n 1, 1, 1, [], 0), (.imul, 1, 0, [], 0), (.if_icmp .lt 26, 3, 61, [], 0), (.aload_n 0, 1, 0, [], 0), (.getfield 43, 3, 15, [(11, 2)], 0), (.iload 4, 2, 4, [], 0), (.iaload, 1, 0, [], 0), (.ifCond .ne 8, 3, 53, [], 0), (.iload 4, 2, 4, [], 0), (.goto 4, 3, 54, [], 0)]),
  (53, [(.iload_n 3, 1, 3, [], 0)]),
  (54, [(.istore_n 3, 1, 3, [], 0), (.iinc 4 (-1), 3, 4, [], (-1)), (.goto (-28), 3, 30, [], 0)]),
  (61, [(.aload_n 0, 1, 0, [], 0), (.invokevirtual 144, 3, 0, [(11, 124)], 0), (.istore 4, 2, 4, [], 0), (.aload_n 0, 1, 0, [], 0), (.getfield 43, 3, 15, [(11, 2)], 0), (.iload_n 3, 1, 3, [], 0), (.iload 4, 2, 4, [], 0), (.iconst 1, 1, 0, [], 1), (.iadd, 1, 0, [], 0), (.iastore, 1, 0, [], 0), (.iload 4, 2, 4, [], 0), (.ireturn, 1, 0, [], 0)])]
theorem ok_R_pooledInstance : x_mok y_R_pooledInstance (x_on 20) false b_R_pooledInstance := x_chm_ok rfl (by decide) (by decide +kernel)
def b_R_work : List (Nat × List XO) := [(0, [(.iconst 0, 1, 0, [], 0), (.istore_n 1, 1, 1, [], 0)]),
  (2, [(.iload_n 1, 1, 1, [], 0), (.aload_n 0, 1, 0, [], 0), (.getfield 205, 3, 35, [(11, 0)], 0), (.if_icmp .ge 87, 3, 94, [], 0), (.aload_n 0, 1, 0, [], 0), (.getfield 113, 3, 42, [(11, 2)], 0), (.bipush 6, 2, 0, [], 6), (.iaload, 1, 0, [], 0), (.ifCond .ge 8, 3, 25, [], 0), (.bipush 6, 2, 0, [], 6), (.goto 19, 3, 41, [], 0)]),
  (25, [(.aload_n 0, 1, 0, [], 0), (.getfield 113, 3, 42, [(11, 2)], 0), (.bipush 7, 2, 0, [], 7), (.iaload, 1, 0, [], 0), (.ifCond .ge 8, 3, 40, [], 0), (.bipush 7, 2, 0, [], 7), (.goto 4, 3, 41, [], 0)]),
  (40, [(.iconst (-1), 1, 0, [], (-1))]),
  (41, [(.istore_n 2, 1, 2, [], 0), (.aload_n 0, 1, 0, [], 0), (.getfield 94, 3, 36, [(11, 2)], 0), (.iload_n 1, 1, 1, [], 0), (.iaload, 1, 0, [], 0), (.iconst 1, 1, 0, [], 1), (.if_icmp .ne 39, 3, 88, [], 0), (.iload_n 2, 1, 2, [], 0), (.ifCond .lt 35, 3, 88, [], 0), (.aload_n 0, 1, 0, [], 0), (.getfield 94, 3, 36, [(11, 2)], 0), (.iload_n 1, 1, 1, [], 0), (.iconst 2, 1, 0, [], 2), (.iastore, 1, 0, [], 0), (.aload_n 0, 1, 0, [], 0), (.getfield 113, 3, 42, [(11, 2)], 0), (.iload_n 2, 1, 2, [], 0), (.iload_n 1, 1, 1, [], 0), (.iastore, 1, 0, [], 0), (.aload_n 0, 1, 0, [], 0), (.iload_n 2, 1, 2, [], 0), (.aload_n 0, 1, 0, [], 0), (.getfield 97, 3, 37, [(11, 2)], 0), (.iload_n 1, 1, 1, [], 0), (.iaload, 1, 0, [], 0), (.aload_n 0, 1, 0, [], 0), (.getfield 100, 3, 38, [(11, 2)], 0), (.iload_n 1, 1, 1, [], 0), (.iaload, 1, 0, [], 0), (.invokevirtual 208, 3, 3, [(11, 141)], 0), (.pop, 1, 0, [], 0)]),
  (88, [(.iinc 1 1, 3, 1, [], 1), (.goto (-89), 3, 2, [], 0)]),
  (94, [(.return_, 1, 0, [], 0)])]
theorem ok_R_work : x_mok y_R_work (x_on 20) false b_R_work := x_chm_ok rfl (by decide) (by decide +kernel)
def b_R_attempt : List (Nat × List XO) := [(0, [(.aload_n 0, 1, 0, [], 0), (.getfield 7, 3, 3, [(11, 2)], 0), (.aload_n 0, 1, 0, [], 0), (.iload_n 2, 1, 2, [], 0), (.invokevirtual 158, 3, 1, [(11, 132)], 0), (.iaload, 1, 0, [], 0), (.istore 4, 2, 4, [], 0), (.iload 4, 2, 4, [], 0), (.iconst 1, 1, 0, [], 1), (.if_icmp .ne 23, 3, 38, [], 0), (.aload_n 0, 1, 0, [], 0), (.getfield 58, 3, 21, [(11, 2)], 0), (.iload_n 2, 1, 2, [], 0), (.bipush 8, 2, 0, [], 8), (.isub, 1, 0, [], 0), (.iaload, 1, 0, [], 0), (.ifCond .ne 11, 3, 38, [], 0), (.aload_n 0, 1, 0, [], 0), (.iload_n 1, 1, 1, [], 0), (.bipush 9, 2, 0, [], 9), (.invokevirtual 181, 3, 2, [(11, 142)], 0), (.ireturn, 1, 0, [], 0)]),
  (38, [(.iload 4, 2, 4, [], 0), (.iconst 2, 1, 0, [], 2), (.if_icmp .ne 26, 3, 67, [], 0), (.aload_n 0, 1, 0, [], 0), (.iload_n 2, 1, 2, [], 0), (.invokevirtual 151, 3, 1, [(11, 123)], 0), (.aload_n 0, 1, 0, [], 0), (.getfield 28, 3, 9, [(11, 2)], 0), (.iload_n 2, 1, 2, [], 0), (.iaload, 1, 0, [], 0), (.iconst 2, 1, 0, [], 2), (.if_icmp .ne 11, 3, 67, [], 0), (.aload_n 0, 1, 0, [], 0), (.iload_n 1, 1, 1, [], 0), (.bipush 9, 2, 0, [], 9), (.invokevirtual 181, 3, 2, [(11, 142)], 0), (.ireturn, 1, 0, [], 0)]),
  (67, [(.iload 4, 2, 4, [], 0), (.ifCond .le 69, 3, 138, [], 0), (.aload_n 0, 1, 0, [], 0), (.iload_n 2, 1, 2, [], 0), (.iload_n 1, 1, 1, [], 0), (.iload_n 1, 1, 1, [], 0), (.iconst 1, 1, 0, [], 1), (.iadd, 1, 0, [], 0), (.iconst 0, 1, 0, [], 0), (.invokevirtual 170, 3, 4, [(11, 136)], 0), (.ifCond .le 56, 3, 138, [], 0), (.iload 4, 2, 4, [], 0), (.iconst 2, 1, 0, [], 2), (.if_icmp .ne 24, 3, 112, [], 0), (.iload_n 3, 1, 3, [], 0), (.ifCond .eq 16, 3, 108, [], 0), (.aload_n 0, 1, 0, [], 0), (.iload_n 2, 1, 2, [], 0), (.iload_n 1, 1, 1, [], 0), (.iload_n 1, 1, 1, [], 0), (.iconst 1, 1, 0, [], 1), (.iadd, 1, 0, [], 0), (.iconst 1, 1, 0, [], 1), (.invokevirtual 170, 3, 4, [(11, 136)], 0), (.ifCond .le 7, 3, 112, [], 0)]),
  (108, [(.iconst 1, 1, 0, [], 1), (.goto 4, 3, 113, [], 0)]),
  (112, [(.iconst 0, 1, 0, [], 0)]),
  (113, [(.istore 5, 2, 5, [], 0), (.iload 5, 2, 5, [], 0), (.ifCond .eq 13, 3, 130, [], 0), (.aload_n 0, 1, 0, [], 0), (.iload_n 1, 1, 1, [], 0), (.iload_n 2, 1, 2, [], 0), (.iload_n 3, 1, 3, [], 0), (.invokevirtual 191, 3, 3, [(11, 138)], 0), (.goto 10, 3, 137, [], 0)]),
  (130, [(.aload_n 0, 1, 0, [], 0), (.iload_n 1, 1, 1, [], 0), (.bipush 12, 2, 0, [], 12), (.invokevirtual 181, 3, 2, [(11, 142)], 0)]),
  (137, [(.ireturn, 1, 0, [], 0)]),
  (138, [(.aload_n 0, 1, 0, [], 0), (.iload_n 2, 1, 2, [], 0), (.iload_n 3, 1, 3, [], 0), (.invokevirtual 195, 3, 2, [(11, 131)], 0), (.ifCond .eq 21, 3, 165, [], 0), (.iload 4, 2, 4, [], 0), (.iconst 1, 1, 0, [], 1), (.if_icmp .eq 11, 3, 161, [], 0), (.aload_n 0, 1, 0, [], 0), (.iload_n 2, 1, 2, [], 0), (.invokevirtual 199, 3, 1, [(11, 130)], 0), (.ifCond .ge 7, 3, 165, [], 0)]),
  (161, [(.iconst 1, 1, 0, [], 1), (.goto 4, 3, 166, [], 0)]),
  (165, [(.iconst 0, 1, 0, [], 0)]),
  (166, [(.istore 5, 2, 5, [], 0), (.iload 5, 2, 5, [], 0), (.ifCond .eq 13, 3, 183, [], 0), (.aload_n 0, 1, 0, [], 0), (.iload_n 1, 1, 1, [], 0), (.iload_n 2, 1, 2, [], 0), (.iload_n 3, 1, 3, [], 0), (.invokevirtual 191, 3, 3, [(11, 138)], 0), (.goto 10, 3, 190, [], 0)]),
  (183, [(.aload_n 0, 1, 0, [], 0), (.iload_n 1, 1, 1, [], 0), (.iload_n 2, 1, 2, [], 0), (.iload_n 3, 1, 3, [], 0), (.invokevirtual 202, 3, 3, [(11, 143)], 0)]),
  (190, [(.ireturn, 1, 0, [], 0)])]
theorem ok_R_attempt : x_mok y_R_attempt (x_on 20) false b_R_attempt := x_chm_ok rfl (by decide) (by decide +kernel)
def b_R_answer : List (Nat × List XO) := [(0, [(.aload_n 0, 1, 0, [], 0), (.iload_n 1, 1, 1, [], 0), (.iload_n 2, 1, 2, [], 0), (.invokevirtual 174, 3, 2, [(11, 137)], 0), (.iload_n 2, 1, 2, [], 0), (.ireturn, 1, 0, [], 0)])]
theorem ok_R_answer : x_mok y_R_answer (x_on 20) false b_R_answer := x_chm_ok rfl (by decide) (by decide +kernel)
def b_R_refuse : List (Nat × List XO) := [(0, [(.aload_n 0, 1, 0, [], 0), (.getfield 16, 3, 5, [(11, 2)], 0), (.aload_n 0, 1, 0, [], 0), (.iload_n 2, 1, 2, [], 0), (.invokevirtual 158, 3, 1, [(11, 132)], 0), (.iaload, 1, 0, [], 0), (.ifCond .ne 11, 3, 21, [], 0), (.aload_n 0, 1, 0, [], 0), (.iload_n 1, 1, 1, [], 0), (.bipush 11, 2, 0, [], 11), (.invokevirtual 181, 3, 2, [(11, 142)], 0), (.ireturn, 1, 0, [], 0)]),
  (21, [(.aload_n 0, 1, 0, [], 0), (.getfield 79, 3, 29, [(11, 2)], 0), (.iload_n 1, 1, 1, [], 0), (.iload_n 2, 1, 2, [], 0), (.iastore, 1, 0, [], 0), (.aload_n 0, 1, 0, [], 0), (.getfield 82, 3, 30, [(11, 2)], 0), (.iload_n 1, 1, 1, [], 0), (.iload_n 3, 1, 3, [], 0), (.iastore, 1, 0, [], 0), (.aload_n 0, 1, 0, [], 0), (.getfield 85, 3, 31, [(11, 2)], 0), (.iload_n 1, 1, 1, [], 0), (.aload_n 0, 1, 0, [], 0), (.getfield 185, 3, 1, [(11, 0)], 0), (.iastore, 1, 0, [], 0), (.aload_n 0, 1, 0, [], 0), (.getfield 88, 3, 32, [(11, 2)], 0), (.iload_n 1, 1, 1, [], 0), (.aload_n 0, 1, 0, [], 0), (.getfield 188, 3, 33, [(11, 0)], 0), (.iastore, 1, 0, [], 0), (.aload_n 0, 1, 0, [], 0), (.dup, 1, 0, [], 0), (.getfield 188, 3, 33, [(11, 0)], 0), (.iconst 1, 1, 0, [], 1), (.iadd, 1, 0, [], 0), (.putfield 188, 3, 33, [(11, 0)], 0), (.bipush 21, 2, 0, [], 21), (.ireturn, 1, 0, [], 0)])]
theorem ok_R_refuse : x_mok y_R_refuse (x_on 20) false b_R_refuse := x_chm_ok rfl (by decide) (by decide +kernel)
def b_R_putAway : List (Nat × List XO) := [(0, [(.iconst 0, 1, 0, [], 0), (.istore_n 2, 1, 2, [], 0)]),
  (2, [(.iload_n 2, 1, 2, [], 0), (.bipush 24, 2, 0, [], 24), (.if_icmp .ge 139, 3, 144, [], 0), (.iconst (-1), 1, 0, [], (-1)), (.istore_n 3, 1, 3, [], 0), (.iconst 0, 1, 0, [], 0), (.istore 4, 2, 4, [], 0)]),
  (13, [(.iload 4, 2, 4, [], 0), (.aload_n 0, 1, 0, [], 0), (.getfield 155, 3, 18, [(11, 0)], 0), (.if_icmp .ge 82, 3, 101, [], 0), (.aload_n 0, 1, 0, [], 0), (.getfield 52, 3, 19, [(11, 2)], 0), (.iload 4, 2, 4, [], 0), (.iaload, 1, 0, [], 0), (.iload_n 1, 1, 1, [], 0), (.if_icmp .ne 34, 3, 64, [], 0), (.aload_n 0, 1, 0, [], 0), (.getfield 58, 3, 21, [(11, 2)], 0), (.iload 4, 2, 4, [], 0), (.iaload, 1, 0, [], 0), (.iconst 1, 1, 0, [], 1), (.if_icmp .ne 23, 3, 64, [], 0), (.aload_n 0, 1, 0, [], 0), (.bipush 8, 2, 0, [], 8), (.iload 4, 2, 4, [], 0), (.iadd, 1, 0, [], 0), (.iconst 0, 1, 0, [], 0), (.bipush 8, 2, 0, [], 8), (.iconst 0, 1, 0, [], 0), (.invokevirtual 170, 3, 4, [(11, 136)], 0), (.ifCond .ne 7, 3, 64, [], 0), (.iconst 1, 1, 0, [], 1), (.goto 4, 3, 65, [], 0)]),
  (64, [(.iconst 0, 1, 0, [], 0)]),
  (65, [(.istore 5, 2, 5, [], 0), (.iload 5, 2, 5, [], 0), (.ifCond .eq 26, 3, 95, [], 0), (.iload_n 3, 1, 3, [], 0), (.ifCond .lt 19, 3, 92, [], 0), (.aload_n 0, 1, 0, [], 0), (.getfield 61, 3, 22, [(11, 2)], 0), (.iload 4, 2, 4, [], 0), (.iaload, 1, 0, [], 0), (.aload_n 0, 1, 0, [], 0), (.getfield 61, 3, 22, [(11, 2)], 0), (.iload_n 3, 1, 3, [], 0), (.iaload, 1, 0, [], 0), (.if_icmp .ge 6, 3, 95, [], 0)]),
  (92, [(.iload 4, 2, 4, [], 0), (.istore_n 3, 1, 3, [], 0)]),
  (95, [(.iinc 4 1, 3, 4, [], 1), (.goto (-85), 3, 13, [], 0)]),
  (101, [(.iload_n 3, 1, 3, [], 0), (.ifCond .lt 36, 3, 138, [], 0), (.aload_n 0, 1, 0, [], 0), (.iload_n 1, 1, 1, [], 0), (.invokevirtual 211, 3, 1, [(11, 145)], 0), (.aload_n 0, 1, 0, [], 0), (.getfield 13, 3, 4, [(11, 2)], 0), (.iload_n 1, 1, 1, [], 0), (.iaload, 1, 0, [], 0), (.if_icmp .le 22, 3, 138, [], 0), (.aload_n 0, 1, 0, [], 0), (.getfield 58, 3, 21, [(11, 2)], 0), (.iload_n 3, 1, 3, [], 0), (.iconst 2, 1, 0, [], 2), (.iastore, 1, 0, [], 0), (.aload_n 0, 1, 0, [], 0), (.iconst 4, 1, 0, [], 4), (.iconst 0, 1, 0, [], 0), (.aload_n 0, 1, 0, [], 0), (.getfield 55, 3, 20, [(11, 2)], 0), (.iload_n 3, 1, 3, [], 0), (.iaload, 1, 0, [], 0), (.invokevirtual 126, 3, 3, [(11, 125)], 0)]),
  (138, [(.iinc 2 1, 3, 2, [], 1), (.goto (-139), 3, 2, [], 0)]),
  (144, [(.return_, 1, 0, [], 0)])]
theorem ok_R_putAway : x_mok y_R_putAway (x_on 20) false b_R_putAway := x_chm_ok rfl (by decide) (by decide +kernel)
def b_R_inMemory : List (Nat × List XO) := [(0, [(.iconst 0, 1, 0, [], 0), (.istore_n 2, 1, 2, [], 0), (.iconst 0, 1, 0, [], 0), (.istore_n 3, 1, 3, [], 0)]),
  (4, [(.iload_n 3, 1, 3, [], 0), (.aload_n 0, 1, 0, [], 0), (.getfield 155, 3, 18, [(11, 0)], 0), (.if_icmp .ge 37, 3, 46, [], 0), (.iload_n 2, 1, 2, [], 0), (.aload_n 0, 1, 0, [], 0), (.getfield 52, 3, 19, [(11, 2)], 0), (.iload_n 3, 1, 3, [], 0), (.iaload, 1, 0, [], 0), (.iload_n 1, 1, 1, [], 0), (.if_icmp .ne 17, 3, 37, [], 0), (.aload_n 0, 1, 0, [], 0), (.getfield 58, 3, 21, [(11, 2)], 0), (.iload_n 3, 1, 3, [], 0), (.iaload, 1, 0, [], 0), (.iconst 1, 1, 0, [], 1), (.if_icmp .ne 7, 3, 37, [], 0), (.iconst 1, 1, 0, [], 1), (.goto 4, 3, 38, [], 0)]),
  (37, [(.iconst 0, 1, 0, [], 0)]),
  (38, [(.iadd, 1, 0, [], 0), (.istore_n 2, 1, 2, [], 0), (.iinc 3 1, 3, 3, [], 1), (.goto (-39), 3, 4, [], 0)]),
  (46, [(.iload_n 2, 1, 2, [], 0), (.ireturn, 1, 0, [], 0)])]
theorem ok_R_inMemory : x_mok y_R_inMemory (x_on 20) false b_R_inMemory := x_chm_ok rfl (by decide) (by decide +kernel)
def b_R_call : List (Nat × List XO) := [(0, [(.aload_n 0, 1, 0, [], 0), (.getfield 130, 3, 0, [(11, 0)], 0), (.iconst 1, 1, 0, [], 1), (.if_icmp .ne 47, 3, 52, [], 0), (.iload_n 1, 1, 1, [], 0), (.ifCond .lt 43, 3, 52, [], 0), (.iload_n 1, 1, 1, [], 0), (.bipush 7, 2, 0, [], 7), (.if_icmp .gt 37, 3, 52, [], 0), (.aload_n 0, 1, 0, [], 0), (.getfield 79, 3, 29, [(11, 2)], 0), (.iload_n 1, 1, 1, [], 0), (.iaload, 1, 0, [], 0), (.ifCond .ge 28, 3, 52, [], 0), (.aload_n 0, 1, 0, [], 0), (.getfield 67, 3, 25, [(11, 2)], 0), (.iload_n 1, 1, 1, [], 0), (.iaload, 1, 0, [], 0), (.iconst 4, 1, 0, [], 4), (.if_icmp .ge 18, 3, 52, [], 0), (.iload_n 1, 1, 1, [], 0), (.bipush 6, 2, 0, [], 6), (.if_icmp .lt 14, 3, 54, [], 0), (.aload_n 0, 1, 0, [], 0), (.getfield 67, 3, 25, [(11, 2)], 0), (.iload_n 1, 1, 1, [], 0), (.iaload, 1, 0, [], 0), (.ifCond .ne 5, 3, 54, [], 0)]),
  (52, [(.iconst (-1), 1, 0, [], (-1)), (.ireturn, 1, 0, [], 0)]),
  (54, [(.aload_n 0, 1, 0, [], 0), (.iload_n 2, 1, 2, [], 0), (.invokevirtual 232, 3, 1, [(11, 147)], 0), (.ifCond .eq 12, 3, 71, [], 0), (.aload_n 0, 1, 0, [], 0), (.iload_n 2, 1, 2, [], 0), (.iload_n 3, 1, 3, [], 0), (.invokevirtual 235, 3, 2, [(11, 148)], 0), (.ifCond .ne 5, 3, 73, [], 0)]),
  (71, [(.iconst (-1), 1, 0, [], (-1)), (.ireturn, 1, 0, [], 0)]),
  (73, [(.aload_n 0, 1, 0, [], 0), (.iload_n 1, 1, 1, [], 0), (.iload_n 2, 1, 2, [], 0), (.iload_n 3, 1, 3, [], 0), (.invokevirtual 208, 3, 3, [(11, 141)], 0), (.istore 4, 2, 4, [], 0), (.aload_n 0, 1, 0, [], 0), (.invokevirtual 229, 3, 0, [(11, 128)], 0), (.iload 4, 2, 4, [], 0), (.ireturn, 1, 0, [], 0)])]
theorem ok_R_call : x_mok y_R_call (x_on 20) false b_R_call := x_chm_ok rfl (by decide) (by decide +kernel)
def b_R_isTarget : List (Nat × List XO) := [(0, [(.iload_n 1, 1, 1, [], 0), (.ifCond .lt 35, 3, 36, [], 0), (.iload_n 1, 1, 1, [], 0), (.bipush 8, 2, 0, [], 8), (.if_icmp .ge 29, 3, 36, [], 0), (.iload_n 1, 1, 1, [], 0), (.aload_n 0, 1, 0, [], 0), (.getfield 133, 3, 2, [(11, 0)], 0), (.if_icmp .ge 17, 3, 32, [], 0), (.aload_n 0, 1, 0, [], 0), (.getfield 7, 3, 3, [(11, 2)], 0), (.iload_n 1, 1, 1, [], 0), (.iaload, 1, 0, [], 0), (.iconst 1, 1, 0, [], 1), (.if_icmp .eq 7, 3, 32, [], 0), (.iconst 1, 1, 0, [], 1), (.goto 29, 3, 58, [], 0)]),
  (32, [(.iconst 0, 1, 0, [], 0), (.goto 25, 3, 58, [], 0)]),
  (36, [(.iload_n 1, 1, 1, [], 0), (.bipush 8, 2, 0, [], 8), (.if_icmp .lt 18, 3, 57, [], 0), (.iload_n 1, 1, 1, [], 0), (.bipush 8, 2, 0, [], 8), (.aload_n 0, 1, 0, [], 0), (.getfield 155, 3, 18, [(11, 0)], 0), (.iadd, 1, 0, [], 0), (.if_icmp .ge 7, 3, 57, [], 0), (.iconst 1, 1, 0, [], 1), (.goto 4, 3, 58, [], 0)]),
  (57, [(.iconst 0, 1, 0, [], 0)]),
  (58, [(.ireturn, 1, 1, [], 0)])]
theorem ok_R_isTarget : x_mok y_R_isTarget (x_on 20) false b_R_isTarget := x_chm_ok rfl (by decide) (by decide +kernel)
def b_R_isMode : List (Nat × List XO) := [(0, [(.aload_n 0, 1, 0, [], 0), (.getfield 7, 3, 3, [(11, 2)], 0), (.aload_n 0, 1, 0, [], 0), (.iload_n 1, 1, 1, [], 0), (.invokevirtual 158, 3, 1, [(11, 132)], 0), (.iaload, 1, 0, [], 0), (.istore_n 3, 1, 3, [], 0), (.iload_n 2, 1, 2, [], 0), (.ifCond .lt 29, 3, 41, [], 0), (.iload_n 2, 1, 2, [], 0), (.iload_n 3, 1, 3, [], 0), (.ifCond .ne 7, 3, 24, [], 0), (.iconst 0, 1, 0, [], 0), (.goto 13, 3, 34, [], 0)]),
  (24, [(.iload_n 3, 1, 3, [], 0), (.iconst 1, 1, 0, [], 1), (.if_icmp .ne 7, 3, 33, [], 0), (.iconst 2, 1, 0, [], 2), (.goto 4, 3, 34, [], 0)]),
  (33, [(.iconst 1, 1, 0, [], 1)]),
  (34, [(.if_icmp .gt 7, 3, 41, [], 0), (.iconst 1, 1, 0, [], 1), (.goto 4, 3, 42, [], 0)]),
  (41, [(.iconst 0, 1, 0, [], 0)]),
  (42, [(.ireturn, 1, 1, [], 0)])]
theorem ok_R_isMode : x_mok y_R_isMode (x_on 20) false b_R_isMode := x_chm_ok rfl (by decide) (by decide +kernel)
def b_R_finish : List (Nat × List XO) := [(0, [(.iload_n 1, 1, 1, [], 0), (.ifCond .lt 37, 3, 38, [], 0), (.iload_n 1, 1, 1, [], 0), (.bipush 7, 2, 0, [], 7), (.if_icmp .gt 31, 3, 38, [], 0), (.aload_n 0, 1, 0, [], 0), (.getfield 67, 3, 25, [(11, 2)], 0), (.iload_n 1, 1, 1, [], 0), (.iaload, 1, 0, [], 0), (.ifCond .eq 22, 3, 38, [], 0), (.aload_n 0, 1, 0, [], 0), (.getfield 79, 3, 29, [(11, 2)], 0), (.iload_n 1, 1, 1, [], 0), (.iaload, 1, 0, [], 0), (.ifCond .ge 13, 3, 38, [], 0), (.iload_n 2, 1, 2, [], 0), (.ifCond .lt 9, 3, 38, [], 0), (.iload_n 2, 1, 2, [], 0), (.bipush 7, 2, 0, [], 7), (.if_icmp .le 5, 3, 40, [], 0)]),
  (38, [(.iconst (-1), 1, 0, [], (-1)), (.ireturn, 1, 0, [], 0)]),
  (40, [(.aload_n 0, 1, 0, [], 0), (.getfield 67, 3, 25, [(11, 2)], 0), (.iload_n 1, 1, 1, [], 0), (.dup2, 1, 0, [], 0), (.iaload, 1, 0, [], 0), (.iconst 1, 1, 0, [], 1), (.isub, 1, 0, [], 0), (.iastore, 1, 0, [], 0), (.iconst 4, 1, 0, [], 4), (.iload_n 1, 1, 1, [], 0), (.imul, 1, 0, [], 0), (.aload_n 0, 1, 0, [], 0), (.getfield 67, 3, 25, [(11, 2)], 0), (.iload_n 1, 1, 1, [], 0), (.iaload, 1, 0, [], 0), (.iadd, 1, 0, [], 0), (.istore_n 3, 1, 3, [], 0), (.iload_n 2, 1, 2, [], 0), (.ifCond .le 15, 3, 77, [], 0), (.aload_n 0, 1, 0, [], 0), (.iload_n 2, 1, 2, [], 0), (.invokevirtual 238, 3, 1, [(11, 150)], 0), (.ifCond .eq 7, 3, 77, [], 0), (.iconst 1, 1, 0, [], 1), (.goto 4, 3, 78, [], 0)]),
  (77, [(.iconst 0, 1, 0, [], 0)]),
  (78, [(.istore 4, 2, 4, [], 0), (.aload_n 0, 1, 0, [], 0), (.bipush 8, 2, 0, [], 8), (.iload_n 1, 1, 1, [], 0), (.iconst 1, 1, 0, [], 1), (.iadd, 1, 0, [], 0), (.aload_n 0, 1, 0, [], 0), (.getfield 73, 3, 27, [(11, 2)], 0), (.iload_n 3, 1, 3, [], 0), (.iaload, 1, 0, [], 0), (.invokevirtual 126, 3, 3, [(11, 125)], 0), (.aload_n 0, 1, 0, [], 0), (.aload_n 0, 1, 0, [], 0), (.getfield 70, 3, 26, [(11, 2)], 0), (.iload_n 3, 1, 3, [], 0), (.iaload, 1, 0, [], 0), (.aload_n 0, 1, 0, [], 0), (.getfield 73, 3, 27, [(11, 2)], 0), (.iload_n 3, 1, 3, [], 0), (.iaload, 1, 0, [], 0), (.aload_n 0, 1, 0, [], 0), (.getfield 76, 3, 28, [(11, 2)], 0), (.iload_n 3, 1, 3, [], 0), (.iaload, 1, 0, [], 0), (.iload 4, 2, 4, [], 0), (.iload_n 2, 1, 2, [], 0), (.ifCond .ne 7, 3, 124, [], 0), (.iconst 1, 1, 0, [], 1), (.goto 4, 3, 125, [], 0)]),
  (124, [(.iconst 0, 1, 0, [], 0)]),
  (125, [(.invokevirtual 241, 3, 5, [(11, 151)], 0), (.iload 4, 2, 4, [], 0), (.ifCond .eq 8, 3, 138, [], 0), (.bipush 8, 2, 0, [], 8), (.goto 4, 3, 139, [], 0)]),
  (138, [(.iload_n 2, 1, 2, [], 0)]),
  (139, [(.istore 5, 2, 5, [], 0), (.aload_n 0, 1, 0, [], 0), (.iload_n 1, 1, 1, [], 0), (.iload 5, 2, 5, [], 0), (.invokevirtual 174, 3, 2, [(11, 137)], 0), (.aload_n 0, 1, 0, [], 0), (.getfield 130, 3, 0, [(11, 0)], 0), (.iconst 1, 1, 0, [], 1), (.if_icmp .ne 10, 3, 163, [], 0), (.aload_n 0, 1, 0, [], 0), (.invokevirtual 229, 3, 0, [(11, 128)], 0), (.goto 14, 3, 174, [], 0)]),
  (163, [(.aload_n 0, 1, 0, [], 0), (.invokevirtual 245, 3, 0, [(11, 152)], 0), (.ifCond .eq 7, 3, 174, [], 0), (.aload_n 0, 1, 0, [], 0), (.invokevirtual 249, 3, 0, [(11, 153)], 0)]),
  (174, [(.iload 5, 2, 5, [], 0), (.ireturn, 1, 0, [], 0)])]
theorem ok_R_finish : x_mok y_R_finish (x_on 20) false b_R_finish := x_chm_ok rfl (by decide) (by decide +kernel)
def b_R_isSystem : List (Nat × List XO) := [(0, [(.aload_n 0, 1, 0, [], 0), (.getfield 49, 3, 17, [(11, 2)], 0), (.iload_n 1, 1, 1, [], 0), (.iaload, 1, 0, [], 0), (.ifCond .eq 5, 3, 11, [], 0), (.iconst 0, 1, 0, [], 0), (.ireturn, 1, 1, [], 0)]),
  (11, [(.iconst 0, 1, 0, [], 0), (.istore_n 2, 1, 2, [], 0), (.iload_n 1, 1, 1, [], 0), (.iconst 2, 1, 0, [], 2), (.idiv, 1, 0, [], 0), (.istore_n 3, 1, 3, [], 0)]),
  (17, [(.iload_n 3, 1, 3, [], 0), (.ifCond .le 25, 3, 43, [], 0), (.iload_n 2, 1, 2, [], 0), (.ifCond .ne 12, 3, 34, [], 0), (.aload_n 0, 1, 0, [], 0), (.getfield 49, 3, 17, [(11, 2)], 0), (.iload_n 3, 1, 3, [], 0), (.iaload, 1, 0, [], 0), (.goto 4, 3, 35, [], 0)]),
  (34, [(.iload_n 2, 1, 2, [], 0)]),
  (35, [(.istore_n 2, 1, 2, [], 0), (.iload_n 3, 1, 3, [], 0), (.iconst 2, 1, 0, [], 2), (.idiv, 1, 0, [], 0), (.istore_n 3, 1, 3, [], 0), (.goto (-23), 3, 17, [], 0)]),
  (43, [(.iload_n 2, 1, 2, [], 0), (.iconst 2, 1, 0, [], 2), (.if_icmp .eq 7, 3, 52, [], 0), (.iconst 1, 1, 0, [], 1), (.goto 4, 3, 53, [], 0)]),
  (52, [(.iconst 0, 1, 0, [], 0)]),
  (53, [(.ireturn, 1, 1, [], 0)])]
theorem ok_R_isSystem : x_mok y_R_isSystem (x_on 20) false b_R_isSystem := x_chm_ok rfl (by decide) (by decide +kernel)
def b_R_leave : List (Nat × List XO) := [(0, [(.aload_n 0, 1, 0, [], 0), (.getfield 7, 3, 3, [(11, 2)], 0), (.aload_n 0, 1, 0, [], 0), (.iload_n 1, 1, 1, [], 0), (.invokevirtual 158, 3, 1, [(11, 132)], 0), (.iaload, 1, 0, [], 0), (.istore 6, 2, 6, [], 0), (.iload 6, 2, 6, [], 0), (.ifCond .ne 93, 3, 107, [], 0), (.iconst 4, 1, 0, [], 4), (.iload_n 1, 1, 1, [], 0), (.imul, 1, 0, [], 0), (.istore 7, 2, 7, [], 0)]),
  (22, [(.iload 7, 2, 7, [], 0), (.iconst 4, 1, 0, [], 4), (.iload_n 1, 1, 1, [], 0), (.imul, 1, 0, [], 0), (.iconst 4, 1, 0, [], 4), (.iadd, 1, 0, [], 0), (.if_icmp .ge 66, 3, 95, [], 0), (.aload_n 0, 1, 0, [], 0), (.getfield 43, 3, 15, [(11, 2)], 0), (.iload 7, 2, 7, [], 0), (.iaload, 1, 0, [], 0), (.iload_n 2, 1, 2, [], 0), (.iconst 1, 1, 0, [], 1), (.iadd, 1, 0, [], 0), (.if_icmp .ne 47, 3, 89, [], 0), (.aload_n 0, 1, 0, [], 0), (.getfield 43, 3, 15, [(11, 2)], 0), (.iload 7, 2, 7, [], 0), (.iload 4, 2, 4, [], 0), (.ifCond .eq 7, 3, 60, [], 0), (.iconst 0, 1, 0, [], 0), (.goto 10, 3, 67, [], 0)]),
  (60, [(.aload_n 0, 1, 0, [], 0), (.getfield 43, 3, 15, [(11, 2)], 0), (.iload 7, 2, 7, [], 0), (.iaload, 1, 0, [], 0)]),
  (67, [(.iastore, 1, 0, [], 0), (.aload_n 0, 1, 0, [], 0), (.getfield 46, 3, 16, [(11, 2)], 0), (.iload 7, 2, 7, [], 0), (.aload_n 0, 1, 0, [], 0), (.getfield 223, 3, 24, [(11, 0)], 0), (.iastore, 1, 0, [], 0), (.aload_n 0, 1, 0, [], 0), (.dup, 1, 0, [], 0), (.getfield 223, 3, 24, [(11, 0)], 0), (.iconst 1, 1, 0, [], 1), (.iadd, 1, 0, [], 0), (.putfield 223, 3, 24, [(11, 0)], 0)]),
  (89, [(.iinc 7 1, 3, 7, [], 1), (.goto (-70), 3, 22, [], 0)]),
  (95, [(.iload 4, 2, 4, [], 0), (.ifCond .eq 10, 3, 107, [], 0), (.aload_n 0, 1, 0, [], 0), (.iconst 3, 1, 0, [], 3), (.iconst 0, 1, 0, [], 0), (.iload_n 2, 1, 2, [], 0), (.invokevirtual 126, 3, 3, [(11, 125)], 0)]),
  (107, [(.iload 6, 2, 6, [], 0), (.iconst 1, 1, 0, [], 1), (.if_icmp .ne 83, 3, 193, [], 0), (.iload_n 3, 1, 3, [], 0), (.iconst 1, 1, 0, [], 1), (.if_icmp .eq 13, 3, 128, [], 0), (.iload_n 3, 1, 3, [], 0), (.iconst 2, 1, 0, [], 2), (.if_icmp .ne 12, 3, 132, [], 0), (.iload 5, 2, 5, [], 0), (.ifCond .eq 7, 3, 132, [], 0)]),
  (128, [(.iconst 1, 1, 0, [], 1), (.goto 4, 3, 133, [], 0)]),
  (132, [(.iconst 0, 1, 0, [], 0)]),
  (133, [(.istore 7, 2, 7, [], 0), (.aload_n 0, 1, 0, [], 0), (.iload_n 1, 1, 1, [], 0), (.bipush 8, 2, 0, [], 8), (.isub, 1, 0, [], 0), (.invokevirtual 226, 3, 1, [(11, 127)], 0), (.aload_n 0, 1, 0, [], 0), (.getfield 58, 3, 21, [(11, 2)], 0), (.iload_n 1, 1, 1, [], 0), (.bipush 8, 2, 0, [], 8), (.isub, 1, 0, [], 0), (.iload 4, 2, 4, [], 0), (.ifCond .ne 8, 3, 161, [], 0), (.iload 7, 2, 7, [], 0), (.ifCond .eq 7, 3, 165, [], 0)]),
  (161, [(.iconst 0, 1, 0, [], 0), (.goto 4, 3, 166, [], 0)]),
  (165, [(.iconst 1, 1, 0, [], 1)]),
  (166, [(.iastore, 1, 0, [], 0), (.iload 4, 2, 4, [], 0), (.ifCond .ne 8, 3, 177, [], 0), (.iload 7, 2, 7, [], 0), (.ifCond .eq 19, 3, 193, [], 0)]),
  (177, [(.aload_n 0, 1, 0, [], 0), (.iload 4, 2, 4, [], 0), (.ifCond .eq 7, 3, 187, [], 0), (.iconst 3, 1, 0, [], 3), (.goto 4, 3, 188, [], 0)]),
  (187, [(.iconst 2, 1, 0, [], 2)]),
  (188, [(.iconst 0, 1, 0, [], 0), (.iload_n 2, 1, 2, [], 0), (.invokevirtual 126, 3, 3, [(11, 125)], 0)]),
  (193, [(.return_, 1, 0, [], 0)])]
theorem ok_R_leave : x_mok y_R_leave (x_on 20) false b_R_leave := x_chm_ok rfl (by decide) (by decide +kernel)
def b_R_quiet : List (Nat × List XO) := [(0, [(.iconst 0, 1, 0, [], 0), (.istore_n 1, 1, 1, [], 0), (.iconst 0, 1, 0, [], 0), (.istore_n 2, 1, 2, [], 0)]),
  (4, [(.iload_n 2, 1, 2, [], 0), (.bipush 8, 2, 0, [], 8), (.if_icmp .ge 18, 3, 25, [], 0), (.iload_n 1, 1, 1, [], 0), (.aload_n 0, 1, 0, [], 0), (.getfield 67, 3, 25, [(11, 2)], 0), (.iload_n 2, 1, 2, [], 0), (.iaload, 1, 0, [], 0), (.iadd, 1, 0, [], 0), (.istore_n 1, 1, 1, [], 0), (.iinc 2 1, 3, 2, [], 1), (.goto (-18), 3, 4, [], 0)]),
  (25, [(.iload_n 1, 1, 1, [], 0), (.ifCond .ne 7, 3, 33, [], 0), (.iconst 1, 1, 0, [], 1), (.goto 4, 3, 34, [], 0)]),
  (33, [(.iconst 0, 1, 0, [], 0)]),
  (34, [(.ireturn, 1, 1, [], 0)])]
theorem ok_R_quiet : x_mok y_R_quiet (x_on 20) false b_R_quiet := x_chm_ok rfl (by decide) (by decide +kernel)
def b_R_end : List (Nat × List XO) := [(0, [(.aload_n 0, 1, 0, [], 0), (.iconst 3, 1, 0, [], 3), (.putfield 130, 3, 0, [(11, 0)], 0), (.iconst 0, 1, 0, [], 0), (.istore_n 1, 1, 1, [], 0)]),
  (7, [(.iload_n 1, 1, 1, [], 0), (.aload_n 0, 1, 0, [], 0), (.getfield 155, 3, 18, [(11, 0)], 0), (.if_icmp .ge 23, 3, 35, [], 0), (.aload_n 0, 1, 0, [], 0), (.getfield 58, 3, 21, [(11, 2)], 0), (.iload_n 1, 1, 1, [], 0), (.iaload, 1, 0, [], 0), (.ifCond .eq 8, 3, 29, [], 0), (.aload_n 0, 1, 0, [], 0), (.iload_n 1, 1, 1, [], 0), (.invokevirtual 252, 3, 1, [(11, 154)], 0)]),
  (29, [(.iinc 1 1, 3, 1, [], 1), (.goto (-25), 3, 7, [], 0)]),
  (35, [(.iconst 0, 1, 0, [], 0), (.istore_n 1, 1, 1, [], 0)]),
  (37, [(.iload_n 1, 1, 1, [], 0), (.bipush 32, 2, 0, [], 32), (.if_icmp .ge 28, 3, 68, [], 0), (.aload_n 0, 1, 0, [], 0), (.iload_n 1, 1, 1, [], 0), (.iconst 4, 1, 0, [], 4), (.idiv, 1, 0, [], 0), (.invokevirtual 255, 3, 1, [(11, 155)], 0), (.istore_n 2, 1, 2, [], 0), (.iload_n 2, 1, 2, [], 0), (.ifCond .lt 10, 3, 62, [], 0), (.aload_n 0, 1, 0, [], 0), (.iconst 2, 1, 0, [], 2), (.iconst 0, 1, 0, [], 0), (.iload_n 2, 1, 2, [], 0), (.invokevirtual 126, 3, 3, [(11, 125)], 0)]),
  (62, [(.iinc 1 1, 3, 1, [], 1), (.goto (-28), 3, 37, [], 0)]),
  (68, [(.aload_n 0, 1, 0, [], 0), (.getfield 148, 3, 12, [(11, 0)], 0), (.iconst 1, 1, 0, [], 1), (.isub, 1, 0, [], 0), (.istore_n 1, 1, 1, [], 0)]),
  (75, [(.iload_n 1, 1, 1, [], 0), (.ifCond .lt 26, 3, 102, [], 0), (.aload_n 0, 1, 0, [], 0), (.iconst 2, 1, 0, [], 2), (.iconst 0, 1, 0, [], 0), (.aload_n 0, 1, 0, [], 0), (.getfield 31, 3, 10, [(11, 2)], 0), (.aload_n 0, 1, 0, [], 0), (.getfield 34, 3, 11, [(11, 2)], 0), (.iload_n 1, 1, 1, [], 0), (.iaload, 1, 0, [], 0), (.iaload, 1, 0, [], 0), (.invokevirtual 126, 3, 3, [(11, 125)], 0), (.iinc 1 (-1), 3, 1, [], (-1)), (.goto (-24), 3, 75, [], 0)]),
  (102, [(.return_, 1, 0, [], 0)])]
theorem ok_R_end : x_mok y_R_end (x_on 20) false b_R_end := x_chm_ok rfl (by decide) (by decide +kernel)
def b_R_goAway : List (Nat × List XO) := [(0, [(.aload_n 0, 1, 0, [], 0), (.aload_n 0, 1, 0, [], 0), (.getfield 58, 3, 21, [(11, 2)], 0), (.iload_n 1, 1, 1, [], 0), (.iaload, 1, 0, [], 0), (.iconst 1, 1, 0, [], 1), (.if_icmp .ne 7, 3, 15, [], 0), (.iconst 2, 1, 0, [], 2), (.goto 5, 3, 17, [], 0)]),
  (15, [(.bipush 6, 2, 0, [], 6)]),
  (17, [(.iconst 0, 1, 0, [], 0), (.aload_n 0, 1, 0, [], 0), (.getfield 55, 3, 20, [(11, 2)], 0), (.iload_n 1, 1, 1, [], 0), (.iaload, 1, 0, [], 0), (.invokevirtual 126, 3, 3, [(11, 125)], 0), (.aload_n 0, 1, 0, [], 0), (.getfield 58, 3, 21, [(11, 2)], 0), (.iload_n 1, 1, 1, [], 0), (.iconst 0, 1, 0, [], 0), (.iastore, 1, 0, [], 0), (.return_, 1, 0, [], 0)])]
theorem ok_R_goAway : x_mok y_R_goAway (x_on 20) false b_R_goAway := x_chm_ok rfl (by decide) (by decide +kernel)
def b_R_takeLeast : List (Nat × List XO) := [(0, [(.iconst (-1), 1, 0, [], (-1)), (.istore_n 2, 1, 2, [], 0), (.iconst 4, 1, 0, [], 4), (.iload_n 1, 1, 1, [], 0), (.imul, 1, 0, [], 0), (.istore_n 3, 1, 3, [], 0)]),
  (6, [(.iload_n 3, 1, 3, [], 0), (.iconst 4, 1, 0, [], 4), (.iload_n 1, 1, 1, [], 0), (.imul, 1, 0, [], 0), (.iconst 4, 1, 0, [], 4), (.iadd, 1, 0, [], 0), (.if_icmp .ge 39, 3, 51, [], 0), (.aload_n 0, 1, 0, [], 0), (.getfield 43, 3, 15, [(11, 2)], 0), (.iload_n 3, 1, 3, [], 0), (.iaload, 1, 0, [], 0), (.ifCond .le 24, 3, 45, [], 0), (.iload_n 2, 1, 2, [], 0), (.ifCond .lt 18, 3, 43, [], 0), (.aload_n 0, 1, 0, [], 0), (.getfield 43, 3, 15, [(11, 2)], 0), (.iload_n 3, 1, 3, [], 0), (.iaload, 1, 0, [], 0), (.aload_n 0, 1, 0, [], 0), (.getfield 43, 3, 15, [(11, 2)], 0), (.iload_n 2, 1, 2, [], 0), (.iaload, 1, 0, [], 0), (.if_icmp .ge 5, 3, 45, [], 0)]),
  (43, [(.iload_n 3, 1, 3, [], 0), (.istore_n 2, 1, 2, [], 0)]),
  (45, [(.iinc 3 1, 3, 3, [], 1), (.goto (-42), 3, 6, [], 0)]),
  (51, [(.iload_n 2, 1, 2, [], 0), (.ifCond .ge 5, 3, 57, [], 0), (.iconst (-1), 1, 0, [], (-1)), (.ireturn, 1, 0, [], 0)]),
  (57, [(.aload_n 0, 1, 0, [], 0), (.getfield 43, 3, 15, [(11, 2)], 0), (.iload_n 2, 1, 2, [], 0), (.iaload, 1, 0, [], 0), (.iconst 1, 1, 0, [], 1), (.isub, 1, 0, [], 0), (.istore_n 3, 1, 3, [], 0), (.aload_n 0, 1, 0, [], 0), (.getfield 43, 3, 15, [(11, 2)], 0), (.iload_n 2, 1, 2, [], 0), (.iconst 0, 1, 0, [], 0), (.iastore, 1, 0, [], 0), (.iload_n 3, 1, 3, [], 0), (.ireturn, 1, 0, [], 0)])]
theorem ok_R_takeLeast : x_mok y_R_takeLeast (x_on 20) false b_R_takeLeast := x_chm_ok rfl (by decide) (by decide +kernel)
def b_R_tick : List (Nat × List XO) := [(0, [(.aload_n 0, 1, 0, [], 0), (.getfield 130, 3, 0, [(11, 0)], 0), (.iconst 1, 1, 0, [], 1), (.if_icmp .ne 13, 3, 18, [], 0), (.iload_n 1, 1, 1, [], 0), (.ifCond .lt 9, 3, 18, [], 0), (.iload_n 1, 1, 1, [], 0), (.bipush 50, 2, 0, [], 50), (.if_icmp .le 5, 3, 20, [], 0)]),
  (18, [(.iconst (-1), 1, 0, [], (-1)), (.ireturn, 1, 0, [], 0)]),
  (20, [(.iconst 0, 1, 0, [], 0), (.istore_n 2, 1, 2, [], 0), (.iconst 0, 1, 0, [], 0), (.istore_n 3, 1, 3, [], 0)]),
  (24, [(.iload_n 3, 1, 3, [], 0), (.iload_n 1, 1, 1, [], 0), (.if_icmp .ge 40, 3, 66, [], 0), (.aload_n 0, 1, 0, [], 0), (.dup, 1, 0, [], 0), (.getfield 185, 3, 1, [(11, 0)], 0), (.iconst 1, 1, 0, [], 1), (.iadd, 1, 0, [], 0), (.putfield 185, 3, 1, [(11, 0)], 0), (.iload_n 2, 1, 2, [], 0), (.aload_n 0, 1, 0, [], 0), (.invokevirtual 258, 3, 0, [(11, 157)], 0), (.iadd, 1, 0, [], 0), (.istore_n 2, 1, 2, [], 0), (.aload_n 0, 1, 0, [], 0), (.invokevirtual 229, 3, 0, [(11, 128)], 0), (.iload_n 2, 1, 2, [], 0), (.bipush 100, 2, 0, [], 100), (.aload_n 0, 1, 0, [], 0), (.invokevirtual 261, 3, 0, [(11, 158)], 0), (.imul, 1, 0, [], 0), (.iadd, 1, 0, [], 0), (.istore_n 2, 1, 2, [], 0), (.iinc 3 1, 3, 3, [], 1), (.goto (-39), 3, 24, [], 0)]),
  (66, [(.iload_n 2, 1, 2, [], 0), (.ireturn, 1, 0, [], 0)])]
theorem ok_R_tick : x_mok y_R_tick (x_on 20) false b_R_tick := x_chm_ok rfl (by decide) (by decide +kernel)
def b_R_lapse : List (Nat × List XO) := [(0, [(.iconst 0, 1, 0, [], 0), (.istore_n 1, 1, 1, [], 0), (.iconst 0, 1, 0, [], 0), (.istore_n 2, 1, 2, [], 0)]),
  (4, [(.iload_n 2, 1, 2, [], 0), (.bipush 8, 2, 0, [], 8), (.if_icmp .ge 74, 3, 81, [], 0), (.aload_n 0, 1, 0, [], 0), (.getfield 79, 3, 29, [(11, 2)], 0), (.iload_n 2, 1, 2, [], 0), (.iaload, 1, 0, [], 0), (.ifCond .ge 7, 3, 23, [], 0), (.iconst (-1), 1, 0, [], (-1)), (.goto 18, 3, 38, [], 0)]),
  (23, [(.aload_n 0, 1, 0, [], 0), (.getfield 16, 3, 5, [(11, 2)], 0), (.aload_n 0, 1, 0, [], 0), (.aload_n 0, 1, 0, [], 0), (.getfield 79, 3, 29, [(11, 2)], 0), (.iload_n 2, 1, 2, [], 0), (.iaload, 1, 0, [], 0), (.invokevirtual 158, 3, 1, [(11, 132)], 0), (.iaload, 1, 0, [], 0)]),
  (38, [(.istore_n 3, 1, 3, [], 0), (.iload_n 3, 1, 3, [], 0), (.ifCond .lt 35, 3, 75, [], 0), (.aload_n 0, 1, 0, [], 0), (.getfield 85, 3, 31, [(11, 2)], 0), (.iload_n 2, 1, 2, [], 0), (.iaload, 1, 0, [], 0), (.aload_n 0, 1, 0, [], 0), (.getfield 185, 3, 1, [(11, 0)], 0), (.iload_n 3, 1, 3, [], 0), (.isub, 1, 0, [], 0), (.if_icmp .gt 20, 3, 75, [], 0), (.aload_n 0, 1, 0, [], 0), (.getfield 79, 3, 29, [(11, 2)], 0), (.iload_n 2, 1, 2, [], 0), (.iconst (-1), 1, 0, [], (-1)), (.iastore, 1, 0, [], 0), (.aload_n 0, 1, 0, [], 0), (.iload_n 2, 1, 2, [], 0), (.bipush 10, 2, 0, [], 10), (.invokevirtual 174, 3, 2, [(11, 137)], 0), (.iinc 1 1, 3, 1, [], 1)]),
  (75, [(.iinc 2 1, 3, 2, [], 1), (.goto (-74), 3, 4, [], 0)]),
  (81, [(.iload_n 1, 1, 1, [], 0), (.ireturn, 1, 0, [], 0)])]
theorem ok_R_lapse : x_mok y_R_lapse (x_on 20) false b_R_lapse := x_chm_ok rfl (by decide) (by decide +kernel)
def b_R_fade : List (Nat × List XO) := [(0, [(.iconst 0, 1, 0, [], 0), (.istore_n 1, 1, 1, [], 0), (.iconst 0, 1, 0, [], 0), (.istore_n 2, 1, 2, [], 0)]),
  (4, [(.iload_n 2, 1, 2, [], 0), (.aload_n 0, 1, 0, [], 0), (.getfield 155, 3, 18, [(11, 0)], 0), (.if_icmp .ge 72, 3, 81, [], 0), (.aload_n 0, 1, 0, [], 0), (.getfield 19, 3, 6, [(11, 2)], 0), (.aload_n 0, 1, 0, [], 0), (.getfield 52, 3, 19, [(11, 2)], 0), (.iload_n 2, 1, 2, [], 0), (.iaload, 1, 0, [], 0), (.iaload, 1, 0, [], 0), (.istore_n 3, 1, 3, [], 0), (.aload_n 0, 1, 0, [], 0), (.getfield 58, 3, 21, [(11, 2)], 0), (.iload_n 2, 1, 2, [], 0), (.iaload, 1, 0, [], 0), (.ifCond .eq 45, 3, 75, [], 0), (.iload_n 3, 1, 3, [], 0), (.ifCond .eq 41, 3, 75, [], 0), (.aload_n 0, 1, 0, [], 0), (.getfield 64, 3, 23, [(11, 2)], 0), (.iload_n 2, 1, 2, [], 0), (.iaload, 1, 0, [], 0), (.aload_n 0, 1, 0, [], 0), (.getfield 185, 3, 1, [(11, 0)], 0), (.iload_n 3, 1, 3, [], 0), (.isub, 1, 0, [], 0), (.if_icmp .gt 26, 3, 75, [], 0), (.aload_n 0, 1, 0, [], 0), (.bipush 8, 2, 0, [], 8), (.iload_n 2, 1, 2, [], 0), (.iadd, 1, 0, [], 0), (.iconst 0, 1, 0, [], 0), (.bipush 8, 2, 0, [], 8), (.iconst 0, 1, 0, [], 0), (.invokevirtual 170, 3, 4, [(11, 136)], 0), (.ifCond .ne 11, 3, 75, [], 0), (.aload_n 0, 1, 0, [], 0), (.iload_n 2, 1, 2, [], 0), (.invokevirtual 252, 3, 1, [(11, 154)], 0), (.iinc 1 1, 3, 1, [], 1)]),
  (75, [(.iinc 2 1, 3, 2, [], 1), (.goto (-74), 3, 4, [], 0)]),
  (81, [(.iload_n 1, 1, 1, [], 0), (.ireturn, 1, 0, [], 0)])]
theorem ok_R_fade : x_mok y_R_fade (x_on 20) false b_R_fade := x_chm_ok rfl (by decide) (by decide +kernel)
def b_R_submit : List (Nat × List XO) := [(0, [(.aload_n 0, 1, 0, [], 0), (.getfield 130, 3, 0, [(11, 0)], 0), (.iconst 1, 1, 0, [], 1), (.if_icmp .ne 29, 3, 34, [], 0), (.aload_n 0, 1, 0, [], 0), (.getfield 205, 3, 35, [(11, 0)], 0), (.bipush 24, 2, 0, [], 24), (.if_icmp .ge 20, 3, 34, [], 0), (.aload_n 0, 1, 0, [], 0), (.iload_n 1, 1, 1, [], 0), (.invokevirtual 232, 3, 1, [(11, 147)], 0), (.ifCond .eq 12, 3, 34, [], 0), (.aload_n 0, 1, 0, [], 0), (.iload_n 1, 1, 1, [], 0), (.iload_n 2, 1, 2, [], 0), (.invokevirtual 235, 3, 2, [(11, 148)], 0), (.ifCond .ne 5, 3, 36, [], 0)]),
  (34, [(.iconst (-1), 1, 0, [], (-1)), (.ireturn, 1, 0, [], 0)]),
  (36, [(.aload_n 0, 1, 0, [], 0), (.getfield 205, 3, 35, [(11, 0)], 0), (.istore 4, 2, 4, [], 0), (.aload_n 0, 1, 0, [], 0), (.dup, 1, 0, [], 0), (.getfield 205, 3, 35, [(11, 0)], 0), (.iconst 1, 1, 0, [], 1), (.iadd, 1, 0, [], 0), (.putfield 205, 3, 35, [(11, 0)], 0), (.aload_n 0, 1, 0, [], 0), (.getfield 94, 3, 36, [(11, 2)], 0), (.iload 4, 2, 4, [], 0), (.iconst 1, 1, 0, [], 1), (.iastore, 1, 0, [], 0), (.aload_n 0, 1, 0, [], 0), (.getfield 97, 3, 37, [(11, 2)], 0), (.iload 4, 2, 4, [], 0), (.iload_n 1, 1, 1, [], 0), (.iastore, 1, 0, [], 0), (.aload_n 0, 1, 0, [], 0), (.getfield 100, 3, 38, [(11, 2)], 0), (.iload 4, 2, 4, [], 0), (.iload_n 2, 1, 2, [], 0), (.iastore, 1, 0, [], 0), (.aload_n 0, 1, 0, [], 0), (.getfield 106, 3, 40, [(11, 2)], 0), (.iload 4, 2, 4, [], 0), (.iload_n 3, 1, 3, [], 0), (.bastore, 1, 1, [], 0), (.aload_n 0, 1, 0, [], 0), (.invokevirtual 229, 3, 0, [(11, 128)], 0), (.iload 4, 2, 4, [], 0), (.ireturn, 1, 0, [], 0)])]
theorem ok_R_submit : x_mok y_R_submit (x_on 20) false b_R_submit := x_chm_ok rfl (by decide) (by decide +kernel)
def b_R_cancel : List (Nat × List XO) := [(0, [(.iload_n 1, 1, 1, [], 0), (.ifCond .lt 20, 3, 21, [], 0), (.iload_n 1, 1, 1, [], 0), (.aload_n 0, 1, 0, [], 0), (.getfield 205, 3, 35, [(11, 0)], 0), (.if_icmp .ge 12, 3, 21, [], 0), (.aload_n 0, 1, 0, [], 0), (.getfield 94, 3, 36, [(11, 2)], 0), (.iload_n 1, 1, 1, [], 0), (.iaload, 1, 0, [], 0), (.goto 4, 3, 22, [], 0)]),
  (21, [(.iconst 0, 1, 0, [], 0)]),
  (22, [(.istore_n 2, 1, 2, [], 0), (.iload_n 2, 1, 2, [], 0), (.iconst 1, 1, 0, [], 1), (.if_icmp .ne 12, 3, 37, [], 0), (.aload_n 0, 1, 0, [], 0), (.getfield 94, 3, 36, [(11, 2)], 0), (.iload_n 1, 1, 1, [], 0), (.iconst 3, 1, 0, [], 3), (.iastore, 1, 0, [], 0), (.iconst 1, 1, 0, [], 1), (.ireturn, 1, 0, [], 0)]),
  (37, [(.iload_n 2, 1, 2, [], 0), (.iconst 2, 1, 0, [], 2), (.if_icmp .ne 12, 3, 51, [], 0), (.aload_n 0, 1, 0, [], 0), (.getfield 110, 3, 41, [(11, 2)], 0), (.iload_n 1, 1, 1, [], 0), (.iconst 1, 1, 0, [], 1), (.bastore, 1, 1, [], 0), (.iconst 2, 1, 0, [], 2), (.ireturn, 1, 0, [], 0)]),
  (51, [(.iconst 0, 1, 0, [], 0), (.ireturn, 1, 0, [], 0)])]
theorem ok_R_cancel : x_mok y_R_cancel (x_on 20) false b_R_cancel := x_chm_ok rfl (by decide) (by decide +kernel)
def b_R_shutdown : List (Nat × List XO) := [(0, [(.aload_n 0, 1, 0, [], 0), (.getfield 130, 3, 0, [(11, 0)], 0), (.iconst 1, 1, 0, [], 1), (.if_icmp .eq 5, 3, 10, [], 0), (.iconst (-1), 1, 0, [], (-1)), (.ireturn, 1, 0, [], 0)]),
  (10, [(.iconst 0, 1, 0, [], 0), (.istore_n 1, 1, 1, [], 0)]),
  (12, [(.iload_n 1, 1, 1, [], 0), (.aload_n 0, 1, 0, [], 0), (.getfield 205, 3, 35, [(11, 0)], 0), (.if_icmp .ge 35, 3, 52, [], 0), (.aload_n 0, 1, 0, [], 0), (.getfield 94, 3, 36, [(11, 2)], 0), (.iload_n 1, 1, 1, [], 0), (.aload_n 0, 1, 0, [], 0), (.getfield 94, 3, 36, [(11, 2)], 0), (.iload_n 1, 1, 1, [], 0), (.iaload, 1, 0, [], 0), (.iconst 1, 1, 0, [], 1), (.if_icmp .ne 7, 3, 39, [], 0), (.iconst 3, 1, 0, [], 3), (.goto 9, 3, 45, [], 0)]),
  (39, [(.aload_n 0, 1, 0, [], 0), (.getfield 94, 3, 36, [(11, 2)], 0), (.iload_n 1, 1, 1, [], 0), (.iaload, 1, 0, [], 0)]),
  (45, [(.iastore, 1, 0, [], 0), (.iinc 1 1, 3, 1, [], 1), (.goto (-37), 3, 12, [], 0)]),
  (52, [(.iconst 0, 1, 0, [], 0), (.istore_n 1, 1, 1, [], 0), (.iconst 0, 1, 0, [], 0), (.istore_n 2, 1, 2, [], 0)]),
  (56, [(.iload_n 2, 1, 2, [], 0), (.bipush 8, 2, 0, [], 8), (.if_icmp .ge 35, 3, 94, [], 0), (.aload_n 0, 1, 0, [], 0), (.getfield 79, 3, 29, [(11, 2)], 0), (.iload_n 2, 1, 2, [], 0), (.iaload, 1, 0, [], 0), (.ifCond .lt 20, 3, 88, [], 0), (.aload_n 0, 1, 0, [], 0), (.getfield 79, 3, 29, [(11, 2)], 0), (.iload_n 2, 1, 2, [], 0), (.iconst (-1), 1, 0, [], (-1)), (.iastore, 1, 0, [], 0), (.aload_n 0, 1, 0, [], 0), (.iload_n 2, 1, 2, [], 0), (.bipush 13, 2, 0, [], 13), (.invokevirtual 174, 3, 2, [(11, 137)], 0), (.iinc 1 1, 3, 1, [], 1)]),
  (88, [(.iinc 2 1, 3, 2, [], 1), (.goto (-35), 3, 56, [], 0)]),
  (94, [(.aload_n 0, 1, 0, [], 0), (.iconst 2, 1, 0, [], 2), (.putfield 130, 3, 0, [(11, 0)], 0), (.aload_n 0, 1, 0, [], 0), (.invokevirtual 245, 3, 0, [(11, 152)], 0), (.ifCond .eq 7, 3, 110, [], 0), (.aload_n 0, 1, 0, [], 0), (.invokevirtual 249, 3, 0, [(11, 153)], 0)]),
  (110, [(.iload_n 1, 1, 1, [], 0), (.ireturn, 1, 0, [], 0)])]
theorem ok_R_shutdown : x_mok y_R_shutdown (x_on 20) false b_R_shutdown := x_chm_ok rfl (by decide) (by decide +kernel)
def b_R_state : List (Nat × List XO) := [(0, [(.iload_n 1, 1, 1, [], 0), (.ifCond .lt 9, 3, 10, [], 0), (.iload_n 1, 1, 1, [], 0), (.bipush 7, 2, 0, [], 7), (.if_icmp .le 7, 3, 14, [], 0)]),
  (10, [(.iconst (-1), 1, 0, [], (-1)), (.goto 25, 3, 36, [], 0)]),
  (14, [(.aload_n 0, 1, 0, [], 0), (.getfield 67, 3, 25, [(11, 2)], 0), (.iload_n 1, 1, 1, [], 0), (.iaload, 1, 0, [], 0), (.aload_n 0, 1, 0, [], 0), (.getfield 79, 3, 29, [(11, 2)], 0), (.iload_n 1, 1, 1, [], 0), (.iaload, 1, 0, [], 0), (.ifCond .lt 8, 3, 34, [], 0), (.bipush 8, 2, 0, [], 8), (.goto 4, 3, 35, [], 0)]),
  (34, [(.iconst 0, 1, 0, [], 0)]),
  (35, [(.iadd, 1, 0, [], 0)]),
  (36, [(.ireturn, 1, 0, [], 0)])]
theorem ok_R_state : x_mok y_R_state (x_on 20) false b_R_state := x_chm_ok rfl (by decide) (by decide +kernel)
def b_R_result : List (Nat × List XO) := [(0, [(.iload_n 1, 1, 1, [], 0), (.ifCond .lt 9, 3, 10, [], 0), (.iload_n 1, 1, 1, [], 0), (.bipush 7, 2, 0, [], 7), (.if_icmp .le 7, 3, 14, [], 0)]),
  (10, [(.iconst (-1), 1, 0, [], (-1)), (.goto 9, 3, 20, [], 0)]),
  (14, [(.aload_n 0, 1, 0, [], 0), (.getfield 91, 3, 34, [(11, 2)], 0), (.iload_n 1, 1, 1, [], 0), (.iaload, 1, 0, [], 0)]),
  (20, [(.ireturn, 1, 0, [], 0)])]
theorem ok_R_result : x_mok y_R_result (x_on 20) false b_R_result := x_chm_ok rfl (by decide) (by decide +kernel)
def b_R_instance : List (Nat × List XO) := [(0, [(.iload_n 1, 1, 1, [], 0), (.ifCond .lt 18, 3, 19, [], 0), (.iload_n 1, 1, 1, [], 0), (.bipush 7, 2, 0, [], 7), (.if_icmp .gt 12, 3, 19, [], 0), (.aload_n 0, 1, 0, [], 0), (.getfield 67, 3, 25, [(11, 2)], 0), (.iload_n 1, 1, 1, [], 0), (.iaload, 1, 0, [], 0), (.ifCond .ne 7, 3, 23, [], 0)]),
  (19, [(.iconst (-1), 1, 0, [], (-1)), (.goto 20, 3, 40, [], 0)]),
  (23, [(.aload_n 0, 1, 0, [], 0), (.getfield 73, 3, 27, [(11, 2)], 0), (.iconst 4, 1, 0, [], 4), (.iload_n 1, 1, 1, [], 0), (.imul, 1, 0, [], 0), (.aload_n 0, 1, 0, [], 0), (.getfield 67, 3, 25, [(11, 2)], 0), (.iload_n 1, 1, 1, [], 0), (.iaload, 1, 0, [], 0), (.iadd, 1, 0, [], 0), (.iconst 1, 1, 0, [], 1), (.isub, 1, 0, [], 0), (.iaload, 1, 0, [], 0)]),
  (40, [(.ireturn, 1, 0, [], 0)])]
theorem ok_R_instance : x_mok y_R_instance (x_on 20) false b_R_instance := x_chm_ok rfl (by decide) (by decide +kernel)
def b_R_session : List (Nat × List XO) := [(0, [(.iload_n 1, 1, 1, [], 0), (.ifCond .lt 20, 3, 21, [], 0), (.iload_n 1, 1, 1, [], 0), (.aload_n 0, 1, 0, [], 0), (.getfield 155, 3, 18, [(11, 0)], 0), (.if_icmp .ge 12, 3, 21, [], 0), (.aload_n 0, 1, 0, [], 0), (.getfield 58, 3, 21, [(11, 2)], 0), (.iload_n 1, 1, 1, [], 0), (.iaload, 1, 0, [], 0), (.ifCond .ne 5, 3, 23, [], 0)]),
  (21, [(.iconst 0, 1, 0, [], 0), (.ireturn, 1, 0, [], 0)]),
  (23, [(.aload_n 0, 1, 0, [], 0), (.getfield 58, 3, 21, [(11, 2)], 0), (.iload_n 1, 1, 1, [], 0), (.iaload, 1, 0, [], 0), (.iconst 2, 1, 0, [], 2), (.if_icmp .ne 7, 3, 37, [], 0), (.iconst 3, 1, 0, [], 3), (.goto 23, 3, 57, [], 0)]),
  (37, [(.aload_n 0, 1, 0, [], 0), (.bipush 8, 2, 0, [], 8), (.iload_n 1, 1, 1, [], 0), (.iadd, 1, 0, [], 0), (.iconst 0, 1, 0, [], 0), (.bipush 8, 2, 0, [], 8), (.iconst 0, 1, 0, [], 0), (.invokevirtual 170, 3, 4, [(11, 136)], 0), (.ifCond .le 7, 3, 56, [], 0), (.iconst 2, 1, 0, [], 2), (.goto 4, 3, 57, [], 0)]),
  (56, [(.iconst 1, 1, 0, [], 1)]),
  (57, [(.ireturn, 1, 0, [], 0)])]
theorem ok_R_session : x_mok y_R_session (x_on 20) false b_R_session := x_chm_ok rfl (by decide) (by decide +kernel)
def b_R_task : List (Nat × List XO) := [(0, [(.iload_n 1, 1, 1, [], 0), (.ifCond .lt 11, 3, 12, [], 0), (.iload_n 1, 1, 1, [], 0), (.aload_n 0, 1, 0, [], 0), (.getfield 205, 3, 35, [(11, 0)], 0), (.if_icmp .lt 5, 3, 14, [], 0)]),
  (12, [(.iconst 0, 1, 0, [], 0), (.ireturn, 1, 0, [], 0)]),
  (14, [(.aload_n 0, 1, 0, [], 0), (.getfield 94, 3, 36, [(11, 2)], 0), (.iload_n 1, 1, 1, [], 0), (.iaload, 1, 0, [], 0), (.aload_n 0, 1, 0, [], 0), (.getfield 110, 3, 41, [(11, 2)], 0), (.iload_n 1, 1, 1, [], 0), (.baload, 1, 1, [], 0), (.ifCond .eq 8, 3, 34, [], 0), (.bipush 8, 2, 0, [], 8), (.goto 4, 3, 35, [], 0)]),
  (34, [(.iconst 0, 1, 0, [], 0)]),
  (35, [(.iadd, 1, 0, [], 0), (.aload_n 0, 1, 0, [], 0), (.getfield 94, 3, 36, [(11, 2)], 0), (.iload_n 1, 1, 1, [], 0), (.iaload, 1, 0, [], 0), (.iconst 4, 1, 0, [], 4), (.if_icmp .ne 26, 3, 69, [], 0), (.aload_n 0, 1, 0, [], 0), (.getfield 106, 3, 40, [(11, 2)], 0), (.iload_n 1, 1, 1, [], 0), (.baload, 1, 1, [], 0), (.ifCond .eq 17, 3, 69, [], 0), (.bipush 16, 2, 0, [], 16), (.aload_n 0, 1, 0, [], 0), (.getfield 103, 3, 39, [(11, 2)], 0), (.iload_n 1, 1, 1, [], 0), (.iaload, 1, 0, [], 0), (.iconst 1, 1, 0, [], 1), (.iadd, 1, 0, [], 0), (.imul, 1, 0, [], 0), (.goto 4, 3, 70, [], 0)]),
  (69, [(.iconst 0, 1, 0, [], 0)]),
  (70, [(.iadd, 1, 0, [], 0), (.ireturn, 1, 0, [], 0)])]
theorem ok_R_task : x_mok y_R_task (x_on 20) false b_R_task := x_chm_ok rfl (by decide) (by decide +kernel)
def b_R_instances : List (Nat × List XO) := [(0, [(.iload_n 1, 1, 1, [], 0), (.ifCond .lt 11, 3, 12, [], 0), (.iload_n 1, 1, 1, [], 0), (.aload_n 0, 1, 0, [], 0), (.getfield 133, 3, 2, [(11, 0)], 0), (.if_icmp .lt 5, 3, 14, [], 0)]),
  (12, [(.iconst (-1), 1, 0, [], (-1)), (.ireturn, 1, 0, [], 0)]),
  (14, [(.aload_n 0, 1, 0, [], 0), (.getfield 7, 3, 3, [(11, 2)], 0), (.iload_n 1, 1, 1, [], 0), (.iaload, 1, 0, [], 0), (.ifCond .ne 11, 3, 31, [], 0), (.aload_n 0, 1, 0, [], 0), (.iload_n 1, 1, 1, [], 0), (.invokevirtual 167, 3, 1, [(11, 135)], 0), (.goto 44, 3, 72, [], 0)]),
  (31, [(.aload_n 0, 1, 0, [], 0), (.getfield 7, 3, 3, [(11, 2)], 0), (.iload_n 1, 1, 1, [], 0), (.iaload, 1, 0, [], 0), (.iconst 1, 1, 0, [], 1), (.if_icmp .ne 11, 3, 49, [], 0), (.aload_n 0, 1, 0, [], 0), (.iload_n 1, 1, 1, [], 0), (.invokevirtual 211, 3, 1, [(11, 145)], 0), (.goto 26, 3, 72, [], 0)]),
  (49, [(.aload_n 0, 1, 0, [], 0), (.getfield 28, 3, 9, [(11, 2)], 0), (.iload_n 1, 1, 1, [], 0), (.iaload, 1, 0, [], 0), (.iconst 1, 1, 0, [], 1), (.if_icmp .ne 15, 3, 71, [], 0), (.aload_n 0, 1, 0, [], 0), (.getfield 130, 3, 0, [(11, 0)], 0), (.iconst 3, 1, 0, [], 3), (.if_icmp .eq 7, 3, 71, [], 0), (.iconst 1, 1, 0, [], 1), (.goto 4, 3, 72, [], 0)]),
  (71, [(.iconst 0, 1, 0, [], 0)]),
  (72, [(.ireturn, 1, 0, [], 0)])]
theorem ok_R_instances : x_mok y_R_instances (x_on 20) false b_R_instances := x_chm_ok rfl (by decide) (by decide +kernel)
def b_R_waiting : List (Nat × List XO) := [(0, [(.aload_n 0, 1, 0, [], 0), (.iload_n 1, 1, 1, [], 0), (.invokevirtual 232, 3, 1, [(11, 147)], 0), (.ifCond .ne 5, 3, 10, [], 0), (.iconst (-1), 1, 0, [], (-1)), (.ireturn, 1, 0, [], 0)]),
  (10, [(.iconst 0, 1, 0, [], 0), (.istore_n 2, 1, 2, [], 0), (.iconst 0, 1, 0, [], 0), (.istore_n 3, 1, 3, [], 0)]),
  (14, [(.iload_n 3, 1, 3, [], 0), (.bipush 8, 2, 0, [], 8), (.if_icmp .ge 27, 3, 44, [], 0), (.iload_n 2, 1, 2, [], 0), (.aload_n 0, 1, 0, [], 0), (.getfield 79, 3, 29, [(11, 2)], 0), (.iload_n 3, 1, 3, [], 0), (.iaload, 1, 0, [], 0), (.iload_n 1, 1, 1, [], 0), (.if_icmp .ne 7, 3, 35, [], 0), (.iconst 1, 1, 0, [], 1), (.goto 4, 3, 36, [], 0)]),
  (35, [(.iconst 0, 1, 0, [], 0)]),
  (36, [(.iadd, 1, 0, [], 0), (.istore_n 2, 1, 2, [], 0), (.iinc 3 1, 3, 3, [], 1), (.goto (-27), 3, 14, [], 0)]),
  (44, [(.iload_n 2, 1, 2, [], 0), (.ireturn, 1, 0, [], 0)])]
theorem ok_R_waiting : x_mok y_R_waiting (x_on 20) false b_R_waiting := x_chm_ok rfl (by decide) (by decide +kernel)
def b_R_events : List (Nat × List XO) := [(0, [(.aload_n 0, 1, 0, [], 0), (.getfield 119, 3, 44, [(11, 0)], 0), (.ireturn, 1, 0, [], 0)])]
theorem ok_R_events : x_mok y_R_events (x_on 20) false b_R_events := x_chm_ok rfl (by decide) (by decide +kernel)
def b_R_event : List (Nat × List XO) := [(0, [(.iload_n 1, 1, 1, [], 0), (.ifCond .lt 17, 3, 18, [], 0), (.iload_n 1, 1, 1, [], 0), (.bipush 63, 2, 0, [], 63), (.if_icmp .gt 11, 3, 18, [], 0), (.iload_n 1, 1, 1, [], 0), (.aload_n 0, 1, 0, [], 0), (.getfield 119, 3, 44, [(11, 0)], 0), (.if_icmp .lt 7, 3, 22, [], 0)]),
  (18, [(.iconst (-1), 1, 0, [], (-1)), (.goto 16, 3, 35, [], 0)]),
  (22, [(.aload_n 0, 1, 0, [], 0), (.getfield 116, 3, 45, [(11, 2)], 0), (.aload_n 0, 1, 0, [], 0), (.getfield 119, 3, 44, [(11, 0)], 0), (.iconst 1, 1, 0, [], 1), (.isub, 1, 0, [], 0), (.iload_n 1, 1, 1, [], 0), (.isub, 1, 0, [], 0), (.iaload, 1, 0, [], 0)]),
  (35, [(.ireturn, 1, 0, [], 0)])]
theorem ok_R_event : x_mok y_R_event (x_on 20) false b_R_event := x_chm_ok rfl (by decide) (by decide +kernel)
end
section
/-! ArrayList's methods that write: add (with room, first of all, at the array's end), get, remove. -/
theorem x_rfv_i {v : Value} {P : Prop} (h : x_isr v) (p : P) : x_rfv v P := by
  cases v <;> first | exact p | exact h.elim
theorem x_leb_i {a b : Nat} {P : Prop} (h : a ≤ b) (k : P) : x_leb a b P := by
  unfold x_leb
  rw [Nat.ble_eq_true_of_le h]
  exact k
theorem c_max {X : XC} {f : XH} {x y : Int32} : Holds X y_Math_max [.int x, .int y] f 0 0 0 0 (fun r f' => r = some (.int (if x < y then y else x)) ∧ f' = f) := by
  refine x_met ok_Math_max (by simp [x_one]) (Nat.le_of_ble_eq_true rfl) fun go st => ?_
  refine st 0 _ _ _ _ _ _ rfl ?_
  refine And.intro (fun hc => ?_) (fun hc => ?_)
  · refine st 9 _ _ _ _ _ _ rfl ?_
    refine st 10 _ _ _ _ _ _ rfl ?_
    exact And.intro (by rw [if_pos hc]) rfl
  · refine st 10 _ _ _ _ _ _ rfl ?_
    exact And.intro (by rw [if_neg hc]) rfl
theorem c_min {X : XC} {f : XH} {x y : Int32} : Holds X y_Math_min [.int x, .int y] f 0 0 0 0 (fun r f' => r = some (.int (if y < x then y else x)) ∧ f' = f) := by
  refine x_met ok_Math_min (by simp [x_one]) (Nat.le_of_ble_eq_true rfl) fun go st => ?_
  refine st 0 _ _ _ _ _ _ rfl ?_
  refine And.intro (fun hc => ?_) (fun hc => ?_)
  · refine st 9 _ _ _ _ _ _ rfl ?_
    refine st 10 _ _ _ _ _ _ rfl ?_
    exact And.intro (by rw [if_pos hc]) rfl
  · refine st 10 _ _ _ _ _ _ rfl ?_
    exact And.intro (by rw [if_neg hc]) rfl
theorem x_elo_up {f : XH} {q : Nat} {e : Option XE} {v : Value} (hq : f q = none) (h : x_elo f v) : x_elo (va_up f q e) v := by
  rcases h with h | ⟨w, ci, fs, h1, h2, h3⟩
  · exact Or.inl h
  · refine Or.inr ⟨w, ci, fs, h1, ?_, h3⟩
    exact x_u (fun hw => by rw [hw, hq] at h2; cases h2) h2
theorem c_copyOf2 {X : XC} {f : XH} {s0 n0 N : Nat} {g0 : Nat → Value} (hs : f s0 = some (.inr (5, n0, g0))) (h01 : n0 ≤ N) (hN : N ≤ 1000) (hel : ∀ j, j < n0 → x_elo f (g0 j)) :
    Holds X y_Arrays_copyOf2 [.ref s0, .int (nI N), .ref (x_k X 1)] f 1 60 1 N (fun r f' => ∃ (q : Nat) (g : Nat → Value), r = some (.ref q) ∧ f q = none ∧ f' = va_up f q (some (.inr (5, N, g))) ∧ (∀ j, j < n0 → g j = g0 j)) := by
  refine x_met ok_Arrays_copyOf2 (by simp [x_one]) (Nat.le_of_ble_eq_true rfl) fun go st => ?_
  refine st 0 _ _ _ _ _ _ rfl ?_
  refine And.intro (fun h => absurd rfl h) (fun _ => ?_)
  have hcl : (nI N).toNatClampNeg = N := nI_clamp (by omega)
  conv => whnf
  refine ⟨nI_pos (by omega), by rw [hcl]; omega, by decide, by rw [hcl]; omega, fun q hq => ?_⟩
  have hsq : s0 ≠ q := fun z => by rw [z, hq] at hs; cases hs
  rw [hcl]
  refine st 24 _ _ _ _ _ _ rfl ?_
  refine x_a (x_u hsq hs) ?_
  conv => whnf
  refine ⟨_, _, _, _, _, c_min, ?_, ?_⟩
  · exact ⟨by decide, by decide, by omega, by omega⟩
  rintro r f' ⟨rfl, rfl⟩
  have hm : (if nI N < nI n0 then nI N else nI n0) = nI n0 := if_neg (nI_nlt h01 (by omega))
  have hc0 : (nI n0).toNatClampNeg = n0 := nI_clamp (by omega)
  rw [hm]
  refine x_a (x_u hsq hs) ?_
  refine x_a (va_up_self _ _ _) ?_
  refine And.intro ⟨by decide, by decide, nI_pos (by omega), ?_, ?_, ?_⟩ ?_
  · rw [hc0]; exact Nat.le_of_eq (by simp)
  · rw [hc0]; simp; exact h01
  · rw [hc0]
    intro j hj
    simp only [sb_cl0, Nat.zero_add]
    exact x_elo_up hq (hel j hj)
  · refine x_leb_i (by omega) ?_
    refine ⟨q, va_cpy g0 (fun _ => .null) 0 0 n0, rfl, hq, ?_, fun j hj => ?_⟩
    · rw [bx_uu, hc0, sb_cl0]
    · rw [pk_cpy_in (Nat.zero_le _) (by omega)]; simp
theorem c_copyOf {X : XC} {f : XH} {s0 n0 N : Nat} {g0 : Nat → Value} (hs : f s0 = some (.inr (5, n0, g0))) (h01 : n0 ≤ N) (hN : N ≤ 1000) (hel : ∀ j, j < n0 → x_elo f (g0 j)) :
    Holds X y_Arrays_copyOf [.ref s0, .int (nI N)] f 2 83 1 N (fun r f' => ∃ (q : Nat) (g : Nat → Value), r = some (.ref q) ∧ f q = none ∧ f' = va_up f q (some (.inr (5, N, g))) ∧ (∀ j, j < n0 → g j = g0 j)) := by
  refine x_met ok_Arrays_copyOf (by simp [x_one]) (Nat.le_of_ble_eq_true rfl) fun go st => ?_
  refine st 0 _ _ _ _ _ _ rfl ?_
  refine x_a hs ?_
  conv => whnf
  refine ⟨_, _, _, _, _, c_copyOf2 hs h01 hN hel, ?_, ?_⟩
  · exact ⟨by decide, by decide, by omega, by omega⟩
  rintro r f' ⟨q, g, rfl, h1, h2, h3⟩
  refine x_leb_i (by omega) ?_
  exact ⟨q, g, rfl, h1, h2, h3⟩
theorem c_newLength {X : XC} {f : XH} {a b c : Nat} (h1 : 0 < a + max b c) (h2 : a + max b c ≤ 1000) : Holds X y_ArraysSupport_newLength [.int (nI a), .int (nI b), .int (nI c)] f 1 30 0 0 (fun r f' => r = some (.int (nI (a + max b c))) ∧ f' = f) := by
  refine x_met ok_ArraysSupport_newLength (by simp [x_one]) (Nat.le_of_ble_eq_true rfl) fun go st => ?_
  refine st 0 _ _ _ _ _ _ rfl ?_
  conv => whnf
  refine ⟨_, _, _, _, _, c_max, ?_, ?_⟩
  · decide
  rintro r f' ⟨rfl, rfl⟩
  have hm : (if nI b < nI c then nI c else nI b) = nI (max b c) := by
    by_cases hbc : b < c
    · rw [if_pos (nI_lt hbc (by omega)), Nat.max_eq_right (by omega)]
    · rw [if_neg (nI_nlt (by omega) (by omega)), Nat.max_eq_left (by omega)]
  rw [hm]
  have hs : nI a + nI (max b c) = nI (a + max b c) := nI_add _ _
  refine And.intro (fun h => ?_) (fun _ => ?_)
  · rw [hs] at h
    exact absurd h (nI_nle h1 (by omega))
  · refine And.intro (fun h => ?_) (fun _ => ?_)
    · rw [hs] at h
      exact absurd h (show ¬ nI 2147483639 < nI (a + max b c) from nI_nlt (by omega) (by decide))
    · exact And.intro (by rw [hs]) rfl
/-- a list: its object a, its array d, its elements' addresses g, n of them -/
def al_ok (X : XC) (f : XH) (a d n : Nat) (g : Nat → Nat) : Prop := ∃ m : Int32, f a = some (.inl (3, [.int m, .ref d, .int (nI n)])) ∧ ((d = x_k X 0 ∧ n = 0 ∧ ∃ g0, f d = some (.inr (99, 0, g0))) ∨ ∃ (cap : Nat) (G : Nat → Value), f d = some (.inr (5, cap, G)) ∧ n ≤ cap ∧ 10 ≤ cap ∧ cap ≤ 60 ∧ ∀ j, j < n → G j = .ref (g j))
theorem al_ne {X : XC} {f : XH} {a d n : Nat} {g : Nat → Nat} (h : al_ok X f a d n g) : a ≠ d := by
  obtain ⟨m, h1, h | ⟨cap, G, h2, -⟩⟩ := h
  · obtain ⟨-, -, g0, h2⟩ := h
    intro e
    rw [← e, h1] at h2
    cases h2
  · intro e
    rw [← e, h1] at h2
    cases h2
theorem c_AL_size' {X : XC} {f : XH} {a d n : Nat} {g : Nat → Nat} (h : al_ok X f a d n g) : Holds X y_ArrayList_size [.ref a] f 0 0 0 0 (fun r f' => r = some (.int (nI n)) ∧ f' = f) := by
  obtain ⟨m, h1, -⟩ := h
  exact c_AL_size h1
theorem c_AL_elementData {X : XC} {f : XH} {a d cap w : Nat} {m n i : Int32} {G : Nat → Value} (h : f a = some (.inl (3, [.int m, .ref d, .int n]))) (hd : f d = some (.inr (5, cap, G))) (hi : vp_in i cap) (hw : G i.toNatClampNeg = .ref w) : Holds X y_ArrayList_elementData [.ref a, .int i] f 0 0 0 0 (fun r f' => r = some (.ref w) ∧ f' = f) := by
  refine x_met ok_ArrayList_elementData (by simp [x_one]) (Nat.le_of_ble_eq_true rfl) fun go st => ?_
  refine st 0 _ _ _ _ _ _ rfl ?_
  refine x_o h ?_
  refine x_a hd ?_
  refine And.intro hi ?_
  rw [hw]
  exact And.intro rfl rfl
theorem c_AL_get {X : XC} {f : XH} {a d n i : Nat} {g : Nat → Nat} (h : al_ok X f a d n g) (hi : i < n) : Holds X y_ArrayList_get [.ref a, .int (nI i)] f 2 43 0 0 (fun r f' => r = some (.ref (g i)) ∧ f' = f) := by
  obtain ⟨m, h1, ⟨-, hn, -⟩ | ⟨cap, G, hd, hc, h10, h60, hG⟩⟩ := h
  · omega
  refine x_met ok_ArrayList_get (by simp [x_one]) (Nat.le_of_ble_eq_true rfl) fun go st => ?_
  refine st 0 _ _ _ _ _ _ rfl ?_
  refine x_o h1 ?_
  conv => whnf
  refine ⟨_, _, _, _, _, c_checkIndex (nI_pos (by omega)) (nI_lt hi (by omega)), ?_, ?_⟩
  · decide
  rintro r f' ⟨rfl, rfl⟩
  refine x_o h1 ?_
  conv => whnf
  refine ⟨_, _, _, _, _, c_AL_elementData (w := g i) h1 hd (vp_in_nI (by omega) (by omega)) (by rw [nI_clamp (by omega)]; exact hG i hi), ?_, ?_⟩
  · decide
  rintro r f' ⟨rfl, rfl⟩
  exact And.intro rfl rfl
theorem c_AL_grow2_first {X : XC} {f : XH} {a : Nat} {m : Int32} {g0 : Nat → Value} (h : f a = some (.inl (3, [.int m, .ref (x_k X 0), .int (nI 0)]))) (hd : f (x_k X 0) = some (.inr (99, 0, g0))) :
    Holds X y_ArrayList_grow2 [.ref a, .int (nI 1)] f 3 110 1 10 (fun r f' => ∃ q, r = some (.ref q) ∧ f q = none ∧ f' = va_up (va_up f q (some (.inr (5, 10, fun _ => .null)))) a (some (.inl (3, [.int m, .ref q, .int (nI 0)])))) := by
  refine x_met ok_ArrayList_grow2 (by simp [x_one]) (Nat.le_of_ble_eq_true rfl) fun go st => ?_
  refine st 0 _ _ _ _ _ _ rfl ?_
  refine x_o h ?_
  refine x_a hd ?_
  refine And.intro (fun hc => absurd hc (by decide)) (fun _ => ?_)
  refine x_o h ?_
  refine And.intro (fun _ => ?_) (fun hc => absurd rfl hc)
  refine st 45 _ _ _ _ _ _ rfl ?_
  conv => whnf
  refine ⟨_, _, _, _, _, c_max, ?_, ?_⟩
  · decide
  rintro r f' ⟨rfl, rfl⟩
  conv => whnf
  refine ⟨by decide, by decide, by decide, by decide, fun q hq => ?_⟩
  have haq : a ≠ q := fun z => by rw [z, hq] at h; cases h
  refine x_o (x_u haq h) ?_
  exact ⟨q, rfl, hq, rfl⟩
theorem c_AL_grow2 {X : XC} {f : XH} {a d cap : Nat} {m : Int32} {G : Nat → Value} (h : f a = some (.inl (3, [.int m, .ref d, .int (nI cap)]))) (hd : f d = some (.inr (5, cap, G))) (h10 : 10 ≤ cap) (h60 : cap ≤ 60) (hel : ∀ j, j < cap → x_elo f (G j)) :
    Holds X y_ArrayList_grow2 [.ref a, .int (nI (cap + 1))] f 3 110 1 (cap + cap / 2) (fun r f' => ∃ (q : Nat) (G' : Nat → Value), r = some (.ref q) ∧ f q = none ∧ f' = va_up (va_up f q (some (.inr (5, cap + cap / 2, G')))) a (some (.inl (3, [.int m, .ref q, .int (nI cap)]))) ∧ ∀ j, j < cap → G' j = G j) := by
  refine x_met ok_ArrayList_grow2 (by simp [x_one]) (Nat.le_of_ble_eq_true rfl) fun go st => ?_
  refine st 0 _ _ _ _ _ _ rfl ?_
  refine x_o h ?_
  refine x_a hd ?_
  refine And.intro (fun _ => ?_) (fun hc => absurd (show (0 : Int32) < nI cap from nI_lt (a := 0) (by omega) (by omega)) hc)
  refine st 20 _ _ _ _ _ _ rfl ?_
  have e1 : nI (cap + 1) - nI cap = nI 1 := by rw [pk_sub (by omega)]; congr 1; omega
  have e2 : nI cap >>> ((1 : Int32) &&& 31) = nI (cap / 2) := by
    have k := pk_shrN (n := cap) (by omega) ((1 : Int32) &&& 31) 1 (by decide)
    rw [Nat.pow_one] at k
    exact k
  have e3 : max 1 (cap / 2) = cap / 2 := Nat.max_eq_right (by omega)
  conv => whnf
  refine ⟨_, _, _, _, _, (by rw [show nI (cap + 1) - nI cap = nI 1 from e1, show nI cap >>> ((1 : Int32) &&& 31) = nI (cap / 2) from e2]; exact c_newLength (a := cap) (b := 1) (c := cap / 2) (by omega) (by omega)), ?_, ?_⟩
  · exact ⟨by decide, by decide, by omega, by omega⟩
  rintro r f' ⟨rfl, rfl⟩
  rw [e3]
  refine x_o h ?_
  conv => whnf
  refine ⟨_, _, _, _, _, c_copyOf hd (by omega) (by omega) hel, ?_, ?_⟩
  · exact ⟨by decide, by decide, by omega, by omega⟩
  rintro r f' ⟨q, G', rfl, hq, rfl, hG'⟩
  have haq : a ≠ q := fun z => by rw [z, hq] at h; cases h
  refine x_o (x_u haq h) ?_
  refine x_leb_i (by omega) ?_
  exact ⟨q, G', rfl, hq, rfl, hG'⟩
theorem c_AL_grow_first {X : XC} {f : XH} {a : Nat} {m : Int32} {g0 : Nat → Value} (h : f a = some (.inl (3, [.int m, .ref (x_k X 0), .int (nI 0)]))) (hd : f (x_k X 0) = some (.inr (99, 0, g0))) :
    Holds X y_ArrayList_grow [.ref a] f 4 140 1 10 (fun r f' => ∃ q, r = some (.ref q) ∧ f q = none ∧ f' = va_up (va_up f q (some (.inr (5, 10, fun _ => .null)))) a (some (.inl (3, [.int m, .ref q, .int (nI 0)])))) := by
  refine x_met ok_ArrayList_grow (by simp [x_one]) (Nat.le_of_ble_eq_true rfl) fun go st => ?_
  refine st 0 _ _ _ _ _ _ rfl ?_
  refine x_o h ?_
  refine x_o h ?_
  conv => whnf
  refine ⟨_, _, _, _, _, c_AL_grow2_first h hd, ?_, ?_⟩
  · decide
  rintro r f' ⟨q, rfl, hq, rfl⟩
  exact ⟨q, rfl, hq, rfl⟩
theorem c_AL_grow {X : XC} {f : XH} {a d cap : Nat} {m : Int32} {G : Nat → Value} (h : f a = some (.inl (3, [.int m, .ref d, .int (nI cap)]))) (hd : f d = some (.inr (5, cap, G))) (h10 : 10 ≤ cap) (h60 : cap ≤ 60) (hel : ∀ j, j < cap → x_elo f (G j)) :
    Holds X y_ArrayList_grow [.ref a] f 4 140 1 (cap + cap / 2) (fun r f' => ∃ (q : Nat) (G' : Nat → Value), r = some (.ref q) ∧ f q = none ∧ f' = va_up (va_up f q (some (.inr (5, cap + cap / 2, G')))) a (some (.inl (3, [.int m, .ref q, .int (nI cap)]))) ∧ ∀ j, j < cap → G' j = G j) := by
  refine x_met ok_ArrayList_grow (by simp [x_one]) (Nat.le_of_ble_eq_true rfl) fun go st => ?_
  refine st 0 _ _ _ _ _ _ rfl ?_
  refine x_o h ?_
  refine x_o h ?_
  conv => whnf
  refine ⟨_, _, _, _, _, (by rw [show nI cap + 1 = nI (cap + 1) from nI_1 cap]; exact c_AL_grow2 h hd h10 h60 hel), ?_, ?_⟩
  · exact ⟨by decide, by decide, by omega, by omega⟩
  rintro r f' ⟨q, G', rfl, hq, rfl, hG'⟩
  refine x_leb_i (by omega) ?_
  exact ⟨q, G', rfl, hq, rfl, hG'⟩
/-- an element that a list takes -/
def al_el (f : XH) (e : Nat) : Prop := ∃ (ci : Nat) (fs : List Value), f e = some (.inl (ci, fs)) ∧ x_ast.contains (5, ci) = true
theorem x_tru_i {b : Bool} {P : Prop} (h : b = true) (k : P) : x_tru b P := by
  subst h
  exact k
theorem c_AL_add2_room {X : XC} {f : XH} {a d e n cap : Nat} {m : Int32} {G : Nat → Value} (h : f a = some (.inl (3, [.int m, .ref d, .int (nI n)]))) (hd : f d = some (.inr (5, cap, G))) (hn : n < cap) (h60 : cap ≤ 60) (he : al_el f e) (hed : e ≠ d) :
    Holds X y_ArrayList_add2 [.ref a, .ref e, .ref d, .int (nI n)] f 5 170 1 90 (fun r f' => r = none ∧ f' = va_up (va_up f d (some (.inr (5, cap, va_up G n (.ref e))))) a (some (.inl (3, [.int m, .ref d, .int (nI (n + 1))])))) := by
  have had : a ≠ d := fun z => by rw [z, hd] at h; cases h
  obtain ⟨ci, fs, hfe, hci⟩ := he
  refine x_met ok_ArrayList_add2 (by simp [x_one]) (Nat.le_of_ble_eq_true rfl) fun go st => ?_
  refine st 0 _ _ _ _ _ _ rfl ?_
  refine x_a hd ?_
  refine And.intro (fun _ => ?_) (fun hc => absurd ((nI_eq (by omega) (by omega)).mp hc) (by omega))
  refine st 11 _ _ _ _ _ _ rfl ?_
  refine x_a hd ?_
  refine And.intro (vp_in_nI hn (by omega)) ?_
  refine x_o hfe ?_
  refine x_tru_i hci ?_
  refine x_o (x_u had h) ?_
  exact And.intro rfl (by rw [nI_clamp (by omega), show nI n + 1 = nI (n + 1) from nI_1 n]; rfl)
theorem c_AL_add2_first {X : XC} {f : XH} {a e : Nat} {m : Int32} {g0 : Nat → Value} (h : f a = some (.inl (3, [.int m, .ref (x_k X 0), .int (nI 0)]))) (hd : f (x_k X 0) = some (.inr (99, 0, g0))) (he : al_el f e) (hea : e ≠ a) :
    Holds X y_ArrayList_add2 [.ref a, .ref e, .ref (x_k X 0), .int (nI 0)] f 5 170 1 90 (fun r f' => r = none ∧ ∃ q, f q = none ∧ f' = va_up (va_up f q (some (.inr (5, 10, va_up (fun _ => .null) 0 (.ref e))))) a (some (.inl (3, [.int m, .ref q, .int (nI 1)])))) := by
  obtain ⟨ci, fs, hfe, hci⟩ := he
  refine x_met ok_ArrayList_add2 (by simp [x_one]) (Nat.le_of_ble_eq_true rfl) fun go st => ?_
  refine st 0 _ _ _ _ _ _ rfl ?_
  refine x_a hd ?_
  refine And.intro (fun hc => absurd rfl hc) (fun _ => ?_)
  refine x_o h ?_
  conv => whnf
  refine ⟨_, _, _, _, _, c_AL_grow_first h hd, ?_, ?_⟩
  · decide
  rintro r f' ⟨q, rfl, hq, rfl⟩
  have haq : a ≠ q := fun z => by rw [z, hq] at h; cases h
  have heq : e ≠ q := fun z => by rw [z, hq] at hfe; cases hfe
  refine st 11 _ _ _ _ _ _ rfl ?_
  refine x_a (x_u (Ne.symm haq) (va_up_self _ _ _)) ?_
  refine And.intro (vp_in_nI (n := 0) (by decide) (by decide)) ?_
  refine x_o (x_u hea (x_u heq hfe)) ?_
  refine x_tru_i hci ?_
  refine x_o (x_u haq (va_up_self _ _ _)) ?_
  refine And.intro rfl ⟨q, hq, ?_⟩
  funext b
  by_cases hb : b = a
  · subst hb
    rw [va_up_self, va_up_self]; rfl
  · rw [va_up_ne _ _ hb, va_up_ne _ _ hb]
    by_cases hbq : b = q
    · subst hbq
      rw [va_up_self, va_up_self]; rfl
    · rw [va_up_ne _ _ hbq, va_up_ne _ _ hbq, va_up_ne _ _ hb, va_up_ne _ _ hbq]
theorem c_AL_add2_grow {X : XC} {f : XH} {a d e cap : Nat} {m : Int32} {G : Nat → Value} (h : f a = some (.inl (3, [.int m, .ref d, .int (nI cap)]))) (hd : f d = some (.inr (5, cap, G))) (h10 : 10 ≤ cap) (h60 : cap ≤ 60) (hel : ∀ j, j < cap → x_elo f (G j)) (he : al_el f e) (hea : e ≠ a) :
    Holds X y_ArrayList_add2 [.ref a, .ref e, .ref d, .int (nI cap)] f 5 170 1 90 (fun r f' => r = none ∧ ∃ (q : Nat) (G' : Nat → Value), f q = none ∧ f' = va_up (va_up f q (some (.inr (5, cap + cap / 2, va_up G' cap (.ref e))))) a (some (.inl (3, [.int m, .ref q, .int (nI (cap + 1))]))) ∧ ∀ j, j < cap → G' j = G j) := by
  obtain ⟨ci, fs, hfe, hci⟩ := he
  refine x_met ok_ArrayList_add2 (by simp [x_one]) (Nat.le_of_ble_eq_true rfl) fun go st => ?_
  refine st 0 _ _ _ _ _ _ rfl ?_
  refine x_a hd ?_
  refine And.intro (fun hc => absurd rfl hc) (fun _ => ?_)
  refine x_o h ?_
  conv => whnf
  refine ⟨_, _, _, _, _, c_AL_grow h hd h10 h60 hel, ?_, ?_⟩
  · exact ⟨by decide, by decide, by omega, by omega⟩
  rintro r f' ⟨q, G', rfl, hq, rfl, hG'⟩
  have haq : a ≠ q := fun z => by rw [z, hq] at h; cases h
  have heq : e ≠ q := fun z => by rw [z, hq] at hfe; cases hfe
  refine st 11 _ _ _ _ _ _ rfl ?_
  refine x_a (x_u (Ne.symm haq) (va_up_self _ _ _)) ?_
  refine And.intro (vp_in_nI (by omega) (by omega)) ?_
  refine x_o (x_u hea (x_u heq hfe)) ?_
  refine x_tru_i hci ?_
  refine x_o (x_u haq (va_up_self _ _ _)) ?_
  refine x_leb_i (by omega) ?_
  refine And.intro rfl ⟨q, G', hq, ?_, hG'⟩
  funext b
  by_cases hb : b = a
  · subst hb
    rw [va_up_self, va_up_self, show nI cap + 1 = nI (cap + 1) from nI_1 cap]; rfl
  · rw [va_up_ne _ _ hb, va_up_ne _ _ hb]
    by_cases hbq : b = q
    · subst hbq
      rw [va_up_self, va_up_self, nI_clamp (by omega)]
    · rw [va_up_ne _ _ hbq, va_up_ne _ _ hbq, va_up_ne _ _ hb, va_up_ne _ _ hbq]
/-- add(e): the list has one more element; its array is the old one, or a new one; no other cell changes -/
theorem c_AL_add {X : XC} {f : XH} {a d e n : Nat} {g : Nat → Nat} (h : al_ok X f a d n g) (hn : n ≤ 40) (hel : ∀ j, j < n → al_el f (g j) ∧ x_elo f (.ref (g j))) (he : al_el f e) (hea : e ≠ a) (hga : ∀ j, j < n → g j ≠ a) :
    Holds X y_ArrayList_add [.ref a, .ref e] f 6 200 1 90 (fun r f' => r = some (.int 1) ∧ ∃ d', (d' = d ∧ (∃ cap G, f d = some (.inr (5, cap, G))) ∨ f d' = none) ∧ al_ok X f' a d' (n + 1) (va_up g n e) ∧ ∀ b, b ≠ a → b ≠ d' → f' b = f b) := by
  have had := al_ne h
  obtain ⟨m, h1, hcase⟩ := h
  obtain ⟨ci, fs, hfe, hci⟩ := he
  refine x_met ok_ArrayList_add (by simp [x_one]) (Nat.le_of_ble_eq_true rfl) fun go st => ?_
  refine st 0 _ _ _ _ _ _ rfl ?_
  refine x_o h1 ?_
  refine x_o h1 ?_
  refine x_o (va_up_self _ _ _) ?_
  refine x_o (va_up_self _ _ _) ?_
  refine x_o (va_up_self _ _ _) ?_
  have he1 : al_el (va_up f a (some (.inl (3, [.int (m + 1), .ref d, .int (nI n)])))) e := ⟨ci, fs, x_u hea hfe, hci⟩
  conv => whnf
  rcases hcase with ⟨rfl, rfl, g0, hd⟩ | ⟨cap, G, hd, hc, h10, h60, hG⟩
  · refine ⟨_, _, _, _, _, c_AL_add2_first (m := m + 1) (va_up_self _ _ _) (x_u (Ne.symm had) hd) he1 hea, ?_, ?_⟩
    · decide
    rintro r f' ⟨rfl, q, hq, rfl⟩
    have hqa : q ≠ a := fun z => by rw [z, va_up_self] at hq; cases hq
    have hq0 : f q = none := (va_up_ne _ _ hqa).symm.trans hq
    refine And.intro (Or.inr rfl) (And.intro rfl ⟨q, Or.inr hq0, ⟨m + 1, va_up_self _ _ _, Or.inr ⟨10, _, x_u hqa (va_up_self _ _ _), by omega, by omega, by omega, fun j hj => ?_⟩⟩, fun b hb hbq => ?_⟩)
    · have : j = 0 := by omega
      subst this
      rw [va_up_self, va_up_self]
    · rw [va_up_ne _ _ hb, va_up_ne _ _ hbq, va_up_ne _ _ hb]
  · by_cases hlt : n < cap
    · have hed : e ≠ d := fun z => by rw [z, hd] at hfe; cases hfe
      refine ⟨_, _, _, _, _, c_AL_add2_room (m := m + 1) (va_up_self _ _ _) (x_u (Ne.symm had) hd) hlt h60 he1 hed, ?_, ?_⟩
      · decide
      rintro r f' ⟨rfl, rfl⟩
      refine And.intro (Or.inr rfl) (And.intro rfl ⟨d, Or.inl ⟨rfl, cap, G, hd⟩, ⟨m + 1, va_up_self _ _ _, Or.inr ⟨cap, _, x_u (Ne.symm had) (va_up_self _ _ _), by omega, h10, h60, fun j hj => ?_⟩⟩, fun b hb hbd => ?_⟩)
      · by_cases hjn : j = n
        · subst hjn
          rw [va_up_self, va_up_self]
        · rw [va_up_ne _ _ hjn, va_up_ne _ _ hjn]
          exact hG j (by omega)
      · rw [va_up_ne _ _ hb, va_up_ne _ _ hbd, va_up_ne _ _ hb]
    · have hcn : n = cap := by omega
      subst hcn
      refine ⟨_, _, _, _, _, c_AL_add2_grow (m := m + 1) (va_up_self _ _ _) (x_u (Ne.symm had) hd) h10 h60 (fun j hj => ?_) he1 hea, ?_, ?_⟩
      · rw [hG j hj]
        rcases (hel j hj).2 with hz | ⟨w, cj, fj, q1, q2, q3⟩
        · cases hz
        · cases q1
          exact Or.inr ⟨_, cj, fj, rfl, x_u (hga j hj) q2, q3⟩
      · decide
      rintro r f' ⟨rfl, q, G', hq, rfl, hG'⟩
      have hqa : q ≠ a := fun z => by rw [z, va_up_self] at hq; cases hq
      have hq0 : f q = none := (va_up_ne _ _ hqa).symm.trans hq
      refine And.intro (Or.inr rfl) (And.intro rfl ⟨q, Or.inr hq0, ⟨m + 1, va_up_self _ _ _, Or.inr ⟨n + n / 2, _, x_u hqa (va_up_self _ _ _), by omega, by omega, by omega, fun j hj => ?_⟩⟩, fun b hb hbq => ?_⟩)
      · by_cases hjn : j = n
        · subst hjn
          rw [va_up_self, va_up_self]
        · rw [va_up_ne _ _ hjn, va_up_ne _ _ hjn, hG' j (by omega)]
          exact hG j (by omega)
      · rw [va_up_ne _ _ hb, va_up_ne _ _ hbq, va_up_ne _ _ hb]
theorem c_AL_fastRemove {X : XC} {f : XH} {a d n i cap : Nat} {m : Int32} {G : Nat → Value} {g : Nat → Nat} (h : f a = some (.inl (3, [.int m, .ref d, .int (nI n)]))) (hd : f d = some (.inr (5, cap, G))) (hc : n ≤ cap) (h60 : cap ≤ 60) (hG : ∀ j, j < n → G j = .ref (g j)) (hi : i < n) (hel : ∀ j, j < n → x_elo f (.ref (g j))) (hga : ∀ j, j < n → g j ≠ a) :
    Holds X y_ArrayList_fastRemove [.ref a, .ref d, .int (nI i)] f 1 60 0 0 (fun r f' => r = none ∧ ∃ G' : Nat → Value, f' a = some (.inl (3, [.int (m + 1), .ref d, .int (nI (n - 1))])) ∧ f' d = some (.inr (5, cap, G')) ∧ (∀ j, j < n - 1 → G' j = .ref (if j < i then g j else g (j + 1))) ∧ ∀ b, b ≠ a → b ≠ d → f' b = f b) := by
  have had : a ≠ d := fun z => by rw [z, hd] at h; cases h
  have en : nI n - 1 = nI (n - 1) := by
    obtain ⟨k, rfl⟩ : ∃ k, n = k + 1 := ⟨n - 1, by omega⟩
    rw [nI_pred]; rfl
  refine x_met ok_ArrayList_fastRemove (by simp [x_one]) (Nat.le_of_ble_eq_true rfl) fun go st => ?_
  have fin : ∀ (f2 : XH) (G2 : Nat → Value), f2 a = some (.inl (3, [.int (m + 1), .ref d, .int (nI n)])) → f2 d = some (.inr (5, cap, G2)) → (∀ j, j < n - 1 → G2 j = .ref (if j < i then g j else g (j + 1))) → (∀ b, b ≠ a → b ≠ d → f2 b = f b) → go 34 (va_up (x_arg [.ref a, .ref d, .int (nI i)]) 3 (some (.int (nI n - 1)))) [] f2 0 0 := by
    intro f2 G2 k1 k2 k3 k4
    rw [en]
    refine st 34 _ _ _ _ _ _ rfl ?_
    refine x_o k1 ?_
    refine x_a (x_u (Ne.symm had) k2) ?_
    refine And.intro (vp_in_nI (by omega) (by omega)) ?_
    refine And.intro rfl ⟨_, x_u had (va_up_self _ _ _), va_up_self _ _ _, fun j hj => ?_, fun b hb hbd => ?_⟩
    · rw [nI_clamp (by omega), va_up_ne _ _ (by omega)]
      exact k3 j hj
    · rw [va_up_ne _ _ hbd, va_up_ne _ _ hb]
      exact k4 b hb hbd
  refine st 0 _ _ _ _ _ _ rfl ?_
  refine x_o h ?_
  refine x_o h ?_
  refine x_o (va_up_self _ _ _) ?_
  refine And.intro (fun hc1 => ?_) (fun hc1 => ?_)
  · have hc1 : nI n - 1 ≤ nI i := hc1
    rw [en] at hc1
    have hni : n - 1 ≤ i := (nI_leI (by omega) (by omega)).mp hc1
    refine fin _ G (va_up_self _ _ _) (x_u (Ne.symm had) hd) (fun j hj => ?_) (fun b hb hbd => va_up_ne _ _ hb)
    rw [if_pos (by omega)]
    exact hG j (by omega)
  · have hc1 : ¬ nI n - 1 ≤ nI i := hc1
    rw [en] at hc1
    have hni : ¬ n - 1 ≤ i := fun z => hc1 ((nI_leI (by omega) (by omega)).mpr z)
    have e1 : nI i + 1 = nI (i + 1) := nI_1 i
    have e2 : nI n - 1 - nI i = nI (n - 1 - i) := by rw [en, pk_sub (by omega)]
    have c1 : (nI i + 1 : Int32).toNatClampNeg = i + 1 := by rw [e1, nI_clamp (by omega)]
    have c2 : (nI n - 1 - nI i : Int32).toNatClampNeg = n - 1 - i := by rw [e2, nI_clamp (by omega)]
    have c3 : (nI i).toNatClampNeg = i := nI_clamp (by omega)
    refine x_a (x_u (Ne.symm had) hd) ?_
    refine x_a (x_u (Ne.symm had) hd) ?_
    refine And.intro ⟨?_, nI_pos (by omega), ?_, ?_, ?_, ?_⟩ ?_
    · show ¬ (nI i + 1 : Int32) < 0
      rw [e1]; exact nI_pos (by omega)
    · show ¬ (nI n - 1 - nI i : Int32) < 0
      rw [e2]; exact nI_pos (by omega)
    · show (nI i + 1 : Int32).toNatClampNeg + (nI n - 1 - nI i : Int32).toNatClampNeg ≤ cap
      rw [c1, c2]; omega
    · show (nI i).toNatClampNeg + (nI n - 1 - nI i : Int32).toNatClampNeg ≤ cap
      rw [c3, c2]; omega
    · intro j hj
      have hj : j < (nI n - 1 - nI i : Int32).toNatClampNeg := hj
      rw [c2] at hj
      show x_elo _ (G ((nI i + 1 : Int32).toNatClampNeg + j))
      rw [c1, hG _ (by omega)]
      rcases hel (i + 1 + j) (by omega) with hz | ⟨w, cj, fj, q1, q2, q3⟩
      · cases hz
      · cases q1
        exact Or.inr ⟨_, cj, fj, rfl, x_u (hga _ (by omega)) q2, q3⟩
    · refine fin _ _ (x_u had (va_up_self _ _ _)) (va_up_self _ _ _) (fun j hj => ?_) (fun b hb hbd => ?_)
      · show va_cpy G G (nI i + 1 : Int32).toNatClampNeg (nI i).toNatClampNeg (nI n - 1 - nI i : Int32).toNatClampNeg j = _
        rw [c1, c2, c3]
        by_cases hji : j < i
        · rw [pk_cpy_out (Or.inl hji), if_pos hji]
          exact hG j (by omega)
        · rw [pk_cpy_in (by omega) (by omega), if_neg hji, show i + 1 + (j - i) = j + 1 by omega]
          exact hG (j + 1) (by omega)
      · rw [va_up_ne _ _ hbd, va_up_ne _ _ hb]
theorem c_AL_remove {X : XC} {f : XH} {a d n i : Nat} {g : Nat → Nat} (h : al_ok X f a d n g) (hi : i < n) (hel : ∀ j, j < n → x_elo f (.ref (g j))) (hga : ∀ j, j < n → g j ≠ a) :
    Holds X y_ArrayList_remove [.ref a, .int (nI i)] f 2 100 0 0 (fun r f' => r = some (.ref (g i)) ∧ al_ok X f' a d (n - 1) (fun j => if j < i then g j else g (j + 1)) ∧ ∀ b, b ≠ a → b ≠ d → f' b = f b) := by
  obtain ⟨m, h1, ⟨-, hn, -⟩ | ⟨cap, G, hd, hc, h10, h60, hG⟩⟩ := h
  · omega
  refine x_met ok_ArrayList_remove (by simp [x_one]) (Nat.le_of_ble_eq_true rfl) fun go st => ?_
  refine st 0 _ _ _ _ _ _ rfl ?_
  refine x_o h1 ?_
  conv => whnf
  refine ⟨_, _, _, _, _, c_checkIndex (nI_pos (by omega)) (nI_lt hi (by omega)), ?_, ?_⟩
  · decide
  rintro r f' ⟨rfl, rfl⟩
  refine x_o h1 ?_
  refine x_a hd ?_
  refine And.intro (vp_in_nI (by omega) (by omega)) ?_
  rw [show G (nI i).toNatClampNeg = .ref (g i) by rw [nI_clamp (by omega)]; exact hG i hi]
  refine x_o h1 ?_
  conv => whnf
  refine ⟨_, _, _, _, _, c_AL_fastRemove h1 hd hc h60 hG hi hel hga, ?_, ?_⟩
  · decide
  rintro r f' ⟨rfl, G', k1, k2, k3, k4⟩
  exact And.intro rfl ⟨⟨_, k1, Or.inr ⟨cap, G', k2, by omega, h10, h60, k3⟩⟩, k4⟩
theorem c_AbstractCollection_init {X : XC} {f : XH} {a : Nat} : Holds X y_AbstractCollection_init [.ref a] f 1 20 0 0 (fun r f' => r = none ∧ f' = f) := by
  refine x_met ok_AbstractCollection_init (by simp [x_one]) (Nat.le_of_ble_eq_true rfl) fun go st => ?_
  refine st 0 _ _ _ _ _ _ rfl ?_
  exact And.intro rfl rfl
theorem c_AbstractList_init {X : XC} {f : XH} {a : Nat} {v : Int32} {x y : Value} (h : f a = some (.inl (3, [.int v, x, y]))) : Holds X y_AbstractList_init [.ref a] f 2 40 0 0 (fun r f' => r = none ∧ f' = va_up f a (some (.inl (3, [.int 0, x, y])))) := by
  refine x_met ok_AbstractList_init (by simp [x_one]) (Nat.le_of_ble_eq_true rfl) fun go st => ?_
  refine st 0 _ _ _ _ _ _ rfl ?_
  conv => whnf
  refine ⟨_, _, _, _, _, c_AbstractCollection_init, ?_, ?_⟩
  · decide
  rintro r f' ⟨rfl, rfl⟩
  refine x_o h ?_
  exact And.intro rfl rfl
theorem c_AL_init {X : XC} {f : XH} {a : Nat} (h : f a = some (.inl (3, [.int 0, .null, .int 0]))) : Holds X y_ArrayList_init [.ref a] f 3 60 0 0 (fun r f' => r = none ∧ f' = va_up f a (some (.inl (3, [.int 0, .ref (x_k X 0), .int (nI 0)])))) := by
  refine x_met ok_ArrayList_init (by simp [x_one]) (Nat.le_of_ble_eq_true rfl) fun go st => ?_
  refine st 0 _ _ _ _ _ _ rfl ?_
  conv => whnf
  refine ⟨_, _, _, _, _, c_AbstractList_init h, ?_, ?_⟩
  · decide
  rintro r f' ⟨rfl, rfl⟩
  refine x_o (va_up_self _ _ _) ?_
  exact And.intro rfl (by rw [bx_uu]; rfl)
end
section
/-! The class's objects as a picture of two functions: v (a code, a place: an integer), L (a list: numbers). A: the objects' addresses by kind and number. -/
def iI (z : Int) : Int32 := Int32.ofInt z
def up2 (v : Nat → Nat → Int) (c i : Nat) (x : Int) : Nat → Nat → Int := fun c' i' => if c' = c ∧ i' = i then x else v c' i'
theorem up2_s {v : Nat → Nat → Int} {c i : Nat} {x : Int} : up2 v c i x c i = x := by simp [up2]
theorem up2_c {v : Nat → Nat → Int} {c c' i i' : Nat} {x : Int} (h : c' ≠ c) : up2 v c i x c' i' = v c' i' := by simp [up2, h]
theorem up2_i {v : Nat → Nat → Int} {c c' i i' : Nat} {x : Int} (h : i' ≠ i) : up2 v c i x c' i' = v c' i' := by simp [up2, h]
-- a reference to target t (below 0: none), to task k
def q_t (A : Nat → Nat → Nat) (z : Int) : Value := if z < 0 then .null else .ref (A 5 z.toNat)
def q_k (A : Nat → Nat → Nat) (z : Int) : Value := if z < 0 then .null else .ref (A 11 z.toNat)
/-- codes: 0 phase, 1 componentCount, 2 now, 3 uses, 4 count, 5 instancesMade, 6 latest, 7 marks; callers: 10 depth, 11 lineTarget, 12 lineMode, 13 waitsSince, 14 latestResult, 15 work, 16 targets, 17 instances, 18 modes (places i + 8 j); targets: 20 kind (0 none, 1 pool, 2 singleton, 3 session), 21 timeout, 22 modes; pools: 23 size, 24 freeCount, 25 total, 26 free (t + 32 j); singletons: 27 eager, 28 cannotBegin, 29 begun, 30 failed, 31 instance, 32 methods, 33 writingMethods; sessions: 34 home, 35 instance, 36 place, 37 inUse, 38 latestUse, 39 latestUseTime; statefuls: 40 there, 41 size, 42 timeout, 43 idle; tasks: 50 target, 51 mode, 52 wanted, 53 stage, 54 noted, 55 outcome -/
-- the reference's arrays, by the number of their field: length, type; the reference's fields (codes 100 + n; code 60: the reference is there)
def r_len (n : Nat) : Nat := ([0, 0, 0, 8, 8, 8, 8, 64, 8, 8, 8, 8, 0, 8, 8, 32, 32, 8, 0, 24, 24, 24, 24, 24, 0, 8, 32, 32, 32, 8, 8, 8, 8, 0, 8, 0, 24, 24, 24, 24, 24, 24, 8, 0, 0, 3200] : List Nat).getD n 0
def r_at (n : Nat) : Nat := if n = 40 ∨ n = 41 then 1 else 0
def r_fs (A : Nat → Nat → Nat) (v : Nat → Nat → Int) : List Value := [.int (iI (v 100 0)), .int (iI (v 101 0)), .int (iI (v 102 0)), .ref (A 21 3), .ref (A 21 4), .ref (A 21 5), .ref (A 21 6), .ref (A 21 7), .ref (A 21 8), .ref (A 21 9), .ref (A 21 10), .ref (A 21 11), .int (iI (v 112 0)), .ref (A 21 13), .ref (A 21 14), .ref (A 21 15), .ref (A 21 16), .ref (A 21 17), .int (iI (v 118 0)), .ref (A 21 19), .ref (A 21 20), .ref (A 21 21), .ref (A 21 22), .ref (A 21 23), .int (iI (v 124 0)), .ref (A 21 25), .ref (A 21 26), .ref (A 21 27), .ref (A 21 28), .ref (A 21 29), .ref (A 21 30), .ref (A 21 31), .ref (A 21 32), .int (iI (v 133 0)), .ref (A 21 34), .int (iI (v 135 0)), .ref (A 21 36), .ref (A 21 37), .ref (A 21 38), .ref (A 21 39), .ref (A 21 40), .ref (A 21 41), .ref (A 21 42), .int (iI (v 143 0)), .int (iI (v 144 0)), .ref (A 21 45)]
def cc_one (A : Nat → Nat → Nat) (v : Nat → Nat → Int) (i : Nat) : Option XE := match i with
  | 0 => some (.inl (10, [.ref (A 0 1), .ref (A 0 3), .ref (A 0 4), .ref (A 0 6), .ref (A 0 7), .ref (A 0 8), .ref (A 0 9), .ref (A 0 10), .int (iI (v 1 0)), .int (iI (v 0 0))]))
  | 1 => some (.inl (0, [.ref (A 0 2), .int (iI (v 4 0)), .int (iI (v 5 0))]))
  | 2 => some (.inr (0, 64, fun j => .int (iI (v 6 j))))
  | 3 => some (.inl (1, [.int (iI (v 2 0)), .int (iI (v 3 0))]))
  | 4 => some (.inl (2, [.ref (A 0 5)]))
  | 5 => some (.inr (0, 8, fun j => .int (iI (v 7 j))))
  | 6 => some (.inr (2, 8, fun j => .ref (A 1 j)))
  | 7 => some (.inr (3, 32, fun j => if v 20 j = 0 then .null else .ref (A 5 j)))
  | 8 => some (.inr (4, 8, fun j => if v 40 j = 0 then .null else .ref (A 9 j)))
  | _ => none
def cc_tgt (A : Nat → Nat → Nat) (v : Nat → Nat → Int) (i : Nat) : Option XE :=
  if v 20 i = 1 then some (.inl (6, [.ref (A 6 i), .ref (A 0 1), .int (iI (v 21 i)), .int (iI (v 22 i)), .int (iI (v 23 i)), .ref (A 7 i), .int (iI (v 24 i)), .int (iI (v 25 i))]))
  else if v 20 i = 2 then some (.inl (7, [.ref (A 6 i), .ref (A 0 1), .int (iI (v 21 i)), .int (iI (v 22 i)), .ref (A 8 i), .int (iI (v 27 i)), .int (iI (v 28 i)), .int (iI (v 29 i)), .int (iI (v 30 i)), .int (iI (v 31 i)), .int (iI (v 32 i)), .int (iI (v 33 i))]))
  else if v 20 i = 3 then some (.inl (8, [.ref (A 6 i), .ref (A 0 1), .int (iI (v 21 i)), .int (iI (v 22 i)), .ref (A 9 (v 34 i).toNat), .ref (A 0 3), .int (iI (v 35 i)), .int (iI (v 36 i)), .int (iI (v 37 i)), .int (iI (v 38 i)), .int (iI (v 39 i))]))
  else none
def cc_cell (A : Nat → Nat → Nat) (v : Nat → Nat → Int) (L : Nat → List Nat) (k i : Nat) : Option XE := match k with
  | 0 => cc_one A v i
  | 1 => if i < 8 then some (.inl (4, [.int (nI i), .ref (A 2 i), .ref (A 3 i), .ref (A 4 i), .int (iI (v 10 i)), q_t A (v 11 i), .int (iI (v 12 i)), .int (iI (v 13 i)), .int (iI (v 14 i)), q_k A (v 15 i)])) else none
  | 2 => if i < 8 then some (.inr (3, 4, fun j => q_t A (v 16 (i + 8 * j)))) else none
  | 3 => if i < 8 then some (.inr (0, 4, fun j => .int (iI (v 17 (i + 8 * j))))) else none
  | 4 => if i < 8 then some (.inr (0, 4, fun j => .int (iI (v 18 (i + 8 * j))))) else none
  | 5 => cc_tgt A v i
  | 7 => if v 20 i = 1 ∧ i < 32 then some (.inr (0, 4, fun j => .int (iI (v 26 (i + 32 * j))))) else none
  | 9 => if v 40 i = 1 then some (.inl (5, [.ref (A 10 i), .int (iI (v 41 i)), .int (iI (v 42 i)), .int (iI (v 43 i))])) else none
  | 11 => if i < (L 1).length then some (.inl (9, [.ref (A 5 (v 50 i).toNat), .int (iI (v 51 i)), .int (iI (v 52 i)), .int (iI (v 53 i)), .int (iI (v 54 i)), .int (iI (v 55 i))])) else none
  | 20 => if v 60 0 = 1 ∧ i = 0 then some (.inl (11, r_fs A v)) else none
  | 21 => if v 60 0 = 1 ∧ 0 < r_len i then some (.inr (r_at i, r_len i, fun j => .int (iI (v (100 + i) j)))) else none
  | _ => none
/-- which objects there are: the cells and the lists' objects -/
def cc_live (v : Nat → Nat → Int) (L : Nat → List Nat) (k i : Nat) : Prop := match k with
  | 0 => i ≤ 10
  | 1 => i < 8
  | 2 => i < 8
  | 3 => i < 8
  | 4 => i < 8
  | 5 => v 20 i = 1 ∨ v 20 i = 2 ∨ v 20 i = 3
  | 6 => v 20 i = 1 ∨ v 20 i = 2 ∨ v 20 i = 3
  | 7 => v 20 i = 1
  | 8 => v 20 i = 2
  | 9 => v 40 i = 1
  | 10 => v 40 i = 1
  | 11 => i < (L 1).length
  | 20 => v 60 0 = 1 ∧ i = 0
  | 21 => v 60 0 = 1 ∧ 0 < r_len i
  | _ => False
-- the lists: 0 sessions, 1 tasks, 100 + t the line of target t, 200 + t what singleton t needs, 300 + c the sessions of stateful c
def cl_obj (l : Nat) : Nat × Nat := if l = 0 then (0, 9) else if l = 1 then (0, 10) else if l < 200 then (6, l - 100) else if l < 300 then (8, l - 200) else (10, l - 300)
def cl_el (l : Nat) : Nat := if l = 1 then 11 else if 100 ≤ l ∧ l < 200 then 1 else 5
def cl_ok (l : Nat) : Prop := l = 0 ∨ l = 1 ∨ (100 ≤ l ∧ l < 132) ∨ (200 ≤ l ∧ l < 232) ∨ (300 ≤ l ∧ l < 308)
def cl_live (v : Nat → Nat → Int) (L : Nat → List Nat) (l : Nat) : Prop := cl_ok l ∧ cc_live v L (cl_obj l).1 (cl_obj l).2
def PC (X : XC) (f : XH) (A : Nat → Nat → Nat) (DA : Nat → Nat) (v : Nat → Nat → Int) (L : Nat → List Nat) : Prop :=
  (∀ k i e, cc_cell A v L k i = some e → f (A k i) = some e) ∧
  (∀ l, cl_live v L l → al_ok X f (A (cl_obj l).1 (cl_obj l).2) (DA l) (L l).length (fun j => A (cl_el l) ((L l).getD j 0))) ∧
  (∀ k i k' i', cc_live v L k i → cc_live v L k' i' → A k i = A k' i' → k = k' ∧ i = i') ∧
  (∀ l, cl_live v L l → (∀ k i, cc_live v L k i → A k i ≠ DA l) ∧ ∀ l', cl_live v L l' → l' ≠ l → DA l' = DA l → DA l = x_k X 0) ∧
  (∃ g0, f (x_k X 0) = some (.inr (99, 0, g0))) ∧ (∀ k i, cc_live v L k i → A k i ≠ x_k X 0) ∧ (∀ k i, cc_live v L k i → f (A k i) ≠ none)
theorem cc_cell_live {A : Nat → Nat → Nat} {v : Nat → Nat → Int} {L : Nat → List Nat} {k i : Nat} {e : XE} (h : cc_cell A v L k i = some e) : cc_live v L k i := by
  unfold cc_cell at h
  split at h
  · unfold cc_one at h
    split at h <;> first | (show _ ≤ 10; omega) | cases h
  · split at h <;> first | assumption | cases h
  · split at h <;> first | assumption | cases h
  · split at h <;> first | assumption | cases h
  · split at h <;> first | assumption | cases h
  · unfold cc_tgt at h
    show v 20 i = 1 ∨ v 20 i = 2 ∨ v 20 i = 3
    split at h
    · exact Or.inl ‹_›
    · split at h
      · exact Or.inr (Or.inl ‹_›)
      · split at h
        · exact Or.inr (Or.inr ‹_›)
        · cases h
  · split at h <;> first | exact (‹_ ∧ _›).1 | cases h
  · split at h <;> first | assumption | cases h
  · split at h <;> first | assumption | cases h
  · split at h <;> first | assumption | cases h
  · split at h <;> first | assumption | cases h
  · cases h
theorem al_same {X : XC} {f f' : XH} {a d n : Nat} {g : Nat → Nat} (h : al_ok X f a d n g) (ha : f' a = f a) (hd : f' d = f d) : al_ok X f' a d n g := by
  obtain ⟨m, h1, h2⟩ := h
  refine ⟨m, ha.trans h1, ?_⟩
  rcases h2 with ⟨p1, p2, g0, p3⟩ | ⟨cap, G, p1, p2⟩
  · exact Or.inl ⟨p1, p2, g0, hd.trans p3⟩
  · exact Or.inr ⟨cap, G, hd.trans p1, p2⟩
/-- a cell of the picture is written: the picture of the new values -/
theorem PC.put {X : XC} {f : XH} {A : Nat → Nat → Nat} {DA : Nat → Nat} {v v' : Nat → Nat → Int} {L : Nat → List Nat} (h : PC X f A DA v L) (k i : Nat) {e : XE} (he : cc_cell A v' L k i = some e) (hlv : cc_live v' L = cc_live v L) (ho : ∀ k' i', ¬ (k' = k ∧ i' = i) → cc_cell A v' L k' i' = cc_cell A v L k' i') (hk : ∀ l, cl_ok l → cl_obj l ≠ (k, i)) : PC X (va_up f (A k i) (some e)) A DA v' L := by
  obtain ⟨h1, h2, h3, h4, ⟨g0, h5⟩, h6, h7⟩ := h
  have hki : cc_live v L k i := hlv ▸ cc_cell_live he
  unfold PC cl_live
  rw [hlv]
  refine ⟨fun k' i' e' he' => ?_, fun l hl => ?_, h3, h4, ⟨g0, x_u (Ne.symm (h6 k i hki)) h5⟩, h6, fun k' i' hl' => ?_⟩
  · by_cases hkk : k' = k ∧ i' = i
    · obtain ⟨rfl, rfl⟩ := hkk
      rw [he] at he'
      cases he'
      exact va_up_self _ _ _
    · have hl' : cc_live v L k' i' := hlv ▸ cc_cell_live he'
      rw [ho k' i' hkk] at he'
      exact x_u (fun z => hkk (h3 _ _ _ _ hl' hki z)) (h1 k' i' e' he')
  · refine al_same (h2 l hl) (va_up_ne _ _ (fun z => ?_)) (va_up_ne _ _ (fun z => (h4 l hl).1 k i hki z.symm))
    obtain ⟨e1, e2⟩ := h3 _ _ _ _ hl.2 hki z
    exact hk l hl.1 (Prod.ext e1 e2)
  · by_cases z : A k' i' = A k i
    · rw [z, va_up_self]
      exact fun q => nomatch q
    · rw [va_up_ne _ _ z]
      exact h7 k' i' hl'
-- which cell a value stands in
def cc_own (c i : Nat) : Nat × Nat := match c with
  | 0 => (0, 0)
  | 1 => (0, 0)
  | 2 => (0, 3)
  | 3 => (0, 3)
  | 4 => (0, 1)
  | 5 => (0, 1)
  | 6 => (0, 2)
  | 7 => (0, 5)
  | 16 => (2, i % 8)
  | 17 => (3, i % 8)
  | 18 => (4, i % 8)
  | 26 => (7, i % 32)
  | _ => if 100 ≤ c then (if r_len (c - 100) = 0 then (20, 0) else (21, c - 100)) else if c < 20 then (1, i) else if c < 40 then (5, i) else if c < 50 then (9, i) else (11, i)
/-- a value is written: no other cell changes -/
theorem cc_up {A : Nat → Nat → Nat} {v : Nat → Nat → Int} {L : Nat → List Nat} {c i : Nat} {x : Int} (hc : c ≠ 20 ∧ c ≠ 40 ∧ c ≠ 60) (k' i' : Nat) (hk : ¬ (k' = (cc_own c i).1 ∧ i' = (cc_own c i).2)) : cc_cell A (up2 v c i x) L k' i' = cc_cell A v L k' i' := by
  have e : ∀ c' j, cc_own c' j = (k', i') → up2 v c i x c' j = v c' j := by
    intro c' j hj
    unfold up2
    rw [if_neg]
    rintro ⟨rfl, rfl⟩
    exact hk (by rw [hj]; exact ⟨rfl, rfl⟩)
  have e20 : ∀ j, up2 v c i x 20 j = v 20 j := fun j => up2_c (Ne.symm hc.1)
  have e40 : ∀ j, up2 v c i x 40 j = v 40 j := fun j => up2_c (Ne.symm hc.2.1)
  have e60 : ∀ j, up2 v c i x 60 j = v 60 j := fun j => up2_c (Ne.symm hc.2.2)
  unfold cc_cell
  split
  · unfold cc_one
    split
    · rw [e 1 0 rfl, e 0 0 rfl]
    · rw [e 4 0 rfl, e 5 0 rfl]
    · congr; funext j; rw [e 6 j rfl]
    · rw [e 2 0 rfl, e 3 0 rfl]
    · rfl
    · congr; funext j; rw [e 7 j rfl]
    · rfl
    · congr; funext j; rw [e20]
    · congr; funext j; rw [e40]
    · rfl
  · rw [e 10 i' rfl, e 11 i' rfl, e 12 i' rfl, e 13 i' rfl, e 14 i' rfl, e 15 i' rfl]
  · split
    · congr; funext j; rw [e 16 (i' + 8 * j) (by show (2, (i' + 8 * j) % 8) = (2, i'); congr 1; omega)]
    · rfl
  · split
    · congr; funext j; rw [e 17 (i' + 8 * j) (by show (3, (i' + 8 * j) % 8) = (3, i'); congr 1; omega)]
    · rfl
  · split
    · congr; funext j; rw [e 18 (i' + 8 * j) (by show (4, (i' + 8 * j) % 8) = (4, i'); congr 1; omega)]
    · rfl
  · unfold cc_tgt
    rw [e20, e 21 i' rfl, e 22 i' rfl, e 23 i' rfl, e 24 i' rfl, e 25 i' rfl, e 27 i' rfl, e 28 i' rfl, e 29 i' rfl, e 30 i' rfl, e 31 i' rfl, e 32 i' rfl, e 33 i' rfl, e 34 i' rfl, e 35 i' rfl, e 36 i' rfl, e 37 i' rfl, e 38 i' rfl, e 39 i' rfl]
  · rw [e20]
    split
    · rename_i h
      congr; funext j; rw [e 26 (i' + 32 * j) (by show (7, (i' + 32 * j) % 32) = (7, i'); congr 1; omega)]
    · rfl
  · rw [e40, e 41 i' rfl, e 42 i' rfl, e 43 i' rfl]
  · rw [e 50 i' rfl, e 51 i' rfl, e 52 i' rfl, e 53 i' rfl, e 54 i' rfl, e 55 i' rfl]
  · rw [e60]
    split
    · rename_i h
      obtain ⟨-, rfl⟩ := h
      unfold r_fs
      rw [e 100 0 rfl, e 101 0 rfl, e 102 0 rfl, e 112 0 rfl, e 118 0 rfl, e 124 0 rfl, e 133 0 rfl, e 135 0 rfl, e 143 0 rfl, e 144 0 rfl]
    · rfl
  · rw [e60]
    split
    · rename_i h
      congr; funext j; rw [e (100 + i') j (by
        have h2 : ¬ r_len i' = 0 := by omega
        have h3 : 100 + i' - 100 = i' := by omega
        unfold cc_own
        split <;> first | omega | skip
        rw [if_pos (by omega), h3, if_neg h2])]
    · rfl
  · rfl
theorem cc_upl {v : Nat → Nat → Int} {L : Nat → List Nat} {c i : Nat} {x : Int} (hc : c ≠ 20 ∧ c ≠ 40 ∧ c ≠ 60) : cc_live (up2 v c i x) L = cc_live v L := by
  have e1 : ∀ j, up2 v c i x 20 j = v 20 j := fun j => up2_c (Ne.symm hc.1)
  have e2 : ∀ j, up2 v c i x 40 j = v 40 j := fun j => up2_c (Ne.symm hc.2.1)
  have e3 : ∀ j, up2 v c i x 60 j = v 60 j := fun j => up2_c (Ne.symm hc.2.2)
  funext k j
  unfold cc_live
  simp only [e1, e2, e3]
theorem cl_obj_k {l : Nat} (h : cl_ok l) : (cl_obj l).1 = 0 ∧ 9 ≤ (cl_obj l).2 ∨ (cl_obj l).1 = 6 ∨ (cl_obj l).1 = 8 ∨ (cl_obj l).1 = 10 := by
  unfold cl_obj cl_ok at *
  split <;> first | (left; decide) | skip
  split <;> first | (left; decide) | skip
  split <;> first | (right; left; rfl) | skip
  split <;> first | (right; right; left; rfl) | (right; right; right; rfl)
theorem cc_own_k (c i : Nat) (l : Nat) (h : cl_ok l) : cl_obj l ≠ ((cc_own c i).1, (cc_own c i).2) := by
  intro z
  have h1 := cl_obj_k h
  have h2 : (cl_obj l).1 = (cc_own c i).1 := by rw [z]
  have h3 : (cl_obj l).2 = (cc_own c i).2 := by rw [z]
  rw [h2, h3] at h1
  unfold cc_own at h1
  split at h1 <;> first | (revert h1; simp; done) | (repeat' (split at h1)) <;> (revert h1; simp)
/-- one value of one cell is written -/
theorem PC.up {X : XC} {f : XH} {A : Nat → Nat → Nat} {DA : Nat → Nat} {v : Nat → Nat → Int} {L : Nat → List Nat} (h : PC X f A DA v L) (c i : Nat) (x : Int) (hc : c ≠ 20 ∧ c ≠ 40 ∧ c ≠ 60) {e : XE} (he : cc_cell A (up2 v c i x) L (cc_own c i).1 (cc_own c i).2 = some e) : PC X (va_up f (A (cc_own c i).1 (cc_own c i).2) (some e)) A DA (up2 v c i x) L :=
  h.put _ _ he (cc_upl hc) (fun k' i' hk => cc_up hc k' i' hk) (fun l hl => cc_own_k c i l hl)
end
section
/-! Numbers of the picture. -/
theorem iI_add (a b : Int) : iI a + iI b = iI (a + b) := (Int32.ofInt_add a b).symm
theorem iI_mul (a b : Int) : iI a * iI b = iI (a * b) := (Int32.ofInt_mul a b).symm
theorem iI_sub (a b : Int) : iI a - iI b = iI (a - b) := (Int32.ofInt_sub a b).symm
theorem iI_n (n : Nat) : iI n = nI n := Int32.ofInt_eq_ofNat
theorem iI_t {z : Int} (h1 : -2 ^ 31 ≤ z) (h2 : z < 2 ^ 31) : (iI z).toInt = z := Int32.toInt_ofInt_of_le h1 h2
theorem iI_nat {z : Int} (h : 0 ≤ z) : iI z = nI z.toNat := by
  obtain ⟨n, rfl⟩ := Int.eq_ofNat_of_zero_le h
  exact iI_n n
/-- small: the comparisons are those of the integers -/
def iS (z : Int) : Prop := -2 ^ 31 ≤ z ∧ z < 2 ^ 31
theorem iI_lt {a b : Int} (ha : iS a) (hb : iS b) : iI a < iI b ↔ a < b := by rw [Int32.lt_iff_toInt_lt, iI_t ha.1 ha.2, iI_t hb.1 hb.2]
theorem iI_le {a b : Int} (ha : iS a) (hb : iS b) : iI a ≤ iI b ↔ a ≤ b := by rw [Int32.le_iff_toInt_le, iI_t ha.1 ha.2, iI_t hb.1 hb.2]
theorem iI_eq {a b : Int} (ha : iS a) (hb : iS b) : iI a = iI b ↔ a = b := ⟨fun h => by rw [← iI_t ha.1 ha.2, h, iI_t hb.1 hb.2], fun h => by rw [h]⟩
theorem iI_in {z : Int} {n : Nat} (h0 : 0 ≤ z) (h1 : z < n) (hn : n < 2 ^ 31) : vp_in (iI z) n := by rw [iI_nat h0]; exact vp_in_nI (by omega) hn
theorem iI_cl {z : Int} (h0 : 0 ≤ z) (h1 : z < 2 ^ 31) : (iI z).toNatClampNeg = z.toNat := by rw [iI_nat h0]; exact nI_clamp (by omega)
theorem iI_of (x : Int32) : x = iI x.toInt := by
  apply Int32.toInt_inj.mp
  rw [iI_t x.le_toInt x.toInt_lt]
/-- an array of the picture, one place written -/
theorem ar_up {v : Nat → Nat → Int} {c i : Nat} {x : Int} : va_up (fun j => Value.int (iI (v c j))) i (.int (iI x)) = fun j => .int (iI (up2 v c i x c j)) := by
  funext j
  by_cases h : j = i
  · subst h
    rw [va_up_self, up2_s]
  · rw [va_up_ne _ _ h, up2_i h]
theorem PC.c {X : XC} {f : XH} {A : Nat → Nat → Nat} {DA : Nat → Nat} {v : Nat → Nat → Int} {L : Nat → List Nat} (h : PC X f A DA v L) (k i : Nat) {e : XE} (he : cc_cell A v L k i = some e) : f (A k i) = some e := h.1 k i e he
theorem PC.ne {X : XC} {f : XH} {A : Nat → Nat → Nat} {DA : Nat → Nat} {v : Nat → Nat → Int} {L : Nat → List Nat} (h : PC X f A DA v L) {k i k' i' : Nat} (h1 : cc_live v L k i) (h2 : cc_live v L k' i') (hn : ¬ (k = k' ∧ i = i')) : A k i ≠ A k' i' := fun z => hn (h.2.2.1 k i k' i' h1 h2 z)
end
section
/-! The executor over the picture: values are integers, or places of the picture (kind, number); a store is written and read as the functions v, L. What 'a_run' asks for is what 'x_run' asks for in every heap that has the picture. -/
abbrev AV : Type := Int ⊕ Option (Nat × Nat)
abbrev SV : Type := Nat → Nat → Int
abbrev SL : Type := Nat → List Nat
abbrev AQ : Type := Option AV → SV → SL → Prop
abbrev ALc : Type := Nat → Option AV
abbrev aI (z : Int) : AV := .inl z
abbrev aR (k i : Nat) : AV := .inr (some (k, i))
abbrev aN : AV := .inr none
abbrev AJ : Type := Nat → ALc → List AV → SV → SL → Nat → Nat → Prop
abbrev AK : Type := ALc → List AV → SV → SL → Nat → Nat → Prop
def cv (A : Nat → Nat → Nat) (v : AV) : Value := match v with
  | .inl z => .int (iI z)
  | .inr none => .null
  | .inr (some p) => .ref (A p.1 p.2)
def cvl (A : Nat → Nat → Nat) (ls : ALc) : XL := fun n => (ls n).map (cv A)
def PS (X : XC) (f : XH) (A : Nat → Nat → Nat) (DA : Nat → Nat) (v : SV) (L : SL) : Prop := PC X f A DA v L ∧ ∀ c i, iS (v c i)
/-- method y, called with av in every heap of the picture s -/
def AHolds (X : XC) (y : Nat) (av : List AV) (v : SV) (L : SL) (fr lo mc ms : Nat) (Q : AQ) : Prop :=
  ∀ (f : XH) (A : Nat → Nat → Nat) (DA : Nat → Nat), PS X f A DA v L → Holds X y (av.map (cv A)) f fr lo mc ms (fun r f' => ∃ (ra : Option AV) (v' : SV) (L' : SL) (DA' : Nat → Nat), r = ra.map (cv A) ∧ PS X f' A DA' v' L' ∧ Q ra v' L')
def wr (z : Int) : Int := (iI z).toInt
theorem wr_e (z : Int) : iI (wr z) = iI z := (iI_of (iI z)).symm
theorem wr_i (z : Int) : iS (wr z) := ⟨(iI z).le_toInt, (iI z).toInt_lt⟩
theorem wr_s {z : Int} (h : iS z) : wr z = z := iI_t h.1 h.2
abbrev a_live5 (v : Nat → Nat → Int) (t : Nat) : Prop := v 20 t = 1 ∨ v 20 t = 2 ∨ v 20 t = 3
/-- a side condition, then the rest -/
theorem a_si {P K : Prop} (h : P) (k : K) : ∃ _ : P, K := ⟨h, k⟩
noncomputable abbrev a_int (v : AV) (k : Int → Prop) : Prop := Sum.rec (motive := fun _ => Prop) k (fun _ => False) v
noncomputable abbrev a_ref (v : AV) (k : Prop) : Prop := Sum.rec (motive := fun _ => Prop) (fun _ => False) (fun _ => k) v
abbrev a_i1 (st : List AV) (k : Int → List AV → Prop) : Prop := match st with
  | .inl x :: t => k x t
  | _ => False
abbrev a_i2 (st : List AV) (k : Int → Int → List AV → Prop) : Prop := match st with
  | .inl y :: .inl x :: t => k x y t
  | _ => False
abbrev a_v1 (st : List AV) (k : AV → List AV → Prop) : Prop := match st with
  | v :: t => k v t
  | _ => False
abbrev a_v2 (st : List AV) (k : AV → AV → List AV → Prop) : Prop := match st with
  | v :: w :: t => k v w t
  | _ => False
abbrev a_r1 (st : List AV) (k : Nat → Nat → List AV → Prop) : Prop := match st with
  | .inr (some (a, b)) :: t => k a b t
  | _ => False
abbrev a_vr (st : List AV) (k : AV → Nat → Nat → List AV → Prop) : Prop := match st with
  | v :: .inr (some (a, b)) :: t => k v a b t
  | _ => False
abbrev a_ir (st : List AV) (k : Int → Nat → Nat → List AV → Prop) : Prop := match st with
  | .inl i :: .inr (some (a, b)) :: t => k i a b t
  | _ => False
abbrev a_vir (st : List AV) (k : AV → Int → Nat → Nat → List AV → Prop) : Prop := match st with
  | v :: .inl i :: .inr (some (a, b)) :: t => k v i a b t
  | _ => False
abbrev a_nul (st : List AV) (kn kr : List AV → Prop) : Prop := match st with
  | .inr none :: t => kn t
  | .inr (some _) :: t => kr t
  | _ => False
abbrev a_nil (t : List AV) (P : Prop) : Prop := match t with
  | [] => P
  | _ => False
abbrev a_le4 (t : List AV) (P : Prop) : Prop := match t with
  | [] => P
  | [_] => P
  | [_, _] => P
  | [_, _, _] => P
  | [_, _, _, _] => P
  | _ => False
def a_pop : Nat → List AV → List AV → (List AV → List AV → Prop) → Prop
  | 0, st, acc, k => k acc st
  | n + 1, st, acc, k => match st with
    | v :: t => a_pop n t (v :: acc) k
    | [] => False
def a_br (o : ClassFile.Cond) (x y : Int) (kt kf : Prop) : Prop := ∃ _ : iS x ∧ iS y, match o with
  | .eq => (x = y → kt) ∧ (¬ x = y → kf)
  | .ne => (¬ x = y → kt) ∧ (x = y → kf)
  | .lt => (x < y → kt) ∧ (¬ x < y → kf)
  | .ge => (y ≤ x → kt) ∧ (¬ y ≤ x → kf)
  | .gt => (y < x → kt) ∧ (¬ y < x → kf)
  | .le => (x ≤ y → kt) ∧ (¬ x ≤ y → kf)
abbrev a_eqr (v : Nat → Nat → Int) (L : Nat → List Nat) (x y : AV) (kt kf : Prop) : Prop := match x, y with
  | .inr (some (k, i)), .inr (some (k', i')) => ∃ _ : k = k' ∧ cc_live v L k i ∧ cc_live v L k' i', (i = i' → kt) ∧ (¬ i = i' → kf)
  | .inr none, .inr (some _) => kf
  | .inr (some _), .inr none => kf
  | _, _ => False
def a_ab (v : Nat → Nat → Int) (L : Nat → List Nat) (o : ClassFile.ACond) (x y : AV) (kt kf : Prop) : Prop := match o with
  | .eq => a_eqr v L x y kt kf
  | .ne => a_eqr v L x y kf kt
def a_nl (k : Nat) (z : Int) (K : AV → Prop) : Prop := (z < 0 → K aN) ∧ (0 ≤ z → K (aR k z.toNat))
/-- a field is read -/
noncomputable def a_gf (v : Nat → Nat → Int) (L : Nat → List Nat) (k i n : Nat) (al : List (Nat × Nat)) (K : AV → Prop) : Prop := match k with
  | 0 => match i, n with
    | 0, 0 => K (aR 0 1)
    | 0, 1 => K (aR 0 3)
    | 0, 2 => K (aR 0 4)
    | 0, 3 => K (aR 0 6)
    | 0, 4 => K (aR 0 7)
    | 0, 5 => K (aR 0 8)
    | 0, 6 => K (aR 0 9)
    | 0, 7 => K (aR 0 10)
    | 0, 8 => K (aI (v 1 0))
    | 0, 9 => K (aI (v 0 0))
    | 1, 0 => K (aR 0 2)
    | 1, 1 => K (aI (v 4 0))
    | 1, 2 => K (aI (v 5 0))
    | 3, 0 => K (aI (v 2 0))
    | 3, 1 => K (aI (v 3 0))
    | 4, 0 => K (aR 0 5)
    | _, _ => False
  | 1 => ∃ _ : i < 8, match n with
    | 0 => K (aI (i : Nat))
    | 1 => K (aR 2 i)
    | 2 => K (aR 3 i)
    | 3 => K (aR 4 i)
    | 4 => K (aI (v 10 i))
    | 5 => a_nl 5 (v 11 i) K
    | 6 => K (aI (v 12 i))
    | 7 => K (aI (v 13 i))
    | 8 => K (aI (v 14 i))
    | 9 => a_nl 11 (v 15 i) K
    | _ => False
  | 5 => match n with
    | 0 => match al with
      | [(6, _)] => ∃ _ : v 20 i = 1, K (aR 6 i)
      | [(7, _)] => ∃ _ : v 20 i = 2, K (aR 6 i)
      | [(8, _)] => ∃ _ : v 20 i = 3, K (aR 6 i)
      | _ => ∃ _ : a_live5 v i, K (aR 6 i)
    | 1 => match al with
      | [(6, _)] => ∃ _ : v 20 i = 1, K (aR 0 1)
      | [(7, _)] => ∃ _ : v 20 i = 2, K (aR 0 1)
      | [(8, _)] => ∃ _ : v 20 i = 3, K (aR 0 1)
      | _ => ∃ _ : a_live5 v i, K (aR 0 1)
    | 2 => match al with
      | [(6, _)] => ∃ _ : v 20 i = 1, K (aI (v 21 i))
      | [(7, _)] => ∃ _ : v 20 i = 2, K (aI (v 21 i))
      | [(8, _)] => ∃ _ : v 20 i = 3, K (aI (v 21 i))
      | _ => ∃ _ : a_live5 v i, K (aI (v 21 i))
    | 3 => match al with
      | [(6, _)] => ∃ _ : v 20 i = 1, K (aI (v 22 i))
      | [(7, _)] => ∃ _ : v 20 i = 2, K (aI (v 22 i))
      | [(8, _)] => ∃ _ : v 20 i = 3, K (aI (v 22 i))
      | _ => ∃ _ : a_live5 v i, K (aI (v 22 i))
    | 4 => match al with
      | [(6, _)] => ∃ _ : v 20 i = 1, K (aI (v 23 i))
      | [(7, _)] => ∃ _ : v 20 i = 2, K (aR 8 i)
      | [(8, _)] => ∃ _ : v 20 i = 3, K (aR 9 (v 34 i).toNat)
      | _ => False
    | 5 => match al with
      | [(6, _)] => ∃ _ : v 20 i = 1, K (aR 7 i)
      | [(7, _)] => ∃ _ : v 20 i = 2, K (aI (v 27 i))
      | [(8, _)] => ∃ _ : v 20 i = 3, K (aR 0 3)
      | _ => False
    | 6 => match al with
      | [(6, _)] => ∃ _ : v 20 i = 1, K (aI (v 24 i))
      | [(7, _)] => ∃ _ : v 20 i = 2, K (aI (v 28 i))
      | [(8, _)] => ∃ _ : v 20 i = 3, K (aI (v 35 i))
      | _ => False
    | 7 => match al with
      | [(6, _)] => ∃ _ : v 20 i = 1, K (aI (v 25 i))
      | [(7, _)] => ∃ _ : v 20 i = 2, K (aI (v 29 i))
      | [(8, _)] => ∃ _ : v 20 i = 3, K (aI (v 36 i))
      | _ => False
    | 8 => match al with
      | [(7, _)] => ∃ _ : v 20 i = 2, K (aI (v 30 i))
      | [(8, _)] => ∃ _ : v 20 i = 3, K (aI (v 37 i))
      | _ => False
    | 9 => match al with
      | [(7, _)] => ∃ _ : v 20 i = 2, K (aI (v 31 i))
      | [(8, _)] => ∃ _ : v 20 i = 3, K (aI (v 38 i))
      | _ => False
    | 10 => match al with
      | [(7, _)] => ∃ _ : v 20 i = 2, K (aI (v 32 i))
      | [(8, _)] => ∃ _ : v 20 i = 3, K (aI (v 39 i))
      | _ => False
    | 11 => match al with
      | [(7, _)] => ∃ _ : v 20 i = 2, K (aI (v 33 i))
      | _ => False
    | _ => False
  | 9 => ∃ _ : v 40 i = 1, match n with
    | 0 => K (aR 10 i)
    | 1 => K (aI (v 41 i))
    | 2 => K (aI (v 42 i))
    | 3 => K (aI (v 43 i))
    | _ => False
  | 11 => ∃ _ : i < (L 1).length, match n with
    | 0 => K (aR 5 (v 50 i).toNat)
    | 1 => K (aI (v 51 i))
    | 2 => K (aI (v 52 i))
    | 3 => K (aI (v 53 i))
    | 4 => K (aI (v 54 i))
    | 5 => K (aI (v 55 i))
    | _ => False
  | 20 => ∃ _ : v 60 0 = 1 ∧ i = 0, match n with
    | 0 => K (aI (v 100 0))
    | 1 => K (aI (v 101 0))
    | 2 => K (aI (v 102 0))
    | 3 => K (aR 21 3)
    | 4 => K (aR 21 4)
    | 5 => K (aR 21 5)
    | 6 => K (aR 21 6)
    | 7 => K (aR 21 7)
    | 8 => K (aR 21 8)
    | 9 => K (aR 21 9)
    | 10 => K (aR 21 10)
    | 11 => K (aR 21 11)
    | 12 => K (aI (v 112 0))
    | 13 => K (aR 21 13)
    | 14 => K (aR 21 14)
    | 15 => K (aR 21 15)
    | 16 => K (aR 21 16)
    | 17 => K (aR 21 17)
    | 18 => K (aI (v 118 0))
    | 19 => K (aR 21 19)
    | 20 => K (aR 21 20)
    | 21 => K (aR 21 21)
    | 22 => K (aR 21 22)
    | 23 => K (aR 21 23)
    | 24 => K (aI (v 124 0))
    | 25 => K (aR 21 25)
    | 26 => K (aR 21 26)
    | 27 => K (aR 21 27)
    | 28 => K (aR 21 28)
    | 29 => K (aR 21 29)
    | 30 => K (aR 21 30)
    | 31 => K (aR 21 31)
    | 32 => K (aR 21 32)
    | 33 => K (aI (v 133 0))
    | 34 => K (aR 21 34)
    | 35 => K (aI (v 135 0))
    | 36 => K (aR 21 36)
    | 37 => K (aR 21 37)
    | 38 => K (aR 21 38)
    | 39 => K (aR 21 39)
    | 40 => K (aR 21 40)
    | 41 => K (aR 21 41)
    | 42 => K (aR 21 42)
    | 43 => K (aI (v 143 0))
    | 44 => K (aI (v 144 0))
    | 45 => K (aR 21 45)
    | _ => False
  | _ => False
abbrev a_wz (z : Int) (K : Int → Prop) : Prop := ∃ z' : Int, ∃ _ : iI z' = iI z ∧ iS z', K z'
abbrev a_wi (v : Nat → Nat → Int) (c i : Nat) (x : AV) (K : (Nat → Nat → Int) → Prop) : Prop := match x with
  | .inl z => a_wz z fun z' => K (up2 v c i z')
  | _ => False
abbrev a_wb (v : Nat → Nat → Int) (c i : Nat) (x : AV) (K : (Nat → Nat → Int) → Prop) : Prop := match x with
  | .inl z => ∃ _ : z = 0 ∨ z = 1, K (up2 v c i z)
  | _ => False
abbrev a_wn (v : Nat → Nat → Int) (c i k : Nat) (x : AV) (K : (Nat → Nat → Int) → Prop) : Prop := match x with
  | .inr none => K (up2 v c i (-1))
  | .inr (some (k', t)) => ∃ _ : k' = k ∧ t < 100, K (up2 v c i (t : Nat))
  | _ => False
theorem a_wr {z : Int} {K : Int → Prop} (h : K (wr z)) : ∃ z' : Int, ∃ _ : iI z' = iI z ∧ iS z', K z' := ⟨wr z, ⟨wr_e z, wr_i z⟩, h⟩
theorem a_wo {z : Int} {K : Int → Prop} (hi : iS z) (h : K z) : ∃ z' : Int, ∃ _ : iI z' = iI z ∧ iS z', K z' := ⟨z, ⟨rfl, hi⟩, h⟩
noncomputable abbrev a_kd (al : List (Nat × Nat)) (ci kd : Nat) (P : Prop) : Prop := x_tru (Nat.beq ((al.lookup ci).getD 9) kd) P
/-- the class is one of the table's -/
noncomputable abbrev a_lks (k i n : Nat) (al : List (Nat × Nat)) (P : Prop) : Prop := match k with
  | 0 => match i with
    | 0 => x_som (al.lookup 10) fun _ => P
    | 1 => x_som (al.lookup 0) fun _ => P
    | 3 => x_som (al.lookup 1) fun _ => P
    | 4 => x_som (al.lookup 2) fun _ => P
    | _ => False
  | 1 => x_som (al.lookup 4) fun _ => P
  | 5 => match n with
    | 0 => match al with
      | [(6, _)] => P
      | [(7, _)] => P
      | [(8, _)] => P
      | _ => x_som (al.lookup 6) fun _ => x_som (al.lookup 7) fun _ => x_som (al.lookup 8) fun _ => P
    | 1 => match al with
      | [(6, _)] => P
      | [(7, _)] => P
      | [(8, _)] => P
      | _ => x_som (al.lookup 6) fun _ => x_som (al.lookup 7) fun _ => x_som (al.lookup 8) fun _ => P
    | 2 => match al with
      | [(6, _)] => P
      | [(7, _)] => P
      | [(8, _)] => P
      | _ => x_som (al.lookup 6) fun _ => x_som (al.lookup 7) fun _ => x_som (al.lookup 8) fun _ => P
    | 3 => match al with
      | [(6, _)] => P
      | [(7, _)] => P
      | [(8, _)] => P
      | _ => x_som (al.lookup 6) fun _ => x_som (al.lookup 7) fun _ => x_som (al.lookup 8) fun _ => P
    | _ => P
  | 9 => x_som (al.lookup 5) fun _ => P
  | 11 => x_som (al.lookup 9) fun _ => P
  | 20 => x_som (al.lookup 11) fun _ => P
  | _ => False
/-- a field is written -/
def a_pf (v : Nat → Nat → Int) (L : Nat → List Nat) (k i n : Nat) (al : List (Nat × Nat)) (x : AV) (K : (Nat → Nat → Int) → Prop) : Prop := match k with
  | 0 => match i, n with
    | 0, 8 => a_kd al 10 0 (a_wi v 1 0 x K)
    | 0, 9 => a_kd al 10 0 (a_wi v 0 0 x K)
    | 1, 1 => a_kd al 0 0 (a_wi v 4 0 x K)
    | 1, 2 => a_kd al 0 0 (a_wi v 5 0 x K)
    | 3, 0 => a_kd al 1 0 (a_wi v 2 0 x K)
    | 3, 1 => a_kd al 1 0 (a_wi v 3 0 x K)
    | _, _ => False
  | 1 => ∃ _ : i < 8, match n with
    | 4 => a_kd al 4 0 (a_wi v 10 i x K)
    | 5 => a_kd al 4 2 (a_wn v 11 i 5 x K)
    | 6 => a_kd al 4 0 (a_wi v 12 i x K)
    | 7 => a_kd al 4 0 (a_wi v 13 i x K)
    | 8 => a_kd al 4 0 (a_wi v 14 i x K)
    | 9 => a_kd al 4 2 (a_wn v 15 i 11 x K)
    | _ => False
  | 5 => match n with
    | 6 => match al with
      | [(6, _)] => ∃ _ : v 20 i = 1, a_kd al 6 0 (a_wi v 24 i x K)
      | [(8, _)] => ∃ _ : v 20 i = 3, a_kd al 8 0 (a_wi v 35 i x K)
      | _ => False
    | 7 => match al with
      | [(6, _)] => ∃ _ : v 20 i = 1, a_kd al 6 0 (a_wi v 25 i x K)
      | [(7, _)] => ∃ _ : v 20 i = 2, a_kd al 7 1 (a_wb v 29 i x K)
      | [(8, _)] => ∃ _ : v 20 i = 3, a_kd al 8 0 (a_wi v 36 i x K)
      | _ => False
    | 8 => match al with
      | [(7, _)] => ∃ _ : v 20 i = 2, a_kd al 7 1 (a_wb v 30 i x K)
      | [(8, _)] => ∃ _ : v 20 i = 3, a_kd al 8 1 (a_wb v 37 i x K)
      | _ => False
    | 9 => match al with
      | [(7, _)] => ∃ _ : v 20 i = 2, a_kd al 7 0 (a_wi v 31 i x K)
      | [(8, _)] => ∃ _ : v 20 i = 3, a_kd al 8 0 (a_wi v 38 i x K)
      | _ => False
    | 10 => match al with
      | [(7, _)] => ∃ _ : v 20 i = 2, a_kd al 7 0 (a_wi v 32 i x K)
      | [(8, _)] => ∃ _ : v 20 i = 3, a_kd al 8 0 (a_wi v 39 i x K)
      | _ => False
    | 11 => match al with
      | [(7, _)] => ∃ _ : v 20 i = 2, a_kd al 7 0 (a_wi v 33 i x K)
      | _ => False
    | _ => False
  | 11 => ∃ _ : i < (L 1).length, match n with
    | 3 => a_kd al 9 0 (a_wi v 53 i x K)
    | 4 => a_kd al 9 1 (a_wb v 54 i x K)
    | 5 => a_kd al 9 0 (a_wi v 55 i x K)
    | _ => False
  | 20 => ∃ _ : v 60 0 = 1 ∧ i = 0, match n with
    | 0 => a_kd al 11 0 (a_wi v 100 0 x K)
    | 1 => a_kd al 11 0 (a_wi v 101 0 x K)
    | 2 => a_kd al 11 0 (a_wi v 102 0 x K)
    | 12 => a_kd al 11 0 (a_wi v 112 0 x K)
    | 18 => a_kd al 11 0 (a_wi v 118 0 x K)
    | 24 => a_kd al 11 0 (a_wi v 124 0 x K)
    | 33 => a_kd al 11 0 (a_wi v 133 0 x K)
    | 35 => a_kd al 11 0 (a_wi v 135 0 x K)
    | 43 => a_kd al 11 0 (a_wi v 143 0 x K)
    | 44 => a_kd al 11 0 (a_wi v 144 0 x K)
    | _ => False
  | _ => False
/-- an array of numbers is read, written: code, index, length -/
def a_ia (v : Nat → Nat → Int) (k i : Nat) (j : Int) (K : Nat → Nat → Prop) : Prop := match k with
  | 0 => match i with
    | 2 => ∃ _ : 0 ≤ j ∧ j < 64, K 6 j.toNat
    | 5 => ∃ _ : 0 ≤ j ∧ j < 8, K 7 j.toNat
    | _ => False
  | 3 => ∃ _ : i < 8 ∧ 0 ≤ j ∧ j < 4, K 17 (i + 8 * j.toNat)
  | 4 => ∃ _ : i < 8 ∧ 0 ≤ j ∧ j < 4, K 18 (i + 8 * j.toNat)
  | 7 => ∃ _ : (v 20 i = 1 ∧ i < 32) ∧ 0 ≤ j ∧ j < 4, K 26 (i + 32 * j.toNat)
  | 21 => match i with
    | 3 => ∃ _ : v 60 0 = 1 ∧ 0 ≤ j ∧ j < 8, K 103 j.toNat
    | 4 => ∃ _ : v 60 0 = 1 ∧ 0 ≤ j ∧ j < 8, K 104 j.toNat
    | 5 => ∃ _ : v 60 0 = 1 ∧ 0 ≤ j ∧ j < 8, K 105 j.toNat
    | 6 => ∃ _ : v 60 0 = 1 ∧ 0 ≤ j ∧ j < 8, K 106 j.toNat
    | 7 => ∃ _ : v 60 0 = 1 ∧ 0 ≤ j ∧ j < 64, K 107 j.toNat
    | 8 => ∃ _ : v 60 0 = 1 ∧ 0 ≤ j ∧ j < 8, K 108 j.toNat
    | 9 => ∃ _ : v 60 0 = 1 ∧ 0 ≤ j ∧ j < 8, K 109 j.toNat
    | 10 => ∃ _ : v 60 0 = 1 ∧ 0 ≤ j ∧ j < 8, K 110 j.toNat
    | 11 => ∃ _ : v 60 0 = 1 ∧ 0 ≤ j ∧ j < 8, K 111 j.toNat
    | 13 => ∃ _ : v 60 0 = 1 ∧ 0 ≤ j ∧ j < 8, K 113 j.toNat
    | 14 => ∃ _ : v 60 0 = 1 ∧ 0 ≤ j ∧ j < 8, K 114 j.toNat
    | 15 => ∃ _ : v 60 0 = 1 ∧ 0 ≤ j ∧ j < 32, K 115 j.toNat
    | 16 => ∃ _ : v 60 0 = 1 ∧ 0 ≤ j ∧ j < 32, K 116 j.toNat
    | 17 => ∃ _ : v 60 0 = 1 ∧ 0 ≤ j ∧ j < 8, K 117 j.toNat
    | 19 => ∃ _ : v 60 0 = 1 ∧ 0 ≤ j ∧ j < 24, K 119 j.toNat
    | 20 => ∃ _ : v 60 0 = 1 ∧ 0 ≤ j ∧ j < 24, K 120 j.toNat
    | 21 => ∃ _ : v 60 0 = 1 ∧ 0 ≤ j ∧ j < 24, K 121 j.toNat
    | 22 => ∃ _ : v 60 0 = 1 ∧ 0 ≤ j ∧ j < 24, K 122 j.toNat
    | 23 => ∃ _ : v 60 0 = 1 ∧ 0 ≤ j ∧ j < 24, K 123 j.toNat
    | 25 => ∃ _ : v 60 0 = 1 ∧ 0 ≤ j ∧ j < 8, K 125 j.toNat
    | 26 => ∃ _ : v 60 0 = 1 ∧ 0 ≤ j ∧ j < 32, K 126 j.toNat
    | 27 => ∃ _ : v 60 0 = 1 ∧ 0 ≤ j ∧ j < 32, K 127 j.toNat
    | 28 => ∃ _ : v 60 0 = 1 ∧ 0 ≤ j ∧ j < 32, K 128 j.toNat
    | 29 => ∃ _ : v 60 0 = 1 ∧ 0 ≤ j ∧ j < 8, K 129 j.toNat
    | 30 => ∃ _ : v 60 0 = 1 ∧ 0 ≤ j ∧ j < 8, K 130 j.toNat
    | 31 => ∃ _ : v 60 0 = 1 ∧ 0 ≤ j ∧ j < 8, K 131 j.toNat
    | 32 => ∃ _ : v 60 0 = 1 ∧ 0 ≤ j ∧ j < 8, K 132 j.toNat
    | 34 => ∃ _ : v 60 0 = 1 ∧ 0 ≤ j ∧ j < 8, K 134 j.toNat
    | 36 => ∃ _ : v 60 0 = 1 ∧ 0 ≤ j ∧ j < 24, K 136 j.toNat
    | 37 => ∃ _ : v 60 0 = 1 ∧ 0 ≤ j ∧ j < 24, K 137 j.toNat
    | 38 => ∃ _ : v 60 0 = 1 ∧ 0 ≤ j ∧ j < 24, K 138 j.toNat
    | 39 => ∃ _ : v 60 0 = 1 ∧ 0 ≤ j ∧ j < 24, K 139 j.toNat
    | 42 => ∃ _ : v 60 0 = 1 ∧ 0 ≤ j ∧ j < 8, K 142 j.toNat
    | 45 => ∃ _ : v 60 0 = 1 ∧ 0 ≤ j ∧ j < 3200, K 145 j.toNat
    | _ => False
  | _ => False
def a_ba (v : Nat → Nat → Int) (k i : Nat) (j : Int) (K : Nat → Nat → Prop) : Prop := match k with
  | 21 => match i with
    | 40 => ∃ _ : v 60 0 = 1 ∧ 0 ≤ j ∧ j < 24, K 140 j.toNat
    | 41 => ∃ _ : v 60 0 = 1 ∧ 0 ≤ j ∧ j < 24, K 141 j.toNat
    | _ => False
  | _ => False
/-- an array of references is read -/
def a_ra (v : Nat → Nat → Int) (k i : Nat) (j : Int) (K : AV → Prop) : Prop := match k with
  | 0 => match i with
    | 6 => ∃ _ : 0 ≤ j ∧ j < 8, K (aR 1 j.toNat)
    | 7 => ∃ _ : 0 ≤ j ∧ j < 32, (v 20 j.toNat = 0 → K aN) ∧ (¬ v 20 j.toNat = 0 → K (aR 5 j.toNat))
    | 8 => ∃ _ : 0 ≤ j ∧ j < 8, (v 40 j.toNat = 0 → K aN) ∧ (¬ v 40 j.toNat = 0 → K (aR 9 j.toNat))
    | _ => False
  | 2 => ∃ _ : i < 8 ∧ 0 ≤ j ∧ j < 4, a_nl 5 (v 16 (i + 8 * j.toNat)) K
  | _ => False
/-- a reference is written into a caller's row of targets -/
abbrev a_rw (v : Nat → Nat → Int) (k i : Nat) (j : Int) (x : AV) (K : (Nat → Nat → Int) → Prop) : Prop := match k, x with
  | 2, .inr (some (k', t)) => ∃ _ : (i < 8 ∧ 0 ≤ j ∧ j < 4) ∧ k' = 5 ∧ t < 100 ∧ a_live5 v t, K (up2 v 16 (i + 8 * j.toNat) (t : Nat))
  | _, _ => False
def a_call (X : XC) (fr lo mc ms y : Nat) (av : List AV) (v : SV) (L : SL) (nc ns : Nat) (k : Option AV → SV → SL → Nat → Nat → Prop) : Prop :=
  ∃ (fr' lo' mc' ms' : Nat) (Q : AQ), AHolds X y av v L fr' lo' mc' ms' Q ∧ (fr' + 1 ≤ fr ∧ 8 + ((x_mt y).2.2.1 + 11) + lo' ≤ lo ∧ nc + mc' ≤ mc ∧ ns + ms' ≤ ms) ∧ ∀ r v' L', Q r v' L' → k r v' L' (nc + mc') (ns + ms')
/-- a target's own method, by its kind -/
def a_vcall (X : XC) (fr lo mc ms : Nat) (al : List (Nat × Nat)) (t : Nat) (av : List AV) (v : SV) (L : SL) (nc ns : Nat) (k : Option AV → SV → SL → Nat → Nat → Prop) : Prop :=
  ∃ (fr' lo' mc' ms' : Nat) (Q : AQ), (a_live5 v t ∧ ∀ y, al.lookup ((v 20 t).toNat + 5) = some y → AHolds X y av v L fr' lo' mc' ms' Q ∧ 8 + ((x_mt y).2.2.1 + 11) + lo' ≤ lo) ∧ ((al.lookup 6).isSome = true ∧ (al.lookup 7).isSome = true ∧ (al.lookup 8).isSome = true ∧ fr' + 1 ≤ fr ∧ nc + mc' ≤ mc ∧ ns + ms' ≤ ms) ∧ ∀ r v' L', Q r v' L' → k r v' L' (nc + mc') (ns + ms')
abbrev a_vrt (X : XC) (fr lo mc ms : Nat) (al : List (Nat × Nat)) (k i : Nat) (av : List AV) (v : SV) (L : SL) (nc ns : Nat) (K : Option AV → SV → SL → Nat → Nat → Prop) : Prop := match k, al with
  | 5, [(6, y)] => ∃ _ : v 20 i = 1, a_call X fr lo mc ms y av v L nc ns K
  | 5, [(7, y)] => ∃ _ : v 20 i = 2, a_call X fr lo mc ms y av v L nc ns K
  | 5, [(8, y)] => ∃ _ : v 20 i = 3, a_call X fr lo mc ms y av v L nc ns K
  | 5, a => a_vcall X fr lo mc ms a i av v L nc ns K
  | 0, [(10, y)] => ∃ _ : i = 0, a_call X fr lo mc ms y av v L nc ns K
  | 0, [(0, y)] => ∃ _ : i = 1, a_call X fr lo mc ms y av v L nc ns K
  | 0, [(1, y)] => ∃ _ : i = 3, a_call X fr lo mc ms y av v L nc ns K
  | 0, [(2, y)] => ∃ _ : i = 4, a_call X fr lo mc ms y av v L nc ns K
  | 0, [(3, y)] => ∃ _ : i = 9 ∨ i = 10, a_call X fr lo mc ms y av v L nc ns K
  | 1, [(4, y)] => ∃ _ : i < 8, a_call X fr lo mc ms y av v L nc ns K
  | 6, [(3, y)] => ∃ _ : a_live5 v i ∧ i < 32, a_call X fr lo mc ms y av v L nc ns K
  | 8, [(3, y)] => ∃ _ : v 20 i = 2 ∧ i < 32, a_call X fr lo mc ms y av v L nc ns K
  | 10, [(3, y)] => ∃ _ : v 40 i = 1 ∧ i < 8, a_call X fr lo mc ms y av v L nc ns K
  | 9, [(5, y)] => ∃ _ : v 40 i = 1, a_call X fr lo mc ms y av v L nc ns K
  | 11, [(9, y)] => ∃ _ : i < (L 1).length, a_call X fr lo mc ms y av v L nc ns K
  | 20, [(11, y)] => ∃ _ : v 60 0 = 1 ∧ i = 0, a_call X fr lo mc ms y av v L nc ns K
  | _, _ => False
abbrev a_cst (v : SV) (L : SL) (al : List (Nat × Nat)) (x : AV) (P : Prop) : Prop := match x, al with
  | .inr none, _ => P
  | .inr (some (1, i)), [(4, _)] => ∃ _ : i < 8, P
  | .inr (some (5, i)), [(6, _)] => ∃ _ : v 20 i = 1, P
  | .inr (some (5, i)), [(7, _)] => ∃ _ : v 20 i = 2, P
  | .inr (some (5, i)), [(8, _)] => ∃ _ : v 20 i = 3, P
  | .inr (some (11, i)), [(9, _)] => ∃ _ : i < (L 1).length, P
  | _, _ => False
noncomputable abbrev a_ins (v : SV) (L : SL) (al : List (Nat × Nat)) (x : AV) (K : AV → Prop) : Prop := match x with
  | .inr none => K (aI 0)
  | .inr (some (5, i)) => ∃ _ : a_live5 v i, x_som (al.lookup 6) fun b6 => x_som (al.lookup 7) fun b7 => x_som (al.lookup 8) fun b8 => match b6, b7, b8 with
    | 1, 0, 0 => (v 20 i = 1 → K (aI 1)) ∧ (¬ v 20 i = 1 → K (aI 0))
    | 0, 1, 0 => (v 20 i = 2 → K (aI 1)) ∧ (¬ v 20 i = 2 → K (aI 0))
    | _, _, _ => False
  | _ => False
def bAnd (x y : Int) : Int := (iI x &&& iI y).toInt
def bOr (x y : Int) : Int := (iI x ||| iI y).toInt
def bShl (x y : Int) : Int := (iI x <<< (iI y &&& 31)).toInt
def bShr (x y : Int) : Int := (iI x >>> (iI y &&& 31)).toInt
abbrev a_okr (ax : Nat) (x : Int) (P : Prop) : Prop := match ax with
  | 0 => P
  | 1 => ∃ _ : x = 0 ∨ x = 1, P
  | _ => False
/-- one instruction -/
noncomputable def a_step (X : XC) (fr lo mc ms : Nat) (J : AJ) (Q : AQ) (ins : ClassFile.Instr) (ax : Nat) (al : List (Nat × Nat)) (ls : ALc) (st : List AV) (v : SV) (L : SL) (nc ns : Nat) (K : AK) : Prop := match ins with
  | .iconst n => K ls (aI n :: st) v L nc ns
  | .bipush n => K ls (aI n :: st) v L nc ns
  | .sipush n => K ls (aI n :: st) v L nc ns
  | .aconst_null => K ls (aN :: st) v L nc ns
  | .iload _ => x_som (ls ax) fun w => a_int w fun x => K ls (aI x :: st) v L nc ns
  | .iload_n _ => x_som (ls ax) fun w => a_int w fun x => K ls (aI x :: st) v L nc ns
  | .aload _ => x_som (ls ax) fun w => a_ref w (K ls (w :: st) v L nc ns)
  | .aload_n _ => x_som (ls ax) fun w => a_ref w (K ls (w :: st) v L nc ns)
  | .istore _ => a_i1 st fun x t => K (va_up ls ax (some (aI x))) t v L nc ns
  | .istore_n _ => a_i1 st fun x t => K (va_up ls ax (some (aI x))) t v L nc ns
  | .astore _ => a_v1 st fun w t => a_ref w (K (va_up ls ax (some w)) t v L nc ns)
  | .astore_n _ => a_v1 st fun w t => a_ref w (K (va_up ls ax (some w)) t v L nc ns)
  | .iinc _ n => x_som (ls ax) fun w => a_int w fun x => K (va_up ls ax (some (aI (x + n)))) st v L nc ns
  | .iadd => a_i2 st fun x y t => K ls (aI (x + y) :: t) v L nc ns
  | .isub => a_i2 st fun x y t => K ls (aI (x - y) :: t) v L nc ns
  | .imul => a_i2 st fun x y t => K ls (aI (x * y) :: t) v L nc ns
  | .iand => a_i2 st fun x y t => K ls (aI (bAnd x y) :: t) v L nc ns
  | .ior => a_i2 st fun x y t => K ls (aI (bOr x y) :: t) v L nc ns
  | .idiv => a_i2 st fun x y t => ∃ _ : 0 ≤ x ∧ 0 < y ∧ iS x ∧ iS y, K ls (aI (x / y) :: t) v L nc ns
  | .ishl => a_i2 st fun x y t => K ls (aI (bShl x y) :: t) v L nc ns
  | .ishr => a_i2 st fun x y t => K ls (aI (bShr x y) :: t) v L nc ns
  | .dup => a_v1 st fun w t => K ls (w :: w :: t) v L nc ns
  | .dup2 => a_v2 st fun w w' t => K ls (w :: w' :: w :: w' :: t) v L nc ns
  | .pop => a_v1 st fun _ t => K ls t v L nc ns
  | .ifCond c _ => a_i1 st fun x t => a_br c x 0 (J ax ls t v L nc ns) (K ls t v L nc ns)
  | .if_icmp c _ => a_i2 st fun x y t => a_br c x y (J ax ls t v L nc ns) (K ls t v L nc ns)
  | .if_acmp c _ => a_v2 st fun y x t => a_ab v L c x y (J ax ls t v L nc ns) (K ls t v L nc ns)
  | .ifnull _ => a_nul st (fun t => J ax ls t v L nc ns) (fun t => K ls t v L nc ns)
  | .ifnonnull _ => a_nul st (fun t => K ls t v L nc ns) (fun t => J ax ls t v L nc ns)
  | .goto _ => J ax ls st v L nc ns
  | .ireturn => a_i1 st fun x t => a_nil t (a_okr ax x (∃ _ : nc ≤ mc ∧ ns ≤ ms, Q (some (aI x)) v L))
  | .areturn => a_v1 st fun w t => a_nil t (a_ref w (∃ _ : nc ≤ mc ∧ ns ≤ ms, Q (some w) v L))
  | .return_ => a_nil st (∃ _ : nc ≤ mc ∧ ns ≤ ms, Q none v L)
  | .getfield _ => a_r1 st fun k i t => a_gf v L k i ax al fun w => a_lks k i ax al (K ls (w :: t) v L nc ns)
  | .putfield _ => a_vr st fun w k i t => a_pf v L k i ax al w fun v' => K ls t v' L nc ns
  | .iaload => a_ir st fun j k i t => a_ia v k i j fun c m => K ls (aI (v c m) :: t) v L nc ns
  | .baload => a_ir st fun j k i t => a_ba v k i j fun c m => K ls (aI (v c m) :: t) v L nc ns
  | .aaload => a_ir st fun j k i t => a_ra v k i j fun x => K ls (x :: t) v L nc ns
  | .iastore => a_vir st fun w j k i t => a_ia v k i j fun c m => a_wi v c m w fun v' => K ls t v' L nc ns
  | .bastore => a_vir st fun w j k i t => a_ba v k i j fun c m => a_wb v c m w fun v' => K ls t v' L nc ns
  | .aastore => a_vir st fun w j k i t => a_rw v k i j w fun v' => K ls t v' L nc ns
  | .checkcast _ => a_v1 st fun w t => a_cst v L al w (K ls (w :: t) v L nc ns)
  | .instanceof _ => a_v1 st fun w t => a_ins v L al w fun b => K ls (b :: t) v L nc ns
  | .invokestatic _ => x_som (al[0]?) fun q => match q.2 with
    | 0 => a_pop q.1 st [] fun av t => a_le4 t (a_call X fr lo mc ms ax av v L nc ns fun r v' L' nc' ns' => K ls (r.toList ++ t) v' L' nc' ns')
    | _ => False
  | .invokevirtual _ => match al with
    | [] => False
    | _ :: _ => a_pop ax st [] fun av u => a_r1 u fun k i t => a_le4 t (a_vrt X fr lo mc ms al k i (aR k i :: av) v L nc ns fun r v' L' nc' ns' => K ls (r.toList ++ t) v' L' nc' ns')
  | _ => False
noncomputable def a_run (X : XC) (fr lo mc ms : Nat) (J : AJ) (Q : AQ) : List XO → Nat → ALc → List AV → SV → SL → Nat → Nat → Prop
  | [], pc, ls, st, v, L, nc, ns => J pc ls st v L nc ns
  | (ins, len, ax, al, _) :: r, pc, ls, st, v, L, nc, ns => a_step X fr lo mc ms J Q ins ax al ls st v L nc ns (fun ls st v L nc ns => a_run X fr lo mc ms J Q r (pc + len) ls st v L nc ns)
/-- the constants of the operations -/
def a_cok (o : XO) : Bool := match o.1 with
  | .iconst n => decide (iI n = o.2.2.2.2)
  | .bipush n => decide (iI n = o.2.2.2.2)
  | .sipush n => decide (iI n = o.2.2.2.2)
  | .iinc _ n => decide (iI n = o.2.2.2.2)
  | .iaload => decide (o.2.2.1 = 0)
  | .baload => decide (o.2.2.1 = 1)
  | .iastore => decide (o.2.2.1 = 0)
  | .bastore => decide (o.2.2.1 = 1)
  | .aaload => decide (o.2.2.2.1 = x_ald)
  | .aastore => decide (o.2.2.2.1 = x_ast)
  | _ => true
end
section
/-! What 'a_run' asks for is enough for 'x_run'. -/
theorem x_som_i {α : Type} {o : Option α} {k : α → Prop} {a : α} (e : o = some a) (h : k a) : x_som o k := by
  subst e
  exact h
theorem a_kd_e {al : List (Nat × Nat)} {ci kd : Nat} {P : Prop} (hk : kd ≠ 9) (h : a_kd al ci kd P) : al.lookup ci = some kd ∧ P := by
  obtain ⟨h1, h2⟩ := x_tru_e h
  have h3 := Nat.eq_of_beq_eq_true h1
  cases e : al.lookup ci with
  | none => rw [e] at h3; exact absurd h3.symm hk
  | some d => rw [e] at h3; exact ⟨congrArg some h3, h2⟩
theorem q_t_n {A : Nat → Nat → Nat} {z : Int} (h : z < 0) : q_t A z = cv A aN := if_pos h
theorem q_t_p {A : Nat → Nat → Nat} {z : Int} (h : 0 ≤ z) : q_t A z = cv A (aR 5 z.toNat) := if_neg (by omega)
theorem q_k_n {A : Nat → Nat → Nat} {z : Int} (h : z < 0) : q_k A z = cv A aN := if_pos h
theorem q_k_p {A : Nat → Nat → Nat} {z : Int} (h : 0 ≤ z) : q_k A z = cv A (aR 11 z.toNat) := if_neg (by omega)
theorem a_gf_ok {X : XC} {f : XH} {A : Nat → Nat → Nat} {DA : Nat → Nat} {v : Nat → Nat → Int} {L : Nat → List Nat} (hP : PC X f A DA v L) {k i n : Nat} {al : List (Nat × Nat)} {K : AV → Prop} (h : a_gf v L k i n al (fun x => a_lks k i n al (K x))) :
    ∃ (ci : Nat) (fs : List Value) (kd : Nat) (x : AV), f (A k i) = some (.inl (ci, fs)) ∧ al.lookup ci = some kd ∧ fs[n]? = some (cv A x) ∧ K x := by
  unfold a_gf at h
  split at h
  · split at h <;> first | exact False.elim h | (obtain ⟨kd, e, h⟩ := x_som_e h; exact ⟨_, _, kd, _, hP.c 0 _ rfl, e, rfl, h⟩)
  · obtain ⟨hi, h⟩ := h
    have hc := hP.c 1 i (if_pos hi)
    split at h <;> first | exact False.elim h | (obtain ⟨kd, e, h⟩ := x_som_e h; exact ⟨_, _, kd, _, hc, e, rfl, h⟩) | skip
    · rcases Int.lt_or_le (v 11 i) 0 with hz | hz
      · obtain ⟨kd, e, h⟩ := x_som_e (h.1 hz)
        exact ⟨_, _, kd, _, hc, e, congrArg some (q_t_n hz), h⟩
      · obtain ⟨kd, e, h⟩ := x_som_e (h.2 hz)
        exact ⟨_, _, kd, _, hc, e, congrArg some (q_t_p hz), h⟩
    · rcases Int.lt_or_le (v 15 i) 0 with hz | hz
      · obtain ⟨kd, e, h⟩ := x_som_e (h.1 hz)
        exact ⟨_, _, kd, _, hc, e, congrArg some (q_k_n hz), h⟩
      · obtain ⟨kd, e, h⟩ := x_som_e (h.2 hz)
        exact ⟨_, _, kd, _, hc, e, congrArg some (q_k_p hz), h⟩
  · have t1 : v 20 i = 1 → cc_cell A v L 5 i = some (.inl (6, [.ref (A 6 i), .ref (A 0 1), .int (iI (v 21 i)), .int (iI (v 22 i)), .int (iI (v 23 i)), .ref (A 7 i), .int (iI (v 24 i)), .int (iI (v 25 i))])) := fun h => if_pos h
    have t2 : v 20 i = 2 → cc_cell A v L 5 i = some (.inl (7, [.ref (A 6 i), .ref (A 0 1), .int (iI (v 21 i)), .int (iI (v 22 i)), .ref (A 8 i), .int (iI (v 27 i)), .int (iI (v 28 i)), .int (iI (v 29 i)), .int (iI (v 30 i)), .int (iI (v 31 i)), .int (iI (v 32 i)), .int (iI (v 33 i))])) := fun h => (if_neg (by omega)).trans (if_pos h)
    have t3 : v 20 i = 3 → cc_cell A v L 5 i = some (.inl (8, [.ref (A 6 i), .ref (A 0 1), .int (iI (v 21 i)), .int (iI (v 22 i)), .ref (A 9 (v 34 i).toNat), .ref (A 0 3), .int (iI (v 35 i)), .int (iI (v 36 i)), .int (iI (v 37 i)), .int (iI (v 38 i)), .int (iI (v 39 i))])) := fun h => (if_neg (by omega)).trans ((if_neg (by omega)).trans (if_pos h))
    split at h <;> first
      | exact False.elim h
      | (split at h <;> first
          | exact False.elim h
          | (obtain ⟨hl, h⟩ := h; exact ⟨_, _, _, _, hP.c 5 i (t1 hl), rfl, rfl, h⟩)
          | (obtain ⟨hl, h⟩ := h; exact ⟨_, _, _, _, hP.c 5 i (t2 hl), rfl, rfl, h⟩)
          | (obtain ⟨hl, h⟩ := h; exact ⟨_, _, _, _, hP.c 5 i (t3 hl), rfl, rfl, h⟩)
          | (obtain ⟨hl, h⟩ := h
             unfold a_lks at h
             simp only at h
             obtain ⟨d6, e6, h⟩ := x_som_e h
             obtain ⟨d7, e7, h⟩ := x_som_e h
             obtain ⟨d8, e8, h⟩ := x_som_e h
             rcases hl with hl | hl | hl
             · exact ⟨_, _, d6, _, hP.c 5 i (t1 hl), e6, rfl, h⟩
             · exact ⟨_, _, d7, _, hP.c 5 i (t2 hl), e7, rfl, h⟩
             · exact ⟨_, _, d8, _, hP.c 5 i (t3 hl), e8, rfl, h⟩))
  · obtain ⟨hi, h⟩ := h
    have hc := hP.c 9 i (if_pos hi)
    split at h <;> first | exact False.elim h | (obtain ⟨kd, e, h⟩ := x_som_e h; exact ⟨_, _, kd, _, hc, e, rfl, h⟩)
  · obtain ⟨hi, h⟩ := h
    have hc := hP.c 11 i (if_pos hi)
    split at h <;> first | exact False.elim h | (obtain ⟨kd, e, h⟩ := x_som_e h; exact ⟨_, _, kd, _, hc, e, rfl, h⟩)
  · obtain ⟨hi, h⟩ := h
    have hc := hP.c 20 i (if_pos hi)
    split at h <;> first | exact False.elim h | (obtain ⟨kd, e, h⟩ := x_som_e h; exact ⟨_, _, kd, _, hc, e, rfl, h⟩)
  · exact False.elim h
theorem iS_up {v : Nat → Nat → Int} (h : ∀ c i, iS (v c i)) {c i : Nat} {z : Int} (hz : iS z) : ∀ c' i', iS (up2 v c i z c' i') := by
  intro c' i'
  unfold up2
  split
  · exact hz
  · exact h c' i'
theorem PS.up {X : XC} {f : XH} {A : Nat → Nat → Nat} {DA : Nat → Nat} {v : SV} {L : SL} (h : PS X f A DA v L) (c i : Nat) (z : Int) (hc : c ≠ 20 ∧ c ≠ 40 ∧ c ≠ 60) (hz : iS z) {k j : Nat} (ho : cc_own c i = (k, j)) {e : XE} (he : cc_cell A (up2 v c i z) L k j = some e) : PS X (va_up f (A k j) (some e)) A DA (up2 v c i z) L := by
  refine ⟨?_, iS_up h.2 hz⟩
  have h1 := h.1.up c i z hc (e := e) (by rw [ho]; exact he)
  rw [ho] at h1
  exact h1
def a_pfq (X : XC) (f : XH) (A : Nat → Nat → Nat) (DA : Nat → Nat) (v : SV) (L : SL) (k i n : Nat) (al : List (Nat × Nat)) (x : AV) (K : (Nat → Nat → Int) → Prop) : Prop :=
  ∃ (ci : Nat) (fs : List Value) (kd : Nat) (v' : Nat → Nat → Int), f (A k i) = some (.inl (ci, fs)) ∧ al.lookup ci = some kd ∧ (∃ w, fs[n]? = some w) ∧ (∀ P : Prop, P → x_okv kd (cv A x) P) ∧ PS X (va_up f (A k i) (some (.inl (ci, fs.set n (cv A x))))) A DA v' L ∧ K v'
theorem a_wi_ok {X : XC} {f : XH} {A : Nat → Nat → Nat} {DA : Nat → Nat} {v : SV} {L : SL} (hP : PS X f A DA v L) {k i n c j ci : Nat} {al : List (Nat × Nat)} {x : AV} {K : (Nat → Nat → Int) → Prop} {fs : List Value} (hc : f (A k i) = some (.inl (ci, fs))) (hn : ∃ w, fs[n]? = some w) (ho : cc_own c j = (k, i)) (h3 : c ≠ 20 ∧ c ≠ 40 ∧ c ≠ 60) (he : ∀ z, cc_cell A (up2 v c j z) L k i = some (.inl (ci, fs.set n (.int (iI z))))) (h : a_kd al ci 0 (a_wi v c j x K)) : a_pfq X f A DA v L k i n al x K := by
  obtain ⟨hl, h⟩ := a_kd_e (by decide) h
  match x, h with
  | .inl z, h =>
    obtain ⟨z', ⟨e1, e2⟩, h⟩ := h
    refine ⟨ci, fs, 0, _, hc, hl, hn, fun P p => p, ?_, h⟩
    have h4 := hP.up c j z' h3 e2 ho (he z')
    rw [e1] at h4
    exact h4
theorem a_wb_ok {X : XC} {f : XH} {A : Nat → Nat → Nat} {DA : Nat → Nat} {v : SV} {L : SL} (hP : PS X f A DA v L) {k i n c j ci : Nat} {al : List (Nat × Nat)} {x : AV} {K : (Nat → Nat → Int) → Prop} {fs : List Value} (hc : f (A k i) = some (.inl (ci, fs))) (hn : ∃ w, fs[n]? = some w) (ho : cc_own c j = (k, i)) (h3 : c ≠ 20 ∧ c ≠ 40 ∧ c ≠ 60) (he : ∀ z, cc_cell A (up2 v c j z) L k i = some (.inl (ci, fs.set n (.int (iI z))))) (h : a_kd al ci 1 (a_wb v c j x K)) : a_pfq X f A DA v L k i n al x K := by
  obtain ⟨hl, h⟩ := a_kd_e (by decide) h
  match x, h with
  | .inl z, h =>
    obtain ⟨e1, h⟩ := h
    refine ⟨ci, fs, 1, _, hc, hl, hn, fun P p => ⟨?_, p⟩, hP.up c j z h3 ?_ ho (he z), h⟩
    · rcases e1 with rfl | rfl
      · exact Or.inl rfl
      · exact Or.inr rfl
    · rcases e1 with rfl | rfl <;> (constructor <;> omega)
theorem a_wn_ok {X : XC} {f : XH} {A : Nat → Nat → Nat} {DA : Nat → Nat} {v : SV} {L : SL} (hP : PS X f A DA v L) {k i n c j ci kk : Nat} {al : List (Nat × Nat)} {x : AV} {K : (Nat → Nat → Int) → Prop} {fs : List Value} (hc : f (A k i) = some (.inl (ci, fs))) (hn : ∃ w, fs[n]? = some w) (ho : cc_own c j = (k, i)) (h3 : c ≠ 20 ∧ c ≠ 40 ∧ c ≠ 60) (he1 : cc_cell A (up2 v c j (-1)) L k i = some (.inl (ci, fs.set n .null))) (he2 : ∀ t : Nat, cc_cell A (up2 v c j (t : Nat)) L k i = some (.inl (ci, fs.set n (.ref (A kk t))))) (h : a_kd al ci 2 (a_wn v c j kk x K)) : a_pfq X f A DA v L k i n al x K := by
  obtain ⟨hl, h⟩ := a_kd_e (by decide) h
  match x, h with
  | .inr none, h =>
    exact ⟨ci, fs, 2, _, hc, hl, hn, fun P p => p, hP.up c j (-1) h3 (by constructor <;> omega) ho he1, h⟩
  | .inr (some (k1, t)), h =>
    obtain ⟨⟨e1, e2⟩, h'⟩ := h
    have e1 : k1 = kk := e1
    have e2 : t < 100 := e2
    refine ⟨ci, fs, 2, _, hc, hl, hn, fun P p => p, ?_, h'⟩
    show PS X (va_up f (A k i) (some (.inl (ci, fs.set n (.ref (A k1 t)))))) A DA (up2 v c j (t : Nat)) L
    rw [e1]
    exact hP.up c j (t : Nat) h3 (by constructor <;> omega) ho (he2 t)
theorem a_pf_ok {X : XC} {f : XH} {A : Nat → Nat → Nat} {DA : Nat → Nat} {v : SV} {L : SL} (hP : PS X f A DA v L) {k i n : Nat} {al : List (Nat × Nat)} {x : AV} {K : (Nat → Nat → Int) → Prop} (h : a_pf v L k i n al x K) : a_pfq X f A DA v L k i n al x K := by
  unfold a_pf at h
  split at h
  · split at h <;> first | exact False.elim h | exact a_wi_ok hP (hP.1.c 0 _ rfl) ⟨_, rfl⟩ rfl (by decide) (fun z => rfl) h
  · obtain ⟨hi, h⟩ := h
    have hc := hP.1.c 1 i (if_pos hi)
    split at h <;> first | exact False.elim h | exact a_wi_ok hP hc ⟨_, rfl⟩ rfl (by decide) (fun z => by simp [cc_cell, up2, hi]) h | skip
    · exact a_wn_ok hP hc ⟨_, rfl⟩ rfl (by decide) (by simp [cc_cell, up2, hi, q_t]) (fun t => by simp [cc_cell, up2, hi, q_t]) h
    · exact a_wn_ok hP hc ⟨_, rfl⟩ rfl (by decide) (by simp [cc_cell, up2, hi, q_k]) (fun t => by simp [cc_cell, up2, hi, q_k]) h
  · have t1 : v 20 i = 1 → cc_cell A v L 5 i = some (.inl (6, [.ref (A 6 i), .ref (A 0 1), .int (iI (v 21 i)), .int (iI (v 22 i)), .int (iI (v 23 i)), .ref (A 7 i), .int (iI (v 24 i)), .int (iI (v 25 i))])) := fun h => if_pos h
    have t2 : v 20 i = 2 → cc_cell A v L 5 i = some (.inl (7, [.ref (A 6 i), .ref (A 0 1), .int (iI (v 21 i)), .int (iI (v 22 i)), .ref (A 8 i), .int (iI (v 27 i)), .int (iI (v 28 i)), .int (iI (v 29 i)), .int (iI (v 30 i)), .int (iI (v 31 i)), .int (iI (v 32 i)), .int (iI (v 33 i))])) := fun h => (if_neg (by omega)).trans (if_pos h)
    have t3 : v 20 i = 3 → cc_cell A v L 5 i = some (.inl (8, [.ref (A 6 i), .ref (A 0 1), .int (iI (v 21 i)), .int (iI (v 22 i)), .ref (A 9 (v 34 i).toNat), .ref (A 0 3), .int (iI (v 35 i)), .int (iI (v 36 i)), .int (iI (v 37 i)), .int (iI (v 38 i)), .int (iI (v 39 i))])) := fun h => (if_neg (by omega)).trans ((if_neg (by omega)).trans (if_pos h))
    split at h <;> first | exact False.elim h | (split at h <;> first
      | exact False.elim h
      | (obtain ⟨hl, h⟩ := h; first
        | exact a_wi_ok hP (hP.1.c 5 i (t1 hl)) ⟨_, rfl⟩ rfl (by decide) (fun z => by simp [cc_cell, cc_tgt, up2, hl]) h
        | exact a_wi_ok hP (hP.1.c 5 i (t2 hl)) ⟨_, rfl⟩ rfl (by decide) (fun z => by simp [cc_cell, cc_tgt, up2, hl]) h
        | exact a_wi_ok hP (hP.1.c 5 i (t3 hl)) ⟨_, rfl⟩ rfl (by decide) (fun z => by simp [cc_cell, cc_tgt, up2, hl]) h
        | exact a_wb_ok hP (hP.1.c 5 i (t2 hl)) ⟨_, rfl⟩ rfl (by decide) (fun z => by simp [cc_cell, cc_tgt, up2, hl]) h
        | exact a_wb_ok hP (hP.1.c 5 i (t3 hl)) ⟨_, rfl⟩ rfl (by decide) (fun z => by simp [cc_cell, cc_tgt, up2, hl]) h))
  · obtain ⟨hi, h⟩ := h
    have hc := hP.1.c 11 i (if_pos hi)
    split at h <;> first | exact False.elim h | exact a_wi_ok hP hc ⟨_, rfl⟩ rfl (by decide) (fun z => by simp [cc_cell, up2, hi]) h | exact a_wb_ok hP hc ⟨_, rfl⟩ rfl (by decide) (fun z => by simp [cc_cell, up2, hi]) h
  · obtain ⟨⟨h6, rfl⟩, h⟩ := h
    have hc := hP.1.c 20 0 (if_pos ⟨h6, rfl⟩)
    split at h <;> first | exact False.elim h | exact a_wi_ok hP hc ⟨_, rfl⟩ rfl (by decide) (fun z => by simp [cc_cell, r_fs, up2, h6]) h
  · exact False.elim h
theorem ar_up' {v : Nat → Nat → Int} {c o t i : Nat} {x : Int} (ht : 0 < t) : va_up (fun j => Value.int (iI (v c (o + t * j)))) i (.int (iI x)) = fun j => .int (iI (up2 v c (o + t * i) x c (o + t * j))) := by
  funext j
  by_cases h : j = i
  · subst h
    rw [va_up_self, up2_s]
  · rw [va_up_ne _ _ h, up2_i (fun z => h (Nat.eq_of_mul_eq_mul_left ht (Nat.add_left_cancel z)))]
def a_iaq (X : XC) (f : XH) (A : Nat → Nat → Nat) (DA : Nat → Nat) (v : SV) (L : SL) (ty k i : Nat) (j : Int) (K : Nat → Nat → Prop) : Prop :=
  ∃ (c m n : Nat) (g : Nat → Value), f (A k i) = some (.inr (ty, n, g)) ∧ (0 ≤ j ∧ j < n ∧ n < 2 ^ 31) ∧ g j.toNat = .int (iI (v c m)) ∧ (∀ z, iS z → PS X (va_up f (A k i) (some (.inr (ty, n, va_up g j.toNat (.int (iI z)))))) A DA (up2 v c m z) L) ∧ K c m
theorem r_ia_ok {X : XC} {f : XH} {A : Nat → Nat → Nat} {DA : Nat → Nat} {v : SV} {L : SL} (hP : PS X f A DA v L) {i c n ty : Nat} (h6 : v 60 0 = 1) (h1 : r_len i = n) (h2 : 100 + i = c) (h3 : 0 < n) (h4 : r_at i = ty) (h5 : n < 2 ^ 31) {j : Int} {K : Nat → Nat → Prop} (hj : 0 ≤ j ∧ j < n) (h : K c j.toNat) : a_iaq X f A DA v L ty 21 i j K := by
  subst h1 h2 h4
  have ec : ∀ v : Nat → Nat → Int, v 60 0 = 1 → cc_cell A v L 21 i = some (.inr (r_at i, r_len i, fun j => .int (iI (v (100 + i) j)))) := fun v hv => if_pos ⟨hv, h3⟩
  refine ⟨100 + i, j.toNat, r_len i, _, hP.1.c 21 i (ec v h6), ⟨hj.1, hj.2, h5⟩, rfl, fun z hz => ?_, h⟩
  refine hP.up (100 + i) j.toNat z ⟨by omega, by omega, by omega⟩ hz (k := 21) (j := i) ?_ ?_
  · have h2 : ¬ r_len i = 0 := by omega
    have h3 : 100 + i - 100 = i := by omega
    unfold cc_own
    split <;> first | omega | skip
    rw [if_pos (by omega), h3, if_neg h2]
  · rw [ec _ (by rw [up2_c (by omega)]; exact h6), ar_up]
theorem a_ia_ok {X : XC} {f : XH} {A : Nat → Nat → Nat} {DA : Nat → Nat} {v : SV} {L : SL} (hP : PS X f A DA v L) {k i : Nat} {j : Int} {K : Nat → Nat → Prop} (h : a_ia v k i j K) : a_iaq X f A DA v L 0 k i j K := by
  unfold a_ia at h
  split at h
  · split at h
    · obtain ⟨hj, h⟩ := h
      refine ⟨6, j.toNat, 64, _, hP.1.c 0 2 rfl, ⟨hj.1, hj.2, by decide⟩, rfl, fun z hz => hP.up 6 j.toNat z (by decide) hz rfl ?_, h⟩
      rw [ar_up]; rfl
    · obtain ⟨hj, h⟩ := h
      refine ⟨7, j.toNat, 8, _, hP.1.c 0 5 rfl, ⟨hj.1, hj.2, by decide⟩, rfl, fun z hz => hP.up 7 j.toNat z (by decide) hz rfl ?_, h⟩
      rw [ar_up]; rfl
    · exact False.elim h
  · obtain ⟨⟨hi, hj⟩, h⟩ := h
    refine ⟨17, i + 8 * j.toNat, 4, _, hP.1.c 3 i (if_pos hi), ⟨hj.1, hj.2, by decide⟩, rfl, fun z hz => hP.up 17 (i + 8 * j.toNat) z (by decide) hz ?_ ?_, h⟩
    · show (3, (i + 8 * j.toNat) % 8) = (3, i)
      congr 1; omega
    · rw [ar_up' (by decide)]; exact if_pos hi
  · obtain ⟨⟨hi, hj⟩, h⟩ := h
    refine ⟨18, i + 8 * j.toNat, 4, _, hP.1.c 4 i (if_pos hi), ⟨hj.1, hj.2, by decide⟩, rfl, fun z hz => hP.up 18 (i + 8 * j.toNat) z (by decide) hz ?_ ?_, h⟩
    · show (4, (i + 8 * j.toNat) % 8) = (4, i)
      congr 1; omega
    · rw [ar_up' (by decide)]; exact if_pos hi
  · obtain ⟨⟨hi, hj⟩, h⟩ := h
    refine ⟨26, i + 32 * j.toNat, 4, _, hP.1.c 7 i (if_pos hi), ⟨hj.1, hj.2, by decide⟩, rfl, fun z hz => hP.up 26 (i + 32 * j.toNat) z (by decide) hz ?_ ?_, h⟩
    · show (7, (i + 32 * j.toNat) % 32) = (7, i)
      congr 1; omega
    · rw [ar_up' (by decide)]; exact if_pos (by rw [up2_c (by decide)]; exact hi)
  · split at h <;> first | exact False.elim h | (obtain ⟨⟨h6, hj⟩, h⟩ := h; exact r_ia_ok hP h6 rfl rfl (by decide) rfl (by decide) hj h)
  · exact False.elim h
theorem a_ba_ok {X : XC} {f : XH} {A : Nat → Nat → Nat} {DA : Nat → Nat} {v : SV} {L : SL} (hP : PS X f A DA v L) {k i : Nat} {j : Int} {K : Nat → Nat → Prop} (h : a_ba v k i j K) : a_iaq X f A DA v L 1 k i j K := by
  unfold a_ba at h
  split at h
  · split at h <;> first | exact False.elim h | (obtain ⟨⟨h6, hj⟩, h⟩ := h; exact r_ia_ok hP h6 rfl rfl (by decide) rfl (by decide) hj h)
  · exact False.elim h
theorem a_ra_ok {X : XC} {f : XH} {A : Nat → Nat → Nat} {DA : Nat → Nat} {v : SV} {L : SL} (hP : PS X f A DA v L) {k i : Nat} {j : Int} {K : AV → Prop} (h : a_ra v k i j K) : ∃ (ty n : Nat) (g : Nat → Value) (x : AV), f (A k i) = some (.inr (ty, n, g)) ∧ (ty = 2 ∨ ty = 3 ∨ ty = 4) ∧ (0 ≤ j ∧ j < n ∧ n < 2 ^ 31) ∧ g j.toNat = cv A x ∧ K x := by
  unfold a_ra at h
  split at h
  · split at h
    · obtain ⟨hj, h⟩ := h
      exact ⟨2, 8, _, _, hP.1.c 0 6 rfl, by decide, ⟨hj.1, hj.2, by decide⟩, rfl, h⟩
    · obtain ⟨hj, h⟩ := h
      by_cases hz : v 20 j.toNat = 0
      · exact ⟨3, 32, _, aN, hP.1.c 0 7 rfl, by decide, ⟨hj.1, hj.2, by decide⟩, if_pos hz, h.1 hz⟩
      · exact ⟨3, 32, _, aR 5 j.toNat, hP.1.c 0 7 rfl, by decide, ⟨hj.1, hj.2, by decide⟩, if_neg hz, h.2 hz⟩
    · obtain ⟨hj, h⟩ := h
      by_cases hz : v 40 j.toNat = 0
      · exact ⟨4, 8, _, aN, hP.1.c 0 8 rfl, by decide, ⟨hj.1, hj.2, by decide⟩, if_pos hz, h.1 hz⟩
      · exact ⟨4, 8, _, aR 9 j.toNat, hP.1.c 0 8 rfl, by decide, ⟨hj.1, hj.2, by decide⟩, if_neg hz, h.2 hz⟩
    · exact False.elim h
  · obtain ⟨⟨hi, hj⟩, h⟩ := h
    rcases Int.lt_or_le (v 16 (i + 8 * j.toNat)) 0 with hz | hz
    · exact ⟨3, 4, _, aN, hP.1.c 2 i (if_pos hi), by decide, ⟨hj.1, hj.2, by decide⟩, q_t_n hz, h.1 hz⟩
    · exact ⟨3, 4, _, _, hP.1.c 2 i (if_pos hi), by decide, ⟨hj.1, hj.2, by decide⟩, q_t_p hz, h.2 hz⟩
  · exact False.elim h
end
section
/-! One instruction over the picture is one over the heap. -/
theorem cvl_up {A : Nat → Nat → Nat} {ls : ALc} {n : Nat} {x : AV} : cvl A (va_up ls n (some x)) = va_up (cvl A ls) n (some (cv A x)) := by
  funext j
  unfold cvl
  by_cases h : j = n
  · subst h
    rw [va_up_self, va_up_self]; rfl
  · rw [va_up_ne _ _ h, va_up_ne _ _ h]
theorem cvl_at {A : Nat → Nat → Nat} {ls : ALc} {n : Nat} {x : AV} (h : ls n = some x) : cvl A ls n = some (cv A x) := by
  unfold cvl
  rw [h]; rfl
theorem cv_onv {A : Nat → Nat → Nat} (x : AV) {P : Prop} (p : P) : x_onv (cv A x) P := by
  match x with
  | .inl _ => exact p
  | .inr none => exact p
  | .inr (some _) => exact p
theorem a_ref_e {A : Nat → Nat → Nat} {x : AV} {P : Prop} (h : a_ref x P) : P ∧ ∀ P' : Prop, P' → x_rfv (cv A x) P' := by
  match x, h with
  | .inr none, h => exact ⟨h, fun _ p => p⟩
  | .inr (some _), h => exact ⟨h, fun _ p => p⟩
theorem a_br_ok {o : ClassFile.Cond} {x y : Int} {kt kf kt' kf' : Prop} (h1 : kt → kt') (h2 : kf → kf') (h : a_br o x y kt kf) : x_br o (iI x) (iI y) kt' kf' := by
  obtain ⟨⟨hx, hy⟩, h⟩ := h
  cases o with
  | eq => exact ⟨fun c => h1 (h.1 ((iI_eq hx hy).mp c)), fun c => h2 (h.2 (fun z => c ((iI_eq hx hy).mpr z)))⟩
  | ne => exact ⟨fun c => h1 (h.1 (fun z => c ((iI_eq hx hy).mpr z))), fun c => h2 (h.2 ((iI_eq hx hy).mp c))⟩
  | lt => exact ⟨fun c => h1 (h.1 ((iI_lt hx hy).mp c)), fun c => h2 (h.2 (fun z => c ((iI_lt hx hy).mpr z)))⟩
  | ge => exact ⟨fun c => h1 (h.1 ((iI_le hy hx).mp c)), fun c => h2 (h.2 (fun z => c ((iI_le hy hx).mpr z)))⟩
  | gt => exact ⟨fun c => h1 (h.1 ((iI_lt hy hx).mp c)), fun c => h2 (h.2 (fun z => c ((iI_lt hy hx).mpr z)))⟩
  | le => exact ⟨fun c => h1 (h.1 ((iI_le hx hy).mp c)), fun c => h2 (h.2 (fun z => c ((iI_le hx hy).mpr z)))⟩
theorem a_eqr_ok {X : XC} {f : XH} {A : Nat → Nat → Nat} {DA : Nat → Nat} {v : SV} {L : SL} (hP : PS X f A DA v L) {x y : AV} {kt kf kt' kf' : Prop} (h1 : kt → kt') (h2 : kf → kf') (h : a_eqr v L x y kt kf) : (cv A x = cv A y → kt') ∧ (¬ cv A x = cv A y → kf') ∧ (∀ P : Prop, P → x_rfv (cv A x) (x_rfv (cv A y) P)) := by
  match x, y, h with
  | .inr (some (k, i)), .inr (some (k', i')), h =>
    obtain ⟨⟨e, l1, l2⟩, h⟩ := h
    have e : k = k' := e
    subst e
    refine ⟨fun c => h1 (h.1 ?_), fun c => h2 (h.2 fun z => c ?_), fun P p => p⟩
    · have c : Value.ref (A k i) = Value.ref (A k i') := c
      exact (hP.1.2.2.1 _ _ _ _ l1 l2 (Value.ref.inj c)).2
    · have z : i = i' := z
      rw [z]
  | .inr none, .inr (some (k, i)), h =>
    exact ⟨fun c => absurd c (fun q => nomatch q), fun _ => h2 h, fun P p => p⟩
  | .inr (some (k, i)), .inr none, h =>
    exact ⟨fun c => absurd c (fun q => nomatch q), fun _ => h2 h, fun P p => p⟩
theorem a_ab_ok {X : XC} {f : XH} {A : Nat → Nat → Nat} {DA : Nat → Nat} {v : SV} {L : SL} (hP : PS X f A DA v L) {o : ClassFile.ACond} {x y : AV} {kt kf kt' kf' : Prop} (h1 : kt → kt') (h2 : kf → kf') (h : a_ab v L o x y kt kf) : x_rfv (cv A x) (x_rfv (cv A y) (x_ab o (cv A x) (cv A y) kt' kf')) := by
  cases o with
  | eq =>
    obtain ⟨h3, h4, h5⟩ := a_eqr_ok hP h1 h2 h
    exact h5 _ ⟨h3, h4⟩
  | ne =>
    obtain ⟨h3, h4, h5⟩ := a_eqr_ok hP h2 h1 h
    exact h5 _ ⟨h4, h3⟩
theorem a_pop_ok {A : Nat → Nat → Nat} : ∀ (n : Nat) (st acc : List AV) (k : List AV → List AV → Prop) (k' : List Value → List Value → Prop), (∀ a t, k a t → k' (a.map (cv A)) (t.map (cv A))) → a_pop n st acc k → x_pop n (st.map (cv A)) (acc.map (cv A)) k' := by
  intro n
  induction n with
  | zero => exact fun st acc k k' hk h => hk acc st h
  | succ n ih =>
    intro st acc k k' hk h
    match st, h with
    | v :: t, h => exact ih t (v :: acc) k k' hk h
theorem a_le4_ok {A : Nat → Nat → Nat} {t : List AV} {P P' : Prop} (h1 : P → P') (h : a_le4 t P) : x_le4 (t.map (cv A)) P' := by
  match t, h with
  | [], h => exact h1 h
  | [_], h => exact h1 h
  | [_, _], h => exact h1 h
  | [_, _, _], h => exact h1 h
  | [_, _, _, _], h => exact h1 h
theorem map_toList {A : Nat → Nat → Nat} (r : Option AV) (t : List AV) : (r.map (cv A)).toList ++ t.map (cv A) = (r.toList ++ t).map (cv A) := by
  cases r <;> simp
theorem a_call_ok {X : XC} {f : XH} {A : Nat → Nat → Nat} {DA : Nat → Nat} {v : SV} {L : SL} (hP : PS X f A DA v L) {fr lo mc ms y nc ns : Nat} {av : List AV} {k : Option AV → SV → SL → Nat → Nat → Prop} {k' : Option Value → XH → Nat → Nat → Prop} (hk : ∀ r v' L' f' DA' nc ns, PS X f' A DA' v' L' → k r v' L' nc ns → k' (r.map (cv A)) f' nc ns) (h : a_call X fr lo mc ms y av v L nc ns k) : x_call X fr lo mc ms y (av.map (cv A)) f nc ns k' := by
  obtain ⟨fr', lo', mc', ms', Q, h1, h2, h3⟩ := h
  refine ⟨fr', lo', mc', ms', _, h1 f A DA hP, h2, ?_⟩
  rintro r f' ⟨ra, v', L', DA', rfl, p, q⟩
  exact hk _ _ _ _ _ _ _ p (h3 _ _ _ q)
theorem a_ci5 {X : XC} {f : XH} {A : Nat → Nat → Nat} {DA : Nat → Nat} {v : SV} {L : SL} (hP : PS X f A DA v L) {t : Nat} (h : a_live5 v t) : ∃ fs, f (A 5 t) = some (.inl ((v 20 t).toNat + 5, fs)) := by
  rcases h with h | h | h
  · exact ⟨_, by rw [h]; exact hP.1.c 5 t (if_pos h)⟩
  · exact ⟨_, by rw [h]; exact hP.1.c 5 t ((if_neg (by omega)).trans (if_pos h))⟩
  · exact ⟨_, by rw [h]; exact hP.1.c 5 t ((if_neg (by omega)).trans ((if_neg (by omega)).trans (if_pos h)))⟩
theorem a_lst {X : XC} {f : XH} {A : Nat → Nat → Nat} {DA : Nat → Nat} {v : SV} {L : SL} (hP : PS X f A DA v L) {l : Nat} (h : cl_live v L l) : ∃ fs, f (A (cl_obj l).1 (cl_obj l).2) = some (.inl (3, fs)) := by
  obtain ⟨m, h1, -⟩ := hP.1.2.1 l h
  exact ⟨_, h1⟩
theorem a_vrt_ok {X : XC} {f : XH} {A : Nat → Nat → Nat} {DA : Nat → Nat} {v : SV} {L : SL} (hP : PS X f A DA v L) {fr lo mc ms nc ns : Nat} {al : List (Nat × Nat)} {k i : Nat} {av : List AV} {K : Option AV → SV → SL → Nat → Nat → Prop} {K' : Option Value → XH → Nat → Nat → Prop} (hk : ∀ r v' L' f' DA' nc ns, PS X f' A DA' v' L' → K r v' L' nc ns → K' (r.map (cv A)) f' nc ns) (h : a_vrt X fr lo mc ms al k i av v L nc ns K) : x_obj (f (A k i)) fun ci _ => x_som (al.lookup ci) fun y => x_call X fr lo mc ms y (av.map (cv A)) f nc ns K' := by
  have L : ∀ l, cl_live v L l → cl_obj l = (k, i) → ∃ fs, f (A k i) = some (.inl (3, fs)) := by
    intro l h1 h2
    have := a_lst hP h1
    rw [h2] at this
    exact this
  unfold a_vrt at h
  split at h
  · obtain ⟨c, h⟩ := h
    obtain ⟨fs, e⟩ := a_ci5 hP (Or.inl c)
    rw [c] at e
    exact ⟨_, _, e, x_som_i rfl (a_call_ok hP hk h)⟩
  · obtain ⟨c, h⟩ := h
    obtain ⟨fs, e⟩ := a_ci5 hP (Or.inr (Or.inl c))
    rw [c] at e
    exact ⟨_, _, e, x_som_i rfl (a_call_ok hP hk h)⟩
  · obtain ⟨c, h⟩ := h
    obtain ⟨fs, e⟩ := a_ci5 hP (Or.inr (Or.inr c))
    rw [c] at e
    exact ⟨_, _, e, x_som_i rfl (a_call_ok hP hk h)⟩
  · obtain ⟨fr', lo', mc', ms', Q, ⟨h0, h1⟩, ⟨s6, s7, s8, h2⟩, h3⟩ := h
    obtain ⟨fs, e⟩ := a_ci5 hP h0
    have hy : ∃ y, al.lookup ((v 20 i).toNat + 5) = some y := by
      rcases h0 with c | c | c <;> rw [c]
      · exact Option.isSome_iff_exists.mp s6
      · exact Option.isSome_iff_exists.mp s7
      · exact Option.isSome_iff_exists.mp s8
    obtain ⟨y, hy⟩ := hy
    refine ⟨_, _, e, x_som_i hy (a_call_ok hP hk ⟨fr', lo', mc', ms', Q, (h1 y hy).1, ⟨h2.1, (h1 y hy).2, h2.2⟩, h3⟩)⟩
  · obtain ⟨rfl, h⟩ := h
    exact ⟨_, _, hP.1.c 0 0 rfl, x_som_i rfl (a_call_ok hP hk h)⟩
  · obtain ⟨rfl, h⟩ := h
    exact ⟨_, _, hP.1.c 0 1 rfl, x_som_i rfl (a_call_ok hP hk h)⟩
  · obtain ⟨rfl, h⟩ := h
    exact ⟨_, _, hP.1.c 0 3 rfl, x_som_i rfl (a_call_ok hP hk h)⟩
  · obtain ⟨rfl, h⟩ := h
    exact ⟨_, _, hP.1.c 0 4 rfl, x_som_i rfl (a_call_ok hP hk h)⟩
  · obtain ⟨hi, h⟩ := h
    have : ∃ fs, f (A 0 i) = some (.inl (3, fs)) := by
      rcases hi with rfl | rfl
      · exact L 0 ⟨Or.inl rfl, (by decide : (9 : Nat) ≤ 10)⟩ rfl
      · exact L 1 ⟨Or.inr (Or.inl rfl), (by decide : (10 : Nat) ≤ 10)⟩ rfl
    obtain ⟨fs, e⟩ := this
    exact ⟨_, _, e, x_som_i rfl (a_call_ok hP hk h)⟩
  · obtain ⟨hi, h⟩ := h
    exact ⟨_, _, hP.1.c 1 i (if_pos hi), x_som_i rfl (a_call_ok hP hk h)⟩
  · obtain ⟨hi, h⟩ := h
    have eo : cl_obj (100 + i) = (6, i) := by
      unfold cl_obj
      rw [if_neg (by omega), if_neg (by omega), if_pos (by omega)]
      rw [Nat.add_sub_cancel_left]
    obtain ⟨fs, e⟩ := L (100 + i) ⟨Or.inr (Or.inr (Or.inl (by omega))), by rw [eo]; exact hi.1⟩ eo
    exact ⟨_, _, e, x_som_i rfl (a_call_ok hP hk h)⟩
  · obtain ⟨hi, h⟩ := h
    have eo : cl_obj (200 + i) = (8, i) := by
      unfold cl_obj
      rw [if_neg (by omega), if_neg (by omega), if_neg (by omega), if_pos (by omega)]
      rw [Nat.add_sub_cancel_left]
    obtain ⟨fs, e⟩ := L (200 + i) ⟨Or.inr (Or.inr (Or.inr (Or.inl (by omega)))), by rw [eo]; exact hi.1⟩ eo
    exact ⟨_, _, e, x_som_i rfl (a_call_ok hP hk h)⟩
  · obtain ⟨hi, h⟩ := h
    have eo : cl_obj (300 + i) = (10, i) := by
      unfold cl_obj
      rw [if_neg (by omega), if_neg (by omega), if_neg (by omega), if_neg (by omega)]
      rw [Nat.add_sub_cancel_left]
    obtain ⟨fs, e⟩ := L (300 + i) ⟨Or.inr (Or.inr (Or.inr (Or.inr (by omega)))), by rw [eo]; exact hi.1⟩ eo
    exact ⟨_, _, e, x_som_i rfl (a_call_ok hP hk h)⟩
  · obtain ⟨hi, h⟩ := h
    exact ⟨_, _, hP.1.c 9 i (if_pos hi), x_som_i rfl (a_call_ok hP hk h)⟩
  · obtain ⟨hi, h⟩ := h
    exact ⟨_, _, hP.1.c 11 i (if_pos hi), x_som_i rfl (a_call_ok hP hk h)⟩
  · obtain ⟨hi, h⟩ := h
    exact ⟨_, _, hP.1.c 20 i (if_pos hi), x_som_i rfl (a_call_ok hP hk h)⟩
  · exact False.elim h
theorem a_cst_ok {X : XC} {f : XH} {A : Nat → Nat → Nat} {DA : Nat → Nat} {v : SV} {L : SL} (hP : PS X f A DA v L) {al : List (Nat × Nat)} {x : AV} {P P' : Prop} (hk : P → P') (h : a_cst v L al x P) : x_cst al f (cv A x) P' := by
  unfold a_cst at h
  split at h
  · exact hk h
  · obtain ⟨hi, h⟩ := h
    exact ⟨_, _, hP.1.c 1 _ (if_pos hi), x_som_i rfl (hk h)⟩
  · obtain ⟨c, h⟩ := h
    obtain ⟨fs, e⟩ := a_ci5 hP (Or.inl c)
    rw [c] at e
    exact ⟨_, _, e, x_som_i rfl (hk h)⟩
  · obtain ⟨c, h⟩ := h
    obtain ⟨fs, e⟩ := a_ci5 hP (Or.inr (Or.inl c))
    rw [c] at e
    exact ⟨_, _, e, x_som_i rfl (hk h)⟩
  · obtain ⟨c, h⟩ := h
    obtain ⟨fs, e⟩ := a_ci5 hP (Or.inr (Or.inr c))
    rw [c] at e
    exact ⟨_, _, e, x_som_i rfl (hk h)⟩
  · obtain ⟨hi, h⟩ := h
    exact ⟨_, _, hP.1.c 11 _ (if_pos hi), x_som_i rfl (hk h)⟩
  · exact False.elim h
theorem a_ins_ok {X : XC} {f : XH} {A : Nat → Nat → Nat} {DA : Nat → Nat} {v : SV} {L : SL} (hP : PS X f A DA v L) {al : List (Nat × Nat)} {x : AV} {K : AV → Prop} {K' : Int32 → Prop} (hk : ∀ z, K (aI z) → K' (iI z)) (h : a_ins v L al x K) : x_ins al f (cv A x) K' := by
  unfold a_ins at h
  split at h
  · exact hk 0 h
  · obtain ⟨hl, h⟩ := h
    obtain ⟨fs, e⟩ := a_ci5 hP hl
    obtain ⟨b6, e6, h⟩ := x_som_e h
    obtain ⟨b7, e7, h⟩ := x_som_e h
    obtain ⟨b8, e8, h⟩ := x_som_e h
    refine ⟨_, _, e, ?_⟩
    split at h
    · rcases hl with c | c | c <;> rw [c]
      · exact x_som_i e6 (hk 1 (h.1 c))
      · exact x_som_i e7 (hk 0 (h.2 (by omega)))
      · exact x_som_i e8 (hk 0 (h.2 (by omega)))
    · rcases hl with c | c | c <;> rw [c]
      · exact x_som_i e6 (hk 0 (h.2 (by omega)))
      · exact x_som_i e7 (hk 1 (h.1 c))
      · exact x_som_i e8 (hk 0 (h.2 (by omega)))
    · exact False.elim h
  · exact False.elim h
theorem iI_div {x y : Int} (h0 : 0 ≤ x) (h1 : 0 < y) (hx : iS x) (hy : iS y) : ¬ iI y = 0 ∧ iI x / iI y = iI (x / y) := by
  have e0 : (0 : Int32) = iI 0 := rfl
  refine ⟨fun c => ?_, ?_⟩
  · rw [e0, iI_eq hy ⟨by omega, by omega⟩] at c
    omega
  · have hd : x / y ≤ x := Int.ediv_le_self y h0
    have hd0 : 0 ≤ x / y := Int.ediv_nonneg h0 (by omega)
    apply Int32.toInt_inj.mp
    rw [Int32.toInt_div_of_ne_left _ _ (by
      intro c
      have c2 := congrArg Int32.toInt c
      rw [iI_t hx.1 hx.2] at c2
      have : (Int32.minValue).toInt = -2147483648 := rfl
      omega), iI_t hx.1 hx.2, iI_t hy.1 hy.2, iI_t (by omega) (by have := hx.2; omega)]
    exact Int.tdiv_eq_ediv_of_nonneg h0
theorem x_leb_l {a b : Nat} {P : Prop} (h : a ≤ b) (k : P) : x_leb a b P := x_leb_i h k
theorem vp_in_i {j : Int} {n : Nat} (h : 0 ≤ j ∧ j < n ∧ n < 2 ^ 31) : vp_in (iI j) n ∧ (iI j).toNatClampNeg = j.toNat := ⟨iI_in h.1 h.2.1 h.2.2, iI_cl h.1 (by omega)⟩
theorem a_step_ok {X : XC} {fr lo mc ms : Nat} {J : AJ} {J' : XJ} {Q : AQ} {RQ : Option Value → XH → Prop} {A : Nat → Nat → Nat}
    (hJ : ∀ pc als ast v L f DA nc ns, PS X f A DA v L → J pc als ast v L nc ns → J' pc (cvl A als) (ast.map (cv A)) f nc ns)
    (hQ : ∀ ra v L f DA, PS X f A DA v L → Q ra v L → RQ (ra.map (cv A)) f)
    (o : XO) (hco : a_cok o = true) (pc : Nat) (als : ALc) (ast : List AV) (v : SV) (L : SL) (f : XH) (DA : Nat → Nat) (nc ns : Nat) (hP : PS X f A DA v L) (K : AK) (K' : XK)
    (hK : ∀ als ast v L f DA nc ns, PS X f A DA v L → K als ast v L nc ns → K' (cvl A als) (ast.map (cv A)) f nc ns)
    (h : a_step X fr lo mc ms J Q o.1 o.2.2.1 o.2.2.2.1 als ast v L nc ns K) : x_step X fr lo mc ms J' RQ o pc (cvl A als) (ast.map (cv A)) f nc ns K' := by
  obtain ⟨ins, len, ax, al, cw⟩ := o
  have ld : ∀ {k : Int → Prop} {k' : Int32 → Prop}, (∀ x, k x → k' (iI x)) → (x_som (als ax) fun v => a_int v k) → x_som (cvl A als ax) fun v => x_int v k' := by
    intro k k' hk h
    obtain ⟨v, e, h⟩ := x_som_e h
    match v, e, h with
    | .inl x, e, h => exact x_som_i (cvl_at e) (hk x h)
  have lr : ∀ {k : AV → Prop} {k' : Value → Prop}, (∀ x, k x → k' (cv A x)) → (x_som (als ax) fun v => a_ref v (k v)) → x_som (cvl A als ax) fun v => x_rfv v (k' v) := by
    intro k k' hk h
    obtain ⟨v, e, h⟩ := x_som_e h
    obtain ⟨h1, h2⟩ := a_ref_e (A := A) h
    exact x_som_i (cvl_at e) (h2 _ (hk v h1))
  have i1 : ∀ {k : Int → List AV → Prop} {k' : Int32 → List Value → Prop}, (∀ x t, k x t → k' (iI x) (t.map (cv A))) → a_i1 ast k → x_i1 (ast.map (cv A)) k' := by
    intro k k' hk h
    match ast, h with
    | .inl x :: t, h => exact hk x t h
  have i2 : ∀ {k : Int → Int → List AV → Prop} {k' : Int32 → Int32 → List Value → Prop}, (∀ x y t, k x y t → k' (iI x) (iI y) (t.map (cv A))) → a_i2 ast k → x_i2 (ast.map (cv A)) k' := by
    intro k k' hk h
    match ast, h with
    | .inl y :: .inl x :: t, h => exact hk x y t h
  have v1 : ∀ {k : AV → List AV → Prop} {k' : Value → List Value → Prop}, (∀ x t, k x t → k' (cv A x) (t.map (cv A))) → a_v1 ast k → x_v1 (ast.map (cv A)) k' := by
    intro k k' hk h
    match ast, h with
    | x :: t, h => exact hk x t h
  have v2 : ∀ {k : AV → AV → List AV → Prop} {k' : Value → Value → List Value → Prop}, (∀ x y t, k x y t → k' (cv A x) (cv A y) (t.map (cv A))) → a_v2 ast k → x_v2 (ast.map (cv A)) k' := by
    intro k k' hk h
    match ast, h with
    | x :: y :: t, h => exact hk x y t h
  have st1 : ∀ x t, K (va_up als ax (some x)) t v L nc ns → K' (va_up (cvl A als) ax (some (cv A x))) (t.map (cv A)) f nc ns := by
    intro x t h
    rw [← cvl_up]
    exact hK _ _ _ _ _ _ _ _ hP h
  have str : ∀ x t, a_ref x (K (va_up als ax (some x)) t v L nc ns) → x_rfv (cv A x) (K' (va_up (cvl A als) ax (some (cv A x))) (t.map (cv A)) f nc ns) := by
    intro x t h
    obtain ⟨h1, h2⟩ := a_ref_e (A := A) h
    exact h2 _ (st1 x t h1)
  cases ins <;> first | exact False.elim h | skip
  case iconst n =>
    have e : iI n = cw := of_decide_eq_true hco
    subst e
    exact hK _ (aI n :: ast) _ _ _ _ _ _ hP h
  case bipush n =>
    have e : iI n = cw := of_decide_eq_true hco
    subst e
    exact hK _ (aI n :: ast) _ _ _ _ _ _ hP h
  case sipush n =>
    have e : iI n = cw := of_decide_eq_true hco
    subst e
    exact hK _ (aI n :: ast) _ _ _ _ _ _ hP h
  case aconst_null => exact hK _ (aN :: ast) _ _ _ _ _ _ hP h
  case iload n => exact ld (fun x q => hK _ (aI x :: ast) _ _ _ _ _ _ hP q) h
  case iload_n n => exact ld (fun x q => hK _ (aI x :: ast) _ _ _ _ _ _ hP q) h
  case aload n => exact lr (fun x q => hK _ (x :: ast) _ _ _ _ _ _ hP q) h
  case aload_n n => exact lr (fun x q => hK _ (x :: ast) _ _ _ _ _ _ hP q) h
  case istore n => exact i1 (fun x t q => st1 (aI x) t q) h
  case istore_n n => exact i1 (fun x t q => st1 (aI x) t q) h
  case astore n => exact v1 (fun x t q => str x t q) h
  case astore_n n => exact v1 (fun x t q => str x t q) h
  case iinc m n =>
    have e : iI n = cw := of_decide_eq_true hco
    subst e
    exact ld (fun x q => by
      rw [iI_add]
      exact st1 (aI (x + n)) ast q) h
  case iadd => exact i2 (fun x y t q => by rw [iI_add]; exact hK _ (aI (x + y) :: t) _ _ _ _ _ _ hP q) h
  case isub => exact i2 (fun x y t q => by rw [iI_sub]; exact hK _ (aI (x - y) :: t) _ _ _ _ _ _ hP q) h
  case imul => exact i2 (fun x y t q => by rw [iI_mul]; exact hK _ (aI (x * y) :: t) _ _ _ _ _ _ hP q) h
  case iand => exact i2 (fun x y t q => by rw [iI_of (iI x &&& iI y)]; exact hK _ (aI (bAnd x y) :: t) _ _ _ _ _ _ hP q) h
  case ior => exact i2 (fun x y t q => by rw [iI_of (iI x ||| iI y)]; exact hK _ (aI (bOr x y) :: t) _ _ _ _ _ _ hP q) h
  case ishl => exact i2 (fun x y t q => by rw [iI_of (iI x <<< (iI y &&& 31))]; exact hK _ (aI (bShl x y) :: t) _ _ _ _ _ _ hP q) h
  case ishr => exact i2 (fun x y t q => by rw [iI_of (iI x >>> (iI y &&& 31))]; exact hK _ (aI (bShr x y) :: t) _ _ _ _ _ _ hP q) h
  case idiv =>
    refine i2 (fun x y t q => ?_) h
    obtain ⟨⟨q0, q1, q2, q3⟩, q⟩ := q
    obtain ⟨d1, d2⟩ := iI_div q0 q1 q2 q3
    refine ⟨d1, ?_⟩
    rw [d2]
    exact hK _ (aI (x / y) :: t) _ _ _ _ _ _ hP q
  case dup => exact v1 (fun x t q => cv_onv x (hK _ (x :: x :: t) _ _ _ _ _ _ hP q)) h
  case dup2 => exact v2 (fun x y t q => cv_onv x (cv_onv y (hK _ (x :: y :: x :: y :: t) _ _ _ _ _ _ hP q))) h
  case pop => exact v1 (fun x t q => cv_onv x (hK _ t _ _ _ _ _ _ hP q)) h
  case ifCond c n => exact i1 (fun x t q => a_br_ok (y := 0) (fun z => hJ _ _ _ _ _ _ _ _ _ hP z) (fun z => hK _ _ _ _ _ _ _ _ hP z) q) h
  case if_icmp c n => exact i2 (fun x y t q => a_br_ok (fun z => hJ _ _ _ _ _ _ _ _ _ hP z) (fun z => hK _ _ _ _ _ _ _ _ hP z) q) h
  case if_acmp c n => exact v2 (fun y x t q => a_ab_ok hP (fun z => hJ _ _ _ _ _ _ _ _ _ hP z) (fun z => hK _ _ _ _ _ _ _ _ hP z) q) h
  case ifnull n =>
    match ast, h with
    | .inr none :: t, h => exact hJ _ _ _ _ _ _ _ _ _ hP h
    | .inr (some p) :: t, h => exact hK _ _ _ _ _ _ _ _ hP h
  case ifnonnull n =>
    match ast, h with
    | .inr none :: t, h => exact hK _ _ _ _ _ _ _ _ hP h
    | .inr (some p) :: t, h => exact hJ _ _ _ _ _ _ _ _ _ hP h
  case goto n => exact hJ _ _ _ _ _ _ _ _ _ hP h
  case ireturn =>
    match ast, h with
    | [.inl x], h =>
      have h0 : a_okr ax x (∃ _ : nc ≤ mc ∧ ns ≤ ms, Q (some (aI x)) v L) := h
      match ax, h0 with
      | 0, h0 =>
        obtain ⟨⟨h2, h3⟩, h⟩ := h0
        exact x_leb_l h2 (x_leb_l h3 (hQ _ _ _ _ _ hP h))
      | 1, h0 =>
        obtain ⟨e2, ⟨h2, h3⟩, h⟩ := h0
        refine ⟨?_, x_leb_l h2 (x_leb_l h3 (hQ _ _ _ _ _ hP h))⟩
        rcases e2 with rfl | rfl
        · exact Or.inl rfl
        · exact Or.inr rfl
  case areturn =>
    match ast, h with
    | [x], h =>
      obtain ⟨⟨⟨h2, h3⟩, h⟩, h5⟩ := a_ref_e (A := A) h
      exact h5 _ (x_leb_l h2 (x_leb_l h3 (hQ _ _ _ _ _ hP h)))
  case return_ =>
    match ast, h with
    | [], h =>
      obtain ⟨⟨h2, h3⟩, h⟩ := h
      exact x_leb_l h2 (x_leb_l h3 (hQ _ _ _ _ _ hP h))
  case getfield n =>
    match ast, h with
    | .inr (some (k, i)) :: t, h =>
      have h : a_gf v L k i ax al (fun x => a_lks k i ax al (K als (x :: t) v L nc ns)) := h
      obtain ⟨ci, fs, kd, x, e1, e2, e3, h⟩ := a_gf_ok hP.1 h
      exact ⟨ci, fs, e1, x_som_i e2 (x_som_i e3 (hK _ (x :: t) _ _ _ _ _ _ hP h))⟩
  case putfield n =>
    match ast, h with
    | x :: .inr (some (k, i)) :: t, h =>
      obtain ⟨ci, fs, kd, v', e1, e2, ⟨w, e3⟩, e4, e5, h⟩ := a_pf_ok hP h
      exact ⟨ci, fs, e1, x_som_i e2 (x_som_i e3 (e4 _ (hK _ t _ _ _ _ _ _ e5 h)))⟩
  case iaload =>
    have e : ax = 0 := of_decide_eq_true hco
    subst e
    match ast, h with
    | .inl j :: .inr (some (k, i)) :: t, h =>
      have h : a_ia v k i j (fun c m => K als (aI (v c m) :: t) v L nc ns) := h
      obtain ⟨c, m, n, g, e1, e2, e3, -, h⟩ := a_ia_ok hP h
      obtain ⟨g1, g2⟩ := vp_in_i e2
      refine ⟨0, n, g, e1, g1, ?_⟩
      rw [g2, e3]
      exact hK _ (aI (v c m) :: t) _ _ _ _ _ _ hP h
  case baload =>
    have e : ax = 1 := of_decide_eq_true hco
    subst e
    match ast, h with
    | .inl j :: .inr (some (k, i)) :: t, h =>
      have h : a_ba v k i j (fun c m => K als (aI (v c m) :: t) v L nc ns) := h
      obtain ⟨c, m, n, g, e1, e2, e3, -, h⟩ := a_ba_ok hP h
      obtain ⟨g1, g2⟩ := vp_in_i e2
      refine ⟨1, n, g, e1, g1, ?_⟩
      rw [g2, e3]
      exact hK _ (aI (v c m) :: t) _ _ _ _ _ _ hP h
  case aaload =>
    have e : al = x_ald := of_decide_eq_true hco
    subst e
    match ast, h with
    | .inl j :: .inr (some (k, i)) :: t, h =>
      have h : a_ra v k i j (fun x => K als (x :: t) v L nc ns) := h
      obtain ⟨ty, n, g, x, e1, e0, e2, e3, h⟩ := a_ra_ok hP h
      obtain ⟨g1, g2⟩ := vp_in_i e2
      refine ⟨ty, n, g, e1, ?_⟩
      have h5 := hK _ (x :: t) _ _ _ _ _ _ hP h
      rw [List.map_cons, ← e3, ← g2] at h5
      rcases e0 with rfl | rfl | rfl <;> exact ⟨g1, h5⟩
  case iastore =>
    have e : ax = 0 := of_decide_eq_true hco
    subst e
    match ast, h with
    | w :: .inl j :: .inr (some (k, i)) :: t, h =>
      have h : a_ia v k i j (fun c m => a_wi v c m w fun v' => K als t v' L nc ns) := h
      obtain ⟨c, m, n, g, e1, e2, e3, e4, h⟩ := a_ia_ok hP h
      obtain ⟨g1, g2⟩ := vp_in_i e2
      refine ⟨0, n, g, e1, g1, ?_⟩
      match w, h with
      | .inl x, ⟨z', ⟨z1, z2⟩, h⟩ =>
        have h5 := hK _ t _ _ _ _ _ _ (e4 z' z2) h
        rw [z1, ← g2] at h5
        exact h5
  case bastore =>
    have e : ax = 1 := of_decide_eq_true hco
    subst e
    match ast, h with
    | w :: .inl j :: .inr (some (k, i)) :: t, h =>
      have h : a_ba v k i j (fun c m => a_wb v c m w fun v' => K als t v' L nc ns) := h
      obtain ⟨c, m, n, g, e1, e2, e3, e4, h⟩ := a_ba_ok hP h
      obtain ⟨g1, g2⟩ := vp_in_i e2
      refine ⟨1, n, g, e1, g1, ?_⟩
      match w, h with
      | .inl x, ⟨z1, h⟩ =>
        have h5 := hK _ t _ _ _ _ _ _ (e4 x (by rcases z1 with rfl | rfl <;> (constructor <;> omega))) h
        rw [← g2] at h5
        refine ⟨?_, h5⟩
        rcases z1 with rfl | rfl
        · exact Or.inl rfl
        · exact Or.inr rfl
  case aastore =>
    have e : al = x_ast := of_decide_eq_true hco
    subst e
    match ast, h with
    | x :: .inl j :: .inr (some (k, i)) :: t, h =>
      have h : a_rw v k i j x fun v' => K als t v' L nc ns := h
      match k, x, h with
      | 2, .inr (some (p1, p2)), h =>
        obtain ⟨⟨⟨hi, hj0, hj1⟩, q1, q2, q3⟩, h⟩ := h
        have q1 : p1 = 5 := q1
        subst q1
        obtain ⟨g1, g2⟩ := vp_in_i (n := 4) ⟨hj0, hj1, by decide⟩
        obtain ⟨fs, ef⟩ := a_ci5 hP q3
        refine ⟨3, 4, _, hP.1.c 2 i (if_pos hi), g1, _, fs, ef, ?_⟩
        have h5 : PS X (va_up f (A 2 i) (some (.inr (3, 4, va_up (fun j => q_t A (v 16 (i + 8 * j))) (iI j).toNatClampNeg (.ref (A 5 p2)))))) A DA (up2 v 16 (i + 8 * j.toNat) (p2 : Nat)) L := by
          have q2 : p2 < 100 := q2
          refine hP.up 16 (i + 8 * j.toNat) (p2 : Nat) (by decide) (by constructor <;> omega) ?_ ?_
          · show (2, (i + 8 * j.toNat) % 8) = (2, i)
            congr 1; omega
          · rw [g2]
            refine (if_pos hi).trans ?_
            congr
            funext q
            by_cases hq : q = j.toNat
            · subst hq
              rw [va_up_self, up2_s]
              exact q_t_p (by omega)
            · rw [va_up_ne _ _ hq, up2_i (by omega)]
        have h6 := hK _ t _ _ _ _ _ _ h5 h
        rcases q3 with c | c | c <;> (have c : v 20 p2 = _ := c; rw [c]; exact h6)
  case checkcast n => exact v1 (fun x t q => a_cst_ok hP (fun z => hK _ (x :: t) _ _ _ _ _ _ hP z) q) h
  case instanceof n => exact v1 (fun x t q => a_ins_ok hP (fun b z => hK _ (aI b :: t) _ _ _ _ _ _ hP z) q) h
  case invokestatic n =>
    obtain ⟨q, e, h⟩ := x_som_e h
    refine x_som_i e ?_
    obtain ⟨q1, q2⟩ := q
    match q2, h with
    | 0, h =>
      refine a_pop_ok q1 ast [] _ _ (fun av t z => a_le4_ok (fun z => a_call_ok hP (fun r v' L' f' DA' nc ns p z => ?_) z) z) h
      rw [map_toList]
      exact hK _ _ _ _ _ _ _ _ p z
  case invokevirtual n =>
    match al, h with
    | a :: l, h =>
      refine a_pop_ok ax ast [] _ _ (fun av u z => ?_) h
      match u, z with
      | .inr (some (k, i)) :: t, z =>
        refine a_le4_ok (fun z => a_vrt_ok hP (fun r v' L' f' DA' nc ns p z => ?_) z) z
        rw [map_toList]
        exact hK _ _ _ _ _ _ _ _ p z
theorem a_run_ok {X : XC} {fr lo mc ms : Nat} {J : AJ} {J' : XJ} {Q : AQ} {RQ : Option Value → XH → Prop} {A : Nat → Nat → Nat}
    (hJ : ∀ pc als ast v L f DA nc ns, PS X f A DA v L → J pc als ast v L nc ns → J' pc (cvl A als) (ast.map (cv A)) f nc ns)
    (hQ : ∀ ra v L f DA, PS X f A DA v L → Q ra v L → RQ (ra.map (cv A)) f) : ∀ (ops : List XO), ops.all a_cok = true → ∀ (pc : Nat) (als : ALc) (ast : List AV) (v : SV) (L : SL) (f : XH) (DA : Nat → Nat) (nc ns : Nat), PS X f A DA v L → a_run X fr lo mc ms J Q ops pc als ast v L nc ns → x_run X fr lo mc ms J' RQ ops pc (cvl A als) (ast.map (cv A)) f nc ns := by
  intro ops
  induction ops with
  | nil => exact fun _ pc als ast v L f DA nc ns hP h => hJ _ _ _ _ _ _ _ _ _ hP h
  | cons o r ih =>
    intro hc pc als ast v L f DA nc ns hP h
    rw [List.all_cons, Bool.and_eq_true] at hc
    exact a_step_ok hJ hQ o hc.1 pc als ast v L f DA nc ns hP _ _ (fun als ast v L f DA nc ns p q => ih hc.2 _ _ _ _ _ _ _ _ _ p q) h
def a_arg (av : List AV) : ALc := fun i => av[i]?
theorem x_arg_map {A : Nat → Nat → Nat} (av : List AV) : x_arg (av.map (cv A)) = cvl A (a_arg av) := by
  funext i
  unfold x_arg cvl a_arg
  rw [List.getElem?_map]
def a_ck (B : List (Nat × List XO)) : Bool := B.all fun b => b.2.all a_cok
theorem lookup_memB {B : List (Nat × List XO)} {pc : Nat} {ops : List XO} (h : B.lookup pc = some ops) (hb : a_ck B = true) : ops.all a_cok = true := by
  induction B with
  | nil => cases h
  | cons b B ih =>
    obtain ⟨q, ops'⟩ := b
    rw [a_ck, List.all_cons, Bool.and_eq_true] at hb
    rw [List.lookup_cons] at h
    split at h
    · cases h
      exact hb.1
    · exact ih h hb.2
/-- a method over the picture: its contract -/
theorem a_met {X : XC} {y : Nat} {own : String} {ini : Bool} {B : List (Nat × List XO)} {av : List AV} {v : SV} {L : SL} {fr lo mc ms : Nat} {Q : AQ} (hm : x_mok y own ini B) (hb : a_ck B = true) (hn : av.length ≤ (x_mt y).2.2.1)
    (h : ∀ go : AJ, (∀ pc ops ls st v L nc ns, B.lookup pc = some ops → a_run X fr lo mc ms go Q ops pc ls st v L nc ns → go pc ls st v L nc ns) → go 0 (a_arg av) [] v L 0 0) : AHolds X y av v L fr lo mc ms Q := by
  intro f A DA hP
  refine x_met hm (fun v hv => ?_) (by rw [List.length_map]; exact hn) (fun go st => ?_)
  · obtain ⟨x, -, rfl⟩ := List.mem_map.mp hv
    match x with
    | .inl _ => exact trivial
    | .inr none => exact trivial
    | .inr (some _) => exact trivial
  · have h1 := h (fun pc als ast v L nc ns => ∀ f DA, PS X f A DA v L → go pc (cvl A als) (ast.map (cv A)) f nc ns) (fun pc ops ls st' v L nc ns hl hr f DA hP => st pc ops _ _ f nc ns hl (a_run_ok (fun pc als ast v L f DA nc ns p q => q f DA p) (fun ra v' L' f' DA' p q => ⟨ra, v', L', DA', rfl, p, q⟩) ops (lookup_memB hl hb) pc ls st' v L f DA nc ns hP hr)) f DA hP
    rw [x_arg_map]
    exact h1
end
section
/-! The lists of the picture: ArrayList's methods as contracts over it. -/
def upL (L : Nat → List Nat) (l : Nat) (M : List Nat) : Nat → List Nat := fun l' => if l' = l then M else L l'
theorem upL_s {L : Nat → List Nat} {l : Nat} {M : List Nat} : upL L l M l = M := if_pos rfl
theorem upL_n {L : Nat → List Nat} {l l' : Nat} {M : List Nat} (h : l' ≠ l) : upL L l M l' = L l' := if_neg h
theorem cl_obj_inj {l l' : Nat} (h : cl_ok l) (h' : cl_ok l') (e : cl_obj l = cl_obj l') : l = l' := by
  unfold cl_ok at h h'
  unfold cl_obj at e
  repeat' split at e
  all_goals (have e1 := congrArg Prod.fst e; have e2 := congrArg Prod.snd e; simp only at e1 e2; omega)
theorem al_eqg {X : XC} {f : XH} {a d n n' : Nat} {g g' : Nat → Nat} (h : al_ok X f a d n g) (hn : n = n') (hg : ∀ j, j < n → g j = g' j) : al_ok X f a d n' g' := by
  subst hn
  obtain ⟨m, h1, h2⟩ := h
  refine ⟨m, h1, ?_⟩
  rcases h2 with h2 | ⟨cap, G, p1, p2, p3, p4, p5⟩
  · exact Or.inl h2
  · exact Or.inr ⟨cap, G, p1, p2, p3, p4, fun j hj => by rw [p5 j hj, hg j hj]⟩
theorem cc_liveL {v : Nat → Nat → Int} {L : Nat → List Nat} {l : Nat} {M : List Nat} (h : l ≠ 1) : cc_live v (upL L l M) = cc_live v L := by
  have e : upL L l M 1 = L 1 := upL_n (Ne.symm h)
  funext k i
  unfold cc_live
  simp only [e]
theorem cc_cellL {A : Nat → Nat → Nat} {v : Nat → Nat → Int} {L : Nat → List Nat} {l : Nat} {M : List Nat} (h : l ≠ 1) : cc_cell A v (upL L l M) = cc_cell A v L := by
  have e : upL L l M 1 = L 1 := upL_n (Ne.symm h)
  funext k i
  unfold cc_cell
  simp only [e]
/-- a list of the picture has changed -/
theorem PC.lst {X : XC} {f f' : XH} {A : Nat → Nat → Nat} {DA : Nat → Nat} {v : Nat → Nat → Int} {L : Nat → List Nat} (h : PC X f A DA v L) {l d' : Nat} {M : List Nat} (hl : cl_live v L l) (h1 : l ≠ 1) (hd : d' = DA l ∧ (∃ cap G, f d' = some (.inr (5, cap, G))) ∨ f d' = none) (ha : al_ok X f' (A (cl_obj l).1 (cl_obj l).2) d' M.length (fun j => A (cl_el l) (M.getD j 0))) (hf : ∀ b, b ≠ A (cl_obj l).1 (cl_obj l).2 → b ≠ d' → f' b = f b) : PC X f' A (va_up DA l d') v (upL L l M) := by
  obtain ⟨p1, p2, p3, p4, ⟨g0, p5⟩, p6, p7⟩ := h
  have hd0 : d' ≠ x_k X 0 := by
    intro z
    rcases hd with ⟨-, cap, G, e⟩ | e
    · rw [z, p5] at e; cases e
    · rw [z, p5] at e; cases e
  have hdc : ∀ k i, cc_live v L k i → f (A k i) ≠ none → A k i ≠ d' := by
    intro k i q1 q2 z
    rcases hd with ⟨e, -⟩ | e
    · exact (p4 l hl).1 k i q1 (z.trans e)
    · exact q2 (z ▸ e)
  have ho : ∀ l', cl_live v L l' → l' ≠ l → A (cl_obj l').1 (cl_obj l').2 ≠ A (cl_obj l).1 (cl_obj l).2 := by
    intro l' q1 q2 z
    obtain ⟨e1, e2⟩ := p3 _ _ _ _ q1.2 hl.2 z
    exact q2 (cl_obj_inj q1.1 hl.1 (Prod.ext e1 e2))
  have hon : ∀ l', cl_live v L l' → f (A (cl_obj l').1 (cl_obj l').2) ≠ none := by
    intro l' q1 z
    obtain ⟨m, e, -⟩ := p2 l' q1
    rw [z] at e; cases e
  have hDn : ∀ l', cl_live v L l' → f (DA l') ≠ none := by
    intro l' q1 z
    obtain ⟨m, -, ⟨-, -, g, e⟩ | ⟨cap, G, e, -⟩⟩ := p2 l' q1
    · rw [z] at e; cases e
    · rw [z] at e; cases e
  have hDl : ∀ l', cl_live v L l' → l' ≠ l → DA l' ≠ d' := by
    intro l' q1 q2 z
    rcases hd with ⟨e, -⟩ | e
    · exact hd0 (e.trans ((p4 l hl).2 l' q1 q2 (z.trans e)))
    · exact hDn l' q1 (z ▸ e)
  unfold PC cl_live
  rw [cc_liveL h1, cc_cellL h1]
  refine ⟨fun k i e he => ?_, fun l' q1 => ?_, p3, fun l' q1 => ⟨fun k i q2 => ?_, fun l'' q2 q3 q4 => ?_⟩, ⟨g0, ?_⟩, p6, fun k i q1 => ?_⟩
  · have hc := p1 k i e he
    have hlv := cc_cell_live he
    rw [hf _ (fun z => ?_) (hdc k i hlv (by rw [hc]; exact fun q => nomatch q)), hc]
    obtain ⟨e1, e2⟩ := p3 _ _ _ _ hlv hl.2 z
    subst e1 e2
    obtain ⟨m, h2, -⟩ := p2 l hl
    rcases cl_obj_k hl.1 with ⟨c1, c2⟩ | c1 | c1 | c1
    · rw [c1] at he
      unfold cc_cell cc_one at he
      simp only at he
      split at he <;> first | omega | cases he
    · rw [c1] at he; cases he
    · rw [c1] at he; cases he
    · rw [c1] at he; cases he
  · by_cases e : l' = l
    · subst e
      rw [va_up_self, upL_s]
      exact ha
    · rw [va_up_ne _ _ e, upL_n e]
      exact al_same (p2 l' q1) (hf _ (ho l' q1 e) (hdc _ _ q1.2 (hon l' q1))) (hf _ (fun z => (p4 l' q1).1 _ _ hl.2 z.symm) (hDl l' q1 e))
  · by_cases e : l' = l
    · subst e
      rw [va_up_self]
      exact hdc k i q2 (p7 k i q2)
    · rw [va_up_ne _ _ e]
      exact (p4 l' q1).1 k i q2
  · by_cases e : l' = l
    · subst e
      rw [va_up_self, va_up_ne _ _ q3] at q4
      exact absurd q4 (hDl l'' q2 q3)
    · rw [va_up_ne _ _ e] at q4 ⊢
      by_cases e2 : l'' = l
      · subst e2
        rw [va_up_self] at q4
        exact absurd q4.symm (hDl l' q1 e)
      · rw [va_up_ne _ _ e2] at q4
        exact (p4 l' q1).2 l'' q2 q3 q4
  · rw [hf _ (Ne.symm (p6 _ _ hl.2)) (Ne.symm hd0), p5]
  · by_cases z : A k i = A (cl_obj l).1 (cl_obj l).2
    · rw [z]
      obtain ⟨m, e, -⟩ := ha
      rw [e]
      exact fun q => nomatch q
    · rw [hf _ z (hdc k i q1 (p7 k i q1))]
      exact p7 k i q1
/-- what a list may hold -/
theorem cl_elo {X : XC} {f : XH} {A : Nat → Nat → Nat} {DA : Nat → Nat} {v : Nat → Nat → Int} {L : Nat → List Nat} (h : PC X f A DA v L) {l e : Nat} (he : cc_live v L (cl_el l) e) : (al_el f (A (cl_el l) e) ∧ x_elo f (.ref (A (cl_el l) e))) ∧ ∀ k i, cl_obj l = (k, i) → cl_live v L l → A (cl_el l) e ≠ A k i := by
  have hk : cl_el l = 11 ∨ cl_el l = 1 ∨ cl_el l = 5 := by
    unfold cl_el
    split
    · exact Or.inl rfl
    · split
      · exact Or.inr (Or.inl rfl)
      · exact Or.inr (Or.inr rfl)
  have hx : ∃ ci fs, f (A (cl_el l) e) = some (.inl (ci, fs)) ∧ (ci = 4 ∨ ci = 6 ∨ ci = 7 ∨ ci = 8 ∨ ci = 9) := by
    rcases hk with hk | hk | hk <;> rw [hk] at he ⊢
    · exact ⟨_, _, h.c 11 e (if_pos he), by decide⟩
    · exact ⟨_, _, h.c 1 e (if_pos he), by decide⟩
    · rcases he with he | he | he
      · exact ⟨_, _, h.c 5 e (if_pos he), by decide⟩
      · exact ⟨_, _, h.c 5 e ((if_neg (by omega)).trans (if_pos he)), by decide⟩
      · exact ⟨_, _, h.c 5 e ((if_neg (by omega)).trans ((if_neg (by omega)).trans (if_pos he))), by decide⟩
  obtain ⟨ci, fs, e1, e2⟩ := hx
  refine ⟨⟨⟨ci, fs, e1, ?_⟩, Or.inr ⟨_, ci, fs, rfl, e1, ?_⟩⟩, fun k i ho hl z => ?_⟩
  · rcases e2 with rfl | rfl | rfl | rfl | rfl <;> decide
  · rcases e2 with rfl | rfl | rfl | rfl | rfl <;> decide
  · obtain ⟨q1, q2⟩ := h.2.2.1 _ _ _ _ he (by have := hl.2; rw [ho] at this; exact this) z
    have := cl_obj_k hl.1
    rw [ho] at this
    simp only at this
    omega
theorem x_wk {X : XC} {y : Nat} {av : List Value} {f : XH} {fr lo mc ms : Nat} {Q Q' : Option Value → XH → Prop} (h : Holds X y av f fr lo mc ms Q) (hq : ∀ r f', Q r f' → Q' r f') : Holds X y av f fr lo mc ms Q' := by
  intro p e ha hc hk s m args below hf happ hP hK
  obtain ⟨n, o, h1, h2, h3, ⟨⟨r, f', h4, h5, h6⟩, h7⟩, h8⟩ := h p e ha hc hk s m args below hf happ hP hK
  exact ⟨n, o, h1, h2, h3, ⟨⟨r, f', h4, hq r f' h5, h6⟩, h7⟩, h8⟩
theorem a_wk {X : XC} {y : Nat} {av : List AV} {v : SV} {L : SL} {fr lo mc ms : Nat} {Q Q' : AQ} (h : AHolds X y av v L fr lo mc ms Q) (hq : ∀ r v' L', Q r v' L' → Q' r v' L') : AHolds X y av v L fr lo mc ms Q' :=
  fun f A DA hP => x_wk (h f A DA hP) (fun r f' q => by obtain ⟨ra, v', L', DA', q1, q2, q3⟩ := q; exact ⟨ra, v', L', DA', q1, q2, hq _ _ _ q3⟩)
/-- the values of a picture are small -/
theorem a_sm {X : XC} {y : Nat} {av : List AV} {v : SV} {L : SL} {fr lo mc ms : Nat} {Q : AQ} (h : (∀ c i, iS (v c i)) → AHolds X y av v L fr lo mc ms Q) : AHolds X y av v L fr lo mc ms Q := fun f A DA hP => h hP.2 f A DA hP
theorem a_AL_size {X : XC} {v : SV} {L : SL} {l k i : Nat} (hl : cl_live v L l) (ho : cl_obj l = (k, i)) : AHolds X y_ArrayList_size [aR k i] v L 0 0 0 0 (fun r v' L' => r = some (aI (L l).length) ∧ v = v' ∧ L = L') := by
  intro f A DA hP
  have h := hP.1.2.1 l hl
  rw [ho] at h
  refine x_wk (c_AL_size' h) ?_
  rintro r f' ⟨rfl, rfl⟩
  exact ⟨some (aI (L l).length), v, L, DA, by rw [← iI_n]; rfl, hP, rfl, rfl, rfl⟩
theorem a_AL_isEmpty {X : XC} {v : SV} {L : SL} {l k i : Nat} (hl : cl_live v L l) (ho : cl_obj l = (k, i)) (hn : (L l).length < 1000) : AHolds X y_ArrayList_isEmpty [aR k i] v L 0 0 0 0 (fun r v' L' => r = some (aI (if (L l).length = 0 then 1 else 0)) ∧ v = v' ∧ L = L') := by
  intro f A DA hP
  have h := hP.1.2.1 l hl
  rw [ho] at h
  obtain ⟨m, h1, -⟩ := h
  refine x_wk (c_AL_isEmpty h1) ?_
  rintro r f' ⟨rfl, rfl⟩
  refine ⟨some (aI (if (L l).length = 0 then 1 else 0)), v, L, DA, ?_, hP, rfl, rfl, rfl⟩
  by_cases e : (L l).length = 0
  · rw [if_pos e, e]; rfl
  · rw [if_neg e, if_neg]
    · rfl
    · intro z
      rw [← iI_n, show (0 : Int32) = iI 0 from rfl, iI_eq ⟨by omega, by omega⟩ ⟨by omega, by omega⟩] at z
      omega
theorem a_AL_get {X : XC} {v : SV} {L : SL} {l k i : Nat} {z : Int} (hl : cl_live v L l) (ho : cl_obj l = (k, i)) (h0 : 0 ≤ z) (hz : z < (L l).length) : AHolds X y_ArrayList_get [aR k i, aI z] v L 2 43 0 0 (fun r v' L' => r = some (aR (cl_el l) ((L l).getD z.toNat 0)) ∧ v = v' ∧ L = L') := by
  intro f A DA hP
  have h := hP.1.2.1 l hl
  rw [ho] at h
  have h2 := c_AL_get (i := z.toNat) h (by omega)
  rw [← iI_nat h0] at h2
  refine x_wk h2 ?_
  rintro r f' ⟨rfl, rfl⟩
  exact ⟨some (aR (cl_el l) ((L l).getD z.toNat 0)), v, L, DA, rfl, hP, rfl, rfl, rfl⟩
theorem a_AL_add {X : XC} {v : SV} {L : SL} {l k i e : Nat} (hl : cl_live v L l) (ho : cl_obj l = (k, i)) (h1 : l ≠ 1) (hn : (L l).length ≤ 40) (hel : ∀ j, j < (L l).length → cc_live v L (cl_el l) ((L l).getD j 0)) (he : cc_live v L (cl_el l) e) : AHolds X y_ArrayList_add [aR k i, aR (cl_el l) e] v L 6 200 1 90 (fun r v' L' => r = some (aI 1) ∧ v = v' ∧ L' = (upL L l (L l ++ [e]))) := by
  intro f A DA hP
  have h := hP.1.2.1 l hl
  have ho' : (cl_obj l).1 = k ∧ (cl_obj l).2 = i := by rw [ho]; exact ⟨rfl, rfl⟩
  refine x_wk (c_AL_add (X := X) (f := f) (a := A k i) (d := DA l) (e := A (cl_el l) e) (n := (L l).length) (g := fun j => A (cl_el l) ((L l).getD j 0)) ?_ hn (fun j hj => (cl_elo hP.1 (hel j hj)).1) (cl_elo hP.1 he).1.1 ((cl_elo hP.1 he).2 k i ho hl) (fun j hj => (cl_elo hP.1 (hel j hj)).2 k i ho hl)) ?_
  · rw [ho'.1, ho'.2] at h; exact h
  rintro r f' ⟨rfl, d', hd, ha, hf⟩
  refine ⟨some (aI 1), v, (upL L l (L l ++ [e])), va_up DA l d', rfl, ⟨?_, hP.2⟩, rfl, rfl, rfl⟩
  refine hP.1.lst hl h1 ?_ ?_ ?_
  · rcases hd with ⟨q1, q2⟩ | q
    · exact Or.inl ⟨q1, q1 ▸ q2⟩
    · exact Or.inr q
  · rw [ho'.1, ho'.2]
    refine al_eqg ha (by rw [List.length_append]; rfl) (fun j hj => ?_)
    by_cases hjn : j = (L l).length
    · subst hjn
      rw [va_up_self, List.getD_eq_getElem?_getD, List.getElem?_append_right (by omega)]
      simp
    · rw [va_up_ne _ _ hjn, List.getD_eq_getElem?_getD, List.getD_eq_getElem?_getD, List.getElem?_append_left (by omega)]
  · rw [ho'.1, ho'.2]; exact hf
theorem a_AL_remove {X : XC} {v : SV} {L : SL} {l k i : Nat} {z : Int} (hl : cl_live v L l) (ho : cl_obj l = (k, i)) (h1 : l ≠ 1) (h0 : 0 ≤ z) (hz : z < (L l).length) (hel : ∀ j, j < (L l).length → cc_live v L (cl_el l) ((L l).getD j 0)) : AHolds X y_ArrayList_remove [aR k i, aI z] v L 2 100 0 0 (fun r v' L' => r = some (aR (cl_el l) ((L l).getD z.toNat 0)) ∧ v = v' ∧ L' = (upL L l ((L l).eraseIdx z.toNat))) := by
  intro f A DA hP
  have h := hP.1.2.1 l hl
  have ho' : (cl_obj l).1 = k ∧ (cl_obj l).2 = i := by rw [ho]; exact ⟨rfl, rfl⟩
  have h2 := c_AL_remove (X := X) (f := f) (a := A k i) (d := DA l) (n := (L l).length) (g := fun j => A (cl_el l) ((L l).getD j 0)) (i := z.toNat) (by rw [ho'.1, ho'.2] at h; exact h) (by omega) (fun j hj => (cl_elo hP.1 (hel j hj)).1.2) (fun j hj => (cl_elo hP.1 (hel j hj)).2 k i ho hl)
  rw [← iI_nat h0] at h2
  refine x_wk h2 ?_
  rintro r f' ⟨rfl, ha, hf⟩
  refine ⟨some (aR (cl_el l) ((L l).getD z.toNat 0)), v, (upL L l ((L l).eraseIdx z.toNat)), va_up DA l (DA l), rfl, ⟨?_, hP.2⟩, rfl, rfl, rfl⟩
  refine hP.1.lst hl h1 (Or.inl ⟨rfl, ?_⟩) ?_ ?_
  · obtain ⟨m, -, ⟨-, e, -⟩ | ⟨cap, G, e, -⟩⟩ := h
    · omega
    · exact ⟨cap, G, e⟩
  · rw [ho'.1, ho'.2]
    have hlen : ((L l).eraseIdx z.toNat).length = (L l).length - 1 := by rw [List.length_eraseIdx, if_pos (by omega)]
    refine al_eqg ha hlen.symm (fun j hj => ?_)
    simp only [List.getD_eq_getElem?_getD, List.getElem?_eraseIdx]
    by_cases hjz : j < z.toNat
    · rw [if_pos hjz, if_pos hjz]
    · rw [if_neg hjz, if_neg hjz]
  · rw [ho'.1, ho'.2]; exact hf
theorem cl6 {t : Nat} (ht : t < 32) : cl_obj (100 + t) = (6, t) ∧ cl_el (100 + t) = 1 := by
  unfold cl_obj cl_el
  rw [if_neg (by omega), if_neg (by omega), if_pos (by omega), if_neg (by omega), if_pos (by omega), Nat.add_sub_cancel_left]
  exact ⟨rfl, rfl⟩
theorem cl8 {t : Nat} (ht : t < 32) : cl_obj (200 + t) = (8, t) ∧ cl_el (200 + t) = 5 := by
  unfold cl_obj cl_el
  rw [if_neg (by omega), if_neg (by omega), if_neg (by omega), if_pos (by omega), if_neg (by omega), if_neg (by omega), Nat.add_sub_cancel_left]
  exact ⟨rfl, rfl⟩
theorem cl10 {t : Nat} (ht : t < 8) : cl_obj (300 + t) = (10, t) ∧ cl_el (300 + t) = 5 := by
  unfold cl_obj cl_el
  rw [if_neg (by omega), if_neg (by omega), if_neg (by omega), if_neg (by omega), if_neg (by omega), if_neg (by omega), Nat.add_sub_cancel_left]
  exact ⟨rfl, rfl⟩
theorem ll0 {v : Nat → Nat → Int} {L : Nat → List Nat} : cl_live v L 0 := ⟨Or.inl rfl, (by decide : (9 : Nat) ≤ 10)⟩
theorem ll1 {v : Nat → Nat → Int} {L : Nat → List Nat} : cl_live v L 1 := ⟨Or.inr (Or.inl rfl), (by decide : (10 : Nat) ≤ 10)⟩
theorem ll6 {v : Nat → Nat → Int} {L : Nat → List Nat} {t : Nat} (ht : t < 32) (h : a_live5 v t) : cl_live v L (100 + t) := ⟨Or.inr (Or.inr (Or.inl (by omega))), by rw [(cl6 ht).1]; exact h⟩
theorem ll8 {v : Nat → Nat → Int} {L : Nat → List Nat} {t : Nat} (ht : t < 32) (h : v 20 t = 2) : cl_live v L (200 + t) := ⟨Or.inr (Or.inr (Or.inr (Or.inl (by omega)))), by rw [(cl8 ht).1]; exact h⟩
theorem ll10 {v : Nat → Nat → Int} {L : Nat → List Nat} {t : Nat} (ht : t < 8) (h : v 40 t = 1) : cl_live v L (300 + t) := ⟨Or.inr (Or.inr (Or.inr (Or.inr (by omega)))), by rw [(cl10 ht).1]; exact h⟩
end
section
/-! The class's methods as contracts over the picture: the small ones. -/
section
variable {X : XC} {v : SV} {L : SL}
theorem a_ci {fr lo mc ms y nc ns fr' lo' mc' ms' : Nat} {av : List AV} {k : Option AV → SV → SL → Nat → Nat → Prop} {Q : AQ} (h1 : AHolds X y av v L fr' lo' mc' ms' Q) (h2 : fr' + 1 ≤ fr ∧ 8 + ((x_mt y).2.2.1 + 11) + lo' ≤ lo ∧ nc + mc' ≤ mc ∧ ns + ms' ≤ ms) (h3 : ∀ r v' L', Q r v' L' → k r v' L' (nc + mc') (ns + ms')) : a_call X fr lo mc ms y av v L nc ns k := ⟨fr', lo', mc', ms', Q, h1, h2, h3⟩
theorem b63 (x : Int) : 0 ≤ bAnd x 63 ∧ bAnd x 63 < 64 := by
  unfold bAnd
  have h : (iI x &&& iI 63).toInt = ((iI x).toBitVec &&& 63#32).toInt := rfl
  have h1 : ((iI x).toBitVec &&& 63#32).toNat ≤ 63 := by
    rw [BitVec.toNat_and]
    exact Nat.and_le_right
  rw [h, BitVec.toInt_eq_toNat_of_lt (by omega)]
  omega
theorem c_Task_isWaiting {k : Nat} (hk : k < (L 1).length) : AHolds X y_Task_isWaiting [aR 11 k] v L 0 0 0 0 (fun r v' L' => r = some (aI (if v 53 k = 1 then 1 else 0)) ∧ v = v' ∧ L = L') := by
  refine a_sm fun hS => ?_
  refine a_met ok_Task_isWaiting (by decide +kernel) (Nat.le_of_ble_eq_true rfl) fun go st => ?_
  repeat' first | (refine a_si ?sd ?_; case sd => (first | (first | assumption | exact hS _ _ | omega | (constructor <;> omega)) | (refine ⟨?_, ?_⟩ <;> (first | assumption | exact hS _ _ | omega | (constructor <;> omega))) | (refine ⟨?_, ?_, ?_⟩ <;> (first | assumption | exact hS _ _ | omega | (constructor <;> omega))) | (refine ⟨?_, ?_, ?_, ?_⟩ <;> (first | assumption | exact hS _ _ | omega | (constructor <;> omega))) | (refine ⟨⟨?_, ?_⟩, ?_, ?_⟩ <;> (first | assumption | exact hS _ _ | omega | (constructor <;> omega))) | decide | (simp only [up2, a_live5, not_true_eq_false, not_false_eq_true, Nat.reduceEqDiff, false_and, true_and, and_true, and_false, and_self, if_true, if_false, ↓reduceIte, reduceCtorEq]; first | (first | assumption | exact hS _ _ | omega | (constructor <;> omega)) | (refine ⟨?_, ?_⟩ <;> (first | assumption | exact hS _ _ | omega | (constructor <;> omega))) | (refine ⟨?_, ?_, ?_⟩ <;> (first | assumption | exact hS _ _ | omega | (constructor <;> omega))) | (refine ⟨?_, ?_, ?_, ?_⟩ <;> (first | assumption | exact hS _ _ | omega | (constructor <;> omega))) | (refine ⟨⟨?_, ?_⟩, ?_, ?_⟩ <;> (first | assumption | exact hS _ _ | omega | (constructor <;> omega))) | decide))) | (refine And.intro ?_ ?_ <;> (intro hc; (try simp only [up2, a_live5, not_true_eq_false, not_false_eq_true, Nat.reduceEqDiff, false_and, true_and, and_true, and_false, and_self, if_true, if_false, ↓reduceIte, reduceCtorEq] at hc); try (exfalso; first | assumption | omega))) | (refine x_som_i ?sd ?_; case sd => assumption) | (refine a_wo ?sd ?_; case sd => (first | exact hS _ _ | assumption | (constructor <;> omega) | (simp only [up2, a_live5, not_true_eq_false, not_false_eq_true, Nat.reduceEqDiff, false_and, true_and, and_true, and_false, and_self, if_true, if_false, ↓reduceIte, reduceCtorEq]; first | exact hS _ _ | assumption | (constructor <;> omega)))) | (refine st 0 _ _ _ _ _ _ _ rfl ?_) | (refine st 12 _ _ _ _ _ _ _ rfl ?_) | (refine st 13 _ _ _ _ _ _ _ rfl ?_)
  · exact ⟨by rw [if_neg (by assumption)], rfl, rfl⟩
  · exact ⟨by rw [if_pos (by assumption)], rfl, rfl⟩
def m_note (v : SV) (k w i : Int) : SV := up2 (up2 v 6 (bAnd (v 4 0) 63).toNat (wr (k + 16 * w + 256 * i))) 4 0 (wr (v 4 0 + 1))
theorem c_note (k w i : Int) : AHolds X y_Journal_note [aR 0 1, aI k, aI w, aI i] v L 0 0 0 0 (fun r v' L' => r = none ∧ v' = m_note v k w i ∧ L = L') := by
  have h63 := b63 (v 4 0)
  refine a_sm fun hS => ?_
  refine a_met ok_Journal_note (by decide +kernel) (Nat.le_of_ble_eq_true rfl) fun go st => ?_
  repeat' first | (refine a_si ?sd ?_; case sd => (first | (first | assumption | exact hS _ _ | omega | (constructor <;> omega)) | (refine ⟨?_, ?_⟩ <;> (first | assumption | exact hS _ _ | omega | (constructor <;> omega))) | (refine ⟨?_, ?_, ?_⟩ <;> (first | assumption | exact hS _ _ | omega | (constructor <;> omega))) | (refine ⟨?_, ?_, ?_, ?_⟩ <;> (first | assumption | exact hS _ _ | omega | (constructor <;> omega))) | (refine ⟨⟨?_, ?_⟩, ?_, ?_⟩ <;> (first | assumption | exact hS _ _ | omega | (constructor <;> omega))) | decide | (simp only [up2, a_live5, not_true_eq_false, not_false_eq_true, Nat.reduceEqDiff, false_and, true_and, and_true, and_false, and_self, if_true, if_false, ↓reduceIte, reduceCtorEq]; first | (first | assumption | exact hS _ _ | omega | (constructor <;> omega)) | (refine ⟨?_, ?_⟩ <;> (first | assumption | exact hS _ _ | omega | (constructor <;> omega))) | (refine ⟨?_, ?_, ?_⟩ <;> (first | assumption | exact hS _ _ | omega | (constructor <;> omega))) | (refine ⟨?_, ?_, ?_, ?_⟩ <;> (first | assumption | exact hS _ _ | omega | (constructor <;> omega))) | (refine ⟨⟨?_, ?_⟩, ?_, ?_⟩ <;> (first | assumption | exact hS _ _ | omega | (constructor <;> omega))) | decide))) | (refine And.intro ?_ ?_ <;> (intro hc; (try simp only [up2, a_live5, not_true_eq_false, not_false_eq_true, Nat.reduceEqDiff, false_and, true_and, and_true, and_false, and_self, if_true, if_false, ↓reduceIte, reduceCtorEq] at hc); try (exfalso; first | assumption | omega))) | (refine x_som_i ?sd ?_; case sd => assumption) | (refine a_wo ?sd ?_; case sd => (first | exact hS _ _ | assumption | (constructor <;> omega) | (simp only [up2, a_live5, not_true_eq_false, not_false_eq_true, Nat.reduceEqDiff, false_and, true_and, and_true, and_false, and_self, if_true, if_false, ↓reduceIte, reduceCtorEq]; first | exact hS _ _ | assumption | (constructor <;> omega)))) | (refine st 0 _ _ _ _ _ _ _ rfl ?_)
  refine a_wr ?_
  repeat' first | (refine a_si ?sd ?_; case sd => (first | (first | assumption | exact hS _ _ | omega | (constructor <;> omega)) | (refine ⟨?_, ?_⟩ <;> (first | assumption | exact hS _ _ | omega | (constructor <;> omega))) | (refine ⟨?_, ?_, ?_⟩ <;> (first | assumption | exact hS _ _ | omega | (constructor <;> omega))) | (refine ⟨?_, ?_, ?_, ?_⟩ <;> (first | assumption | exact hS _ _ | omega | (constructor <;> omega))) | (refine ⟨⟨?_, ?_⟩, ?_, ?_⟩ <;> (first | assumption | exact hS _ _ | omega | (constructor <;> omega))) | decide | (simp only [up2, a_live5, not_true_eq_false, not_false_eq_true, Nat.reduceEqDiff, false_and, true_and, and_true, and_false, and_self, if_true, if_false, ↓reduceIte, reduceCtorEq]; first | (first | assumption | exact hS _ _ | omega | (constructor <;> omega)) | (refine ⟨?_, ?_⟩ <;> (first | assumption | exact hS _ _ | omega | (constructor <;> omega))) | (refine ⟨?_, ?_, ?_⟩ <;> (first | assumption | exact hS _ _ | omega | (constructor <;> omega))) | (refine ⟨?_, ?_, ?_, ?_⟩ <;> (first | assumption | exact hS _ _ | omega | (constructor <;> omega))) | (refine ⟨⟨?_, ?_⟩, ?_, ?_⟩ <;> (first | assumption | exact hS _ _ | omega | (constructor <;> omega))) | decide))) | (refine And.intro ?_ ?_ <;> (intro hc; (try simp only [up2, a_live5, not_true_eq_false, not_false_eq_true, Nat.reduceEqDiff, false_and, true_and, and_true, and_false, and_self, if_true, if_false, ↓reduceIte, reduceCtorEq] at hc); try (exfalso; first | assumption | omega))) | (refine x_som_i ?sd ?_; case sd => assumption) | (refine a_wo ?sd ?_; case sd => (first | exact hS _ _ | assumption | (constructor <;> omega) | (simp only [up2, a_live5, not_true_eq_false, not_false_eq_true, Nat.reduceEqDiff, false_and, true_and, and_true, and_false, and_self, if_true, if_false, ↓reduceIte, reduceCtorEq]; first | exact hS _ _ | assumption | (constructor <;> omega)))) | (refine st 0 _ _ _ _ _ _ _ rfl ?_)
  refine a_wr ?_
  repeat' first | (refine a_si ?sd ?_; case sd => (first | (first | assumption | exact hS _ _ | omega | (constructor <;> omega)) | (refine ⟨?_, ?_⟩ <;> (first | assumption | exact hS _ _ | omega | (constructor <;> omega))) | (refine ⟨?_, ?_, ?_⟩ <;> (first | assumption | exact hS _ _ | omega | (constructor <;> omega))) | (refine ⟨?_, ?_, ?_, ?_⟩ <;> (first | assumption | exact hS _ _ | omega | (constructor <;> omega))) | (refine ⟨⟨?_, ?_⟩, ?_, ?_⟩ <;> (first | assumption | exact hS _ _ | omega | (constructor <;> omega))) | decide | (simp only [up2, a_live5, not_true_eq_false, not_false_eq_true, Nat.reduceEqDiff, false_and, true_and, and_true, and_false, and_self, if_true, if_false, ↓reduceIte, reduceCtorEq]; first | (first | assumption | exact hS _ _ | omega | (constructor <;> omega)) | (refine ⟨?_, ?_⟩ <;> (first | assumption | exact hS _ _ | omega | (constructor <;> omega))) | (refine ⟨?_, ?_, ?_⟩ <;> (first | assumption | exact hS _ _ | omega | (constructor <;> omega))) | (refine ⟨?_, ?_, ?_, ?_⟩ <;> (first | assumption | exact hS _ _ | omega | (constructor <;> omega))) | (refine ⟨⟨?_, ?_⟩, ?_, ?_⟩ <;> (first | assumption | exact hS _ _ | omega | (constructor <;> omega))) | decide))) | (refine And.intro ?_ ?_ <;> (intro hc; (try simp only [up2, a_live5, not_true_eq_false, not_false_eq_true, Nat.reduceEqDiff, false_and, true_and, and_true, and_false, and_self, if_true, if_false, ↓reduceIte, reduceCtorEq] at hc); try (exfalso; first | assumption | omega))) | (refine x_som_i ?sd ?_; case sd => assumption) | (refine a_wo ?sd ?_; case sd => (first | exact hS _ _ | assumption | (constructor <;> omega) | (simp only [up2, a_live5, not_true_eq_false, not_false_eq_true, Nat.reduceEqDiff, false_and, true_and, and_true, and_false, and_self, if_true, if_false, ↓reduceIte, reduceCtorEq]; first | exact hS _ _ | assumption | (constructor <;> omega)))) | (refine st 0 _ _ _ _ _ _ _ rfl ?_)
  exact ⟨rfl, rfl, rfl⟩
def m_gets (v : SV) (i : Nat) (r : Int) : SV := if v 15 i < 0 ∨ v 10 i ≠ 0 then up2 v 14 i r else up2 (up2 (up2 (up2 v 14 i r) 53 (v 15 i).toNat 4) 55 (v 15 i).toNat r) 15 i (-1)
theorem c_endWith {k : Nat} (r : Int) (hk : k < (L 1).length) (hr : iS r) : AHolds X y_Task_endWith [aR 11 k, aI r] v L 0 0 0 0 (fun q v' L' => q = none ∧ v' = up2 (up2 v 53 k 4) 55 k r ∧ L = L') := by
  refine a_sm fun hS => ?_
  refine a_met ok_Task_endWith (by decide +kernel) (Nat.le_of_ble_eq_true rfl) fun go st => ?_
  repeat' first | (refine a_si ?sd ?_; case sd => (first | (first | assumption | exact hS _ _ | omega | (constructor <;> omega)) | (refine ⟨?_, ?_⟩ <;> (first | assumption | exact hS _ _ | omega | (constructor <;> omega))) | (refine ⟨?_, ?_, ?_⟩ <;> (first | assumption | exact hS _ _ | omega | (constructor <;> omega))) | (refine ⟨?_, ?_, ?_, ?_⟩ <;> (first | assumption | exact hS _ _ | omega | (constructor <;> omega))) | (refine ⟨⟨?_, ?_⟩, ?_, ?_⟩ <;> (first | assumption | exact hS _ _ | omega | (constructor <;> omega))) | decide | (simp only [up2, a_live5, not_true_eq_false, not_false_eq_true, Nat.reduceEqDiff, false_and, true_and, and_true, and_false, and_self, if_true, if_false, ↓reduceIte, reduceCtorEq]; first | (first | assumption | exact hS _ _ | omega | (constructor <;> omega)) | (refine ⟨?_, ?_⟩ <;> (first | assumption | exact hS _ _ | omega | (constructor <;> omega))) | (refine ⟨?_, ?_, ?_⟩ <;> (first | assumption | exact hS _ _ | omega | (constructor <;> omega))) | (refine ⟨?_, ?_, ?_, ?_⟩ <;> (first | assumption | exact hS _ _ | omega | (constructor <;> omega))) | (refine ⟨⟨?_, ?_⟩, ?_, ?_⟩ <;> (first | assumption | exact hS _ _ | omega | (constructor <;> omega))) | decide))) | (refine And.intro ?_ ?_ <;> (intro hc; (try simp only [up2, a_live5, not_true_eq_false, not_false_eq_true, Nat.reduceEqDiff, false_and, true_and, and_true, and_false, and_self, if_true, if_false, ↓reduceIte, reduceCtorEq] at hc); try (exfalso; first | assumption | omega))) | (refine x_som_i ?sd ?_; case sd => assumption) | (refine a_wo ?sd ?_; case sd => (first | exact hS _ _ | assumption | (constructor <;> omega) | (simp only [up2, a_live5, not_true_eq_false, not_false_eq_true, Nat.reduceEqDiff, false_and, true_and, and_true, and_false, and_self, if_true, if_false, ↓reduceIte, reduceCtorEq]; first | exact hS _ _ | assumption | (constructor <;> omega)))) | (refine st 0 _ _ _ _ _ _ _ rfl ?_)
  exact ⟨rfl, rfl, rfl⟩
theorem c_gets {i : Nat} (r : Int) (hi : i < 8) (hr : iS r) (hw : v 15 i < (L 1).length) : AHolds X y_Caller_gets [aR 1 i, aI r] v L 1 30 0 0 (fun q v' L' => q = none ∧ v' = m_gets v i r ∧ L = L') := by
  refine a_sm fun hS => ?_
  refine a_met ok_Caller_gets (by decide +kernel) (Nat.le_of_ble_eq_true rfl) fun go st => ?_
  repeat' first | (refine a_si ?sd ?_; case sd => (first | (first | assumption | exact hS _ _ | omega | (constructor <;> omega)) | (refine ⟨?_, ?_⟩ <;> (first | assumption | exact hS _ _ | omega | (constructor <;> omega))) | (refine ⟨?_, ?_, ?_⟩ <;> (first | assumption | exact hS _ _ | omega | (constructor <;> omega))) | (refine ⟨?_, ?_, ?_, ?_⟩ <;> (first | assumption | exact hS _ _ | omega | (constructor <;> omega))) | (refine ⟨⟨?_, ?_⟩, ?_, ?_⟩ <;> (first | assumption | exact hS _ _ | omega | (constructor <;> omega))) | decide | (simp only [up2, a_live5, not_true_eq_false, not_false_eq_true, Nat.reduceEqDiff, false_and, true_and, and_true, and_false, and_self, if_true, if_false, ↓reduceIte, reduceCtorEq]; first | (first | assumption | exact hS _ _ | omega | (constructor <;> omega)) | (refine ⟨?_, ?_⟩ <;> (first | assumption | exact hS _ _ | omega | (constructor <;> omega))) | (refine ⟨?_, ?_, ?_⟩ <;> (first | assumption | exact hS _ _ | omega | (constructor <;> omega))) | (refine ⟨?_, ?_, ?_, ?_⟩ <;> (first | assumption | exact hS _ _ | omega | (constructor <;> omega))) | (refine ⟨⟨?_, ?_⟩, ?_, ?_⟩ <;> (first | assumption | exact hS _ _ | omega | (constructor <;> omega))) | decide))) | (refine And.intro ?_ ?_ <;> (intro hc; (try simp only [up2, a_live5, not_true_eq_false, not_false_eq_true, Nat.reduceEqDiff, false_and, true_and, and_true, and_false, and_self, if_true, if_false, ↓reduceIte, reduceCtorEq] at hc); try (exfalso; first | assumption | omega))) | (refine x_som_i ?sd ?_; case sd => assumption) | (refine a_wo ?sd ?_; case sd => (first | exact hS _ _ | assumption | (constructor <;> omega) | (simp only [up2, a_live5, not_true_eq_false, not_false_eq_true, Nat.reduceEqDiff, false_and, true_and, and_true, and_false, and_self, if_true, if_false, ↓reduceIte, reduceCtorEq]; first | exact hS _ _ | assumption | (constructor <;> omega)))) | (refine st 0 _ _ _ _ _ _ _ rfl ?_) | (refine st 32 _ _ _ _ _ _ _ rfl ?_)
  · exact ⟨rfl, by rw [m_gets, if_pos (by omega)], rfl⟩
  · exact ⟨rfl, by rw [m_gets, if_pos (by omega)], rfl⟩
  · refine a_ci (c_endWith r ?a1 hr) ?room ?_
    case room => first | decide | exact ⟨by decide, by decide, by omega, by omega⟩
    case a1 => (first | (first | assumption | exact hS _ _ | omega | (constructor <;> omega)) | (refine ⟨?_, ?_⟩ <;> (first | assumption | exact hS _ _ | omega | (constructor <;> omega))) | (refine ⟨?_, ?_, ?_⟩ <;> (first | assumption | exact hS _ _ | omega | (constructor <;> omega))) | (refine ⟨?_, ?_, ?_, ?_⟩ <;> (first | assumption | exact hS _ _ | omega | (constructor <;> omega))) | (refine ⟨⟨?_, ?_⟩, ?_, ?_⟩ <;> (first | assumption | exact hS _ _ | omega | (constructor <;> omega))) | decide | (simp only [up2, a_live5, not_true_eq_false, not_false_eq_true, Nat.reduceEqDiff, false_and, true_and, and_true, and_false, and_self, if_true, if_false, ↓reduceIte, reduceCtorEq]; first | (first | assumption | exact hS _ _ | omega | (constructor <;> omega)) | (refine ⟨?_, ?_⟩ <;> (first | assumption | exact hS _ _ | omega | (constructor <;> omega))) | (refine ⟨?_, ?_, ?_⟩ <;> (first | assumption | exact hS _ _ | omega | (constructor <;> omega))) | (refine ⟨?_, ?_, ?_, ?_⟩ <;> (first | assumption | exact hS _ _ | omega | (constructor <;> omega))) | (refine ⟨⟨?_, ?_⟩, ?_, ?_⟩ <;> (first | assumption | exact hS _ _ | omega | (constructor <;> omega))) | decide))
    rintro _ _ _ ⟨rfl, rfl, rfl⟩
    repeat' first | (refine a_si ?sd ?_; case sd => (first | (first | assumption | exact hS _ _ | omega | (constructor <;> omega)) | (refine ⟨?_, ?_⟩ <;> (first | assumption | exact hS _ _ | omega | (constructor <;> omega))) | (refine ⟨?_, ?_, ?_⟩ <;> (first | assumption | exact hS _ _ | omega | (constructor <;> omega))) | (refine ⟨?_, ?_, ?_, ?_⟩ <;> (first | assumption | exact hS _ _ | omega | (constructor <;> omega))) | (refine ⟨⟨?_, ?_⟩, ?_, ?_⟩ <;> (first | assumption | exact hS _ _ | omega | (constructor <;> omega))) | decide | (simp only [up2, a_live5, not_true_eq_false, not_false_eq_true, Nat.reduceEqDiff, false_and, true_and, and_true, and_false, and_self, if_true, if_false, ↓reduceIte, reduceCtorEq]; first | (first | assumption | exact hS _ _ | omega | (constructor <;> omega)) | (refine ⟨?_, ?_⟩ <;> (first | assumption | exact hS _ _ | omega | (constructor <;> omega))) | (refine ⟨?_, ?_, ?_⟩ <;> (first | assumption | exact hS _ _ | omega | (constructor <;> omega))) | (refine ⟨?_, ?_, ?_, ?_⟩ <;> (first | assumption | exact hS _ _ | omega | (constructor <;> omega))) | (refine ⟨⟨?_, ?_⟩, ?_, ?_⟩ <;> (first | assumption | exact hS _ _ | omega | (constructor <;> omega))) | decide))) | (refine And.intro ?_ ?_ <;> (intro hc; (try simp only [up2, a_live5, not_true_eq_false, not_false_eq_true, Nat.reduceEqDiff, false_and, true_and, and_true, and_false, and_self, if_true, if_false, ↓reduceIte, reduceCtorEq] at hc); try (exfalso; first | assumption | omega))) | (refine x_som_i ?sd ?_; case sd => assumption) | (refine a_wo ?sd ?_; case sd => (first | exact hS _ _ | assumption | (constructor <;> omega) | (simp only [up2, a_live5, not_true_eq_false, not_false_eq_true, Nat.reduceEqDiff, false_and, true_and, and_true, and_false, and_self, if_true, if_false, ↓reduceIte, reduceCtorEq]; first | exact hS _ _ | assumption | (constructor <;> omega)))) | (refine st 32 _ _ _ _ _ _ _ rfl ?_)
    exact ⟨rfl, by rw [m_gets, if_neg (by omega)]; rfl, rfl⟩
theorem c_newInstance : AHolds X y_Journal_newInstance [aR 0 1] v L 1 30 0 0 (fun r v' L' => r = some (aI (v 5 0)) ∧ v' = m_note (up2 v 5 0 (wr (v 5 0 + 1))) 1 0 (v 5 0) ∧ L = L') := by
  refine a_sm fun hS => ?_
  refine a_met ok_Journal_newInstance (by decide +kernel) (Nat.le_of_ble_eq_true rfl) fun go st => ?_
  repeat' first | (refine a_si ?sd ?_; case sd => (first | (first | assumption | exact hS _ _ | omega | (constructor <;> omega)) | (refine ⟨?_, ?_⟩ <;> (first | assumption | exact hS _ _ | omega | (constructor <;> omega))) | (refine ⟨?_, ?_, ?_⟩ <;> (first | assumption | exact hS _ _ | omega | (constructor <;> omega))) | (refine ⟨?_, ?_, ?_, ?_⟩ <;> (first | assumption | exact hS _ _ | omega | (constructor <;> omega))) | (refine ⟨⟨?_, ?_⟩, ?_, ?_⟩ <;> (first | assumption | exact hS _ _ | omega | (constructor <;> omega))) | decide | (simp only [up2, a_live5, not_true_eq_false, not_false_eq_true, Nat.reduceEqDiff, false_and, true_and, and_true, and_false, and_self, if_true, if_false, ↓reduceIte, reduceCtorEq]; first | (first | assumption | exact hS _ _ | omega | (constructor <;> omega)) | (refine ⟨?_, ?_⟩ <;> (first | assumption | exact hS _ _ | omega | (constructor <;> omega))) | (refine ⟨?_, ?_, ?_⟩ <;> (first | assumption | exact hS _ _ | omega | (constructor <;> omega))) | (refine ⟨?_, ?_, ?_, ?_⟩ <;> (first | assumption | exact hS _ _ | omega | (constructor <;> omega))) | (refine ⟨⟨?_, ?_⟩, ?_, ?_⟩ <;> (first | assumption | exact hS _ _ | omega | (constructor <;> omega))) | decide))) | (refine And.intro ?_ ?_ <;> (intro hc; (try simp only [up2, a_live5, not_true_eq_false, not_false_eq_true, Nat.reduceEqDiff, false_and, true_and, and_true, and_false, and_self, if_true, if_false, ↓reduceIte, reduceCtorEq] at hc); try (exfalso; first | assumption | omega))) | (refine x_som_i ?sd ?_; case sd => assumption) | (refine a_wo ?sd ?_; case sd => (first | exact hS _ _ | assumption | (constructor <;> omega) | (simp only [up2, a_live5, not_true_eq_false, not_false_eq_true, Nat.reduceEqDiff, false_and, true_and, and_true, and_false, and_self, if_true, if_false, ↓reduceIte, reduceCtorEq]; first | exact hS _ _ | assumption | (constructor <;> omega)))) | (refine st 0 _ _ _ _ _ _ _ rfl ?_)
  refine a_wr ?_
  repeat' first | (refine a_si ?sd ?_; case sd => (first | (first | assumption | exact hS _ _ | omega | (constructor <;> omega)) | (refine ⟨?_, ?_⟩ <;> (first | assumption | exact hS _ _ | omega | (constructor <;> omega))) | (refine ⟨?_, ?_, ?_⟩ <;> (first | assumption | exact hS _ _ | omega | (constructor <;> omega))) | (refine ⟨?_, ?_, ?_, ?_⟩ <;> (first | assumption | exact hS _ _ | omega | (constructor <;> omega))) | (refine ⟨⟨?_, ?_⟩, ?_, ?_⟩ <;> (first | assumption | exact hS _ _ | omega | (constructor <;> omega))) | decide | (simp only [up2, a_live5, not_true_eq_false, not_false_eq_true, Nat.reduceEqDiff, false_and, true_and, and_true, and_false, and_self, if_true, if_false, ↓reduceIte, reduceCtorEq]; first | (first | assumption | exact hS _ _ | omega | (constructor <;> omega)) | (refine ⟨?_, ?_⟩ <;> (first | assumption | exact hS _ _ | omega | (constructor <;> omega))) | (refine ⟨?_, ?_, ?_⟩ <;> (first | assumption | exact hS _ _ | omega | (constructor <;> omega))) | (refine ⟨?_, ?_, ?_, ?_⟩ <;> (first | assumption | exact hS _ _ | omega | (constructor <;> omega))) | (refine ⟨⟨?_, ?_⟩, ?_, ?_⟩ <;> (first | assumption | exact hS _ _ | omega | (constructor <;> omega))) | decide))) | (refine And.intro ?_ ?_ <;> (intro hc; (try simp only [up2, a_live5, not_true_eq_false, not_false_eq_true, Nat.reduceEqDiff, false_and, true_and, and_true, and_false, and_self, if_true, if_false, ↓reduceIte, reduceCtorEq] at hc); try (exfalso; first | assumption | omega))) | (refine x_som_i ?sd ?_; case sd => assumption) | (refine a_wo ?sd ?_; case sd => (first | exact hS _ _ | assumption | (constructor <;> omega) | (simp only [up2, a_live5, not_true_eq_false, not_false_eq_true, Nat.reduceEqDiff, false_and, true_and, and_true, and_false, and_self, if_true, if_false, ↓reduceIte, reduceCtorEq]; first | exact hS _ _ | assumption | (constructor <;> omega)))) | (refine st 0 _ _ _ _ _ _ _ rfl ?_)
  refine a_ci (c_note 1 0 (v 5 0)) ?room ?_
  case room => first | decide | exact ⟨by decide, by decide, by omega, by omega⟩
  rintro _ _ _ ⟨rfl, rfl, rfl⟩
  repeat' first | (refine a_si ?sd ?_; case sd => (first | (first | assumption | exact hS _ _ | omega | (constructor <;> omega)) | (refine ⟨?_, ?_⟩ <;> (first | assumption | exact hS _ _ | omega | (constructor <;> omega))) | (refine ⟨?_, ?_, ?_⟩ <;> (first | assumption | exact hS _ _ | omega | (constructor <;> omega))) | (refine ⟨?_, ?_, ?_, ?_⟩ <;> (first | assumption | exact hS _ _ | omega | (constructor <;> omega))) | (refine ⟨⟨?_, ?_⟩, ?_, ?_⟩ <;> (first | assumption | exact hS _ _ | omega | (constructor <;> omega))) | decide | (simp only [up2, a_live5, not_true_eq_false, not_false_eq_true, Nat.reduceEqDiff, false_and, true_and, and_true, and_false, and_self, if_true, if_false, ↓reduceIte, reduceCtorEq]; first | (first | assumption | exact hS _ _ | omega | (constructor <;> omega)) | (refine ⟨?_, ?_⟩ <;> (first | assumption | exact hS _ _ | omega | (constructor <;> omega))) | (refine ⟨?_, ?_, ?_⟩ <;> (first | assumption | exact hS _ _ | omega | (constructor <;> omega))) | (refine ⟨?_, ?_, ?_, ?_⟩ <;> (first | assumption | exact hS _ _ | omega | (constructor <;> omega))) | (refine ⟨⟨?_, ?_⟩, ?_, ?_⟩ <;> (first | assumption | exact hS _ _ | omega | (constructor <;> omega))) | decide))) | (refine And.intro ?_ ?_ <;> (intro hc; (try simp only [up2, a_live5, not_true_eq_false, not_false_eq_true, Nat.reduceEqDiff, false_and, true_and, and_true, and_false, and_self, if_true, if_false, ↓reduceIte, reduceCtorEq] at hc); try (exfalso; first | assumption | omega))) | (refine x_som_i ?sd ?_; case sd => assumption) | (refine a_wo ?sd ?_; case sd => (first | exact hS _ _ | assumption | (constructor <;> omega) | (simp only [up2, a_live5, not_true_eq_false, not_false_eq_true, Nat.reduceEqDiff, false_and, true_and, and_true, and_false, and_self, if_true, if_false, ↓reduceIte, reduceCtorEq]; first | exact hS _ _ | assumption | (constructor <;> omega)))) | (refine st 0 _ _ _ _ _ _ _ rfl ?_)
  exact ⟨rfl, rfl, rfl⟩
theorem c_back (k : Int) (hk : iS k) (h4 : 0 ≤ v 4 0) : AHolds X y_Journal_back [aR 0 1, aI k] v L 0 0 0 0 (fun r v' L' => r = some (aI (if k < 0 ∨ 64 ≤ k ∨ v 4 0 ≤ k then -1 else v 6 (bAnd (v 4 0 - 1 - k) 63).toNat)) ∧ v = v' ∧ L = L') := by
  have h63 := b63 (v 4 0 - 1 - k)
  refine a_sm fun hS => ?_
  refine a_met ok_Journal_back (by decide +kernel) (Nat.le_of_ble_eq_true rfl) fun go st => ?_
  repeat' first | (refine a_si ?sd ?_; case sd => (first | (first | assumption | exact hS _ _ | omega | (constructor <;> omega)) | (refine ⟨?_, ?_⟩ <;> (first | assumption | exact hS _ _ | omega | (constructor <;> omega))) | (refine ⟨?_, ?_, ?_⟩ <;> (first | assumption | exact hS _ _ | omega | (constructor <;> omega))) | (refine ⟨?_, ?_, ?_, ?_⟩ <;> (first | assumption | exact hS _ _ | omega | (constructor <;> omega))) | (refine ⟨⟨?_, ?_⟩, ?_, ?_⟩ <;> (first | assumption | exact hS _ _ | omega | (constructor <;> omega))) | decide | (simp only [up2, a_live5, not_true_eq_false, not_false_eq_true, Nat.reduceEqDiff, false_and, true_and, and_true, and_false, and_self, if_true, if_false, ↓reduceIte, reduceCtorEq]; first | (first | assumption | exact hS _ _ | omega | (constructor <;> omega)) | (refine ⟨?_, ?_⟩ <;> (first | assumption | exact hS _ _ | omega | (constructor <;> omega))) | (refine ⟨?_, ?_, ?_⟩ <;> (first | assumption | exact hS _ _ | omega | (constructor <;> omega))) | (refine ⟨?_, ?_, ?_, ?_⟩ <;> (first | assumption | exact hS _ _ | omega | (constructor <;> omega))) | (refine ⟨⟨?_, ?_⟩, ?_, ?_⟩ <;> (first | assumption | exact hS _ _ | omega | (constructor <;> omega))) | decide))) | (refine And.intro ?_ ?_ <;> (intro hc; (try simp only [up2, a_live5, not_true_eq_false, not_false_eq_true, Nat.reduceEqDiff, false_and, true_and, and_true, and_false, and_self, if_true, if_false, ↓reduceIte, reduceCtorEq] at hc); try (exfalso; first | assumption | omega))) | (refine x_som_i ?sd ?_; case sd => assumption) | (refine a_wo ?sd ?_; case sd => (first | exact hS _ _ | assumption | (constructor <;> omega) | (simp only [up2, a_live5, not_true_eq_false, not_false_eq_true, Nat.reduceEqDiff, false_and, true_and, and_true, and_false, and_self, if_true, if_false, ↓reduceIte, reduceCtorEq]; first | exact hS _ _ | assumption | (constructor <;> omega)))) | (refine st 0 _ _ _ _ _ _ _ rfl ?_) | (refine st 18 _ _ _ _ _ _ _ rfl ?_) | (refine st 20 _ _ _ _ _ _ _ rfl ?_)
  · exact ⟨by rw [if_pos (by omega)], rfl, rfl⟩
  · exact ⟨by rw [if_pos (by omega)], rfl, rfl⟩
  · exact ⟨by rw [if_neg (by omega)], rfl, rfl⟩
  · exact ⟨by rw [if_pos (by omega)], rfl, rfl⟩
end
end
section
/-! The class's methods without loops. -/
section
variable {X : XC} {v : SV} {L : SL}
noncomputable def cif {α : Type} (P : Prop) (a b : α) : α := @ite α P (Classical.propDecidable P) a b
theorem cif_t {α : Type} {P : Prop} {a b : α} (h : P) : cif P a b = a := if_pos h
theorem cif_f {α : Type} {P : Prop} {a b : α} (h : ¬ P) : cif P a b = b := if_neg h
/-- one of two answers, nothing written -/
def AC (P : Prop) (x y : AV) (v : SV) (L : SL) : AQ := fun r v' L' => (P ∧ r = some x ∨ ¬ P ∧ r = some y) ∧ v = v' ∧ L = L'
theorem ac_t {P : Prop} {x y : AV} (h : P) : AC P x y v L (some x) v L := ⟨Or.inl ⟨h, rfl⟩, rfl, rfl⟩
theorem ac_f {P : Prop} {x y : AV} (h : ¬ P) : AC P x y v L (some y) v L := ⟨Or.inr ⟨h, rfl⟩, rfl, rfl⟩
theorem c_waits {i : Nat} (hi : i < 8) : AHolds X y_Caller_waits [aR 1 i] v L 0 0 0 0 (AC (0 ≤ v 11 i) (aI 1) (aI 0) v L) := by
  refine a_sm fun hS => ?_
  refine a_met ok_Caller_waits (by decide +kernel) (Nat.le_of_ble_eq_true rfl) fun go st => ?_
  repeat' first | (refine a_si ?sd ?_; case sd => (first | (first | assumption | exact hS _ _ | omega | (constructor <;> omega)) | (refine ⟨?_, ?_⟩ <;> (first | assumption | exact hS _ _ | omega | (constructor <;> omega))) | (refine ⟨?_, ?_, ?_⟩ <;> (first | assumption | exact hS _ _ | omega | (constructor <;> omega))) | (refine ⟨?_, ?_, ?_, ?_⟩ <;> (first | assumption | exact hS _ _ | omega | (constructor <;> omega))) | (refine ⟨⟨?_, ?_⟩, ?_, ?_⟩ <;> (first | assumption | exact hS _ _ | omega | (constructor <;> omega))) | decide | (simp only [up2, a_live5, not_true_eq_false, not_false_eq_true, Nat.reduceEqDiff, false_and, true_and, and_true, and_false, and_self, if_true, if_false, ↓reduceIte, reduceCtorEq]; first | (first | assumption | exact hS _ _ | omega | (constructor <;> omega)) | (refine ⟨?_, ?_⟩ <;> (first | assumption | exact hS _ _ | omega | (constructor <;> omega))) | (refine ⟨?_, ?_, ?_⟩ <;> (first | assumption | exact hS _ _ | omega | (constructor <;> omega))) | (refine ⟨?_, ?_, ?_, ?_⟩ <;> (first | assumption | exact hS _ _ | omega | (constructor <;> omega))) | (refine ⟨⟨?_, ?_⟩, ?_, ?_⟩ <;> (first | assumption | exact hS _ _ | omega | (constructor <;> omega))) | decide))) | (refine And.intro ?_ ?_ <;> (intro hc; (try simp only [up2, a_live5, not_true_eq_false, not_false_eq_true, Nat.reduceEqDiff, false_and, true_and, and_true, and_false, and_self, if_true, if_false, ↓reduceIte, reduceCtorEq] at hc); try (exfalso; first | assumption | omega))) | (refine x_som_i ?sd ?_; case sd => assumption) | (refine a_wo ?sd ?_; case sd => (first | exact hS _ _ | assumption | (constructor <;> omega) | (simp only [up2, a_live5, not_true_eq_false, not_false_eq_true, Nat.reduceEqDiff, false_and, true_and, and_true, and_false, and_self, if_true, if_false, ↓reduceIte, reduceCtorEq]; first | exact hS _ _ | assumption | (constructor <;> omega)))) | (refine st 0 _ _ _ _ _ _ _ rfl ?_) | (refine st 11 _ _ _ _ _ _ _ rfl ?_) | (refine st 12 _ _ _ _ _ _ _ rfl ?_)
  all_goals first | exact ac_t (by omega) | exact ac_f (by omega)
theorem c_mayCall {i : Nat} (hi : i < 8) : AHolds X y_Caller_mayCall [aR 1 i] v L 10 400 0 0 (AC (v 11 i < 0 ∧ v 10 i < 4 ∧ ¬ (6 ≤ i ∧ v 10 i = 0)) (aI 1) (aI 0) v L) := by
  refine a_sm fun hS => ?_
  refine a_met ok_Caller_mayCall (by decide +kernel) (Nat.le_of_ble_eq_true rfl) fun go st => ?_
  repeat' first | (refine a_si ?sd ?_; case sd => (first | (first | assumption | exact hS _ _ | omega | (constructor <;> omega)) | (refine ⟨?_, ?_⟩ <;> (first | assumption | exact hS _ _ | omega | (constructor <;> omega))) | (refine ⟨?_, ?_, ?_⟩ <;> (first | assumption | exact hS _ _ | omega | (constructor <;> omega))) | (refine ⟨?_, ?_, ?_, ?_⟩ <;> (first | assumption | exact hS _ _ | omega | (constructor <;> omega))) | (refine ⟨⟨?_, ?_⟩, ?_, ?_⟩ <;> (first | assumption | exact hS _ _ | omega | (constructor <;> omega))) | decide | (simp only [up2, a_live5, not_true_eq_false, not_false_eq_true, Nat.reduceEqDiff, false_and, true_and, and_true, and_false, and_self, if_true, if_false, ↓reduceIte, reduceCtorEq]; first | (first | assumption | exact hS _ _ | omega | (constructor <;> omega)) | (refine ⟨?_, ?_⟩ <;> (first | assumption | exact hS _ _ | omega | (constructor <;> omega))) | (refine ⟨?_, ?_, ?_⟩ <;> (first | assumption | exact hS _ _ | omega | (constructor <;> omega))) | (refine ⟨?_, ?_, ?_, ?_⟩ <;> (first | assumption | exact hS _ _ | omega | (constructor <;> omega))) | (refine ⟨⟨?_, ?_⟩, ?_, ?_⟩ <;> (first | assumption | exact hS _ _ | omega | (constructor <;> omega))) | decide))) | (refine And.intro ?_ ?_ <;> (intro hc; (try simp only [up2, a_live5, not_true_eq_false, not_false_eq_true, Nat.reduceEqDiff, false_and, true_and, and_true, and_false, and_self, if_true, if_false, ↓reduceIte, reduceCtorEq] at hc); try (exfalso; first | assumption | omega))) | (refine x_som_i ?sd ?_; case sd => assumption) | (refine a_wo ?sd ?_; case sd => (first | exact hS _ _ | assumption | (constructor <;> omega) | (simp only [up2, a_live5, not_true_eq_false, not_false_eq_true, Nat.reduceEqDiff, false_and, true_and, and_true, and_false, and_self, if_true, if_false, ↓reduceIte, reduceCtorEq]; first | exact hS _ _ | assumption | (constructor <;> omega)))) | (refine st 0 _ _ _ _ _ _ _ rfl ?_) | (refine st 20 _ _ _ _ _ _ _ rfl ?_) | (refine st 21 _ _ _ _ _ _ _ rfl ?_) | (refine st 45 _ _ _ _ _ _ _ rfl ?_) | (refine st 46 _ _ _ _ _ _ _ rfl ?_)
  all_goals (refine a_ci (c_waits hi) ?room ?_; case room => decide)
  all_goals rintro _ _ _ ⟨⟨hb, rfl⟩ | ⟨hb, rfl⟩, rfl, rfl⟩
  repeat' first | (refine a_si ?sd ?_; case sd => (first | (first | assumption | exact hS _ _ | omega | (constructor <;> omega)) | (refine ⟨?_, ?_⟩ <;> (first | assumption | exact hS _ _ | omega | (constructor <;> omega))) | (refine ⟨?_, ?_, ?_⟩ <;> (first | assumption | exact hS _ _ | omega | (constructor <;> omega))) | (refine ⟨?_, ?_, ?_, ?_⟩ <;> (first | assumption | exact hS _ _ | omega | (constructor <;> omega))) | (refine ⟨⟨?_, ?_⟩, ?_, ?_⟩ <;> (first | assumption | exact hS _ _ | omega | (constructor <;> omega))) | decide | (simp only [up2, a_live5, not_true_eq_false, not_false_eq_true, Nat.reduceEqDiff, false_and, true_and, and_true, and_false, and_self, if_true, if_false, ↓reduceIte, reduceCtorEq]; first | (first | assumption | exact hS _ _ | omega | (constructor <;> omega)) | (refine ⟨?_, ?_⟩ <;> (first | assumption | exact hS _ _ | omega | (constructor <;> omega))) | (refine ⟨?_, ?_, ?_⟩ <;> (first | assumption | exact hS _ _ | omega | (constructor <;> omega))) | (refine ⟨?_, ?_, ?_, ?_⟩ <;> (first | assumption | exact hS _ _ | omega | (constructor <;> omega))) | (refine ⟨⟨?_, ?_⟩, ?_, ?_⟩ <;> (first | assumption | exact hS _ _ | omega | (constructor <;> omega))) | decide))) | (refine And.intro ?_ ?_ <;> (intro hc; (try simp only [up2, a_live5, not_true_eq_false, not_false_eq_true, Nat.reduceEqDiff, false_and, true_and, and_true, and_false, and_self, if_true, if_false, ↓reduceIte, reduceCtorEq] at hc); try (exfalso; first | assumption | omega))) | (refine x_som_i ?sd ?_; case sd => assumption) | (refine a_wo ?sd ?_; case sd => (first | exact hS _ _ | assumption | (constructor <;> omega) | (simp only [up2, a_live5, not_true_eq_false, not_false_eq_true, Nat.reduceEqDiff, false_and, true_and, and_true, and_false, and_self, if_true, if_false, ↓reduceIte, reduceCtorEq]; first | exact hS _ _ | assumption | (constructor <;> omega)))) | (refine st 0 _ _ _ _ _ _ _ rfl ?_) | (refine st 20 _ _ _ _ _ _ _ rfl ?_) | (refine st 21 _ _ _ _ _ _ _ rfl ?_) | (refine st 45 _ _ _ _ _ _ _ rfl ?_) | (refine st 46 _ _ _ _ _ _ _ rfl ?_)
  all_goals first | exact ac_t (by omega) | exact ac_f (by omega)
theorem c_mayEnd {i : Nat} (hi : i < 8) : AHolds X y_Caller_mayEnd [aR 1 i] v L 10 400 0 0 (AC (0 < v 10 i ∧ v 11 i < 0) (aI 1) (aI 0) v L) := by
  refine a_sm fun hS => ?_
  refine a_met ok_Caller_mayEnd (by decide +kernel) (Nat.le_of_ble_eq_true rfl) fun go st => ?_
  repeat' first | (refine a_si ?sd ?_; case sd => (first | (first | assumption | exact hS _ _ | omega | (constructor <;> omega)) | (refine ⟨?_, ?_⟩ <;> (first | assumption | exact hS _ _ | omega | (constructor <;> omega))) | (refine ⟨?_, ?_, ?_⟩ <;> (first | assumption | exact hS _ _ | omega | (constructor <;> omega))) | (refine ⟨?_, ?_, ?_, ?_⟩ <;> (first | assumption | exact hS _ _ | omega | (constructor <;> omega))) | (refine ⟨⟨?_, ?_⟩, ?_, ?_⟩ <;> (first | assumption | exact hS _ _ | omega | (constructor <;> omega))) | decide | (simp only [up2, a_live5, not_true_eq_false, not_false_eq_true, Nat.reduceEqDiff, false_and, true_and, and_true, and_false, and_self, if_true, if_false, ↓reduceIte, reduceCtorEq]; first | (first | assumption | exact hS _ _ | omega | (constructor <;> omega)) | (refine ⟨?_, ?_⟩ <;> (first | assumption | exact hS _ _ | omega | (constructor <;> omega))) | (refine ⟨?_, ?_, ?_⟩ <;> (first | assumption | exact hS _ _ | omega | (constructor <;> omega))) | (refine ⟨?_, ?_, ?_, ?_⟩ <;> (first | assumption | exact hS _ _ | omega | (constructor <;> omega))) | (refine ⟨⟨?_, ?_⟩, ?_, ?_⟩ <;> (first | assumption | exact hS _ _ | omega | (constructor <;> omega))) | decide))) | (refine And.intro ?_ ?_ <;> (intro hc; (try simp only [up2, a_live5, not_true_eq_false, not_false_eq_true, Nat.reduceEqDiff, false_and, true_and, and_true, and_false, and_self, if_true, if_false, ↓reduceIte, reduceCtorEq] at hc); try (exfalso; first | assumption | omega))) | (refine x_som_i ?sd ?_; case sd => assumption) | (refine a_wo ?sd ?_; case sd => (first | exact hS _ _ | assumption | (constructor <;> omega) | (simp only [up2, a_live5, not_true_eq_false, not_false_eq_true, Nat.reduceEqDiff, false_and, true_and, and_true, and_false, and_self, if_true, if_false, ↓reduceIte, reduceCtorEq]; first | exact hS _ _ | assumption | (constructor <;> omega)))) | (refine st 0 _ _ _ _ _ _ _ rfl ?_) | (refine st 18 _ _ _ _ _ _ _ rfl ?_) | (refine st 19 _ _ _ _ _ _ _ rfl ?_)
  · exact ac_f (by omega)
  · refine a_ci (c_waits hi) ?room ?_
    case room => first | decide | exact ⟨by decide, by decide, by omega, by omega⟩
    rintro _ _ _ ⟨⟨hb, rfl⟩ | ⟨hb, rfl⟩, rfl, rfl⟩
    repeat' first | (refine a_si ?sd ?_; case sd => (first | (first | assumption | exact hS _ _ | omega | (constructor <;> omega)) | (refine ⟨?_, ?_⟩ <;> (first | assumption | exact hS _ _ | omega | (constructor <;> omega))) | (refine ⟨?_, ?_, ?_⟩ <;> (first | assumption | exact hS _ _ | omega | (constructor <;> omega))) | (refine ⟨?_, ?_, ?_, ?_⟩ <;> (first | assumption | exact hS _ _ | omega | (constructor <;> omega))) | (refine ⟨⟨?_, ?_⟩, ?_, ?_⟩ <;> (first | assumption | exact hS _ _ | omega | (constructor <;> omega))) | decide | (simp only [up2, a_live5, not_true_eq_false, not_false_eq_true, Nat.reduceEqDiff, false_and, true_and, and_true, and_false, and_self, if_true, if_false, ↓reduceIte, reduceCtorEq]; first | (first | assumption | exact hS _ _ | omega | (constructor <;> omega)) | (refine ⟨?_, ?_⟩ <;> (first | assumption | exact hS _ _ | omega | (constructor <;> omega))) | (refine ⟨?_, ?_, ?_⟩ <;> (first | assumption | exact hS _ _ | omega | (constructor <;> omega))) | (refine ⟨?_, ?_, ?_, ?_⟩ <;> (first | assumption | exact hS _ _ | omega | (constructor <;> omega))) | (refine ⟨⟨?_, ?_⟩, ?_, ?_⟩ <;> (first | assumption | exact hS _ _ | omega | (constructor <;> omega))) | decide))) | (refine And.intro ?_ ?_ <;> (intro hc; (try simp only [up2, a_live5, not_true_eq_false, not_false_eq_true, Nat.reduceEqDiff, false_and, true_and, and_true, and_false, and_self, if_true, if_false, ↓reduceIte, reduceCtorEq] at hc); try (exfalso; first | assumption | omega))) | (refine x_som_i ?sd ?_; case sd => assumption) | (refine a_wo ?sd ?_; case sd => (first | exact hS _ _ | assumption | (constructor <;> omega) | (simp only [up2, a_live5, not_true_eq_false, not_false_eq_true, Nat.reduceEqDiff, false_and, true_and, and_true, and_false, and_self, if_true, if_false, ↓reduceIte, reduceCtorEq]; first | exact hS _ _ | assumption | (constructor <;> omega)))) | (refine st 0 _ _ _ _ _ _ _ rfl ?_) | (refine st 18 _ _ _ _ _ _ _ rfl ?_) | (refine st 19 _ _ _ _ _ _ _ rfl ?_)
    · exact ac_f (by omega)
    · repeat' first | (refine a_si ?sd ?_; case sd => (first | (first | assumption | exact hS _ _ | omega | (constructor <;> omega)) | (refine ⟨?_, ?_⟩ <;> (first | assumption | exact hS _ _ | omega | (constructor <;> omega))) | (refine ⟨?_, ?_, ?_⟩ <;> (first | assumption | exact hS _ _ | omega | (constructor <;> omega))) | (refine ⟨?_, ?_, ?_, ?_⟩ <;> (first | assumption | exact hS _ _ | omega | (constructor <;> omega))) | (refine ⟨⟨?_, ?_⟩, ?_, ?_⟩ <;> (first | assumption | exact hS _ _ | omega | (constructor <;> omega))) | decide | (simp only [up2, a_live5, not_true_eq_false, not_false_eq_true, Nat.reduceEqDiff, false_and, true_and, and_true, and_false, and_self, if_true, if_false, ↓reduceIte, reduceCtorEq]; first | (first | assumption | exact hS _ _ | omega | (constructor <;> omega)) | (refine ⟨?_, ?_⟩ <;> (first | assumption | exact hS _ _ | omega | (constructor <;> omega))) | (refine ⟨?_, ?_, ?_⟩ <;> (first | assumption | exact hS _ _ | omega | (constructor <;> omega))) | (refine ⟨?_, ?_, ?_, ?_⟩ <;> (first | assumption | exact hS _ _ | omega | (constructor <;> omega))) | (refine ⟨⟨?_, ?_⟩, ?_, ?_⟩ <;> (first | assumption | exact hS _ _ | omega | (constructor <;> omega))) | decide))) | (refine And.intro ?_ ?_ <;> (intro hc; (try simp only [up2, a_live5, not_true_eq_false, not_false_eq_true, Nat.reduceEqDiff, false_and, true_and, and_true, and_false, and_self, if_true, if_false, ↓reduceIte, reduceCtorEq] at hc); try (exfalso; first | assumption | omega))) | (refine x_som_i ?sd ?_; case sd => assumption) | (refine a_wo ?sd ?_; case sd => (first | exact hS _ _ | assumption | (constructor <;> omega) | (simp only [up2, a_live5, not_true_eq_false, not_false_eq_true, Nat.reduceEqDiff, false_and, true_and, and_true, and_false, and_self, if_true, if_false, ↓reduceIte, reduceCtorEq]; first | exact hS _ _ | assumption | (constructor <;> omega)))) | (refine st 0 _ _ _ _ _ _ _ rfl ?_) | (refine st 18 _ _ _ _ _ _ _ rfl ?_) | (refine st 19 _ _ _ _ _ _ _ rfl ?_)
      exact ac_t (by omega)
theorem c_hasMode {t : Nat} (m : Int) (ht : a_live5 v t) (hm : iS m) : AHolds X y_Target_hasMode [aR 5 t, aI m] v L 0 0 0 0 (AC (0 ≤ m ∧ m < v 22 t) (aI 1) (aI 0) v L) := by
  refine a_sm fun hS => ?_
  refine a_met ok_Target_hasMode (by decide +kernel) (Nat.le_of_ble_eq_true rfl) fun go st => ?_
  repeat' first | (refine a_si ?sd ?_; case sd => (first | (first | assumption | exact hS _ _ | omega | (constructor <;> omega)) | (refine ⟨?_, ?_⟩ <;> (first | assumption | exact hS _ _ | omega | (constructor <;> omega))) | (refine ⟨?_, ?_, ?_⟩ <;> (first | assumption | exact hS _ _ | omega | (constructor <;> omega))) | (refine ⟨?_, ?_, ?_, ?_⟩ <;> (first | assumption | exact hS _ _ | omega | (constructor <;> omega))) | (refine ⟨⟨?_, ?_⟩, ?_, ?_⟩ <;> (first | assumption | exact hS _ _ | omega | (constructor <;> omega))) | decide | (simp only [up2, a_live5, not_true_eq_false, not_false_eq_true, Nat.reduceEqDiff, false_and, true_and, and_true, and_false, and_self, if_true, if_false, ↓reduceIte, reduceCtorEq]; first | (first | assumption | exact hS _ _ | omega | (constructor <;> omega)) | (refine ⟨?_, ?_⟩ <;> (first | assumption | exact hS _ _ | omega | (constructor <;> omega))) | (refine ⟨?_, ?_, ?_⟩ <;> (first | assumption | exact hS _ _ | omega | (constructor <;> omega))) | (refine ⟨?_, ?_, ?_, ?_⟩ <;> (first | assumption | exact hS _ _ | omega | (constructor <;> omega))) | (refine ⟨⟨?_, ?_⟩, ?_, ?_⟩ <;> (first | assumption | exact hS _ _ | omega | (constructor <;> omega))) | decide))) | (refine And.intro ?_ ?_ <;> (intro hc; (try simp only [up2, a_live5, not_true_eq_false, not_false_eq_true, Nat.reduceEqDiff, false_and, true_and, and_true, and_false, and_self, if_true, if_false, ↓reduceIte, reduceCtorEq] at hc); try (exfalso; first | assumption | omega))) | (refine x_som_i ?sd ?_; case sd => assumption) | (refine a_wo ?sd ?_; case sd => (first | exact hS _ _ | assumption | (constructor <;> omega) | (simp only [up2, a_live5, not_true_eq_false, not_false_eq_true, Nat.reduceEqDiff, false_and, true_and, and_true, and_false, and_self, if_true, if_false, ↓reduceIte, reduceCtorEq]; first | exact hS _ _ | assumption | (constructor <;> omega)))) | (refine st 0 _ _ _ _ _ _ _ rfl ?_) | (refine st 16 _ _ _ _ _ _ _ rfl ?_) | (refine st 17 _ _ _ _ _ _ _ rfl ?_)
  all_goals first | exact ac_t (by omega) | exact ac_f (by omega)
theorem c_callerAt (z : Int) (hz : iS z) : AHolds X y_H_callerAt [aR 0 0, aI z] v L 0 0 0 0 (AC (0 ≤ z ∧ z < 8) (aR 1 z.toNat) aN v L) := by
  refine a_sm fun hS => ?_
  refine a_met ok_H_callerAt (by decide +kernel) (Nat.le_of_ble_eq_true rfl) fun go st => ?_
  repeat' first | (refine a_si ?sd ?_; case sd => (first | (first | assumption | exact hS _ _ | omega | (constructor <;> omega)) | (refine ⟨?_, ?_⟩ <;> (first | assumption | exact hS _ _ | omega | (constructor <;> omega))) | (refine ⟨?_, ?_, ?_⟩ <;> (first | assumption | exact hS _ _ | omega | (constructor <;> omega))) | (refine ⟨?_, ?_, ?_, ?_⟩ <;> (first | assumption | exact hS _ _ | omega | (constructor <;> omega))) | (refine ⟨⟨?_, ?_⟩, ?_, ?_⟩ <;> (first | assumption | exact hS _ _ | omega | (constructor <;> omega))) | decide | (simp only [up2, a_live5, not_true_eq_false, not_false_eq_true, Nat.reduceEqDiff, false_and, true_and, and_true, and_false, and_self, if_true, if_false, ↓reduceIte, reduceCtorEq]; first | (first | assumption | exact hS _ _ | omega | (constructor <;> omega)) | (refine ⟨?_, ?_⟩ <;> (first | assumption | exact hS _ _ | omega | (constructor <;> omega))) | (refine ⟨?_, ?_, ?_⟩ <;> (first | assumption | exact hS _ _ | omega | (constructor <;> omega))) | (refine ⟨?_, ?_, ?_, ?_⟩ <;> (first | assumption | exact hS _ _ | omega | (constructor <;> omega))) | (refine ⟨⟨?_, ?_⟩, ?_, ?_⟩ <;> (first | assumption | exact hS _ _ | omega | (constructor <;> omega))) | decide))) | (refine And.intro ?_ ?_ <;> (intro hc; (try simp only [up2, a_live5, not_true_eq_false, not_false_eq_true, Nat.reduceEqDiff, false_and, true_and, and_true, and_false, and_self, if_true, if_false, ↓reduceIte, reduceCtorEq] at hc); try (exfalso; first | assumption | omega))) | (refine x_som_i ?sd ?_; case sd => assumption) | (refine a_wo ?sd ?_; case sd => (first | exact hS _ _ | assumption | (constructor <;> omega) | (simp only [up2, a_live5, not_true_eq_false, not_false_eq_true, Nat.reduceEqDiff, false_and, true_and, and_true, and_false, and_self, if_true, if_false, ↓reduceIte, reduceCtorEq]; first | exact hS _ _ | assumption | (constructor <;> omega)))) | (refine st 0 _ _ _ _ _ _ _ rfl ?_) | (refine st 10 _ _ _ _ _ _ _ rfl ?_) | (refine st 14 _ _ _ _ _ _ _ rfl ?_) | (refine st 20 _ _ _ _ _ _ _ rfl ?_)
  all_goals first | exact ac_t (by omega) | exact ac_f (by omega)
theorem c_targetAt (z : Int) (hz : iS z) : AHolds X y_H_targetAt [aR 0 0, aI z] v L 0 0 0 0 (AC (0 ≤ z ∧ z < 32 ∧ ¬ v 20 z.toNat = 0) (aR 5 z.toNat) aN v L) := by
  refine a_sm fun hS => ?_
  refine a_met ok_H_targetAt (by decide +kernel) (Nat.le_of_ble_eq_true rfl) fun go st => ?_
  repeat' first | (refine a_si ?sd ?_; case sd => (first | (first | assumption | exact hS _ _ | omega | (constructor <;> omega)) | (refine ⟨?_, ?_⟩ <;> (first | assumption | exact hS _ _ | omega | (constructor <;> omega))) | (refine ⟨?_, ?_, ?_⟩ <;> (first | assumption | exact hS _ _ | omega | (constructor <;> omega))) | (refine ⟨?_, ?_, ?_, ?_⟩ <;> (first | assumption | exact hS _ _ | omega | (constructor <;> omega))) | (refine ⟨⟨?_, ?_⟩, ?_, ?_⟩ <;> (first | assumption | exact hS _ _ | omega | (constructor <;> omega))) | decide | (simp only [up2, a_live5, not_true_eq_false, not_false_eq_true, Nat.reduceEqDiff, false_and, true_and, and_true, and_false, and_self, if_true, if_false, ↓reduceIte, reduceCtorEq]; first | (first | assumption | exact hS _ _ | omega | (constructor <;> omega)) | (refine ⟨?_, ?_⟩ <;> (first | assumption | exact hS _ _ | omega | (constructor <;> omega))) | (refine ⟨?_, ?_, ?_⟩ <;> (first | assumption | exact hS _ _ | omega | (constructor <;> omega))) | (refine ⟨?_, ?_, ?_, ?_⟩ <;> (first | assumption | exact hS _ _ | omega | (constructor <;> omega))) | (refine ⟨⟨?_, ?_⟩, ?_, ?_⟩ <;> (first | assumption | exact hS _ _ | omega | (constructor <;> omega))) | decide))) | (refine And.intro ?_ ?_ <;> (intro hc; (try simp only [up2, a_live5, not_true_eq_false, not_false_eq_true, Nat.reduceEqDiff, false_and, true_and, and_true, and_false, and_self, if_true, if_false, ↓reduceIte, reduceCtorEq] at hc); try (exfalso; first | assumption | omega))) | (refine x_som_i ?sd ?_; case sd => assumption) | (refine a_wo ?sd ?_; case sd => (first | exact hS _ _ | assumption | (constructor <;> omega) | (simp only [up2, a_live5, not_true_eq_false, not_false_eq_true, Nat.reduceEqDiff, false_and, true_and, and_true, and_false, and_self, if_true, if_false, ↓reduceIte, reduceCtorEq]; first | exact hS _ _ | assumption | (constructor <;> omega)))) | (refine st 0 _ _ _ _ _ _ _ rfl ?_) | (refine st 10 _ _ _ _ _ _ _ rfl ?_) | (refine st 14 _ _ _ _ _ _ _ rfl ?_) | (refine st 20 _ _ _ _ _ _ _ rfl ?_)
  all_goals first | exact ac_t (by omega) | exact ac_f (by omega)
theorem c_singletonAt (z : Int) (hz : iS z) (hk : 0 ≤ z → z < 32 → 0 ≤ v 20 z.toNat ∧ v 20 z.toNat ≤ 3) : AHolds X y_H_singletonAt [aR 0 0, aI z] v L 10 400 0 0 (AC (0 ≤ z ∧ z < 32 ∧ v 20 z.toNat = 2) (aR 5 z.toNat) aN v L) := by
  refine a_sm fun hS => ?_
  refine a_met ok_H_singletonAt (by decide +kernel) (Nat.le_of_ble_eq_true rfl) fun go st => ?_
  repeat' first | (refine a_si ?sd ?_; case sd => (first | (first | assumption | exact hS _ _ | omega | (constructor <;> omega)) | (refine ⟨?_, ?_⟩ <;> (first | assumption | exact hS _ _ | omega | (constructor <;> omega))) | (refine ⟨?_, ?_, ?_⟩ <;> (first | assumption | exact hS _ _ | omega | (constructor <;> omega))) | (refine ⟨?_, ?_, ?_, ?_⟩ <;> (first | assumption | exact hS _ _ | omega | (constructor <;> omega))) | (refine ⟨⟨?_, ?_⟩, ?_, ?_⟩ <;> (first | assumption | exact hS _ _ | omega | (constructor <;> omega))) | decide | (simp only [up2, a_live5, not_true_eq_false, not_false_eq_true, Nat.reduceEqDiff, false_and, true_and, and_true, and_false, and_self, if_true, if_false, ↓reduceIte, reduceCtorEq]; first | (first | assumption | exact hS _ _ | omega | (constructor <;> omega)) | (refine ⟨?_, ?_⟩ <;> (first | assumption | exact hS _ _ | omega | (constructor <;> omega))) | (refine ⟨?_, ?_, ?_⟩ <;> (first | assumption | exact hS _ _ | omega | (constructor <;> omega))) | (refine ⟨?_, ?_, ?_, ?_⟩ <;> (first | assumption | exact hS _ _ | omega | (constructor <;> omega))) | (refine ⟨⟨?_, ?_⟩, ?_, ?_⟩ <;> (first | assumption | exact hS _ _ | omega | (constructor <;> omega))) | decide))) | (refine And.intro ?_ ?_ <;> (intro hc; (try simp only [up2, a_live5, not_true_eq_false, not_false_eq_true, Nat.reduceEqDiff, false_and, true_and, and_true, and_false, and_self, if_true, if_false, ↓reduceIte, reduceCtorEq] at hc); try (exfalso; first | assumption | omega))) | (refine x_som_i ?sd ?_; case sd => assumption) | (refine a_wo ?sd ?_; case sd => (first | exact hS _ _ | assumption | (constructor <;> omega) | (simp only [up2, a_live5, not_true_eq_false, not_false_eq_true, Nat.reduceEqDiff, false_and, true_and, and_true, and_false, and_self, if_true, if_false, ↓reduceIte, reduceCtorEq]; first | exact hS _ _ | assumption | (constructor <;> omega)))) | (refine st 0 _ _ _ _ _ _ _ rfl ?_) | (refine st 22 _ _ _ _ _ _ _ rfl ?_) | (refine st 23 _ _ _ _ _ _ _ rfl ?_)
  refine a_ci (c_targetAt z hz) ?room ?_
  case room => first | decide | exact ⟨by decide, by decide, by omega, by omega⟩
  rintro _ _ _ ⟨⟨hb, rfl⟩ | ⟨hb, rfl⟩, rfl, rfl⟩
  · have h1 := hk (by omega) (by omega)
    have h2 : a_live5 v z.toNat := by unfold a_live5; omega
    repeat' first | (refine a_si ?sd ?_; case sd => (first | (first | assumption | exact hS _ _ | omega | (constructor <;> omega)) | (refine ⟨?_, ?_⟩ <;> (first | assumption | exact hS _ _ | omega | (constructor <;> omega))) | (refine ⟨?_, ?_, ?_⟩ <;> (first | assumption | exact hS _ _ | omega | (constructor <;> omega))) | (refine ⟨?_, ?_, ?_, ?_⟩ <;> (first | assumption | exact hS _ _ | omega | (constructor <;> omega))) | (refine ⟨⟨?_, ?_⟩, ?_, ?_⟩ <;> (first | assumption | exact hS _ _ | omega | (constructor <;> omega))) | decide | (simp only [up2, a_live5, not_true_eq_false, not_false_eq_true, Nat.reduceEqDiff, false_and, true_and, and_true, and_false, and_self, if_true, if_false, ↓reduceIte, reduceCtorEq]; first | (first | assumption | exact hS _ _ | omega | (constructor <;> omega)) | (refine ⟨?_, ?_⟩ <;> (first | assumption | exact hS _ _ | omega | (constructor <;> omega))) | (refine ⟨?_, ?_, ?_⟩ <;> (first | assumption | exact hS _ _ | omega | (constructor <;> omega))) | (refine ⟨?_, ?_, ?_, ?_⟩ <;> (first | assumption | exact hS _ _ | omega | (constructor <;> omega))) | (refine ⟨⟨?_, ?_⟩, ?_, ?_⟩ <;> (first | assumption | exact hS _ _ | omega | (constructor <;> omega))) | decide))) | (refine And.intro ?_ ?_ <;> (intro hc; (try simp only [up2, a_live5, not_true_eq_false, not_false_eq_true, Nat.reduceEqDiff, false_and, true_and, and_true, and_false, and_self, if_true, if_false, ↓reduceIte, reduceCtorEq] at hc); try (exfalso; first | assumption | omega))) | (refine x_som_i ?sd ?_; case sd => assumption) | (refine a_wo ?sd ?_; case sd => (first | exact hS _ _ | assumption | (constructor <;> omega) | (simp only [up2, a_live5, not_true_eq_false, not_false_eq_true, Nat.reduceEqDiff, false_and, true_and, and_true, and_false, and_self, if_true, if_false, ↓reduceIte, reduceCtorEq]; first | exact hS _ _ | assumption | (constructor <;> omega)))) | (refine st 0 _ _ _ _ _ _ _ rfl ?_) | (refine st 22 _ _ _ _ _ _ _ rfl ?_) | (refine st 23 _ _ _ _ _ _ _ rfl ?_)
    all_goals first | exact ac_t (by omega) | exact ac_f (by omega)
  · repeat' first | (refine a_si ?sd ?_; case sd => (first | (first | assumption | exact hS _ _ | omega | (constructor <;> omega)) | (refine ⟨?_, ?_⟩ <;> (first | assumption | exact hS _ _ | omega | (constructor <;> omega))) | (refine ⟨?_, ?_, ?_⟩ <;> (first | assumption | exact hS _ _ | omega | (constructor <;> omega))) | (refine ⟨?_, ?_, ?_, ?_⟩ <;> (first | assumption | exact hS _ _ | omega | (constructor <;> omega))) | (refine ⟨⟨?_, ?_⟩, ?_, ?_⟩ <;> (first | assumption | exact hS _ _ | omega | (constructor <;> omega))) | decide | (simp only [up2, a_live5, not_true_eq_false, not_false_eq_true, Nat.reduceEqDiff, false_and, true_and, and_true, and_false, and_self, if_true, if_false, ↓reduceIte, reduceCtorEq]; first | (first | assumption | exact hS _ _ | omega | (constructor <;> omega)) | (refine ⟨?_, ?_⟩ <;> (first | assumption | exact hS _ _ | omega | (constructor <;> omega))) | (refine ⟨?_, ?_, ?_⟩ <;> (first | assumption | exact hS _ _ | omega | (constructor <;> omega))) | (refine ⟨?_, ?_, ?_, ?_⟩ <;> (first | assumption | exact hS _ _ | omega | (constructor <;> omega))) | (refine ⟨⟨?_, ?_⟩, ?_, ?_⟩ <;> (first | assumption | exact hS _ _ | omega | (constructor <;> omega))) | decide))) | (refine And.intro ?_ ?_ <;> (intro hc; (try simp only [up2, a_live5, not_true_eq_false, not_false_eq_true, Nat.reduceEqDiff, false_and, true_and, and_true, and_false, and_self, if_true, if_false, ↓reduceIte, reduceCtorEq] at hc); try (exfalso; first | assumption | omega))) | (refine x_som_i ?sd ?_; case sd => assumption) | (refine a_wo ?sd ?_; case sd => (first | exact hS _ _ | assumption | (constructor <;> omega) | (simp only [up2, a_live5, not_true_eq_false, not_false_eq_true, Nat.reduceEqDiff, false_and, true_and, and_true, and_false, and_self, if_true, if_false, ↓reduceIte, reduceCtorEq]; first | exact hS _ _ | assumption | (constructor <;> omega)))) | (refine st 0 _ _ _ _ _ _ _ rfl ?_) | (refine st 22 _ _ _ _ _ _ _ rfl ?_) | (refine st 23 _ _ _ _ _ _ _ rfl ?_)
    all_goals first | exact ac_t (by omega) | exact ac_f (by omega)
theorem c_nextUse : AHolds X y_Clock_nextUse [aR 0 3] v L 0 0 0 0 (fun r v' L' => r = some (aI (wr (v 3 0 + 1))) ∧ v' = up2 v 3 0 (wr (v 3 0 + 1)) ∧ L = L') := by
  refine a_sm fun hS => ?_
  refine a_met ok_Clock_nextUse (by decide +kernel) (Nat.le_of_ble_eq_true rfl) fun go st => ?_
  repeat' first | (refine a_si ?sd ?_; case sd => (first | (first | assumption | exact hS _ _ | omega | (constructor <;> omega)) | (refine ⟨?_, ?_⟩ <;> (first | assumption | exact hS _ _ | omega | (constructor <;> omega))) | (refine ⟨?_, ?_, ?_⟩ <;> (first | assumption | exact hS _ _ | omega | (constructor <;> omega))) | (refine ⟨?_, ?_, ?_, ?_⟩ <;> (first | assumption | exact hS _ _ | omega | (constructor <;> omega))) | (refine ⟨⟨?_, ?_⟩, ?_, ?_⟩ <;> (first | assumption | exact hS _ _ | omega | (constructor <;> omega))) | decide | (simp only [up2, a_live5, not_true_eq_false, not_false_eq_true, Nat.reduceEqDiff, false_and, true_and, and_true, and_false, and_self, if_true, if_false, ↓reduceIte, reduceCtorEq]; first | (first | assumption | exact hS _ _ | omega | (constructor <;> omega)) | (refine ⟨?_, ?_⟩ <;> (first | assumption | exact hS _ _ | omega | (constructor <;> omega))) | (refine ⟨?_, ?_, ?_⟩ <;> (first | assumption | exact hS _ _ | omega | (constructor <;> omega))) | (refine ⟨?_, ?_, ?_, ?_⟩ <;> (first | assumption | exact hS _ _ | omega | (constructor <;> omega))) | (refine ⟨⟨?_, ?_⟩, ?_, ?_⟩ <;> (first | assumption | exact hS _ _ | omega | (constructor <;> omega))) | decide))) | (refine And.intro ?_ ?_ <;> (intro hc; (try simp only [up2, a_live5, not_true_eq_false, not_false_eq_true, Nat.reduceEqDiff, false_and, true_and, and_true, and_false, and_self, if_true, if_false, ↓reduceIte, reduceCtorEq] at hc); try (exfalso; first | assumption | omega))) | (refine x_som_i ?sd ?_; case sd => assumption) | (refine a_wo ?sd ?_; case sd => (first | exact hS _ _ | assumption | (constructor <;> omega) | (simp only [up2, a_live5, not_true_eq_false, not_false_eq_true, Nat.reduceEqDiff, false_and, true_and, and_true, and_false, and_self, if_true, if_false, ↓reduceIte, reduceCtorEq]; first | exact hS _ _ | assumption | (constructor <;> omega)))) | (refine st 0 _ _ _ _ _ _ _ rfl ?_)
  refine a_wr ?_
  repeat' first | (refine a_si ?sd ?_; case sd => (first | (first | assumption | exact hS _ _ | omega | (constructor <;> omega)) | (refine ⟨?_, ?_⟩ <;> (first | assumption | exact hS _ _ | omega | (constructor <;> omega))) | (refine ⟨?_, ?_, ?_⟩ <;> (first | assumption | exact hS _ _ | omega | (constructor <;> omega))) | (refine ⟨?_, ?_, ?_, ?_⟩ <;> (first | assumption | exact hS _ _ | omega | (constructor <;> omega))) | (refine ⟨⟨?_, ?_⟩, ?_, ?_⟩ <;> (first | assumption | exact hS _ _ | omega | (constructor <;> omega))) | decide | (simp only [up2, a_live5, not_true_eq_false, not_false_eq_true, Nat.reduceEqDiff, false_and, true_and, and_true, and_false, and_self, if_true, if_false, ↓reduceIte, reduceCtorEq]; first | (first | assumption | exact hS _ _ | omega | (constructor <;> omega)) | (refine ⟨?_, ?_⟩ <;> (first | assumption | exact hS _ _ | omega | (constructor <;> omega))) | (refine ⟨?_, ?_, ?_⟩ <;> (first | assumption | exact hS _ _ | omega | (constructor <;> omega))) | (refine ⟨?_, ?_, ?_, ?_⟩ <;> (first | assumption | exact hS _ _ | omega | (constructor <;> omega))) | (refine ⟨⟨?_, ?_⟩, ?_, ?_⟩ <;> (first | assumption | exact hS _ _ | omega | (constructor <;> omega))) | decide))) | (refine And.intro ?_ ?_ <;> (intro hc; (try simp only [up2, a_live5, not_true_eq_false, not_false_eq_true, Nat.reduceEqDiff, false_and, true_and, and_true, and_false, and_self, if_true, if_false, ↓reduceIte, reduceCtorEq] at hc); try (exfalso; first | assumption | omega))) | (refine x_som_i ?sd ?_; case sd => assumption) | (refine a_wo ?sd ?_; case sd => (first | exact hS _ _ | assumption | (constructor <;> omega) | (simp only [up2, a_live5, not_true_eq_false, not_false_eq_true, Nat.reduceEqDiff, false_and, true_and, and_true, and_false, and_self, if_true, if_false, ↓reduceIte, reduceCtorEq]; first | exact hS _ _ | assumption | (constructor <;> omega)))) | (refine st 0 _ _ _ _ _ _ _ rfl ?_)
  exact ⟨rfl, rfl, rfl⟩
def m_markUsed (v : SV) (t : Nat) : SV := up2 (up2 (up2 v 3 0 (wr (v 3 0 + 1))) 38 t (wr (v 3 0 + 1))) 39 t (v 2 0)
theorem c_markUsed {t : Nat} (ht : v 20 t = 3) : AHolds X y_Session_markUsed [aR 5 t] v L 10 400 0 0 (fun r v' L' => r = none ∧ v' = m_markUsed v t ∧ L = L') := by
  refine a_sm fun hS => ?_
  refine a_met ok_Session_markUsed (by decide +kernel) (Nat.le_of_ble_eq_true rfl) fun go st => ?_
  repeat' first | (refine a_si ?sd ?_; case sd => (first | (first | assumption | exact hS _ _ | omega | (constructor <;> omega)) | (refine ⟨?_, ?_⟩ <;> (first | assumption | exact hS _ _ | omega | (constructor <;> omega))) | (refine ⟨?_, ?_, ?_⟩ <;> (first | assumption | exact hS _ _ | omega | (constructor <;> omega))) | (refine ⟨?_, ?_, ?_, ?_⟩ <;> (first | assumption | exact hS _ _ | omega | (constructor <;> omega))) | (refine ⟨⟨?_, ?_⟩, ?_, ?_⟩ <;> (first | assumption | exact hS _ _ | omega | (constructor <;> omega))) | decide | (simp only [up2, a_live5, not_true_eq_false, not_false_eq_true, Nat.reduceEqDiff, false_and, true_and, and_true, and_false, and_self, if_true, if_false, ↓reduceIte, reduceCtorEq]; first | (first | assumption | exact hS _ _ | omega | (constructor <;> omega)) | (refine ⟨?_, ?_⟩ <;> (first | assumption | exact hS _ _ | omega | (constructor <;> omega))) | (refine ⟨?_, ?_, ?_⟩ <;> (first | assumption | exact hS _ _ | omega | (constructor <;> omega))) | (refine ⟨?_, ?_, ?_, ?_⟩ <;> (first | assumption | exact hS _ _ | omega | (constructor <;> omega))) | (refine ⟨⟨?_, ?_⟩, ?_, ?_⟩ <;> (first | assumption | exact hS _ _ | omega | (constructor <;> omega))) | decide))) | (refine And.intro ?_ ?_ <;> (intro hc; (try simp only [up2, a_live5, not_true_eq_false, not_false_eq_true, Nat.reduceEqDiff, false_and, true_and, and_true, and_false, and_self, if_true, if_false, ↓reduceIte, reduceCtorEq] at hc); try (exfalso; first | assumption | omega))) | (refine x_som_i ?sd ?_; case sd => assumption) | (refine a_wo ?sd ?_; case sd => (first | exact hS _ _ | assumption | (constructor <;> omega) | (simp only [up2, a_live5, not_true_eq_false, not_false_eq_true, Nat.reduceEqDiff, false_and, true_and, and_true, and_false, and_self, if_true, if_false, ↓reduceIte, reduceCtorEq]; first | exact hS _ _ | assumption | (constructor <;> omega)))) | (refine st 0 _ _ _ _ _ _ _ rfl ?_)
  refine a_ci (c_nextUse) ?room ?_
  case room => first | decide | exact ⟨by decide, by decide, by omega, by omega⟩
  rintro _ _ _ ⟨rfl, rfl, rfl⟩
  have h0 := wr_i (v 3 0 + 1)
  repeat' first | (refine a_si ?sd ?_; case sd => (first | (first | assumption | exact hS _ _ | omega | (constructor <;> omega)) | (refine ⟨?_, ?_⟩ <;> (first | assumption | exact hS _ _ | omega | (constructor <;> omega))) | (refine ⟨?_, ?_, ?_⟩ <;> (first | assumption | exact hS _ _ | omega | (constructor <;> omega))) | (refine ⟨?_, ?_, ?_, ?_⟩ <;> (first | assumption | exact hS _ _ | omega | (constructor <;> omega))) | (refine ⟨⟨?_, ?_⟩, ?_, ?_⟩ <;> (first | assumption | exact hS _ _ | omega | (constructor <;> omega))) | decide | (simp only [up2, a_live5, not_true_eq_false, not_false_eq_true, Nat.reduceEqDiff, false_and, true_and, and_true, and_false, and_self, if_true, if_false, ↓reduceIte, reduceCtorEq]; first | (first | assumption | exact hS _ _ | omega | (constructor <;> omega)) | (refine ⟨?_, ?_⟩ <;> (first | assumption | exact hS _ _ | omega | (constructor <;> omega))) | (refine ⟨?_, ?_, ?_⟩ <;> (first | assumption | exact hS _ _ | omega | (constructor <;> omega))) | (refine ⟨?_, ?_, ?_, ?_⟩ <;> (first | assumption | exact hS _ _ | omega | (constructor <;> omega))) | (refine ⟨⟨?_, ?_⟩, ?_, ?_⟩ <;> (first | assumption | exact hS _ _ | omega | (constructor <;> omega))) | decide))) | (refine And.intro ?_ ?_ <;> (intro hc; (try simp only [up2, a_live5, not_true_eq_false, not_false_eq_true, Nat.reduceEqDiff, false_and, true_and, and_true, and_false, and_self, if_true, if_false, ↓reduceIte, reduceCtorEq] at hc); try (exfalso; first | assumption | omega))) | (refine x_som_i ?sd ?_; case sd => assumption) | (refine a_wo ?sd ?_; case sd => (first | exact hS _ _ | assumption | (constructor <;> omega) | (simp only [up2, a_live5, not_true_eq_false, not_false_eq_true, Nat.reduceEqDiff, false_and, true_and, and_true, and_false, and_self, if_true, if_false, ↓reduceIte, reduceCtorEq]; first | exact hS _ _ | assumption | (constructor <;> omega)))) | (refine st 0 _ _ _ _ _ _ _ rfl ?_)
  exact ⟨rfl, rfl, rfl⟩
def m_vanish (v : SV) (t : Nat) (k : Int) : SV := m_note (up2 v 36 t 0) k 0 (v 35 t)
theorem c_vanish {t : Nat} (k : Int) (ht : v 20 t = 3) : AHolds X y_Session_vanish [aR 5 t, aI k] v L 10 400 0 0 (fun r v' L' => r = none ∧ v' = m_vanish v t k ∧ L = L') := by
  refine a_sm fun hS => ?_
  refine a_met ok_Session_vanish (by decide +kernel) (Nat.le_of_ble_eq_true rfl) fun go st => ?_
  repeat' first | (refine a_si ?sd ?_; case sd => (first | (first | assumption | exact hS _ _ | omega | (constructor <;> omega)) | (refine ⟨?_, ?_⟩ <;> (first | assumption | exact hS _ _ | omega | (constructor <;> omega))) | (refine ⟨?_, ?_, ?_⟩ <;> (first | assumption | exact hS _ _ | omega | (constructor <;> omega))) | (refine ⟨?_, ?_, ?_, ?_⟩ <;> (first | assumption | exact hS _ _ | omega | (constructor <;> omega))) | (refine ⟨⟨?_, ?_⟩, ?_, ?_⟩ <;> (first | assumption | exact hS _ _ | omega | (constructor <;> omega))) | decide | (simp only [up2, a_live5, not_true_eq_false, not_false_eq_true, Nat.reduceEqDiff, false_and, true_and, and_true, and_false, and_self, if_true, if_false, ↓reduceIte, reduceCtorEq]; first | (first | assumption | exact hS _ _ | omega | (constructor <;> omega)) | (refine ⟨?_, ?_⟩ <;> (first | assumption | exact hS _ _ | omega | (constructor <;> omega))) | (refine ⟨?_, ?_, ?_⟩ <;> (first | assumption | exact hS _ _ | omega | (constructor <;> omega))) | (refine ⟨?_, ?_, ?_, ?_⟩ <;> (first | assumption | exact hS _ _ | omega | (constructor <;> omega))) | (refine ⟨⟨?_, ?_⟩, ?_, ?_⟩ <;> (first | assumption | exact hS _ _ | omega | (constructor <;> omega))) | decide))) | (refine And.intro ?_ ?_ <;> (intro hc; (try simp only [up2, a_live5, not_true_eq_false, not_false_eq_true, Nat.reduceEqDiff, false_and, true_and, and_true, and_false, and_self, if_true, if_false, ↓reduceIte, reduceCtorEq] at hc); try (exfalso; first | assumption | omega))) | (refine x_som_i ?sd ?_; case sd => assumption) | (refine a_wo ?sd ?_; case sd => (first | exact hS _ _ | assumption | (constructor <;> omega) | (simp only [up2, a_live5, not_true_eq_false, not_false_eq_true, Nat.reduceEqDiff, false_and, true_and, and_true, and_false, and_self, if_true, if_false, ↓reduceIte, reduceCtorEq]; first | exact hS _ _ | assumption | (constructor <;> omega)))) | (refine st 0 _ _ _ _ _ _ _ rfl ?_)
  refine a_ci (c_note k 0 (v 35 t)) ?room ?_
  case room => first | decide | exact ⟨by decide, by decide, by omega, by omega⟩
  rintro _ _ _ ⟨rfl, rfl, rfl⟩
  repeat' first | (refine a_si ?sd ?_; case sd => (first | (first | assumption | exact hS _ _ | omega | (constructor <;> omega)) | (refine ⟨?_, ?_⟩ <;> (first | assumption | exact hS _ _ | omega | (constructor <;> omega))) | (refine ⟨?_, ?_, ?_⟩ <;> (first | assumption | exact hS _ _ | omega | (constructor <;> omega))) | (refine ⟨?_, ?_, ?_, ?_⟩ <;> (first | assumption | exact hS _ _ | omega | (constructor <;> omega))) | (refine ⟨⟨?_, ?_⟩, ?_, ?_⟩ <;> (first | assumption | exact hS _ _ | omega | (constructor <;> omega))) | decide | (simp only [up2, a_live5, not_true_eq_false, not_false_eq_true, Nat.reduceEqDiff, false_and, true_and, and_true, and_false, and_self, if_true, if_false, ↓reduceIte, reduceCtorEq]; first | (first | assumption | exact hS _ _ | omega | (constructor <;> omega)) | (refine ⟨?_, ?_⟩ <;> (first | assumption | exact hS _ _ | omega | (constructor <;> omega))) | (refine ⟨?_, ?_, ?_⟩ <;> (first | assumption | exact hS _ _ | omega | (constructor <;> omega))) | (refine ⟨?_, ?_, ?_, ?_⟩ <;> (first | assumption | exact hS _ _ | omega | (constructor <;> omega))) | (refine ⟨⟨?_, ?_⟩, ?_, ?_⟩ <;> (first | assumption | exact hS _ _ | omega | (constructor <;> omega))) | decide))) | (refine And.intro ?_ ?_ <;> (intro hc; (try simp only [up2, a_live5, not_true_eq_false, not_false_eq_true, Nat.reduceEqDiff, false_and, true_and, and_true, and_false, and_self, if_true, if_false, ↓reduceIte, reduceCtorEq] at hc); try (exfalso; first | assumption | omega))) | (refine x_som_i ?sd ?_; case sd => assumption) | (refine a_wo ?sd ?_; case sd => (first | exact hS _ _ | assumption | (constructor <;> omega) | (simp only [up2, a_live5, not_true_eq_false, not_false_eq_true, Nat.reduceEqDiff, false_and, true_and, and_true, and_false, and_self, if_true, if_false, ↓reduceIte, reduceCtorEq]; first | exact hS _ _ | assumption | (constructor <;> omega)))) | (refine st 0 _ _ _ _ _ _ _ rfl ?_)
  exact ⟨rfl, rfl, rfl⟩
end
end
section
/-! Callers, pools, sessions, tasks, exception types. -/
section
variable {X : XC} {v : SV} {L : SL}
-- the lists by their own names
theorem a_line_size {t : Nat} (ht2 : t < 32) (ht : a_live5 v t) : AHolds X y_ArrayList_size [aR 6 t] v L 0 0 0 0 (fun r v' L' => r = some (aI (L (100 + t)).length) ∧ v = v' ∧ L = L') := a_AL_size (l := 100 + t) (ll6 ht2 ht) (cl6 ht2).1
theorem a_line_get {t : Nat} (ht2 : t < 32) (ht : a_live5 v t) {z : Int} (h0 : 0 ≤ z) (hz : z < (L (100 + t)).length) : AHolds X y_ArrayList_get [aR 6 t, aI z] v L 2 43 0 0 (fun r v' L' => r = some (aR 1 ((L (100 + t)).getD z.toNat 0)) ∧ v = v' ∧ L = L') := by
  have h := a_AL_get (X := X) (l := 100 + t) (ll6 ht2 ht) (cl6 ht2).1 h0 hz
  rw [(cl6 ht2).2] at h
  exact h
theorem a_line_add {t : Nat} (ht2 : t < 32) (ht : a_live5 v t) {e : Nat} (hn : (L (100 + t)).length ≤ 40) (hel : ∀ j, j < (L (100 + t)).length → cc_live v L 1 ((L (100 + t)).getD j 0)) (he : cc_live v L 1 e) : AHolds X y_ArrayList_add [aR 6 t, aR 1 e] v L 6 200 1 90 (fun r v' L' => r = some (aI 1) ∧ v = v' ∧ L' = upL L (100 + t) (L (100 + t) ++ [e])) := by
  have h := a_AL_add (X := X) (e := e) (l := 100 + t) (ll6 ht2 ht) (cl6 ht2).1 (by omega) hn (by rw [(cl6 ht2).2]; exact hel) (by rw [(cl6 ht2).2]; exact he)
  rw [(cl6 ht2).2] at h
  exact h
theorem a_line_remove {t : Nat} (ht2 : t < 32) (ht : a_live5 v t) {z : Int} (h0 : 0 ≤ z) (hz : z < (L (100 + t)).length) (hel : ∀ j, j < (L (100 + t)).length → (L (100 + t)).getD j 0 < 8) : AHolds X y_ArrayList_remove [aR 6 t, aI z] v L 2 100 0 0 (fun r v' L' => r = some (aR 1 ((L (100 + t)).getD z.toNat 0)) ∧ v = v' ∧ L' = upL L (100 + t) ((L (100 + t)).eraseIdx z.toNat)) := by
  have h := a_AL_remove (X := X) (l := 100 + t) (ll6 ht2 ht) (cl6 ht2).1 (by omega) h0 hz (by rw [(cl6 ht2).2]; exact hel)
  rw [(cl6 ht2).2] at h
  exact h
theorem a_line_isEmpty {t : Nat} (ht2 : t < 32) (ht : a_live5 v t) (hn : (L (100 + t)).length < 1000) : AHolds X y_ArrayList_isEmpty [aR 6 t] v L 0 0 0 0 (AC ((L (100 + t)).length = 0) (aI 1) (aI 0) v L) := by
  refine a_wk (a_AL_isEmpty (l := 100 + t) (ll6 ht2 ht) (cl6 ht2).1 hn) ?_
  rintro r v' L' ⟨rfl, rfl, rfl⟩
  by_cases e : (L (100 + t)).length = 0
  · rw [if_pos e]; exact ac_t e
  · rw [if_neg e]; exact ac_f e
theorem a_needs_size {t : Nat} (ht2 : t < 32) (ht : v 20 t = 2) : AHolds X y_ArrayList_size [aR 8 t] v L 0 0 0 0 (fun r v' L' => r = some (aI (L (200 + t)).length) ∧ v = v' ∧ L = L') := a_AL_size (l := 200 + t) (ll8 ht2 ht) (cl8 ht2).1
theorem a_needs_get {t : Nat} (ht2 : t < 32) (ht : v 20 t = 2) {z : Int} (h0 : 0 ≤ z) (hz : z < (L (200 + t)).length) : AHolds X y_ArrayList_get [aR 8 t, aI z] v L 2 43 0 0 (fun r v' L' => r = some (aR 5 ((L (200 + t)).getD z.toNat 0)) ∧ v = v' ∧ L = L') := by
  have h := a_AL_get (X := X) (l := 200 + t) (ll8 ht2 ht) (cl8 ht2).1 h0 hz
  rw [(cl8 ht2).2] at h
  exact h
theorem a_needs_add {t : Nat} (ht2 : t < 32) (ht : v 20 t = 2) {e : Nat} (hn : (L (200 + t)).length ≤ 40) (hel : ∀ j, j < (L (200 + t)).length → cc_live v L 5 ((L (200 + t)).getD j 0)) (he : cc_live v L 5 e) : AHolds X y_ArrayList_add [aR 8 t, aR 5 e] v L 6 200 1 90 (fun r v' L' => r = some (aI 1) ∧ v = v' ∧ L' = upL L (200 + t) (L (200 + t) ++ [e])) := by
  have h := a_AL_add (X := X) (e := e) (l := 200 + t) (ll8 ht2 ht) (cl8 ht2).1 (by omega) hn (by rw [(cl8 ht2).2]; exact hel) (by rw [(cl8 ht2).2]; exact he)
  rw [(cl8 ht2).2] at h
  exact h
theorem a_own_size {t : Nat} (ht2 : t < 8) (ht : v 40 t = 1) : AHolds X y_ArrayList_size [aR 10 t] v L 0 0 0 0 (fun r v' L' => r = some (aI (L (300 + t)).length) ∧ v = v' ∧ L = L') := a_AL_size (l := 300 + t) (ll10 ht2 ht) (cl10 ht2).1
theorem a_own_get {t : Nat} (ht2 : t < 8) (ht : v 40 t = 1) {z : Int} (h0 : 0 ≤ z) (hz : z < (L (300 + t)).length) : AHolds X y_ArrayList_get [aR 10 t, aI z] v L 2 43 0 0 (fun r v' L' => r = some (aR 5 ((L (300 + t)).getD z.toNat 0)) ∧ v = v' ∧ L = L') := by
  have h := a_AL_get (X := X) (l := 300 + t) (ll10 ht2 ht) (cl10 ht2).1 h0 hz
  rw [(cl10 ht2).2] at h
  exact h
theorem a_own_add {t : Nat} (ht2 : t < 8) (ht : v 40 t = 1) {e : Nat} (hn : (L (300 + t)).length ≤ 40) (hel : ∀ j, j < (L (300 + t)).length → cc_live v L 5 ((L (300 + t)).getD j 0)) (he : cc_live v L 5 e) : AHolds X y_ArrayList_add [aR 10 t, aR 5 e] v L 6 200 1 90 (fun r v' L' => r = some (aI 1) ∧ v = v' ∧ L' = upL L (300 + t) (L (300 + t) ++ [e])) := by
  have h := a_AL_add (X := X) (e := e) (l := 300 + t) (ll10 ht2 ht) (cl10 ht2).1 (by omega) hn (by rw [(cl10 ht2).2]; exact hel) (by rw [(cl10 ht2).2]; exact he)
  rw [(cl10 ht2).2] at h
  exact h
theorem a_sess_size : AHolds X y_ArrayList_size [aR 0 9] v L 0 0 0 0 (fun r v' L' => r = some (aI (L (0)).length) ∧ v = v' ∧ L = L') := a_AL_size (l := 0) ll0 rfl
theorem a_sess_get {z : Int} (h0 : 0 ≤ z) (hz : z < (L (0)).length) : AHolds X y_ArrayList_get [aR 0 9, aI z] v L 2 43 0 0 (fun r v' L' => r = some (aR 5 ((L (0)).getD z.toNat 0)) ∧ v = v' ∧ L = L') := by
  have h := a_AL_get (X := X) (v := v) (l := 0) ll0 rfl h0 hz
  rw [show cl_el 0 = 5 from rfl] at h
  exact h
theorem a_sess_add {e : Nat} (hn : (L (0)).length ≤ 40) (hel : ∀ j, j < (L (0)).length → cc_live v L 5 ((L (0)).getD j 0)) (he : cc_live v L 5 e) : AHolds X y_ArrayList_add [aR 0 9, aR 5 e] v L 6 200 1 90 (fun r v' L' => r = some (aI 1) ∧ v = v' ∧ L' = upL L (0) (L (0) ++ [e])) := by
  have h := a_AL_add (X := X) (e := e) (l := 0) ll0 rfl (by omega) hn (by rw [show cl_el 0 = 5 from rfl]; exact hel) (by rw [show cl_el 0 = 5 from rfl]; exact he)
  rw [show cl_el 0 = 5 from rfl] at h
  exact h
theorem a_tasks_size : AHolds X y_ArrayList_size [aR 0 10] v L 0 0 0 0 (fun r v' L' => r = some (aI (L (1)).length) ∧ v = v' ∧ L = L') := a_AL_size (l := 1) ll1 rfl
theorem a_tasks_get {z : Int} (h0 : 0 ≤ z) (hz : z < (L (1)).length) : AHolds X y_ArrayList_get [aR 0 10, aI z] v L 2 43 0 0 (fun r v' L' => r = some (aR 11 ((L (1)).getD z.toNat 0)) ∧ v = v' ∧ L = L') := by
  have h := a_AL_get (X := X) (v := v) (l := 1) ll1 rfl h0 hz
  rw [show cl_el 1 = 11 from rfl] at h
  exact h
/-- a caller's row of methods -/
def rowOK (v : SV) (i : Nat) : Prop := (0 ≤ v 10 i ∧ v 10 i ≤ 4) ∧ ∀ j, j < 4 → v 16 (i + 8 * j) < 32 ∧ (0 ≤ v 16 (i + 8 * j) → a_live5 v (v 16 (i + 8 * j)).toNat)
def hasM (v : SV) (i t : Nat) : Prop := ∃ j : Nat, (j : Int) < v 10 i ∧ v 16 (i + 8 * j) = t
def hasW (v : SV) (i t : Nat) : Prop := ∃ j : Nat, (j : Int) < v 10 i ∧ v 16 (i + 8 * j) = t ∧ v 18 (i + 8 * j) = 1
theorem c_hasMethodIn {i t : Nat} (hi : i < 8) (ht : a_live5 v t) (hr : rowOK v i) : AHolds X y_Caller_hasMethodIn [aR 1 i, aR 5 t] v L 0 0 0 0 (AC (hasM v i t) (aI 1) (aI 0) v L) := by
  obtain ⟨⟨hr1, hr2⟩, hr3⟩ := hr
  refine a_sm fun hS => ?_
  refine a_met ok_Caller_hasMethodIn (by decide +kernel) (Nat.le_of_ble_eq_true rfl) fun go st => ?_
  have loop : ∀ (n j : Nat) (ls : ALc), (j + n : Int) = v 10 i → (∀ q : Nat, q < j → v 16 (i + 8 * q) ≠ t) → ls 0 = some (aR 1 i) → ls 1 = some (aR 5 t) → ls 2 = some (aI j) → go 2 ls [] v L 0 0 := by
    intro n
    induction n with
    | zero =>
      intro j ls hj hq l0 l1 l2
      refine st 2 _ _ _ _ _ _ _ rfl ?_
      repeat' first | (refine a_si ?sd ?_; case sd => (first | (first | assumption | exact hS _ _ | omega | (constructor <;> omega)) | (refine ⟨?_, ?_⟩ <;> (first | assumption | exact hS _ _ | omega | (constructor <;> omega))) | (refine ⟨?_, ?_, ?_⟩ <;> (first | assumption | exact hS _ _ | omega | (constructor <;> omega))) | (refine ⟨?_, ?_, ?_, ?_⟩ <;> (first | assumption | exact hS _ _ | omega | (constructor <;> omega))) | (refine ⟨⟨?_, ?_⟩, ?_, ?_⟩ <;> (first | assumption | exact hS _ _ | omega | (constructor <;> omega))) | decide | (simp only [up2, Int.toNat_natCast, a_live5, not_true_eq_false, not_false_eq_true, Nat.reduceEqDiff, false_and, true_and, and_true, and_false, and_self, if_true, if_false, ↓reduceIte, reduceCtorEq]; first | (first | assumption | exact hS _ _ | omega | (constructor <;> omega)) | (refine ⟨?_, ?_⟩ <;> (first | assumption | exact hS _ _ | omega | (constructor <;> omega))) | (refine ⟨?_, ?_, ?_⟩ <;> (first | assumption | exact hS _ _ | omega | (constructor <;> omega))) | (refine ⟨?_, ?_, ?_, ?_⟩ <;> (first | assumption | exact hS _ _ | omega | (constructor <;> omega))) | (refine ⟨⟨?_, ?_⟩, ?_, ?_⟩ <;> (first | assumption | exact hS _ _ | omega | (constructor <;> omega))) | decide))) | (refine And.intro ?_ ?_ <;> (intro hc; (try simp only [up2, Int.toNat_natCast, a_live5, not_true_eq_false, not_false_eq_true, Nat.reduceEqDiff, false_and, true_and, and_true, and_false, and_self, if_true, if_false, ↓reduceIte, reduceCtorEq] at hc); try (exfalso; first | assumption | omega))) | (refine x_som_i l0 ?_) | (refine x_som_i l1 ?_) | (refine x_som_i l2 ?_) | (refine x_som_i l3 ?_) | (refine x_som_i l4 ?_) | (refine x_som_i l5 ?_) | (refine x_som_i l6 ?_) | (refine a_wo ?sd ?_; case sd => (first | exact hS _ _ | assumption | (constructor <;> omega) | (simp only [up2, Int.toNat_natCast, a_live5, not_true_eq_false, not_false_eq_true, Nat.reduceEqDiff, false_and, true_and, and_true, and_false, and_self, if_true, if_false, ↓reduceIte, reduceCtorEq]; first | exact hS _ _ | assumption | (constructor <;> omega)))) | (refine st 0 _ _ _ _ _ _ _ rfl ?_) | (refine st 22 _ _ _ _ _ _ _ rfl ?_) | (refine st 28 _ _ _ _ _ _ _ rfl ?_)
      refine ac_f ?_
      rintro ⟨q, h1, h2⟩
      exact hq q (by omega) h2
    | succ n ih =>
      intro j ls hj hq l0 l1 l2
      have h5 := hr3 j (by omega)
      have nx : v 16 (i + 8 * j) ≠ t → ∀ ls : ALc, ls 0 = some (aR 1 i) → ls 1 = some (aR 5 t) → ls 2 = some (aI (j + 1 : Nat)) → go 2 ls [] v L 0 0 := by
        intro hn ls l0 l1 l2
        refine ih (j + 1) _ (by omega) (fun q hq' => ?_) l0 l1 l2
        by_cases e : q = j
        · subst e; exact hn
        · exact hq q (by omega)
      refine st 2 _ _ _ _ _ _ _ rfl ?_
      repeat' first | (refine a_si ?sd ?_; case sd => (first | (first | assumption | exact hS _ _ | omega | (constructor <;> omega)) | (refine ⟨?_, ?_⟩ <;> (first | assumption | exact hS _ _ | omega | (constructor <;> omega))) | (refine ⟨?_, ?_, ?_⟩ <;> (first | assumption | exact hS _ _ | omega | (constructor <;> omega))) | (refine ⟨?_, ?_, ?_, ?_⟩ <;> (first | assumption | exact hS _ _ | omega | (constructor <;> omega))) | (refine ⟨⟨?_, ?_⟩, ?_, ?_⟩ <;> (first | assumption | exact hS _ _ | omega | (constructor <;> omega))) | decide | (simp only [up2, Int.toNat_natCast, a_live5, not_true_eq_false, not_false_eq_true, Nat.reduceEqDiff, false_and, true_and, and_true, and_false, and_self, if_true, if_false, ↓reduceIte, reduceCtorEq]; first | (first | assumption | exact hS _ _ | omega | (constructor <;> omega)) | (refine ⟨?_, ?_⟩ <;> (first | assumption | exact hS _ _ | omega | (constructor <;> omega))) | (refine ⟨?_, ?_, ?_⟩ <;> (first | assumption | exact hS _ _ | omega | (constructor <;> omega))) | (refine ⟨?_, ?_, ?_, ?_⟩ <;> (first | assumption | exact hS _ _ | omega | (constructor <;> omega))) | (refine ⟨⟨?_, ?_⟩, ?_, ?_⟩ <;> (first | assumption | exact hS _ _ | omega | (constructor <;> omega))) | decide))) | (refine And.intro ?_ ?_ <;> (intro hc; (try simp only [up2, Int.toNat_natCast, a_live5, not_true_eq_false, not_false_eq_true, Nat.reduceEqDiff, false_and, true_and, and_true, and_false, and_self, if_true, if_false, ↓reduceIte, reduceCtorEq] at hc); try (exfalso; first | assumption | omega))) | (refine x_som_i l0 ?_) | (refine x_som_i l1 ?_) | (refine x_som_i l2 ?_) | (refine x_som_i l3 ?_) | (refine x_som_i l4 ?_) | (refine x_som_i l5 ?_) | (refine x_som_i l6 ?_) | (refine a_wo ?sd ?_; case sd => (first | exact hS _ _ | assumption | (constructor <;> omega) | (simp only [up2, Int.toNat_natCast, a_live5, not_true_eq_false, not_false_eq_true, Nat.reduceEqDiff, false_and, true_and, and_true, and_false, and_self, if_true, if_false, ↓reduceIte, reduceCtorEq]; first | exact hS _ _ | assumption | (constructor <;> omega)))) | (refine st 0 _ _ _ _ _ _ _ rfl ?_) | (refine st 22 _ _ _ _ _ _ _ rfl ?_) | (refine st 28 _ _ _ _ _ _ _ rfl ?_)
      · refine nx ?_ _ ?_ ?_ ?_ <;> first | exact l0 | exact l1 | rfl | omega
      · refine a_si (P := 5 = 5 ∧ cc_live v L 5 _ ∧ cc_live v L 5 t) ⟨rfl, ?_, ht⟩ ?_
        · simp only [Int.toNat_natCast]; exact h5.2 (by omega)
        repeat' first | (refine a_si ?sd ?_; case sd => (first | (first | assumption | exact hS _ _ | omega | (constructor <;> omega)) | (refine ⟨?_, ?_⟩ <;> (first | assumption | exact hS _ _ | omega | (constructor <;> omega))) | (refine ⟨?_, ?_, ?_⟩ <;> (first | assumption | exact hS _ _ | omega | (constructor <;> omega))) | (refine ⟨?_, ?_, ?_, ?_⟩ <;> (first | assumption | exact hS _ _ | omega | (constructor <;> omega))) | (refine ⟨⟨?_, ?_⟩, ?_, ?_⟩ <;> (first | assumption | exact hS _ _ | omega | (constructor <;> omega))) | decide | (simp only [up2, Int.toNat_natCast, a_live5, not_true_eq_false, not_false_eq_true, Nat.reduceEqDiff, false_and, true_and, and_true, and_false, and_self, if_true, if_false, ↓reduceIte, reduceCtorEq]; first | (first | assumption | exact hS _ _ | omega | (constructor <;> omega)) | (refine ⟨?_, ?_⟩ <;> (first | assumption | exact hS _ _ | omega | (constructor <;> omega))) | (refine ⟨?_, ?_, ?_⟩ <;> (first | assumption | exact hS _ _ | omega | (constructor <;> omega))) | (refine ⟨?_, ?_, ?_, ?_⟩ <;> (first | assumption | exact hS _ _ | omega | (constructor <;> omega))) | (refine ⟨⟨?_, ?_⟩, ?_, ?_⟩ <;> (first | assumption | exact hS _ _ | omega | (constructor <;> omega))) | decide))) | (refine And.intro ?_ ?_ <;> (intro hc; (try simp only [up2, Int.toNat_natCast, a_live5, not_true_eq_false, not_false_eq_true, Nat.reduceEqDiff, false_and, true_and, and_true, and_false, and_self, if_true, if_false, ↓reduceIte, reduceCtorEq] at hc); try (exfalso; first | assumption | omega))) | (refine x_som_i l0 ?_) | (refine x_som_i l1 ?_) | (refine x_som_i l2 ?_) | (refine x_som_i l3 ?_) | (refine x_som_i l4 ?_) | (refine x_som_i l5 ?_) | (refine x_som_i l6 ?_) | (refine a_wo ?sd ?_; case sd => (first | exact hS _ _ | assumption | (constructor <;> omega) | (simp only [up2, Int.toNat_natCast, a_live5, not_true_eq_false, not_false_eq_true, Nat.reduceEqDiff, false_and, true_and, and_true, and_false, and_self, if_true, if_false, ↓reduceIte, reduceCtorEq]; first | exact hS _ _ | assumption | (constructor <;> omega)))) | (refine st 0 _ _ _ _ _ _ _ rfl ?_) | (refine st 22 _ _ _ _ _ _ _ rfl ?_) | (refine st 28 _ _ _ _ _ _ _ rfl ?_)
        · exact ac_t (P := hasM v i t) ⟨j, by omega, by omega⟩
        · refine nx ?_ _ ?_ ?_ ?_ <;> first | exact l0 | exact l1 | rfl | omega
  repeat' first | (refine a_si ?sd ?_; case sd => (first | (first | assumption | exact hS _ _ | omega | (constructor <;> omega)) | (refine ⟨?_, ?_⟩ <;> (first | assumption | exact hS _ _ | omega | (constructor <;> omega))) | (refine ⟨?_, ?_, ?_⟩ <;> (first | assumption | exact hS _ _ | omega | (constructor <;> omega))) | (refine ⟨?_, ?_, ?_, ?_⟩ <;> (first | assumption | exact hS _ _ | omega | (constructor <;> omega))) | (refine ⟨⟨?_, ?_⟩, ?_, ?_⟩ <;> (first | assumption | exact hS _ _ | omega | (constructor <;> omega))) | decide | (simp only [up2, Int.toNat_natCast, a_live5, not_true_eq_false, not_false_eq_true, Nat.reduceEqDiff, false_and, true_and, and_true, and_false, and_self, if_true, if_false, ↓reduceIte, reduceCtorEq]; first | (first | assumption | exact hS _ _ | omega | (constructor <;> omega)) | (refine ⟨?_, ?_⟩ <;> (first | assumption | exact hS _ _ | omega | (constructor <;> omega))) | (refine ⟨?_, ?_, ?_⟩ <;> (first | assumption | exact hS _ _ | omega | (constructor <;> omega))) | (refine ⟨?_, ?_, ?_, ?_⟩ <;> (first | assumption | exact hS _ _ | omega | (constructor <;> omega))) | (refine ⟨⟨?_, ?_⟩, ?_, ?_⟩ <;> (first | assumption | exact hS _ _ | omega | (constructor <;> omega))) | decide))) | (refine And.intro ?_ ?_ <;> (intro hc; (try simp only [up2, Int.toNat_natCast, a_live5, not_true_eq_false, not_false_eq_true, Nat.reduceEqDiff, false_and, true_and, and_true, and_false, and_self, if_true, if_false, ↓reduceIte, reduceCtorEq] at hc); try (exfalso; first | assumption | omega))) | (refine x_som_i l0 ?_) | (refine x_som_i l1 ?_) | (refine x_som_i l2 ?_) | (refine x_som_i l3 ?_) | (refine x_som_i l4 ?_) | (refine x_som_i l5 ?_) | (refine x_som_i l6 ?_) | (refine a_wo ?sd ?_; case sd => (first | exact hS _ _ | assumption | (constructor <;> omega) | (simp only [up2, Int.toNat_natCast, a_live5, not_true_eq_false, not_false_eq_true, Nat.reduceEqDiff, false_and, true_and, and_true, and_false, and_self, if_true, if_false, ↓reduceIte, reduceCtorEq]; first | exact hS _ _ | assumption | (constructor <;> omega)))) | (refine st 0 _ _ _ _ _ _ _ rfl ?_) | (refine st 22 _ _ _ _ _ _ _ rfl ?_) | (refine st 28 _ _ _ _ _ _ _ rfl ?_)
  refine loop (v 10 i).toNat 0 _ ?_ ?_ ?_ ?_ ?_ <;> first | rfl | omega | (intro q hq; omega)
theorem c_writesIn {i t : Nat} (hi : i < 8) (ht : a_live5 v t) (hr : rowOK v i) : AHolds X y_Caller_writesIn [aR 1 i, aR 5 t] v L 0 0 0 0 (AC (hasW v i t) (aI 1) (aI 0) v L) := by
  obtain ⟨⟨hr1, hr2⟩, hr3⟩ := hr
  refine a_sm fun hS => ?_
  refine a_met ok_Caller_writesIn (by decide +kernel) (Nat.le_of_ble_eq_true rfl) fun go st => ?_
  have loop : ∀ (n j : Nat) (ls : ALc), (j + n : Int) = v 10 i → (∀ q : Nat, q < j → ¬ (v 16 (i + 8 * q) = t ∧ v 18 (i + 8 * q) = 1)) → ls 0 = some (aR 1 i) → ls 1 = some (aR 5 t) → ls 2 = some (aI j) → go 2 ls [] v L 0 0 := by
    intro n
    induction n with
    | zero =>
      intro j ls hj hq l0 l1 l2
      refine st 2 _ _ _ _ _ _ _ rfl ?_
      repeat' first | (refine a_si ?sd ?_; case sd => (first | (first | assumption | exact hS _ _ | omega | (constructor <;> omega)) | (refine ⟨?_, ?_⟩ <;> (first | assumption | exact hS _ _ | omega | (constructor <;> omega))) | (refine ⟨?_, ?_, ?_⟩ <;> (first | assumption | exact hS _ _ | omega | (constructor <;> omega))) | (refine ⟨?_, ?_, ?_, ?_⟩ <;> (first | assumption | exact hS _ _ | omega | (constructor <;> omega))) | (refine ⟨⟨?_, ?_⟩, ?_, ?_⟩ <;> (first | assumption | exact hS _ _ | omega | (constructor <;> omega))) | decide | (simp only [up2, Int.toNat_natCast, a_live5, not_true_eq_false, not_false_eq_true, Nat.reduceEqDiff, false_and, true_and, and_true, and_false, and_self, if_true, if_false, ↓reduceIte, reduceCtorEq]; first | (first | assumption | exact hS _ _ | omega | (constructor <;> omega)) | (refine ⟨?_, ?_⟩ <;> (first | assumption | exact hS _ _ | omega | (constructor <;> omega))) | (refine ⟨?_, ?_, ?_⟩ <;> (first | assumption | exact hS _ _ | omega | (constructor <;> omega))) | (refine ⟨?_, ?_, ?_, ?_⟩ <;> (first | assumption | exact hS _ _ | omega | (constructor <;> omega))) | (refine ⟨⟨?_, ?_⟩, ?_, ?_⟩ <;> (first | assumption | exact hS _ _ | omega | (constructor <;> omega))) | decide))) | (refine And.intro ?_ ?_ <;> (intro hc; (try simp only [up2, Int.toNat_natCast, a_live5, not_true_eq_false, not_false_eq_true, Nat.reduceEqDiff, false_and, true_and, and_true, and_false, and_self, if_true, if_false, ↓reduceIte, reduceCtorEq] at hc); try (exfalso; first | assumption | omega))) | (refine x_som_i l0 ?_) | (refine x_som_i l1 ?_) | (refine x_som_i l2 ?_) | (refine x_som_i l3 ?_) | (refine x_som_i l4 ?_) | (refine x_som_i l5 ?_) | (refine x_som_i l6 ?_) | (refine a_wo ?sd ?_; case sd => (first | exact hS _ _ | assumption | (constructor <;> omega) | (simp only [up2, Int.toNat_natCast, a_live5, not_true_eq_false, not_false_eq_true, Nat.reduceEqDiff, false_and, true_and, and_true, and_false, and_self, if_true, if_false, ↓reduceIte, reduceCtorEq]; first | exact hS _ _ | assumption | (constructor <;> omega)))) | (refine st 0 _ _ _ _ _ _ _ rfl ?_) | (refine st 32 _ _ _ _ _ _ _ rfl ?_) | (refine st 38 _ _ _ _ _ _ _ rfl ?_)
      refine ac_f ?_
      rintro ⟨q, h1, h2⟩
      exact hq q (by omega) h2
    | succ n ih =>
      intro j ls hj hq l0 l1 l2
      have h5 := hr3 j (by omega)
      have nx : ¬ (v 16 (i + 8 * j) = t ∧ v 18 (i + 8 * j) = 1) → ∀ ls : ALc, ls 0 = some (aR 1 i) → ls 1 = some (aR 5 t) → ls 2 = some (aI (j + 1 : Nat)) → go 2 ls [] v L 0 0 := by
        intro hn ls l0 l1 l2
        refine ih (j + 1) _ (by omega) (fun q hq' => ?_) l0 l1 l2
        by_cases e : q = j
        · subst e; exact hn
        · exact hq q (by omega)
      refine st 2 _ _ _ _ _ _ _ rfl ?_
      repeat' first | (refine a_si ?sd ?_; case sd => (first | (first | assumption | exact hS _ _ | omega | (constructor <;> omega)) | (refine ⟨?_, ?_⟩ <;> (first | assumption | exact hS _ _ | omega | (constructor <;> omega))) | (refine ⟨?_, ?_, ?_⟩ <;> (first | assumption | exact hS _ _ | omega | (constructor <;> omega))) | (refine ⟨?_, ?_, ?_, ?_⟩ <;> (first | assumption | exact hS _ _ | omega | (constructor <;> omega))) | (refine ⟨⟨?_, ?_⟩, ?_, ?_⟩ <;> (first | assumption | exact hS _ _ | omega | (constructor <;> omega))) | decide | (simp only [up2, Int.toNat_natCast, a_live5, not_true_eq_false, not_false_eq_true, Nat.reduceEqDiff, false_and, true_and, and_true, and_false, and_self, if_true, if_false, ↓reduceIte, reduceCtorEq]; first | (first | assumption | exact hS _ _ | omega | (constructor <;> omega)) | (refine ⟨?_, ?_⟩ <;> (first | assumption | exact hS _ _ | omega | (constructor <;> omega))) | (refine ⟨?_, ?_, ?_⟩ <;> (first | assumption | exact hS _ _ | omega | (constructor <;> omega))) | (refine ⟨?_, ?_, ?_, ?_⟩ <;> (first | assumption | exact hS _ _ | omega | (constructor <;> omega))) | (refine ⟨⟨?_, ?_⟩, ?_, ?_⟩ <;> (first | assumption | exact hS _ _ | omega | (constructor <;> omega))) | decide))) | (refine And.intro ?_ ?_ <;> (intro hc; (try simp only [up2, Int.toNat_natCast, a_live5, not_true_eq_false, not_false_eq_true, Nat.reduceEqDiff, false_and, true_and, and_true, and_false, and_self, if_true, if_false, ↓reduceIte, reduceCtorEq] at hc); try (exfalso; first | assumption | omega))) | (refine x_som_i l0 ?_) | (refine x_som_i l1 ?_) | (refine x_som_i l2 ?_) | (refine x_som_i l3 ?_) | (refine x_som_i l4 ?_) | (refine x_som_i l5 ?_) | (refine x_som_i l6 ?_) | (refine a_wo ?sd ?_; case sd => (first | exact hS _ _ | assumption | (constructor <;> omega) | (simp only [up2, Int.toNat_natCast, a_live5, not_true_eq_false, not_false_eq_true, Nat.reduceEqDiff, false_and, true_and, and_true, and_false, and_self, if_true, if_false, ↓reduceIte, reduceCtorEq]; first | exact hS _ _ | assumption | (constructor <;> omega)))) | (refine st 0 _ _ _ _ _ _ _ rfl ?_) | (refine st 32 _ _ _ _ _ _ _ rfl ?_) | (refine st 38 _ _ _ _ _ _ _ rfl ?_)
      · refine nx ?_ _ ?_ ?_ ?_ <;> first | exact l0 | exact l1 | rfl | omega
      · refine a_si (P := 5 = 5 ∧ cc_live v L 5 _ ∧ cc_live v L 5 t) ⟨rfl, ?_, ht⟩ ?_
        · simp only [Int.toNat_natCast]; exact h5.2 (by omega)
        repeat' first | (refine a_si ?sd ?_; case sd => (first | (first | assumption | exact hS _ _ | omega | (constructor <;> omega)) | (refine ⟨?_, ?_⟩ <;> (first | assumption | exact hS _ _ | omega | (constructor <;> omega))) | (refine ⟨?_, ?_, ?_⟩ <;> (first | assumption | exact hS _ _ | omega | (constructor <;> omega))) | (refine ⟨?_, ?_, ?_, ?_⟩ <;> (first | assumption | exact hS _ _ | omega | (constructor <;> omega))) | (refine ⟨⟨?_, ?_⟩, ?_, ?_⟩ <;> (first | assumption | exact hS _ _ | omega | (constructor <;> omega))) | decide | (simp only [up2, Int.toNat_natCast, a_live5, not_true_eq_false, not_false_eq_true, Nat.reduceEqDiff, false_and, true_and, and_true, and_false, and_self, if_true, if_false, ↓reduceIte, reduceCtorEq]; first | (first | assumption | exact hS _ _ | omega | (constructor <;> omega)) | (refine ⟨?_, ?_⟩ <;> (first | assumption | exact hS _ _ | omega | (constructor <;> omega))) | (refine ⟨?_, ?_, ?_⟩ <;> (first | assumption | exact hS _ _ | omega | (constructor <;> omega))) | (refine ⟨?_, ?_, ?_, ?_⟩ <;> (first | assumption | exact hS _ _ | omega | (constructor <;> omega))) | (refine ⟨⟨?_, ?_⟩, ?_, ?_⟩ <;> (first | assumption | exact hS _ _ | omega | (constructor <;> omega))) | decide))) | (refine And.intro ?_ ?_ <;> (intro hc; (try simp only [up2, Int.toNat_natCast, a_live5, not_true_eq_false, not_false_eq_true, Nat.reduceEqDiff, false_and, true_and, and_true, and_false, and_self, if_true, if_false, ↓reduceIte, reduceCtorEq] at hc); try (exfalso; first | assumption | omega))) | (refine x_som_i l0 ?_) | (refine x_som_i l1 ?_) | (refine x_som_i l2 ?_) | (refine x_som_i l3 ?_) | (refine x_som_i l4 ?_) | (refine x_som_i l5 ?_) | (refine x_som_i l6 ?_) | (refine a_wo ?sd ?_; case sd => (first | exact hS _ _ | assumption | (constructor <;> omega) | (simp only [up2, Int.toNat_natCast, a_live5, not_true_eq_false, not_false_eq_true, Nat.reduceEqDiff, false_and, true_and, and_true, and_false, and_self, if_true, if_false, ↓reduceIte, reduceCtorEq]; first | exact hS _ _ | assumption | (constructor <;> omega)))) | (refine st 0 _ _ _ _ _ _ _ rfl ?_) | (refine st 32 _ _ _ _ _ _ _ rfl ?_) | (refine st 38 _ _ _ _ _ _ _ rfl ?_)
        · refine nx ?_ _ ?_ ?_ ?_ <;> first | exact l0 | exact l1 | rfl | omega
        · exact ac_t (P := hasW v i t) ⟨j, by omega, by omega, by omega⟩
        · refine nx ?_ _ ?_ ?_ ?_ <;> first | exact l0 | exact l1 | rfl | omega
  repeat' first | (refine a_si ?sd ?_; case sd => (first | (first | assumption | exact hS _ _ | omega | (constructor <;> omega)) | (refine ⟨?_, ?_⟩ <;> (first | assumption | exact hS _ _ | omega | (constructor <;> omega))) | (refine ⟨?_, ?_, ?_⟩ <;> (first | assumption | exact hS _ _ | omega | (constructor <;> omega))) | (refine ⟨?_, ?_, ?_, ?_⟩ <;> (first | assumption | exact hS _ _ | omega | (constructor <;> omega))) | (refine ⟨⟨?_, ?_⟩, ?_, ?_⟩ <;> (first | assumption | exact hS _ _ | omega | (constructor <;> omega))) | decide | (simp only [up2, Int.toNat_natCast, a_live5, not_true_eq_false, not_false_eq_true, Nat.reduceEqDiff, false_and, true_and, and_true, and_false, and_self, if_true, if_false, ↓reduceIte, reduceCtorEq]; first | (first | assumption | exact hS _ _ | omega | (constructor <;> omega)) | (refine ⟨?_, ?_⟩ <;> (first | assumption | exact hS _ _ | omega | (constructor <;> omega))) | (refine ⟨?_, ?_, ?_⟩ <;> (first | assumption | exact hS _ _ | omega | (constructor <;> omega))) | (refine ⟨?_, ?_, ?_, ?_⟩ <;> (first | assumption | exact hS _ _ | omega | (constructor <;> omega))) | (refine ⟨⟨?_, ?_⟩, ?_, ?_⟩ <;> (first | assumption | exact hS _ _ | omega | (constructor <;> omega))) | decide))) | (refine And.intro ?_ ?_ <;> (intro hc; (try simp only [up2, Int.toNat_natCast, a_live5, not_true_eq_false, not_false_eq_true, Nat.reduceEqDiff, false_and, true_and, and_true, and_false, and_self, if_true, if_false, ↓reduceIte, reduceCtorEq] at hc); try (exfalso; first | assumption | omega))) | (refine x_som_i l0 ?_) | (refine x_som_i l1 ?_) | (refine x_som_i l2 ?_) | (refine x_som_i l3 ?_) | (refine x_som_i l4 ?_) | (refine x_som_i l5 ?_) | (refine x_som_i l6 ?_) | (refine a_wo ?sd ?_; case sd => (first | exact hS _ _ | assumption | (constructor <;> omega) | (simp only [up2, Int.toNat_natCast, a_live5, not_true_eq_false, not_false_eq_true, Nat.reduceEqDiff, false_and, true_and, and_true, and_false, and_self, if_true, if_false, ↓reduceIte, reduceCtorEq]; first | exact hS _ _ | assumption | (constructor <;> omega)))) | (refine st 0 _ _ _ _ _ _ _ rfl ?_) | (refine st 32 _ _ _ _ _ _ _ rfl ?_) | (refine st 38 _ _ _ _ _ _ _ rfl ?_)
  refine loop (v 10 i).toNat 0 _ ?_ ?_ ?_ ?_ ?_ <;> first | rfl | omega | (intro q hq; omega)
def m_push (v : SV) (i t : Nat) (x m : Int) : SV := up2 (up2 (up2 (up2 v 16 (i + 8 * (v 10 i).toNat) t) 17 (i + 8 * (v 10 i).toNat) x) 18 (i + 8 * (v 10 i).toNat) m) 10 i (v 10 i + 1)
theorem c_push {i t : Nat} (x m : Int) (hi : i < 8) (ht : a_live5 v t) (ht2 : t < 32) (hx : iS x) (hm : iS m) (hd : 0 ≤ v 10 i ∧ v 10 i < 4) : AHolds X y_Caller_push [aR 1 i, aR 5 t, aI x, aI m] v L 0 0 0 0 (fun r v' L' => r = none ∧ v' = m_push v i t x m ∧ L = L') := by
  refine a_sm fun hS => ?_
  refine a_met ok_Caller_push (by decide +kernel) (Nat.le_of_ble_eq_true rfl) fun go st => ?_
  repeat' first | (refine a_si ?sd ?_; case sd => (first | (first | assumption | exact hS _ _ | omega | (constructor <;> omega)) | (refine ⟨?_, ?_⟩ <;> (first | assumption | exact hS _ _ | omega | (constructor <;> omega))) | (refine ⟨?_, ?_, ?_⟩ <;> (first | assumption | exact hS _ _ | omega | (constructor <;> omega))) | (refine ⟨?_, ?_, ?_, ?_⟩ <;> (first | assumption | exact hS _ _ | omega | (constructor <;> omega))) | (refine ⟨⟨?_, ?_⟩, ?_, ?_⟩ <;> (first | assumption | exact hS _ _ | omega | (constructor <;> omega))) | decide | (simp only [up2, Int.toNat_natCast, a_live5, not_true_eq_false, not_false_eq_true, Nat.reduceEqDiff, false_and, true_and, and_true, and_false, and_self, if_true, if_false, ↓reduceIte, reduceCtorEq]; first | (first | assumption | exact hS _ _ | omega | (constructor <;> omega)) | (refine ⟨?_, ?_⟩ <;> (first | assumption | exact hS _ _ | omega | (constructor <;> omega))) | (refine ⟨?_, ?_, ?_⟩ <;> (first | assumption | exact hS _ _ | omega | (constructor <;> omega))) | (refine ⟨?_, ?_, ?_, ?_⟩ <;> (first | assumption | exact hS _ _ | omega | (constructor <;> omega))) | (refine ⟨⟨?_, ?_⟩, ?_, ?_⟩ <;> (first | assumption | exact hS _ _ | omega | (constructor <;> omega))) | decide))) | (refine And.intro ?_ ?_ <;> (intro hc; (try simp only [up2, Int.toNat_natCast, a_live5, not_true_eq_false, not_false_eq_true, Nat.reduceEqDiff, false_and, true_and, and_true, and_false, and_self, if_true, if_false, ↓reduceIte, reduceCtorEq] at hc); try (exfalso; first | assumption | omega))) | (refine x_som_i l0 ?_) | (refine x_som_i l1 ?_) | (refine x_som_i l2 ?_) | (refine x_som_i l3 ?_) | (refine x_som_i l4 ?_) | (refine x_som_i l5 ?_) | (refine x_som_i l6 ?_) | (refine a_wo ?sd ?_; case sd => (first | exact hS _ _ | assumption | (constructor <;> omega) | (simp only [up2, Int.toNat_natCast, a_live5, not_true_eq_false, not_false_eq_true, Nat.reduceEqDiff, false_and, true_and, and_true, and_false, and_self, if_true, if_false, ↓reduceIte, reduceCtorEq]; first | exact hS _ _ | assumption | (constructor <;> omega)))) | (refine st 0 _ _ _ _ _ _ _ rfl ?_) | (refine st 48 _ _ _ _ _ _ _ rfl ?_)
  exact ⟨rfl, rfl, rfl⟩
theorem c_joinLine {i t : Nat} (m w : Int) (hi : i < 8) (ht : a_live5 v t) (ht2 : t < 32) (hm : iS m) (hw : iS w) (hl : (L (100 + t)).length ≤ 40) (he : ∀ j, j < (L (100 + t)).length → (L (100 + t)).getD j 0 < 8) : AHolds X y_Caller_joinLine [aR 1 i, aR 5 t, aI m, aI w] v L 10 400 1 90 (fun r v' L' => r = none ∧ v' = up2 (up2 (up2 v 11 i t) 12 i m) 13 i w ∧ L' = upL L (100 + t) (L (100 + t) ++ [i])) := by
  refine a_sm fun hS => ?_
  refine a_met ok_Caller_joinLine (by decide +kernel) (Nat.le_of_ble_eq_true rfl) fun go st => ?_
  repeat' first | (refine a_si ?sd ?_; case sd => (first | (first | assumption | exact hS _ _ | omega | (constructor <;> omega)) | (refine ⟨?_, ?_⟩ <;> (first | assumption | exact hS _ _ | omega | (constructor <;> omega))) | (refine ⟨?_, ?_, ?_⟩ <;> (first | assumption | exact hS _ _ | omega | (constructor <;> omega))) | (refine ⟨?_, ?_, ?_, ?_⟩ <;> (first | assumption | exact hS _ _ | omega | (constructor <;> omega))) | (refine ⟨⟨?_, ?_⟩, ?_, ?_⟩ <;> (first | assumption | exact hS _ _ | omega | (constructor <;> omega))) | decide | (simp only [up2, Int.toNat_natCast, a_live5, not_true_eq_false, not_false_eq_true, Nat.reduceEqDiff, false_and, true_and, and_true, and_false, and_self, if_true, if_false, ↓reduceIte, reduceCtorEq]; first | (first | assumption | exact hS _ _ | omega | (constructor <;> omega)) | (refine ⟨?_, ?_⟩ <;> (first | assumption | exact hS _ _ | omega | (constructor <;> omega))) | (refine ⟨?_, ?_, ?_⟩ <;> (first | assumption | exact hS _ _ | omega | (constructor <;> omega))) | (refine ⟨?_, ?_, ?_, ?_⟩ <;> (first | assumption | exact hS _ _ | omega | (constructor <;> omega))) | (refine ⟨⟨?_, ?_⟩, ?_, ?_⟩ <;> (first | assumption | exact hS _ _ | omega | (constructor <;> omega))) | decide))) | (refine And.intro ?_ ?_ <;> (intro hc; (try simp only [up2, Int.toNat_natCast, a_live5, not_true_eq_false, not_false_eq_true, Nat.reduceEqDiff, false_and, true_and, and_true, and_false, and_self, if_true, if_false, ↓reduceIte, reduceCtorEq] at hc); try (exfalso; first | assumption | omega))) | (refine x_som_i l0 ?_) | (refine x_som_i l1 ?_) | (refine x_som_i l2 ?_) | (refine x_som_i l3 ?_) | (refine x_som_i l4 ?_) | (refine x_som_i l5 ?_) | (refine x_som_i l6 ?_) | (refine a_wo ?sd ?_; case sd => (first | exact hS _ _ | assumption | (constructor <;> omega) | (simp only [up2, Int.toNat_natCast, a_live5, not_true_eq_false, not_false_eq_true, Nat.reduceEqDiff, false_and, true_and, and_true, and_false, and_self, if_true, if_false, ↓reduceIte, reduceCtorEq]; first | exact hS _ _ | assumption | (constructor <;> omega)))) | (refine st 0 _ _ _ _ _ _ _ rfl ?_)
  refine a_ci (a_line_add ht2 ?a1 hl he hi) ?room ?_
  case room => first | decide | exact ⟨by decide, by decide, by omega, by omega⟩
  case a1 => (first | (first | assumption | exact hS _ _ | omega | (constructor <;> omega)) | (refine ⟨?_, ?_⟩ <;> (first | assumption | exact hS _ _ | omega | (constructor <;> omega))) | (refine ⟨?_, ?_, ?_⟩ <;> (first | assumption | exact hS _ _ | omega | (constructor <;> omega))) | (refine ⟨?_, ?_, ?_, ?_⟩ <;> (first | assumption | exact hS _ _ | omega | (constructor <;> omega))) | (refine ⟨⟨?_, ?_⟩, ?_, ?_⟩ <;> (first | assumption | exact hS _ _ | omega | (constructor <;> omega))) | decide | (simp only [up2, Int.toNat_natCast, a_live5, not_true_eq_false, not_false_eq_true, Nat.reduceEqDiff, false_and, true_and, and_true, and_false, and_self, if_true, if_false, ↓reduceIte, reduceCtorEq]; first | (first | assumption | exact hS _ _ | omega | (constructor <;> omega)) | (refine ⟨?_, ?_⟩ <;> (first | assumption | exact hS _ _ | omega | (constructor <;> omega))) | (refine ⟨?_, ?_, ?_⟩ <;> (first | assumption | exact hS _ _ | omega | (constructor <;> omega))) | (refine ⟨?_, ?_, ?_, ?_⟩ <;> (first | assumption | exact hS _ _ | omega | (constructor <;> omega))) | (refine ⟨⟨?_, ?_⟩, ?_, ?_⟩ <;> (first | assumption | exact hS _ _ | omega | (constructor <;> omega))) | decide))
  rintro _ _ _ ⟨rfl, rfl, rfl⟩
  repeat' first | (refine a_si ?sd ?_; case sd => (first | (first | assumption | exact hS _ _ | omega | (constructor <;> omega)) | (refine ⟨?_, ?_⟩ <;> (first | assumption | exact hS _ _ | omega | (constructor <;> omega))) | (refine ⟨?_, ?_, ?_⟩ <;> (first | assumption | exact hS _ _ | omega | (constructor <;> omega))) | (refine ⟨?_, ?_, ?_, ?_⟩ <;> (first | assumption | exact hS _ _ | omega | (constructor <;> omega))) | (refine ⟨⟨?_, ?_⟩, ?_, ?_⟩ <;> (first | assumption | exact hS _ _ | omega | (constructor <;> omega))) | decide | (simp only [up2, Int.toNat_natCast, a_live5, not_true_eq_false, not_false_eq_true, Nat.reduceEqDiff, false_and, true_and, and_true, and_false, and_self, if_true, if_false, ↓reduceIte, reduceCtorEq]; first | (first | assumption | exact hS _ _ | omega | (constructor <;> omega)) | (refine ⟨?_, ?_⟩ <;> (first | assumption | exact hS _ _ | omega | (constructor <;> omega))) | (refine ⟨?_, ?_, ?_⟩ <;> (first | assumption | exact hS _ _ | omega | (constructor <;> omega))) | (refine ⟨?_, ?_, ?_, ?_⟩ <;> (first | assumption | exact hS _ _ | omega | (constructor <;> omega))) | (refine ⟨⟨?_, ?_⟩, ?_, ?_⟩ <;> (first | assumption | exact hS _ _ | omega | (constructor <;> omega))) | decide))) | (refine And.intro ?_ ?_ <;> (intro hc; (try simp only [up2, Int.toNat_natCast, a_live5, not_true_eq_false, not_false_eq_true, Nat.reduceEqDiff, false_and, true_and, and_true, and_false, and_self, if_true, if_false, ↓reduceIte, reduceCtorEq] at hc); try (exfalso; first | assumption | omega))) | (refine x_som_i l0 ?_) | (refine x_som_i l1 ?_) | (refine x_som_i l2 ?_) | (refine x_som_i l3 ?_) | (refine x_som_i l4 ?_) | (refine x_som_i l5 ?_) | (refine x_som_i l6 ?_) | (refine a_wo ?sd ?_; case sd => (first | exact hS _ _ | assumption | (constructor <;> omega) | (simp only [up2, Int.toNat_natCast, a_live5, not_true_eq_false, not_false_eq_true, Nat.reduceEqDiff, false_and, true_and, and_true, and_false, and_self, if_true, if_false, ↓reduceIte, reduceCtorEq]; first | exact hS _ _ | assumption | (constructor <;> omega)))) | (refine st 0 _ _ _ _ _ _ _ rfl ?_)
  exact ⟨rfl, rfl, rfl⟩
theorem er_idx {i : Nat} : ∀ (l : List Nat) (j : Nat), j < l.length → l.getD j 0 = i → (∀ q, q < j → l.getD q 0 ≠ i) → l.eraseIdx j = l.erase i := by
  intro l
  induction l with
  | nil => intro j h; simp at h
  | cons a l ih =>
    intro j h1 h2 h3
    cases j with
    | zero =>
      have h2 : a = i := h2
      subst h2
      simp
    | succ j =>
      have h4 : a ≠ i := h3 0 (by omega)
      rw [List.eraseIdx_cons_succ, List.erase_cons_tail (by simpa using h4), ih j (by simpa using h1) h2 (fun q hq => h3 (q + 1) (by omega))]
theorem c_leaveLine {i : Nat} (hi : i < 8) (h0 : 0 ≤ v 11 i) (ht : a_live5 v (v 11 i).toNat) (ht2 : v 11 i < 32) (hl : (L (100 + (v 11 i).toNat)).length ≤ 40) (he : ∀ j, j < (L (100 + (v 11 i).toNat)).length → (L (100 + (v 11 i).toNat)).getD j 0 < 8) : AHolds X y_Caller_leaveLine [aR 1 i] v L 10 400 0 0 (fun r v' L' => r = none ∧ v' = up2 v 11 i (-1) ∧ L' = upL L (100 + (v 11 i).toNat) ((L (100 + (v 11 i).toNat)).erase i)) := by
  obtain ⟨t, et⟩ : ∃ t, (v 11 i).toNat = t := ⟨_, rfl⟩
  have ht' := ht
  rw [et] at ht hl he ⊢
  have ht2 : t < 32 := by omega
  refine a_sm fun hS => ?_
  refine a_met ok_Caller_leaveLine (by decide +kernel) (Nat.le_of_ble_eq_true rfl) fun go st => ?_
  have loop : ∀ (n j : Nat) (ls : ALc), j + n = (L (100 + t)).length → (∀ q : Nat, q < j → (L (100 + t)).getD q 0 ≠ i) → ls 0 = some (aR 1 i) → ls 1 = some (aR 6 t) → ls 2 = some (aI j) → go 23 ls [] (up2 v 11 i (-1)) L 0 0 := by
    intro n
    induction n with
    | zero =>
      intro j ls hj hq l0 l1 l2
      refine st 23 _ _ _ _ _ _ _ rfl ?_
      repeat' first | (refine a_si ?sd ?_; case sd => (first | (first | assumption | exact hS _ _ | omega | (constructor <;> omega)) | (refine ⟨?_, ?_⟩ <;> (first | assumption | exact hS _ _ | omega | (constructor <;> omega))) | (refine ⟨?_, ?_, ?_⟩ <;> (first | assumption | exact hS _ _ | omega | (constructor <;> omega))) | (refine ⟨?_, ?_, ?_, ?_⟩ <;> (first | assumption | exact hS _ _ | omega | (constructor <;> omega))) | (refine ⟨⟨?_, ?_⟩, ?_, ?_⟩ <;> (first | assumption | exact hS _ _ | omega | (constructor <;> omega))) | decide | (simp only [up2, Int.toNat_natCast, a_live5, not_true_eq_false, not_false_eq_true, Nat.reduceEqDiff, false_and, true_and, and_true, and_false, and_self, if_true, if_false, ↓reduceIte, reduceCtorEq]; first | (first | assumption | exact hS _ _ | omega | (constructor <;> omega)) | (refine ⟨?_, ?_⟩ <;> (first | assumption | exact hS _ _ | omega | (constructor <;> omega))) | (refine ⟨?_, ?_, ?_⟩ <;> (first | assumption | exact hS _ _ | omega | (constructor <;> omega))) | (refine ⟨?_, ?_, ?_, ?_⟩ <;> (first | assumption | exact hS _ _ | omega | (constructor <;> omega))) | (refine ⟨⟨?_, ?_⟩, ?_, ?_⟩ <;> (first | assumption | exact hS _ _ | omega | (constructor <;> omega))) | decide))) | (refine And.intro ?_ ?_ <;> (intro hc; (try simp only [up2, Int.toNat_natCast, a_live5, not_true_eq_false, not_false_eq_true, Nat.reduceEqDiff, false_and, true_and, and_true, and_false, and_self, if_true, if_false, ↓reduceIte, reduceCtorEq] at hc); try (exfalso; first | assumption | omega))) | (refine x_som_i l0 ?_) | (refine x_som_i l1 ?_) | (refine x_som_i l2 ?_) | (refine x_som_i l3 ?_) | (refine x_som_i l4 ?_) | (refine x_som_i l5 ?_) | (refine x_som_i l6 ?_) | (refine a_wo ?sd ?_; case sd => (first | exact hS _ _ | assumption | (constructor <;> omega) | (simp only [up2, Int.toNat_natCast, a_live5, not_true_eq_false, not_false_eq_true, Nat.reduceEqDiff, false_and, true_and, and_true, and_false, and_self, if_true, if_false, ↓reduceIte, reduceCtorEq]; first | exact hS _ _ | assumption | (constructor <;> omega)))) | (refine st 0 _ _ _ _ _ _ _ rfl ?_) | (refine st 8 _ _ _ _ _ _ _ rfl ?_) | (refine st 47 _ _ _ _ _ _ _ rfl ?_) | (refine st 53 _ _ _ _ _ _ _ rfl ?_)
      refine a_ci (a_line_size ht2 ?a1) ?room ?_
      case room => first | decide | exact ⟨by decide, by decide, by omega, by omega⟩
      case a1 => (first | (first | assumption | exact hS _ _ | omega | (constructor <;> omega)) | (refine ⟨?_, ?_⟩ <;> (first | assumption | exact hS _ _ | omega | (constructor <;> omega))) | (refine ⟨?_, ?_, ?_⟩ <;> (first | assumption | exact hS _ _ | omega | (constructor <;> omega))) | (refine ⟨?_, ?_, ?_, ?_⟩ <;> (first | assumption | exact hS _ _ | omega | (constructor <;> omega))) | (refine ⟨⟨?_, ?_⟩, ?_, ?_⟩ <;> (first | assumption | exact hS _ _ | omega | (constructor <;> omega))) | decide | (simp only [up2, Int.toNat_natCast, a_live5, not_true_eq_false, not_false_eq_true, Nat.reduceEqDiff, false_and, true_and, and_true, and_false, and_self, if_true, if_false, ↓reduceIte, reduceCtorEq]; first | (first | assumption | exact hS _ _ | omega | (constructor <;> omega)) | (refine ⟨?_, ?_⟩ <;> (first | assumption | exact hS _ _ | omega | (constructor <;> omega))) | (refine ⟨?_, ?_, ?_⟩ <;> (first | assumption | exact hS _ _ | omega | (constructor <;> omega))) | (refine ⟨?_, ?_, ?_, ?_⟩ <;> (first | assumption | exact hS _ _ | omega | (constructor <;> omega))) | (refine ⟨⟨?_, ?_⟩, ?_, ?_⟩ <;> (first | assumption | exact hS _ _ | omega | (constructor <;> omega))) | decide))
      rintro _ _ _ ⟨rfl, rfl, rfl⟩
      repeat' first | (refine a_si ?sd ?_; case sd => (first | (first | assumption | exact hS _ _ | omega | (constructor <;> omega)) | (refine ⟨?_, ?_⟩ <;> (first | assumption | exact hS _ _ | omega | (constructor <;> omega))) | (refine ⟨?_, ?_, ?_⟩ <;> (first | assumption | exact hS _ _ | omega | (constructor <;> omega))) | (refine ⟨?_, ?_, ?_, ?_⟩ <;> (first | assumption | exact hS _ _ | omega | (constructor <;> omega))) | (refine ⟨⟨?_, ?_⟩, ?_, ?_⟩ <;> (first | assumption | exact hS _ _ | omega | (constructor <;> omega))) | decide | (simp only [up2, Int.toNat_natCast, a_live5, not_true_eq_false, not_false_eq_true, Nat.reduceEqDiff, false_and, true_and, and_true, and_false, and_self, if_true, if_false, ↓reduceIte, reduceCtorEq]; first | (first | assumption | exact hS _ _ | omega | (constructor <;> omega)) | (refine ⟨?_, ?_⟩ <;> (first | assumption | exact hS _ _ | omega | (constructor <;> omega))) | (refine ⟨?_, ?_, ?_⟩ <;> (first | assumption | exact hS _ _ | omega | (constructor <;> omega))) | (refine ⟨?_, ?_, ?_, ?_⟩ <;> (first | assumption | exact hS _ _ | omega | (constructor <;> omega))) | (refine ⟨⟨?_, ?_⟩, ?_, ?_⟩ <;> (first | assumption | exact hS _ _ | omega | (constructor <;> omega))) | decide))) | (refine And.intro ?_ ?_ <;> (intro hc; (try simp only [up2, Int.toNat_natCast, a_live5, not_true_eq_false, not_false_eq_true, Nat.reduceEqDiff, false_and, true_and, and_true, and_false, and_self, if_true, if_false, ↓reduceIte, reduceCtorEq] at hc); try (exfalso; first | assumption | omega))) | (refine x_som_i l0 ?_) | (refine x_som_i l1 ?_) | (refine x_som_i l2 ?_) | (refine x_som_i l3 ?_) | (refine x_som_i l4 ?_) | (refine x_som_i l5 ?_) | (refine x_som_i l6 ?_) | (refine a_wo ?sd ?_; case sd => (first | exact hS _ _ | assumption | (constructor <;> omega) | (simp only [up2, Int.toNat_natCast, a_live5, not_true_eq_false, not_false_eq_true, Nat.reduceEqDiff, false_and, true_and, and_true, and_false, and_self, if_true, if_false, ↓reduceIte, reduceCtorEq]; first | exact hS _ _ | assumption | (constructor <;> omega)))) | (refine st 0 _ _ _ _ _ _ _ rfl ?_) | (refine st 8 _ _ _ _ _ _ _ rfl ?_) | (refine st 47 _ _ _ _ _ _ _ rfl ?_) | (refine st 53 _ _ _ _ _ _ _ rfl ?_)
      refine ⟨rfl, rfl, ?_⟩
      rw [List.erase_of_not_mem]
      · funext q; unfold upL; split <;> simp_all
      · intro hm
        obtain ⟨q, h1, h2⟩ := List.getElem_of_mem hm
        exact hq q (by omega) (by rw [List.getD_eq_getElem?_getD, List.getElem?_eq_getElem h1, h2]; rfl)
    | succ n ih =>
      intro j ls hj hq l0 l1 l2
      have h5 := he j (by omega)
      refine st 23 _ _ _ _ _ _ _ rfl ?_
      repeat' first | (refine a_si ?sd ?_; case sd => (first | (first | assumption | exact hS _ _ | omega | (constructor <;> omega)) | (refine ⟨?_, ?_⟩ <;> (first | assumption | exact hS _ _ | omega | (constructor <;> omega))) | (refine ⟨?_, ?_, ?_⟩ <;> (first | assumption | exact hS _ _ | omega | (constructor <;> omega))) | (refine ⟨?_, ?_, ?_, ?_⟩ <;> (first | assumption | exact hS _ _ | omega | (constructor <;> omega))) | (refine ⟨⟨?_, ?_⟩, ?_, ?_⟩ <;> (first | assumption | exact hS _ _ | omega | (constructor <;> omega))) | decide | (simp only [up2, Int.toNat_natCast, a_live5, not_true_eq_false, not_false_eq_true, Nat.reduceEqDiff, false_and, true_and, and_true, and_false, and_self, if_true, if_false, ↓reduceIte, reduceCtorEq]; first | (first | assumption | exact hS _ _ | omega | (constructor <;> omega)) | (refine ⟨?_, ?_⟩ <;> (first | assumption | exact hS _ _ | omega | (constructor <;> omega))) | (refine ⟨?_, ?_, ?_⟩ <;> (first | assumption | exact hS _ _ | omega | (constructor <;> omega))) | (refine ⟨?_, ?_, ?_, ?_⟩ <;> (first | assumption | exact hS _ _ | omega | (constructor <;> omega))) | (refine ⟨⟨?_, ?_⟩, ?_, ?_⟩ <;> (first | assumption | exact hS _ _ | omega | (constructor <;> omega))) | decide))) | (refine And.intro ?_ ?_ <;> (intro hc; (try simp only [up2, Int.toNat_natCast, a_live5, not_true_eq_false, not_false_eq_true, Nat.reduceEqDiff, false_and, true_and, and_true, and_false, and_self, if_true, if_false, ↓reduceIte, reduceCtorEq] at hc); try (exfalso; first | assumption | omega))) | (refine x_som_i l0 ?_) | (refine x_som_i l1 ?_) | (refine x_som_i l2 ?_) | (refine x_som_i l3 ?_) | (refine x_som_i l4 ?_) | (refine x_som_i l5 ?_) | (refine x_som_i l6 ?_) | (refine a_wo ?sd ?_; case sd => (first | exact hS _ _ | assumption | (constructor <;> omega) | (simp only [up2, Int.toNat_natCast, a_live5, not_true_eq_false, not_false_eq_true, Nat.reduceEqDiff, false_and, true_and, and_true, and_false, and_self, if_true, if_false, ↓reduceIte, reduceCtorEq]; first | exact hS _ _ | assumption | (constructor <;> omega)))) | (refine st 0 _ _ _ _ _ _ _ rfl ?_) | (refine st 8 _ _ _ _ _ _ _ rfl ?_) | (refine st 47 _ _ _ _ _ _ _ rfl ?_) | (refine st 53 _ _ _ _ _ _ _ rfl ?_)
      refine a_ci (a_line_size ht2 ?a1) ?room ?_
      case room => first | decide | exact ⟨by decide, by decide, by omega, by omega⟩
      case a1 => (first | (first | assumption | exact hS _ _ | omega | (constructor <;> omega)) | (refine ⟨?_, ?_⟩ <;> (first | assumption | exact hS _ _ | omega | (constructor <;> omega))) | (refine ⟨?_, ?_, ?_⟩ <;> (first | assumption | exact hS _ _ | omega | (constructor <;> omega))) | (refine ⟨?_, ?_, ?_, ?_⟩ <;> (first | assumption | exact hS _ _ | omega | (constructor <;> omega))) | (refine ⟨⟨?_, ?_⟩, ?_, ?_⟩ <;> (first | assumption | exact hS _ _ | omega | (constructor <;> omega))) | decide | (simp only [up2, Int.toNat_natCast, a_live5, not_true_eq_false, not_false_eq_true, Nat.reduceEqDiff, false_and, true_and, and_true, and_false, and_self, if_true, if_false, ↓reduceIte, reduceCtorEq]; first | (first | assumption | exact hS _ _ | omega | (constructor <;> omega)) | (refine ⟨?_, ?_⟩ <;> (first | assumption | exact hS _ _ | omega | (constructor <;> omega))) | (refine ⟨?_, ?_, ?_⟩ <;> (first | assumption | exact hS _ _ | omega | (constructor <;> omega))) | (refine ⟨?_, ?_, ?_, ?_⟩ <;> (first | assumption | exact hS _ _ | omega | (constructor <;> omega))) | (refine ⟨⟨?_, ?_⟩, ?_, ?_⟩ <;> (first | assumption | exact hS _ _ | omega | (constructor <;> omega))) | decide))
      rintro _ _ _ ⟨rfl, rfl, rfl⟩
      repeat' first | (refine a_si ?sd ?_; case sd => (first | (first | assumption | exact hS _ _ | omega | (constructor <;> omega)) | (refine ⟨?_, ?_⟩ <;> (first | assumption | exact hS _ _ | omega | (constructor <;> omega))) | (refine ⟨?_, ?_, ?_⟩ <;> (first | assumption | exact hS _ _ | omega | (constructor <;> omega))) | (refine ⟨?_, ?_, ?_, ?_⟩ <;> (first | assumption | exact hS _ _ | omega | (constructor <;> omega))) | (refine ⟨⟨?_, ?_⟩, ?_, ?_⟩ <;> (first | assumption | exact hS _ _ | omega | (constructor <;> omega))) | decide | (simp only [up2, Int.toNat_natCast, a_live5, not_true_eq_false, not_false_eq_true, Nat.reduceEqDiff, false_and, true_and, and_true, and_false, and_self, if_true, if_false, ↓reduceIte, reduceCtorEq]; first | (first | assumption | exact hS _ _ | omega | (constructor <;> omega)) | (refine ⟨?_, ?_⟩ <;> (first | assumption | exact hS _ _ | omega | (constructor <;> omega))) | (refine ⟨?_, ?_, ?_⟩ <;> (first | assumption | exact hS _ _ | omega | (constructor <;> omega))) | (refine ⟨?_, ?_, ?_, ?_⟩ <;> (first | assumption | exact hS _ _ | omega | (constructor <;> omega))) | (refine ⟨⟨?_, ?_⟩, ?_, ?_⟩ <;> (first | assumption | exact hS _ _ | omega | (constructor <;> omega))) | decide))) | (refine And.intro ?_ ?_ <;> (intro hc; (try simp only [up2, Int.toNat_natCast, a_live5, not_true_eq_false, not_false_eq_true, Nat.reduceEqDiff, false_and, true_and, and_true, and_false, and_self, if_true, if_false, ↓reduceIte, reduceCtorEq] at hc); try (exfalso; first | assumption | omega))) | (refine x_som_i l0 ?_) | (refine x_som_i l1 ?_) | (refine x_som_i l2 ?_) | (refine x_som_i l3 ?_) | (refine x_som_i l4 ?_) | (refine x_som_i l5 ?_) | (refine x_som_i l6 ?_) | (refine a_wo ?sd ?_; case sd => (first | exact hS _ _ | assumption | (constructor <;> omega) | (simp only [up2, Int.toNat_natCast, a_live5, not_true_eq_false, not_false_eq_true, Nat.reduceEqDiff, false_and, true_and, and_true, and_false, and_self, if_true, if_false, ↓reduceIte, reduceCtorEq]; first | exact hS _ _ | assumption | (constructor <;> omega)))) | (refine st 0 _ _ _ _ _ _ _ rfl ?_) | (refine st 8 _ _ _ _ _ _ _ rfl ?_) | (refine st 47 _ _ _ _ _ _ _ rfl ?_) | (refine st 53 _ _ _ _ _ _ _ rfl ?_)
      refine a_ci (a_line_get (L := L) (z := j) ht2 ?a1 (by omega) (by omega)) ?room ?_
      case room => first | decide | exact ⟨by decide, by decide, by omega, by omega⟩
      case a1 => (first | (first | assumption | exact hS _ _ | omega | (constructor <;> omega)) | (refine ⟨?_, ?_⟩ <;> (first | assumption | exact hS _ _ | omega | (constructor <;> omega))) | (refine ⟨?_, ?_, ?_⟩ <;> (first | assumption | exact hS _ _ | omega | (constructor <;> omega))) | (refine ⟨?_, ?_, ?_, ?_⟩ <;> (first | assumption | exact hS _ _ | omega | (constructor <;> omega))) | (refine ⟨⟨?_, ?_⟩, ?_, ?_⟩ <;> (first | assumption | exact hS _ _ | omega | (constructor <;> omega))) | decide | (simp only [up2, Int.toNat_natCast, a_live5, not_true_eq_false, not_false_eq_true, Nat.reduceEqDiff, false_and, true_and, and_true, and_false, and_self, if_true, if_false, ↓reduceIte, reduceCtorEq]; first | (first | assumption | exact hS _ _ | omega | (constructor <;> omega)) | (refine ⟨?_, ?_⟩ <;> (first | assumption | exact hS _ _ | omega | (constructor <;> omega))) | (refine ⟨?_, ?_, ?_⟩ <;> (first | assumption | exact hS _ _ | omega | (constructor <;> omega))) | (refine ⟨?_, ?_, ?_, ?_⟩ <;> (first | assumption | exact hS _ _ | omega | (constructor <;> omega))) | (refine ⟨⟨?_, ?_⟩, ?_, ?_⟩ <;> (first | assumption | exact hS _ _ | omega | (constructor <;> omega))) | decide))
      rintro _ _ _ ⟨rfl, rfl, rfl⟩
      repeat' first | (refine a_si ?sd ?_; case sd => (first | (first | assumption | exact hS _ _ | omega | (constructor <;> omega)) | (refine ⟨?_, ?_⟩ <;> (first | assumption | exact hS _ _ | omega | (constructor <;> omega))) | (refine ⟨?_, ?_, ?_⟩ <;> (first | assumption | exact hS _ _ | omega | (constructor <;> omega))) | (refine ⟨?_, ?_, ?_, ?_⟩ <;> (first | assumption | exact hS _ _ | omega | (constructor <;> omega))) | (refine ⟨⟨?_, ?_⟩, ?_, ?_⟩ <;> (first | assumption | exact hS _ _ | omega | (constructor <;> omega))) | decide | (simp only [up2, Int.toNat_natCast, a_live5, not_true_eq_false, not_false_eq_true, Nat.reduceEqDiff, false_and, true_and, and_true, and_false, and_self, if_true, if_false, ↓reduceIte, reduceCtorEq]; first | (first | assumption | exact hS _ _ | omega | (constructor <;> omega)) | (refine ⟨?_, ?_⟩ <;> (first | assumption | exact hS _ _ | omega | (constructor <;> omega))) | (refine ⟨?_, ?_, ?_⟩ <;> (first | assumption | exact hS _ _ | omega | (constructor <;> omega))) | (refine ⟨?_, ?_, ?_, ?_⟩ <;> (first | assumption | exact hS _ _ | omega | (constructor <;> omega))) | (refine ⟨⟨?_, ?_⟩, ?_, ?_⟩ <;> (first | assumption | exact hS _ _ | omega | (constructor <;> omega))) | decide))) | (refine And.intro ?_ ?_ <;> (intro hc; (try simp only [up2, Int.toNat_natCast, a_live5, not_true_eq_false, not_false_eq_true, Nat.reduceEqDiff, false_and, true_and, and_true, and_false, and_self, if_true, if_false, ↓reduceIte, reduceCtorEq] at hc); try (exfalso; first | assumption | omega))) | (refine x_som_i l0 ?_) | (refine x_som_i l1 ?_) | (refine x_som_i l2 ?_) | (refine x_som_i l3 ?_) | (refine x_som_i l4 ?_) | (refine x_som_i l5 ?_) | (refine x_som_i l6 ?_) | (refine a_wo ?sd ?_; case sd => (first | exact hS _ _ | assumption | (constructor <;> omega) | (simp only [up2, Int.toNat_natCast, a_live5, not_true_eq_false, not_false_eq_true, Nat.reduceEqDiff, false_and, true_and, and_true, and_false, and_self, if_true, if_false, ↓reduceIte, reduceCtorEq]; first | exact hS _ _ | assumption | (constructor <;> omega)))) | (refine st 0 _ _ _ _ _ _ _ rfl ?_) | (refine st 8 _ _ _ _ _ _ _ rfl ?_) | (refine st 47 _ _ _ _ _ _ _ rfl ?_) | (refine st 53 _ _ _ _ _ _ _ rfl ?_)
      · refine a_ci (a_line_remove (L := L) (z := j) ht2 ?a1 (by omega) (by omega) he) ?room ?_
        case room => first | decide | exact ⟨by decide, by decide, by omega, by omega⟩
        case a1 => (first | (first | assumption | exact hS _ _ | omega | (constructor <;> omega)) | (refine ⟨?_, ?_⟩ <;> (first | assumption | exact hS _ _ | omega | (constructor <;> omega))) | (refine ⟨?_, ?_, ?_⟩ <;> (first | assumption | exact hS _ _ | omega | (constructor <;> omega))) | (refine ⟨?_, ?_, ?_, ?_⟩ <;> (first | assumption | exact hS _ _ | omega | (constructor <;> omega))) | (refine ⟨⟨?_, ?_⟩, ?_, ?_⟩ <;> (first | assumption | exact hS _ _ | omega | (constructor <;> omega))) | decide | (simp only [up2, Int.toNat_natCast, a_live5, not_true_eq_false, not_false_eq_true, Nat.reduceEqDiff, false_and, true_and, and_true, and_false, and_self, if_true, if_false, ↓reduceIte, reduceCtorEq]; first | (first | assumption | exact hS _ _ | omega | (constructor <;> omega)) | (refine ⟨?_, ?_⟩ <;> (first | assumption | exact hS _ _ | omega | (constructor <;> omega))) | (refine ⟨?_, ?_, ?_⟩ <;> (first | assumption | exact hS _ _ | omega | (constructor <;> omega))) | (refine ⟨?_, ?_, ?_, ?_⟩ <;> (first | assumption | exact hS _ _ | omega | (constructor <;> omega))) | (refine ⟨⟨?_, ?_⟩, ?_, ?_⟩ <;> (first | assumption | exact hS _ _ | omega | (constructor <;> omega))) | decide))
        rintro _ _ _ ⟨rfl, rfl, rfl⟩
        repeat' first | (refine a_si ?sd ?_; case sd => (first | (first | assumption | exact hS _ _ | omega | (constructor <;> omega)) | (refine ⟨?_, ?_⟩ <;> (first | assumption | exact hS _ _ | omega | (constructor <;> omega))) | (refine ⟨?_, ?_, ?_⟩ <;> (first | assumption | exact hS _ _ | omega | (constructor <;> omega))) | (refine ⟨?_, ?_, ?_, ?_⟩ <;> (first | assumption | exact hS _ _ | omega | (constructor <;> omega))) | (refine ⟨⟨?_, ?_⟩, ?_, ?_⟩ <;> (first | assumption | exact hS _ _ | omega | (constructor <;> omega))) | decide | (simp only [up2, Int.toNat_natCast, a_live5, not_true_eq_false, not_false_eq_true, Nat.reduceEqDiff, false_and, true_and, and_true, and_false, and_self, if_true, if_false, ↓reduceIte, reduceCtorEq]; first | (first | assumption | exact hS _ _ | omega | (constructor <;> omega)) | (refine ⟨?_, ?_⟩ <;> (first | assumption | exact hS _ _ | omega | (constructor <;> omega))) | (refine ⟨?_, ?_, ?_⟩ <;> (first | assumption | exact hS _ _ | omega | (constructor <;> omega))) | (refine ⟨?_, ?_, ?_, ?_⟩ <;> (first | assumption | exact hS _ _ | omega | (constructor <;> omega))) | (refine ⟨⟨?_, ?_⟩, ?_, ?_⟩ <;> (first | assumption | exact hS _ _ | omega | (constructor <;> omega))) | decide))) | (refine And.intro ?_ ?_ <;> (intro hc; (try simp only [up2, Int.toNat_natCast, a_live5, not_true_eq_false, not_false_eq_true, Nat.reduceEqDiff, false_and, true_and, and_true, and_false, and_self, if_true, if_false, ↓reduceIte, reduceCtorEq] at hc); try (exfalso; first | assumption | omega))) | (refine x_som_i l0 ?_) | (refine x_som_i l1 ?_) | (refine x_som_i l2 ?_) | (refine x_som_i l3 ?_) | (refine x_som_i l4 ?_) | (refine x_som_i l5 ?_) | (refine x_som_i l6 ?_) | (refine a_wo ?sd ?_; case sd => (first | exact hS _ _ | assumption | (constructor <;> omega) | (simp only [up2, Int.toNat_natCast, a_live5, not_true_eq_false, not_false_eq_true, Nat.reduceEqDiff, false_and, true_and, and_true, and_false, and_self, if_true, if_false, ↓reduceIte, reduceCtorEq]; first | exact hS _ _ | assumption | (constructor <;> omega)))) | (refine st 0 _ _ _ _ _ _ _ rfl ?_) | (refine st 8 _ _ _ _ _ _ _ rfl ?_) | (refine st 47 _ _ _ _ _ _ _ rfl ?_) | (refine st 53 _ _ _ _ _ _ _ rfl ?_)
        refine ⟨rfl, rfl, ?_⟩
        rw [Int.toNat_natCast, er_idx _ j (by omega) (by assumption) hq]
      · refine ih (j + 1) _ ?_ ?_ ?_ ?_ ?_
        · omega
        · intro q hq'
          by_cases e : q = j
          · subst e; assumption
          · exact hq q (by omega)
        · exact l0
        · exact l1
        · rfl
  repeat' first | (refine a_si ?sd ?_; case sd => (first | (first | assumption | exact hS _ _ | omega | (constructor <;> omega)) | (refine ⟨?_, ?_⟩ <;> (first | assumption | exact hS _ _ | omega | (constructor <;> omega))) | (refine ⟨?_, ?_, ?_⟩ <;> (first | assumption | exact hS _ _ | omega | (constructor <;> omega))) | (refine ⟨?_, ?_, ?_, ?_⟩ <;> (first | assumption | exact hS _ _ | omega | (constructor <;> omega))) | (refine ⟨⟨?_, ?_⟩, ?_, ?_⟩ <;> (first | assumption | exact hS _ _ | omega | (constructor <;> omega))) | decide | (simp only [up2, Int.toNat_natCast, a_live5, not_true_eq_false, not_false_eq_true, Nat.reduceEqDiff, false_and, true_and, and_true, and_false, and_self, if_true, if_false, ↓reduceIte, reduceCtorEq]; first | (first | assumption | exact hS _ _ | omega | (constructor <;> omega)) | (refine ⟨?_, ?_⟩ <;> (first | assumption | exact hS _ _ | omega | (constructor <;> omega))) | (refine ⟨?_, ?_, ?_⟩ <;> (first | assumption | exact hS _ _ | omega | (constructor <;> omega))) | (refine ⟨?_, ?_, ?_, ?_⟩ <;> (first | assumption | exact hS _ _ | omega | (constructor <;> omega))) | (refine ⟨⟨?_, ?_⟩, ?_, ?_⟩ <;> (first | assumption | exact hS _ _ | omega | (constructor <;> omega))) | decide))) | (refine And.intro ?_ ?_ <;> (intro hc; (try simp only [up2, Int.toNat_natCast, a_live5, not_true_eq_false, not_false_eq_true, Nat.reduceEqDiff, false_and, true_and, and_true, and_false, and_self, if_true, if_false, ↓reduceIte, reduceCtorEq] at hc); try (exfalso; first | assumption | omega))) | (refine x_som_i l0 ?_) | (refine x_som_i l1 ?_) | (refine x_som_i l2 ?_) | (refine x_som_i l3 ?_) | (refine x_som_i l4 ?_) | (refine x_som_i l5 ?_) | (refine x_som_i l6 ?_) | (refine a_wo ?sd ?_; case sd => (first | exact hS _ _ | assumption | (constructor <;> omega) | (simp only [up2, Int.toNat_natCast, a_live5, not_true_eq_false, not_false_eq_true, Nat.reduceEqDiff, false_and, true_and, and_true, and_false, and_self, if_true, if_false, ↓reduceIte, reduceCtorEq]; first | exact hS _ _ | assumption | (constructor <;> omega)))) | (refine st 0 _ _ _ _ _ _ _ rfl ?_) | (refine st 8 _ _ _ _ _ _ _ rfl ?_) | (refine st 47 _ _ _ _ _ _ _ rfl ?_) | (refine st 53 _ _ _ _ _ _ _ rfl ?_)
  refine loop (L (100 + t)).length 0 _ ?_ ?_ ?_ ?_ ?_
  · omega
  · intro q hq; omega
  · rfl
  · rw [← et]; rfl
  · rfl
end
end
section
/-! Pools, sessions, singletons: a target's own methods; tasks; exception types. -/
section
variable {X : XC} {v : SV} {L : SL}
theorem c_Task_dropIfWaiting {k : Nat} (hk : k < (L 1).length) : AHolds X y_Task_dropIfWaiting [aR 11 k] v L 0 0 0 0 (fun r v' L' => r = none ∧ v' = cif (v 53 k = 1) (up2 v 53 k 3) v ∧ L = L') := by
  refine a_sm fun hS => ?_
  refine a_met ok_Task_dropIfWaiting (by decide +kernel) (Nat.le_of_ble_eq_true rfl) fun go st => ?_
  repeat' first | (refine a_si ?sd ?_; case sd => (first | (first | assumption | exact hS _ _ | omega | (constructor <;> omega)) | (refine ⟨?_, ?_⟩ <;> (first | assumption | exact hS _ _ | omega | (constructor <;> omega))) | (refine ⟨?_, ?_, ?_⟩ <;> (first | assumption | exact hS _ _ | omega | (constructor <;> omega))) | (refine ⟨?_, ?_, ?_, ?_⟩ <;> (first | assumption | exact hS _ _ | omega | (constructor <;> omega))) | (refine ⟨⟨?_, ?_⟩, ?_, ?_⟩ <;> (first | assumption | exact hS _ _ | omega | (constructor <;> omega))) | decide | (simp only [m_note, m_markUsed, m_vanish, up2, Int.toNat_natCast, a_live5, not_true_eq_false, not_false_eq_true, Nat.reduceEqDiff, false_and, true_and, and_true, and_false, and_self, if_true, if_false, ↓reduceIte, reduceCtorEq]; first | (first | assumption | exact hS _ _ | omega | (constructor <;> omega)) | (refine ⟨?_, ?_⟩ <;> (first | assumption | exact hS _ _ | omega | (constructor <;> omega))) | (refine ⟨?_, ?_, ?_⟩ <;> (first | assumption | exact hS _ _ | omega | (constructor <;> omega))) | (refine ⟨?_, ?_, ?_, ?_⟩ <;> (first | assumption | exact hS _ _ | omega | (constructor <;> omega))) | (refine ⟨⟨?_, ?_⟩, ?_, ?_⟩ <;> (first | assumption | exact hS _ _ | omega | (constructor <;> omega))) | decide))) | (refine And.intro ?_ ?_ <;> (intro hc; (try simp only [m_note, m_markUsed, m_vanish, up2, Int.toNat_natCast, a_live5, not_true_eq_false, not_false_eq_true, Nat.reduceEqDiff, false_and, true_and, and_true, and_false, and_self, if_true, if_false, ↓reduceIte, reduceCtorEq] at hc); try (exfalso; first | assumption | omega))) | (refine x_som_i l0 ?_) | (refine x_som_i l1 ?_) | (refine x_som_i l2 ?_) | (refine x_som_i l3 ?_) | (refine x_som_i l4 ?_) | (refine x_som_i l5 ?_) | (refine x_som_i l6 ?_) | (refine a_wo ?sd ?_; case sd => (first | exact hS _ _ | assumption | (constructor <;> omega) | (simp only [m_note, m_markUsed, m_vanish, up2, Int.toNat_natCast, a_live5, not_true_eq_false, not_false_eq_true, Nat.reduceEqDiff, false_and, true_and, and_true, and_false, and_self, if_true, if_false, ↓reduceIte, reduceCtorEq]; first | exact hS _ _ | assumption | (constructor <;> omega)))) | (refine st 0 _ _ _ _ _ _ _ rfl ?_) | (refine st 13 _ _ _ _ _ _ _ rfl ?_)
  · exact ⟨rfl, by rw [cif_f (by assumption)], rfl⟩
  · exact ⟨rfl, by rw [cif_t (by assumption)], rfl⟩
theorem c_Task_calledOff {k : Nat} (hk : k < (L 1).length) : AHolds X y_Task_calledOff [aR 11 k] v L 0 0 0 0 (fun r v' L' => r = some (aI (cif (v 53 k = 1) 1 (cif (v 53 k = 2) 2 0))) ∧ v' = cif (v 53 k = 1) (up2 v 53 k 3) (cif (v 53 k = 2) (up2 v 54 k 1) v) ∧ L = L') := by
  refine a_sm fun hS => ?_
  refine a_met ok_Task_calledOff (by decide +kernel) (Nat.le_of_ble_eq_true rfl) fun go st => ?_
  repeat' first | (refine a_si ?sd ?_; case sd => (first | (first | assumption | exact hS _ _ | omega | (constructor <;> omega)) | (refine ⟨?_, ?_⟩ <;> (first | assumption | exact hS _ _ | omega | (constructor <;> omega))) | (refine ⟨?_, ?_, ?_⟩ <;> (first | assumption | exact hS _ _ | omega | (constructor <;> omega))) | (refine ⟨?_, ?_, ?_, ?_⟩ <;> (first | assumption | exact hS _ _ | omega | (constructor <;> omega))) | (refine ⟨⟨?_, ?_⟩, ?_, ?_⟩ <;> (first | assumption | exact hS _ _ | omega | (constructor <;> omega))) | decide | (simp only [m_note, m_markUsed, m_vanish, up2, Int.toNat_natCast, a_live5, not_true_eq_false, not_false_eq_true, Nat.reduceEqDiff, false_and, true_and, and_true, and_false, and_self, if_true, if_false, ↓reduceIte, reduceCtorEq]; first | (first | assumption | exact hS _ _ | omega | (constructor <;> omega)) | (refine ⟨?_, ?_⟩ <;> (first | assumption | exact hS _ _ | omega | (constructor <;> omega))) | (refine ⟨?_, ?_, ?_⟩ <;> (first | assumption | exact hS _ _ | omega | (constructor <;> omega))) | (refine ⟨?_, ?_, ?_, ?_⟩ <;> (first | assumption | exact hS _ _ | omega | (constructor <;> omega))) | (refine ⟨⟨?_, ?_⟩, ?_, ?_⟩ <;> (first | assumption | exact hS _ _ | omega | (constructor <;> omega))) | decide))) | (refine And.intro ?_ ?_ <;> (intro hc; (try simp only [m_note, m_markUsed, m_vanish, up2, Int.toNat_natCast, a_live5, not_true_eq_false, not_false_eq_true, Nat.reduceEqDiff, false_and, true_and, and_true, and_false, and_self, if_true, if_false, ↓reduceIte, reduceCtorEq] at hc); try (exfalso; first | assumption | omega))) | (refine x_som_i l0 ?_) | (refine x_som_i l1 ?_) | (refine x_som_i l2 ?_) | (refine x_som_i l3 ?_) | (refine x_som_i l4 ?_) | (refine x_som_i l5 ?_) | (refine x_som_i l6 ?_) | (refine a_wo ?sd ?_; case sd => (first | exact hS _ _ | assumption | (constructor <;> omega) | (simp only [m_note, m_markUsed, m_vanish, up2, Int.toNat_natCast, a_live5, not_true_eq_false, not_false_eq_true, Nat.reduceEqDiff, false_and, true_and, and_true, and_false, and_self, if_true, if_false, ↓reduceIte, reduceCtorEq]; first | exact hS _ _ | assumption | (constructor <;> omega)))) | (refine st 0 _ _ _ _ _ _ _ rfl ?_) | (refine st 15 _ _ _ _ _ _ _ rfl ?_) | (refine st 30 _ _ _ _ _ _ _ rfl ?_)
  · exact ⟨by rw [cif_f (by omega), cif_f (by omega)], by rw [cif_f (by omega), cif_f (by omega)], rfl⟩
  · exact ⟨by rw [cif_f (by omega), cif_t (by omega)], by rw [cif_f (by omega), cif_t (by omega)], rfl⟩
  · exact ⟨by rw [cif_t (by omega)], by rw [cif_t (by omega)], rfl⟩
theorem c_Task_describe {k : Nat} (hk : k < (L 1).length) : AHolds X y_Task_describe [aR 11 k] v L 0 0 0 0 (fun r v' L' => r = some (aI (cif (v 53 k = 4 ∧ v 52 k ≠ 0) (cif (v 54 k ≠ 0) (v 53 k + 8) (v 53 k) + 16 * (v 55 k + 1)) (cif (v 54 k ≠ 0) (v 53 k + 8) (v 53 k)))) ∧ v = v' ∧ L = L') := by
  refine a_sm fun hS => ?_
  refine a_met ok_Task_describe (by decide +kernel) (Nat.le_of_ble_eq_true rfl) fun go st => ?_
  repeat' first | (refine a_si ?sd ?_; case sd => (first | (first | assumption | exact hS _ _ | omega | (constructor <;> omega)) | (refine ⟨?_, ?_⟩ <;> (first | assumption | exact hS _ _ | omega | (constructor <;> omega))) | (refine ⟨?_, ?_, ?_⟩ <;> (first | assumption | exact hS _ _ | omega | (constructor <;> omega))) | (refine ⟨?_, ?_, ?_, ?_⟩ <;> (first | assumption | exact hS _ _ | omega | (constructor <;> omega))) | (refine ⟨⟨?_, ?_⟩, ?_, ?_⟩ <;> (first | assumption | exact hS _ _ | omega | (constructor <;> omega))) | decide | (simp only [m_note, m_markUsed, m_vanish, up2, Int.toNat_natCast, a_live5, not_true_eq_false, not_false_eq_true, Nat.reduceEqDiff, false_and, true_and, and_true, and_false, and_self, if_true, if_false, ↓reduceIte, reduceCtorEq]; first | (first | assumption | exact hS _ _ | omega | (constructor <;> omega)) | (refine ⟨?_, ?_⟩ <;> (first | assumption | exact hS _ _ | omega | (constructor <;> omega))) | (refine ⟨?_, ?_, ?_⟩ <;> (first | assumption | exact hS _ _ | omega | (constructor <;> omega))) | (refine ⟨?_, ?_, ?_, ?_⟩ <;> (first | assumption | exact hS _ _ | omega | (constructor <;> omega))) | (refine ⟨⟨?_, ?_⟩, ?_, ?_⟩ <;> (first | assumption | exact hS _ _ | omega | (constructor <;> omega))) | decide))) | (refine And.intro ?_ ?_ <;> (intro hc; (try simp only [m_note, m_markUsed, m_vanish, up2, Int.toNat_natCast, a_live5, not_true_eq_false, not_false_eq_true, Nat.reduceEqDiff, false_and, true_and, and_true, and_false, and_self, if_true, if_false, ↓reduceIte, reduceCtorEq] at hc); try (exfalso; first | assumption | omega))) | (refine x_som_i l0 ?_) | (refine x_som_i l1 ?_) | (refine x_som_i l2 ?_) | (refine x_som_i l3 ?_) | (refine x_som_i l4 ?_) | (refine x_som_i l5 ?_) | (refine x_som_i l6 ?_) | (refine a_wo ?sd ?_; case sd => (first | exact hS _ _ | assumption | (constructor <;> omega) | (simp only [m_note, m_markUsed, m_vanish, up2, Int.toNat_natCast, a_live5, not_true_eq_false, not_false_eq_true, Nat.reduceEqDiff, false_and, true_and, and_true, and_false, and_self, if_true, if_false, ↓reduceIte, reduceCtorEq]; first | exact hS _ _ | assumption | (constructor <;> omega)))) | (refine st 0 _ _ _ _ _ _ _ rfl ?_) | (refine st 17 _ _ _ _ _ _ _ rfl ?_) | (refine st 21 _ _ _ _ _ _ _ rfl ?_) | (refine st 51 _ _ _ _ _ _ _ rfl ?_) | (refine st 52 _ _ _ _ _ _ _ rfl ?_)
  all_goals refine ⟨?_, rfl, rfl⟩
  all_goals first
    | rw [cif_t (by omega), cif_t (by omega)]
    | rw [cif_t (by omega), cif_f (by omega)]
    | rw [cif_f (by omega), cif_t (by omega)]
    | rw [cif_f (by omega), cif_f (by omega)]
-- exception types
theorem c_mark (e b : Int) (he : iS e) (hb : b = 0 ∨ b = 1) : AHolds X y_ExceptionTypes_mark [aR 0 4, aI e, aI b] v L 0 0 0 0 (fun r v' L' => (1 ≤ e ∧ e ≤ 7 ∧ v 7 e.toNat = 0) ∧ r = some (aI 1) ∧ v' = up2 v 7 e.toNat (b + 1) ∧ L = L' ∨ ¬ (1 ≤ e ∧ e ≤ 7 ∧ v 7 e.toNat = 0) ∧ r = some (aI 0) ∧ v = v' ∧ L = L') := by
  refine a_sm fun hS => ?_
  refine a_met ok_ExceptionTypes_mark (by decide +kernel) (Nat.le_of_ble_eq_true rfl) fun go st => ?_
  repeat' first | (refine a_si ?sd ?_; case sd => (first | (first | assumption | exact hS _ _ | omega | (constructor <;> omega)) | (refine ⟨?_, ?_⟩ <;> (first | assumption | exact hS _ _ | omega | (constructor <;> omega))) | (refine ⟨?_, ?_, ?_⟩ <;> (first | assumption | exact hS _ _ | omega | (constructor <;> omega))) | (refine ⟨?_, ?_, ?_, ?_⟩ <;> (first | assumption | exact hS _ _ | omega | (constructor <;> omega))) | (refine ⟨⟨?_, ?_⟩, ?_, ?_⟩ <;> (first | assumption | exact hS _ _ | omega | (constructor <;> omega))) | decide | (simp only [m_note, m_markUsed, m_vanish, up2, Int.toNat_natCast, a_live5, not_true_eq_false, not_false_eq_true, Nat.reduceEqDiff, false_and, true_and, and_true, and_false, and_self, if_true, if_false, ↓reduceIte, reduceCtorEq]; first | (first | assumption | exact hS _ _ | omega | (constructor <;> omega)) | (refine ⟨?_, ?_⟩ <;> (first | assumption | exact hS _ _ | omega | (constructor <;> omega))) | (refine ⟨?_, ?_, ?_⟩ <;> (first | assumption | exact hS _ _ | omega | (constructor <;> omega))) | (refine ⟨?_, ?_, ?_, ?_⟩ <;> (first | assumption | exact hS _ _ | omega | (constructor <;> omega))) | (refine ⟨⟨?_, ?_⟩, ?_, ?_⟩ <;> (first | assumption | exact hS _ _ | omega | (constructor <;> omega))) | decide))) | (refine And.intro ?_ ?_ <;> (intro hc; (try simp only [m_note, m_markUsed, m_vanish, up2, Int.toNat_natCast, a_live5, not_true_eq_false, not_false_eq_true, Nat.reduceEqDiff, false_and, true_and, and_true, and_false, and_self, if_true, if_false, ↓reduceIte, reduceCtorEq] at hc); try (exfalso; first | assumption | omega))) | (refine x_som_i l0 ?_) | (refine x_som_i l1 ?_) | (refine x_som_i l2 ?_) | (refine x_som_i l3 ?_) | (refine x_som_i l4 ?_) | (refine x_som_i l5 ?_) | (refine x_som_i l6 ?_) | (refine a_wo ?sd ?_; case sd => (first | exact hS _ _ | assumption | (constructor <;> omega) | (simp only [m_note, m_markUsed, m_vanish, up2, Int.toNat_natCast, a_live5, not_true_eq_false, not_false_eq_true, Nat.reduceEqDiff, false_and, true_and, and_true, and_false, and_self, if_true, if_false, ↓reduceIte, reduceCtorEq]; first | exact hS _ _ | assumption | (constructor <;> omega)))) | (refine st 0 _ _ _ _ _ _ _ rfl ?_) | (refine st 20 _ _ _ _ _ _ _ rfl ?_) | (refine st 22 _ _ _ _ _ _ _ rfl ?_) | (refine st 35 _ _ _ _ _ _ _ rfl ?_) | (refine st 36 _ _ _ _ _ _ _ rfl ?_)
  all_goals first
    | exact Or.inr ⟨by omega, rfl, rfl, rfl⟩
    | exact Or.inl ⟨by omega, rfl, by rw [show b = 0 by omega]; rfl, rfl⟩
    | exact Or.inl ⟨by omega, rfl, by rw [show b = 1 by omega]; rfl, rfl⟩
/-- an exception of type e is an application's -/
def isApp (v : SV) (e : Nat) : Prop := v 7 e ≠ 0 ∨ (e / 2 ≥ 1 ∧ v 7 (e / 2) ≠ 0 ∧ v 7 (e / 2) = 2) ∨ (e / 2 ≥ 1 ∧ v 7 (e / 2) = 0 ∧ e / 4 ≥ 1 ∧ v 7 (e / 4) ≠ 0 ∧ v 7 (e / 4) = 2)
theorem c_isApplication {e : Nat} (he : e < 8) : AHolds X y_ExceptionTypes_isApplication [aR 0 4, aI e] v L 0 0 0 0 (AC (isApp v e) (aI 1) (aI 0) v L) := by
  have e2 : ((e : Int) / 2).toNat = e / 2 := by omega
  have e4 : ((e : Int) / 2 / 2).toNat = e / 4 := by omega
  refine a_sm fun hS => ?_
  refine a_met ok_ExceptionTypes_isApplication (by decide +kernel) (Nat.le_of_ble_eq_true rfl) fun go st => ?_
  have h3 : ∀ (z : Int) (ls : ALc), z = (e : Int) / 2 / 2 / 2 → v 7 e = 0 → v 7 (e / 2) = 0 → (1 ≤ e / 4 → v 7 (e / 4) = 0) → ls 0 = some (aR 0 4) → ls 2 = some (aI z) → go 15 ls [] v L 0 0 := by
    intro z ls hz g1 g2 g3 l0 l2
    refine st 15 _ _ _ _ _ _ _ rfl ?_
    repeat' first | (refine a_si ?sd ?_; case sd => (first | (first | assumption | exact hS _ _ | omega | (constructor <;> omega)) | (refine ⟨?_, ?_⟩ <;> (first | assumption | exact hS _ _ | omega | (constructor <;> omega))) | (refine ⟨?_, ?_, ?_⟩ <;> (first | assumption | exact hS _ _ | omega | (constructor <;> omega))) | (refine ⟨?_, ?_, ?_, ?_⟩ <;> (first | assumption | exact hS _ _ | omega | (constructor <;> omega))) | (refine ⟨⟨?_, ?_⟩, ?_, ?_⟩ <;> (first | assumption | exact hS _ _ | omega | (constructor <;> omega))) | decide | (simp only [m_note, m_markUsed, m_vanish, up2, Int.toNat_natCast, a_live5, not_true_eq_false, not_false_eq_true, Nat.reduceEqDiff, false_and, true_and, and_true, and_false, and_self, if_true, if_false, ↓reduceIte, reduceCtorEq]; first | (first | assumption | exact hS _ _ | omega | (constructor <;> omega)) | (refine ⟨?_, ?_⟩ <;> (first | assumption | exact hS _ _ | omega | (constructor <;> omega))) | (refine ⟨?_, ?_, ?_⟩ <;> (first | assumption | exact hS _ _ | omega | (constructor <;> omega))) | (refine ⟨?_, ?_, ?_, ?_⟩ <;> (first | assumption | exact hS _ _ | omega | (constructor <;> omega))) | (refine ⟨⟨?_, ?_⟩, ?_, ?_⟩ <;> (first | assumption | exact hS _ _ | omega | (constructor <;> omega))) | decide))) | (refine And.intro ?_ ?_ <;> (intro hc; (try simp only [m_note, m_markUsed, m_vanish, up2, Int.toNat_natCast, a_live5, not_true_eq_false, not_false_eq_true, Nat.reduceEqDiff, false_and, true_and, and_true, and_false, and_self, if_true, if_false, ↓reduceIte, reduceCtorEq] at hc); try (exfalso; first | assumption | omega))) | (refine x_som_i l0 ?_) | (refine x_som_i l1 ?_) | (refine x_som_i l2 ?_) | (refine x_som_i l3 ?_) | (refine x_som_i l4 ?_) | (refine x_som_i l5 ?_) | (refine x_som_i l6 ?_) | (refine a_wo ?sd ?_; case sd => (first | exact hS _ _ | assumption | (constructor <;> omega) | (simp only [m_note, m_markUsed, m_vanish, up2, Int.toNat_natCast, a_live5, not_true_eq_false, not_false_eq_true, Nat.reduceEqDiff, false_and, true_and, and_true, and_false, and_self, if_true, if_false, ↓reduceIte, reduceCtorEq]; first | exact hS _ _ | assumption | (constructor <;> omega)))) | (refine st 0 _ _ _ _ _ _ _ rfl ?_) | (refine st 11 _ _ _ _ _ _ _ rfl ?_) | (refine st 43 _ _ _ _ _ _ _ rfl ?_) | (refine st 44 _ _ _ _ _ _ _ rfl ?_) | (refine st 45 _ _ _ _ _ _ _ rfl ?_) | (refine st 52 _ _ _ _ _ _ _ rfl ?_)
    exact ac_f (by unfold isApp; omega)
  have h2 : ∀ (z : Int) (ls : ALc), z = (e : Int) / 2 / 2 → v 7 e = 0 → (1 ≤ e / 2 → v 7 (e / 2) = 0) → ls 0 = some (aR 0 4) → ls 2 = some (aI z) → go 15 ls [] v L 0 0 := by
    intro z ls hz g1 g2 l0 l2
    subst hz
    refine st 15 _ _ _ _ _ _ _ rfl ?_
    repeat' first | (refine a_si ?sd ?_; case sd => (first | (first | assumption | exact hS _ _ | omega | (constructor <;> omega)) | (refine ⟨?_, ?_⟩ <;> (first | assumption | exact hS _ _ | omega | (constructor <;> omega))) | (refine ⟨?_, ?_, ?_⟩ <;> (first | assumption | exact hS _ _ | omega | (constructor <;> omega))) | (refine ⟨?_, ?_, ?_, ?_⟩ <;> (first | assumption | exact hS _ _ | omega | (constructor <;> omega))) | (refine ⟨⟨?_, ?_⟩, ?_, ?_⟩ <;> (first | assumption | exact hS _ _ | omega | (constructor <;> omega))) | decide | (simp only [m_note, m_markUsed, m_vanish, up2, Int.toNat_natCast, a_live5, not_true_eq_false, not_false_eq_true, Nat.reduceEqDiff, false_and, true_and, and_true, and_false, and_self, if_true, if_false, ↓reduceIte, reduceCtorEq]; first | (first | assumption | exact hS _ _ | omega | (constructor <;> omega)) | (refine ⟨?_, ?_⟩ <;> (first | assumption | exact hS _ _ | omega | (constructor <;> omega))) | (refine ⟨?_, ?_, ?_⟩ <;> (first | assumption | exact hS _ _ | omega | (constructor <;> omega))) | (refine ⟨?_, ?_, ?_, ?_⟩ <;> (first | assumption | exact hS _ _ | omega | (constructor <;> omega))) | (refine ⟨⟨?_, ?_⟩, ?_, ?_⟩ <;> (first | assumption | exact hS _ _ | omega | (constructor <;> omega))) | decide))) | (refine And.intro ?_ ?_ <;> (intro hc; (try simp only [m_note, m_markUsed, m_vanish, up2, Int.toNat_natCast, a_live5, not_true_eq_false, not_false_eq_true, Nat.reduceEqDiff, false_and, true_and, and_true, and_false, and_self, if_true, if_false, ↓reduceIte, reduceCtorEq] at hc); try (exfalso; first | assumption | omega))) | (refine x_som_i l0 ?_) | (refine x_som_i l1 ?_) | (refine x_som_i l2 ?_) | (refine x_som_i l3 ?_) | (refine x_som_i l4 ?_) | (refine x_som_i l5 ?_) | (refine x_som_i l6 ?_) | (refine a_wo ?sd ?_; case sd => (first | exact hS _ _ | assumption | (constructor <;> omega) | (simp only [m_note, m_markUsed, m_vanish, up2, Int.toNat_natCast, a_live5, not_true_eq_false, not_false_eq_true, Nat.reduceEqDiff, false_and, true_and, and_true, and_false, and_self, if_true, if_false, ↓reduceIte, reduceCtorEq]; first | exact hS _ _ | assumption | (constructor <;> omega)))) | (refine st 0 _ _ _ _ _ _ _ rfl ?_) | (refine st 11 _ _ _ _ _ _ _ rfl ?_) | (refine st 43 _ _ _ _ _ _ _ rfl ?_) | (refine st 44 _ _ _ _ _ _ _ rfl ?_) | (refine st 45 _ _ _ _ _ _ _ rfl ?_) | (refine st 52 _ _ _ _ _ _ _ rfl ?_)
    · exact ac_f (by unfold isApp; omega)
    · rw [e4] at *
      refine h3 ((e : Int) / 2 / 2 / 2) _ ?_ ?_ ?_ ?_ ?_ ?_ <;> first | rfl | exact l0 | omega
    all_goals rw [e4] at *
    all_goals first | exact ac_t (by unfold isApp; omega) | exact ac_f (by unfold isApp; omega)
  have h1 : ∀ (z : Int) (ls : ALc), z = (e : Int) / 2 → v 7 e = 0 → ls 0 = some (aR 0 4) → ls 2 = some (aI z) → go 15 ls [] v L 0 0 := by
    intro z ls hz g1 l0 l2
    subst hz
    refine st 15 _ _ _ _ _ _ _ rfl ?_
    repeat' first | (refine a_si ?sd ?_; case sd => (first | (first | assumption | exact hS _ _ | omega | (constructor <;> omega)) | (refine ⟨?_, ?_⟩ <;> (first | assumption | exact hS _ _ | omega | (constructor <;> omega))) | (refine ⟨?_, ?_, ?_⟩ <;> (first | assumption | exact hS _ _ | omega | (constructor <;> omega))) | (refine ⟨?_, ?_, ?_, ?_⟩ <;> (first | assumption | exact hS _ _ | omega | (constructor <;> omega))) | (refine ⟨⟨?_, ?_⟩, ?_, ?_⟩ <;> (first | assumption | exact hS _ _ | omega | (constructor <;> omega))) | decide | (simp only [m_note, m_markUsed, m_vanish, up2, Int.toNat_natCast, a_live5, not_true_eq_false, not_false_eq_true, Nat.reduceEqDiff, false_and, true_and, and_true, and_false, and_self, if_true, if_false, ↓reduceIte, reduceCtorEq]; first | (first | assumption | exact hS _ _ | omega | (constructor <;> omega)) | (refine ⟨?_, ?_⟩ <;> (first | assumption | exact hS _ _ | omega | (constructor <;> omega))) | (refine ⟨?_, ?_, ?_⟩ <;> (first | assumption | exact hS _ _ | omega | (constructor <;> omega))) | (refine ⟨?_, ?_, ?_, ?_⟩ <;> (first | assumption | exact hS _ _ | omega | (constructor <;> omega))) | (refine ⟨⟨?_, ?_⟩, ?_, ?_⟩ <;> (first | assumption | exact hS _ _ | omega | (constructor <;> omega))) | decide))) | (refine And.intro ?_ ?_ <;> (intro hc; (try simp only [m_note, m_markUsed, m_vanish, up2, Int.toNat_natCast, a_live5, not_true_eq_false, not_false_eq_true, Nat.reduceEqDiff, false_and, true_and, and_true, and_false, and_self, if_true, if_false, ↓reduceIte, reduceCtorEq] at hc); try (exfalso; first | assumption | omega))) | (refine x_som_i l0 ?_) | (refine x_som_i l1 ?_) | (refine x_som_i l2 ?_) | (refine x_som_i l3 ?_) | (refine x_som_i l4 ?_) | (refine x_som_i l5 ?_) | (refine x_som_i l6 ?_) | (refine a_wo ?sd ?_; case sd => (first | exact hS _ _ | assumption | (constructor <;> omega) | (simp only [m_note, m_markUsed, m_vanish, up2, Int.toNat_natCast, a_live5, not_true_eq_false, not_false_eq_true, Nat.reduceEqDiff, false_and, true_and, and_true, and_false, and_self, if_true, if_false, ↓reduceIte, reduceCtorEq]; first | exact hS _ _ | assumption | (constructor <;> omega)))) | (refine st 0 _ _ _ _ _ _ _ rfl ?_) | (refine st 11 _ _ _ _ _ _ _ rfl ?_) | (refine st 43 _ _ _ _ _ _ _ rfl ?_) | (refine st 44 _ _ _ _ _ _ _ rfl ?_) | (refine st 45 _ _ _ _ _ _ _ rfl ?_) | (refine st 52 _ _ _ _ _ _ _ rfl ?_)
    · exact ac_f (by unfold isApp; omega)
    · rw [e2] at *
      refine h2 ((e : Int) / 2 / 2) _ ?_ ?_ ?_ ?_ ?_ <;> first | rfl | exact l0 | omega
    all_goals rw [e2] at *
    all_goals first | exact ac_t (by unfold isApp; omega) | exact ac_f (by unfold isApp; omega)
  repeat' first | (refine a_si ?sd ?_; case sd => (first | (first | assumption | exact hS _ _ | omega | (constructor <;> omega)) | (refine ⟨?_, ?_⟩ <;> (first | assumption | exact hS _ _ | omega | (constructor <;> omega))) | (refine ⟨?_, ?_, ?_⟩ <;> (first | assumption | exact hS _ _ | omega | (constructor <;> omega))) | (refine ⟨?_, ?_, ?_, ?_⟩ <;> (first | assumption | exact hS _ _ | omega | (constructor <;> omega))) | (refine ⟨⟨?_, ?_⟩, ?_, ?_⟩ <;> (first | assumption | exact hS _ _ | omega | (constructor <;> omega))) | decide | (simp only [m_note, m_markUsed, m_vanish, up2, Int.toNat_natCast, a_live5, not_true_eq_false, not_false_eq_true, Nat.reduceEqDiff, false_and, true_and, and_true, and_false, and_self, if_true, if_false, ↓reduceIte, reduceCtorEq]; first | (first | assumption | exact hS _ _ | omega | (constructor <;> omega)) | (refine ⟨?_, ?_⟩ <;> (first | assumption | exact hS _ _ | omega | (constructor <;> omega))) | (refine ⟨?_, ?_, ?_⟩ <;> (first | assumption | exact hS _ _ | omega | (constructor <;> omega))) | (refine ⟨?_, ?_, ?_, ?_⟩ <;> (first | assumption | exact hS _ _ | omega | (constructor <;> omega))) | (refine ⟨⟨?_, ?_⟩, ?_, ?_⟩ <;> (first | assumption | exact hS _ _ | omega | (constructor <;> omega))) | decide))) | (refine And.intro ?_ ?_ <;> (intro hc; (try simp only [m_note, m_markUsed, m_vanish, up2, Int.toNat_natCast, a_live5, not_true_eq_false, not_false_eq_true, Nat.reduceEqDiff, false_and, true_and, and_true, and_false, and_self, if_true, if_false, ↓reduceIte, reduceCtorEq] at hc); try (exfalso; first | assumption | omega))) | (refine x_som_i l0 ?_) | (refine x_som_i l1 ?_) | (refine x_som_i l2 ?_) | (refine x_som_i l3 ?_) | (refine x_som_i l4 ?_) | (refine x_som_i l5 ?_) | (refine x_som_i l6 ?_) | (refine a_wo ?sd ?_; case sd => (first | exact hS _ _ | assumption | (constructor <;> omega) | (simp only [m_note, m_markUsed, m_vanish, up2, Int.toNat_natCast, a_live5, not_true_eq_false, not_false_eq_true, Nat.reduceEqDiff, false_and, true_and, and_true, and_false, and_self, if_true, if_false, ↓reduceIte, reduceCtorEq]; first | exact hS _ _ | assumption | (constructor <;> omega)))) | (refine st 0 _ _ _ _ _ _ _ rfl ?_) | (refine st 11 _ _ _ _ _ _ _ rfl ?_) | (refine st 43 _ _ _ _ _ _ _ rfl ?_) | (refine st 44 _ _ _ _ _ _ _ rfl ?_) | (refine st 45 _ _ _ _ _ _ _ rfl ?_) | (refine st 52 _ _ _ _ _ _ _ rfl ?_)
  · refine h1 ((e : Int) / 2) _ ?_ ?_ ?_ ?_ <;> first | rfl | omega
  · exact ac_t (Or.inl (by omega))
-- pools
def poolOK (v : SV) (t : Nat) : Prop := v 20 t = 1 ∧ t < 32 ∧ 0 ≤ v 24 t ∧ v 24 t ≤ 4
theorem c_Pool_judge {t i : Nat} (m e : Int) (ht : poolOK v t) (he : e = 0 ∨ e = 1) : AHolds X y_Pool_judge [aR 5 t, aR 1 i, aI m, aI e] v L 0 0 0 0 (AC (e = 1 ∧ (0 < v 24 t ∨ v 25 t < v 23 t)) (aI 20) (aI 21) v L) := by
  obtain ⟨h1, h2, h3, h4⟩ := ht
  refine a_sm fun hS => ?_
  refine a_met ok_Pool_judge (by decide +kernel) (Nat.le_of_ble_eq_true rfl) fun go st => ?_
  repeat' first | (refine a_si ?sd ?_; case sd => (first | (first | assumption | exact hS _ _ | omega | (constructor <;> omega)) | (refine ⟨?_, ?_⟩ <;> (first | assumption | exact hS _ _ | omega | (constructor <;> omega))) | (refine ⟨?_, ?_, ?_⟩ <;> (first | assumption | exact hS _ _ | omega | (constructor <;> omega))) | (refine ⟨?_, ?_, ?_, ?_⟩ <;> (first | assumption | exact hS _ _ | omega | (constructor <;> omega))) | (refine ⟨⟨?_, ?_⟩, ?_, ?_⟩ <;> (first | assumption | exact hS _ _ | omega | (constructor <;> omega))) | decide | (simp only [m_note, m_markUsed, m_vanish, up2, Int.toNat_natCast, a_live5, not_true_eq_false, not_false_eq_true, Nat.reduceEqDiff, false_and, true_and, and_true, and_false, and_self, if_true, if_false, ↓reduceIte, reduceCtorEq]; first | (first | assumption | exact hS _ _ | omega | (constructor <;> omega)) | (refine ⟨?_, ?_⟩ <;> (first | assumption | exact hS _ _ | omega | (constructor <;> omega))) | (refine ⟨?_, ?_, ?_⟩ <;> (first | assumption | exact hS _ _ | omega | (constructor <;> omega))) | (refine ⟨?_, ?_, ?_, ?_⟩ <;> (first | assumption | exact hS _ _ | omega | (constructor <;> omega))) | (refine ⟨⟨?_, ?_⟩, ?_, ?_⟩ <;> (first | assumption | exact hS _ _ | omega | (constructor <;> omega))) | decide))) | (refine And.intro ?_ ?_ <;> (intro hc; (try simp only [m_note, m_markUsed, m_vanish, up2, Int.toNat_natCast, a_live5, not_true_eq_false, not_false_eq_true, Nat.reduceEqDiff, false_and, true_and, and_true, and_false, and_self, if_true, if_false, ↓reduceIte, reduceCtorEq] at hc); try (exfalso; first | assumption | omega))) | (refine x_som_i l0 ?_) | (refine x_som_i l1 ?_) | (refine x_som_i l2 ?_) | (refine x_som_i l3 ?_) | (refine x_som_i l4 ?_) | (refine x_som_i l5 ?_) | (refine x_som_i l6 ?_) | (refine a_wo ?sd ?_; case sd => (first | exact hS _ _ | assumption | (constructor <;> omega) | (simp only [m_note, m_markUsed, m_vanish, up2, Int.toNat_natCast, a_live5, not_true_eq_false, not_false_eq_true, Nat.reduceEqDiff, false_and, true_and, and_true, and_false, and_self, if_true, if_false, ↓reduceIte, reduceCtorEq]; first | exact hS _ _ | assumption | (constructor <;> omega)))) | (refine st 0 _ _ _ _ _ _ _ rfl ?_) | (refine st 22 _ _ _ _ _ _ _ rfl ?_) | (refine st 27 _ _ _ _ _ _ _ rfl ?_) | (refine st 29 _ _ _ _ _ _ _ rfl ?_)
  all_goals first | exact ac_t (by omega) | exact ac_f (by omega)
def m_fresh (v : SV) : SV := m_note (up2 v 5 0 (wr (v 5 0 + 1))) 1 0 (v 5 0)
theorem c_Pool_take {t : Nat} (m : Int) (ht : poolOK v t) : AHolds X y_Pool_take [aR 5 t, aI m] v L 10 400 0 0 (fun r v' L' => r = some (aI (cif (0 < v 24 t) (v 26 (t + 32 * (v 24 t - 1).toNat)) (v 5 0))) ∧ v' = cif (0 < v 24 t) (up2 v 24 t (v 24 t - 1)) (m_fresh (up2 v 25 t (wr (v 25 t + 1)))) ∧ L = L') := by
  obtain ⟨h1, h2, h3, h4⟩ := ht
  refine a_sm fun hS => ?_
  refine a_met ok_Pool_take (by decide +kernel) (Nat.le_of_ble_eq_true rfl) fun go st => ?_
  repeat' first | (refine a_si ?sd ?_; case sd => (first | (first | assumption | exact hS _ _ | omega | (constructor <;> omega)) | (refine ⟨?_, ?_⟩ <;> (first | assumption | exact hS _ _ | omega | (constructor <;> omega))) | (refine ⟨?_, ?_, ?_⟩ <;> (first | assumption | exact hS _ _ | omega | (constructor <;> omega))) | (refine ⟨?_, ?_, ?_, ?_⟩ <;> (first | assumption | exact hS _ _ | omega | (constructor <;> omega))) | (refine ⟨⟨?_, ?_⟩, ?_, ?_⟩ <;> (first | assumption | exact hS _ _ | omega | (constructor <;> omega))) | decide | (simp only [m_note, m_markUsed, m_vanish, up2, Int.toNat_natCast, a_live5, not_true_eq_false, not_false_eq_true, Nat.reduceEqDiff, false_and, true_and, and_true, and_false, and_self, if_true, if_false, ↓reduceIte, reduceCtorEq]; first | (first | assumption | exact hS _ _ | omega | (constructor <;> omega)) | (refine ⟨?_, ?_⟩ <;> (first | assumption | exact hS _ _ | omega | (constructor <;> omega))) | (refine ⟨?_, ?_, ?_⟩ <;> (first | assumption | exact hS _ _ | omega | (constructor <;> omega))) | (refine ⟨?_, ?_, ?_, ?_⟩ <;> (first | assumption | exact hS _ _ | omega | (constructor <;> omega))) | (refine ⟨⟨?_, ?_⟩, ?_, ?_⟩ <;> (first | assumption | exact hS _ _ | omega | (constructor <;> omega))) | decide))) | (refine And.intro ?_ ?_ <;> (intro hc; (try simp only [m_note, m_markUsed, m_vanish, up2, Int.toNat_natCast, a_live5, not_true_eq_false, not_false_eq_true, Nat.reduceEqDiff, false_and, true_and, and_true, and_false, and_self, if_true, if_false, ↓reduceIte, reduceCtorEq] at hc); try (exfalso; first | assumption | omega))) | (refine x_som_i l0 ?_) | (refine x_som_i l1 ?_) | (refine x_som_i l2 ?_) | (refine x_som_i l3 ?_) | (refine x_som_i l4 ?_) | (refine x_som_i l5 ?_) | (refine x_som_i l6 ?_) | (refine a_wo ?sd ?_; case sd => (first | exact hS _ _ | assumption | (constructor <;> omega) | (simp only [m_note, m_markUsed, m_vanish, up2, Int.toNat_natCast, a_live5, not_true_eq_false, not_false_eq_true, Nat.reduceEqDiff, false_and, true_and, and_true, and_false, and_self, if_true, if_false, ↓reduceIte, reduceCtorEq]; first | exact hS _ _ | assumption | (constructor <;> omega)))) | (refine st 0 _ _ _ _ _ _ _ rfl ?_) | (refine st 27 _ _ _ _ _ _ _ rfl ?_)
  · refine a_wr ?_
    repeat' first | (refine a_si ?sd ?_; case sd => (first | (first | assumption | exact hS _ _ | omega | (constructor <;> omega)) | (refine ⟨?_, ?_⟩ <;> (first | assumption | exact hS _ _ | omega | (constructor <;> omega))) | (refine ⟨?_, ?_, ?_⟩ <;> (first | assumption | exact hS _ _ | omega | (constructor <;> omega))) | (refine ⟨?_, ?_, ?_, ?_⟩ <;> (first | assumption | exact hS _ _ | omega | (constructor <;> omega))) | (refine ⟨⟨?_, ?_⟩, ?_, ?_⟩ <;> (first | assumption | exact hS _ _ | omega | (constructor <;> omega))) | decide | (simp only [m_note, m_markUsed, m_vanish, up2, Int.toNat_natCast, a_live5, not_true_eq_false, not_false_eq_true, Nat.reduceEqDiff, false_and, true_and, and_true, and_false, and_self, if_true, if_false, ↓reduceIte, reduceCtorEq]; first | (first | assumption | exact hS _ _ | omega | (constructor <;> omega)) | (refine ⟨?_, ?_⟩ <;> (first | assumption | exact hS _ _ | omega | (constructor <;> omega))) | (refine ⟨?_, ?_, ?_⟩ <;> (first | assumption | exact hS _ _ | omega | (constructor <;> omega))) | (refine ⟨?_, ?_, ?_, ?_⟩ <;> (first | assumption | exact hS _ _ | omega | (constructor <;> omega))) | (refine ⟨⟨?_, ?_⟩, ?_, ?_⟩ <;> (first | assumption | exact hS _ _ | omega | (constructor <;> omega))) | decide))) | (refine And.intro ?_ ?_ <;> (intro hc; (try simp only [m_note, m_markUsed, m_vanish, up2, Int.toNat_natCast, a_live5, not_true_eq_false, not_false_eq_true, Nat.reduceEqDiff, false_and, true_and, and_true, and_false, and_self, if_true, if_false, ↓reduceIte, reduceCtorEq] at hc); try (exfalso; first | assumption | omega))) | (refine x_som_i l0 ?_) | (refine x_som_i l1 ?_) | (refine x_som_i l2 ?_) | (refine x_som_i l3 ?_) | (refine x_som_i l4 ?_) | (refine x_som_i l5 ?_) | (refine x_som_i l6 ?_) | (refine a_wo ?sd ?_; case sd => (first | exact hS _ _ | assumption | (constructor <;> omega) | (simp only [m_note, m_markUsed, m_vanish, up2, Int.toNat_natCast, a_live5, not_true_eq_false, not_false_eq_true, Nat.reduceEqDiff, false_and, true_and, and_true, and_false, and_self, if_true, if_false, ↓reduceIte, reduceCtorEq]; first | exact hS _ _ | assumption | (constructor <;> omega)))) | (refine st 0 _ _ _ _ _ _ _ rfl ?_) | (refine st 27 _ _ _ _ _ _ _ rfl ?_)
    refine a_ci (c_newInstance) ?room ?_
    case room => first | decide | exact ⟨by decide, by decide, by omega, by omega⟩
    rintro _ _ _ ⟨rfl, rfl, rfl⟩
    repeat' first | (refine a_si ?sd ?_; case sd => (first | (first | assumption | exact hS _ _ | omega | (constructor <;> omega)) | (refine ⟨?_, ?_⟩ <;> (first | assumption | exact hS _ _ | omega | (constructor <;> omega))) | (refine ⟨?_, ?_, ?_⟩ <;> (first | assumption | exact hS _ _ | omega | (constructor <;> omega))) | (refine ⟨?_, ?_, ?_, ?_⟩ <;> (first | assumption | exact hS _ _ | omega | (constructor <;> omega))) | (refine ⟨⟨?_, ?_⟩, ?_, ?_⟩ <;> (first | assumption | exact hS _ _ | omega | (constructor <;> omega))) | decide | (simp only [m_note, m_markUsed, m_vanish, up2, Int.toNat_natCast, a_live5, not_true_eq_false, not_false_eq_true, Nat.reduceEqDiff, false_and, true_and, and_true, and_false, and_self, if_true, if_false, ↓reduceIte, reduceCtorEq]; first | (first | assumption | exact hS _ _ | omega | (constructor <;> omega)) | (refine ⟨?_, ?_⟩ <;> (first | assumption | exact hS _ _ | omega | (constructor <;> omega))) | (refine ⟨?_, ?_, ?_⟩ <;> (first | assumption | exact hS _ _ | omega | (constructor <;> omega))) | (refine ⟨?_, ?_, ?_, ?_⟩ <;> (first | assumption | exact hS _ _ | omega | (constructor <;> omega))) | (refine ⟨⟨?_, ?_⟩, ?_, ?_⟩ <;> (first | assumption | exact hS _ _ | omega | (constructor <;> omega))) | decide))) | (refine And.intro ?_ ?_ <;> (intro hc; (try simp only [m_note, m_markUsed, m_vanish, up2, Int.toNat_natCast, a_live5, not_true_eq_false, not_false_eq_true, Nat.reduceEqDiff, false_and, true_and, and_true, and_false, and_self, if_true, if_false, ↓reduceIte, reduceCtorEq] at hc); try (exfalso; first | assumption | omega))) | (refine x_som_i l0 ?_) | (refine x_som_i l1 ?_) | (refine x_som_i l2 ?_) | (refine x_som_i l3 ?_) | (refine x_som_i l4 ?_) | (refine x_som_i l5 ?_) | (refine x_som_i l6 ?_) | (refine a_wo ?sd ?_; case sd => (first | exact hS _ _ | assumption | (constructor <;> omega) | (simp only [m_note, m_markUsed, m_vanish, up2, Int.toNat_natCast, a_live5, not_true_eq_false, not_false_eq_true, Nat.reduceEqDiff, false_and, true_and, and_true, and_false, and_self, if_true, if_false, ↓reduceIte, reduceCtorEq]; first | exact hS _ _ | assumption | (constructor <;> omega)))) | (refine st 0 _ _ _ _ _ _ _ rfl ?_) | (refine st 27 _ _ _ _ _ _ _ rfl ?_)
    exact ⟨by rw [cif_f (by omega)]; rfl, by rw [cif_f (by omega)]; rfl, rfl⟩
  · exact ⟨by rw [cif_t (by omega)]; simp [up2], by rw [cif_t (by omega)], rfl⟩
theorem c_Pool_giveBack {t : Nat} (x m o b : Int) (ht : poolOK v t) (hx : iS x) (hb : b = 0 ∨ b = 1) : AHolds X y_Pool_giveBack [aR 5 t, aI x, aI m, aI o, aI b] v L 10 400 0 0 (fun r v' L' => r = none ∧ v' = cif (b = 1) (m_note (up2 v 25 t (wr (v 25 t - 1))) 3 0 x) (cif (v 24 t < 4) (up2 (up2 v 26 (t + 32 * (v 24 t).toNat) x) 24 t (v 24 t + 1)) v) ∧ L = L') := by
  obtain ⟨h1, h2, h3, h4⟩ := ht
  refine a_sm fun hS => ?_
  refine a_met ok_Pool_giveBack (by decide +kernel) (Nat.le_of_ble_eq_true rfl) fun go st => ?_
  repeat' first | (refine a_si ?sd ?_; case sd => (first | (first | assumption | exact hS _ _ | omega | (constructor <;> omega)) | (refine ⟨?_, ?_⟩ <;> (first | assumption | exact hS _ _ | omega | (constructor <;> omega))) | (refine ⟨?_, ?_, ?_⟩ <;> (first | assumption | exact hS _ _ | omega | (constructor <;> omega))) | (refine ⟨?_, ?_, ?_, ?_⟩ <;> (first | assumption | exact hS _ _ | omega | (constructor <;> omega))) | (refine ⟨⟨?_, ?_⟩, ?_, ?_⟩ <;> (first | assumption | exact hS _ _ | omega | (constructor <;> omega))) | decide | (simp only [m_note, m_markUsed, m_vanish, up2, Int.toNat_natCast, a_live5, not_true_eq_false, not_false_eq_true, Nat.reduceEqDiff, false_and, true_and, and_true, and_false, and_self, if_true, if_false, ↓reduceIte, reduceCtorEq]; first | (first | assumption | exact hS _ _ | omega | (constructor <;> omega)) | (refine ⟨?_, ?_⟩ <;> (first | assumption | exact hS _ _ | omega | (constructor <;> omega))) | (refine ⟨?_, ?_, ?_⟩ <;> (first | assumption | exact hS _ _ | omega | (constructor <;> omega))) | (refine ⟨?_, ?_, ?_, ?_⟩ <;> (first | assumption | exact hS _ _ | omega | (constructor <;> omega))) | (refine ⟨⟨?_, ?_⟩, ?_, ?_⟩ <;> (first | assumption | exact hS _ _ | omega | (constructor <;> omega))) | decide))) | (refine And.intro ?_ ?_ <;> (intro hc; (try simp only [m_note, m_markUsed, m_vanish, up2, Int.toNat_natCast, a_live5, not_true_eq_false, not_false_eq_true, Nat.reduceEqDiff, false_and, true_and, and_true, and_false, and_self, if_true, if_false, ↓reduceIte, reduceCtorEq] at hc); try (exfalso; first | assumption | omega))) | (refine x_som_i l0 ?_) | (refine x_som_i l1 ?_) | (refine x_som_i l2 ?_) | (refine x_som_i l3 ?_) | (refine x_som_i l4 ?_) | (refine x_som_i l5 ?_) | (refine x_som_i l6 ?_) | (refine a_wo ?sd ?_; case sd => (first | exact hS _ _ | assumption | (constructor <;> omega) | (simp only [m_note, m_markUsed, m_vanish, up2, Int.toNat_natCast, a_live5, not_true_eq_false, not_false_eq_true, Nat.reduceEqDiff, false_and, true_and, and_true, and_false, and_self, if_true, if_false, ↓reduceIte, reduceCtorEq]; first | exact hS _ _ | assumption | (constructor <;> omega)))) | (refine st 0 _ _ _ _ _ _ _ rfl ?_) | (refine st 28 _ _ _ _ _ _ _ rfl ?_) | (refine st 56 _ _ _ _ _ _ _ rfl ?_)
  · exact ⟨rfl, by rw [cif_f (by omega), cif_f (by omega)], rfl⟩
  · exact ⟨rfl, by rw [cif_f (by omega), cif_t (by omega)]; rfl, rfl⟩
  · refine a_wr ?_
    repeat' first | (refine a_si ?sd ?_; case sd => (first | (first | assumption | exact hS _ _ | omega | (constructor <;> omega)) | (refine ⟨?_, ?_⟩ <;> (first | assumption | exact hS _ _ | omega | (constructor <;> omega))) | (refine ⟨?_, ?_, ?_⟩ <;> (first | assumption | exact hS _ _ | omega | (constructor <;> omega))) | (refine ⟨?_, ?_, ?_, ?_⟩ <;> (first | assumption | exact hS _ _ | omega | (constructor <;> omega))) | (refine ⟨⟨?_, ?_⟩, ?_, ?_⟩ <;> (first | assumption | exact hS _ _ | omega | (constructor <;> omega))) | decide | (simp only [m_note, m_markUsed, m_vanish, up2, Int.toNat_natCast, a_live5, not_true_eq_false, not_false_eq_true, Nat.reduceEqDiff, false_and, true_and, and_true, and_false, and_self, if_true, if_false, ↓reduceIte, reduceCtorEq]; first | (first | assumption | exact hS _ _ | omega | (constructor <;> omega)) | (refine ⟨?_, ?_⟩ <;> (first | assumption | exact hS _ _ | omega | (constructor <;> omega))) | (refine ⟨?_, ?_, ?_⟩ <;> (first | assumption | exact hS _ _ | omega | (constructor <;> omega))) | (refine ⟨?_, ?_, ?_, ?_⟩ <;> (first | assumption | exact hS _ _ | omega | (constructor <;> omega))) | (refine ⟨⟨?_, ?_⟩, ?_, ?_⟩ <;> (first | assumption | exact hS _ _ | omega | (constructor <;> omega))) | decide))) | (refine And.intro ?_ ?_ <;> (intro hc; (try simp only [m_note, m_markUsed, m_vanish, up2, Int.toNat_natCast, a_live5, not_true_eq_false, not_false_eq_true, Nat.reduceEqDiff, false_and, true_and, and_true, and_false, and_self, if_true, if_false, ↓reduceIte, reduceCtorEq] at hc); try (exfalso; first | assumption | omega))) | (refine x_som_i l0 ?_) | (refine x_som_i l1 ?_) | (refine x_som_i l2 ?_) | (refine x_som_i l3 ?_) | (refine x_som_i l4 ?_) | (refine x_som_i l5 ?_) | (refine x_som_i l6 ?_) | (refine a_wo ?sd ?_; case sd => (first | exact hS _ _ | assumption | (constructor <;> omega) | (simp only [m_note, m_markUsed, m_vanish, up2, Int.toNat_natCast, a_live5, not_true_eq_false, not_false_eq_true, Nat.reduceEqDiff, false_and, true_and, and_true, and_false, and_self, if_true, if_false, ↓reduceIte, reduceCtorEq]; first | exact hS _ _ | assumption | (constructor <;> omega)))) | (refine st 0 _ _ _ _ _ _ _ rfl ?_) | (refine st 28 _ _ _ _ _ _ _ rfl ?_) | (refine st 56 _ _ _ _ _ _ _ rfl ?_)
    refine a_ci (c_note 3 0 x) ?room ?_
    case room => first | decide | exact ⟨by decide, by decide, by omega, by omega⟩
    rintro _ _ _ ⟨rfl, rfl, rfl⟩
    repeat' first | (refine a_si ?sd ?_; case sd => (first | (first | assumption | exact hS _ _ | omega | (constructor <;> omega)) | (refine ⟨?_, ?_⟩ <;> (first | assumption | exact hS _ _ | omega | (constructor <;> omega))) | (refine ⟨?_, ?_, ?_⟩ <;> (first | assumption | exact hS _ _ | omega | (constructor <;> omega))) | (refine ⟨?_, ?_, ?_, ?_⟩ <;> (first | assumption | exact hS _ _ | omega | (constructor <;> omega))) | (refine ⟨⟨?_, ?_⟩, ?_, ?_⟩ <;> (first | assumption | exact hS _ _ | omega | (constructor <;> omega))) | decide | (simp only [m_note, m_markUsed, m_vanish, up2, Int.toNat_natCast, a_live5, not_true_eq_false, not_false_eq_true, Nat.reduceEqDiff, false_and, true_and, and_true, and_false, and_self, if_true, if_false, ↓reduceIte, reduceCtorEq]; first | (first | assumption | exact hS _ _ | omega | (constructor <;> omega)) | (refine ⟨?_, ?_⟩ <;> (first | assumption | exact hS _ _ | omega | (constructor <;> omega))) | (refine ⟨?_, ?_, ?_⟩ <;> (first | assumption | exact hS _ _ | omega | (constructor <;> omega))) | (refine ⟨?_, ?_, ?_, ?_⟩ <;> (first | assumption | exact hS _ _ | omega | (constructor <;> omega))) | (refine ⟨⟨?_, ?_⟩, ?_, ?_⟩ <;> (first | assumption | exact hS _ _ | omega | (constructor <;> omega))) | decide))) | (refine And.intro ?_ ?_ <;> (intro hc; (try simp only [m_note, m_markUsed, m_vanish, up2, Int.toNat_natCast, a_live5, not_true_eq_false, not_false_eq_true, Nat.reduceEqDiff, false_and, true_and, and_true, and_false, and_self, if_true, if_false, ↓reduceIte, reduceCtorEq] at hc); try (exfalso; first | assumption | omega))) | (refine x_som_i l0 ?_) | (refine x_som_i l1 ?_) | (refine x_som_i l2 ?_) | (refine x_som_i l3 ?_) | (refine x_som_i l4 ?_) | (refine x_som_i l5 ?_) | (refine x_som_i l6 ?_) | (refine a_wo ?sd ?_; case sd => (first | exact hS _ _ | assumption | (constructor <;> omega) | (simp only [m_note, m_markUsed, m_vanish, up2, Int.toNat_natCast, a_live5, not_true_eq_false, not_false_eq_true, Nat.reduceEqDiff, false_and, true_and, and_true, and_false, and_self, if_true, if_false, ↓reduceIte, reduceCtorEq]; first | exact hS _ _ | assumption | (constructor <;> omega)))) | (refine st 0 _ _ _ _ _ _ _ rfl ?_) | (refine st 28 _ _ _ _ _ _ _ rfl ?_) | (refine st 56 _ _ _ _ _ _ _ rfl ?_)
    exact ⟨rfl, by rw [cif_t (by omega)], rfl⟩
-- sessions
theorem c_Session_judge {t i : Nat} (m e : Int) (ht : v 20 t = 3) (hi : i < 8) (hr : rowOK v i) : AHolds X y_Session_judge [aR 5 t, aR 1 i, aI m, aI e] v L 10 400 0 0 (fun r v' L' => r = some (aI (cif (v 36 t = 0) 9 (cif (hasM v i t) 12 (cif (v 37 t = 0) 20 21)))) ∧ v = v' ∧ L = L') := by
  refine a_sm fun hS => ?_
  refine a_met ok_Session_judge (by decide +kernel) (Nat.le_of_ble_eq_true rfl) fun go st => ?_
  repeat' first | (refine a_si ?sd ?_; case sd => (first | (first | assumption | exact hS _ _ | omega | (constructor <;> omega)) | (refine ⟨?_, ?_⟩ <;> (first | assumption | exact hS _ _ | omega | (constructor <;> omega))) | (refine ⟨?_, ?_, ?_⟩ <;> (first | assumption | exact hS _ _ | omega | (constructor <;> omega))) | (refine ⟨?_, ?_, ?_, ?_⟩ <;> (first | assumption | exact hS _ _ | omega | (constructor <;> omega))) | (refine ⟨⟨?_, ?_⟩, ?_, ?_⟩ <;> (first | assumption | exact hS _ _ | omega | (constructor <;> omega))) | decide | (simp only [m_note, m_markUsed, m_vanish, up2, Int.toNat_natCast, a_live5, not_true_eq_false, not_false_eq_true, Nat.reduceEqDiff, false_and, true_and, and_true, and_false, and_self, if_true, if_false, ↓reduceIte, reduceCtorEq]; first | (first | assumption | exact hS _ _ | omega | (constructor <;> omega)) | (refine ⟨?_, ?_⟩ <;> (first | assumption | exact hS _ _ | omega | (constructor <;> omega))) | (refine ⟨?_, ?_, ?_⟩ <;> (first | assumption | exact hS _ _ | omega | (constructor <;> omega))) | (refine ⟨?_, ?_, ?_, ?_⟩ <;> (first | assumption | exact hS _ _ | omega | (constructor <;> omega))) | (refine ⟨⟨?_, ?_⟩, ?_, ?_⟩ <;> (first | assumption | exact hS _ _ | omega | (constructor <;> omega))) | decide))) | (refine And.intro ?_ ?_ <;> (intro hc; (try simp only [m_note, m_markUsed, m_vanish, up2, Int.toNat_natCast, a_live5, not_true_eq_false, not_false_eq_true, Nat.reduceEqDiff, false_and, true_and, and_true, and_false, and_self, if_true, if_false, ↓reduceIte, reduceCtorEq] at hc); try (exfalso; first | assumption | omega))) | (refine x_som_i l0 ?_) | (refine x_som_i l1 ?_) | (refine x_som_i l2 ?_) | (refine x_som_i l3 ?_) | (refine x_som_i l4 ?_) | (refine x_som_i l5 ?_) | (refine x_som_i l6 ?_) | (refine a_wo ?sd ?_; case sd => (first | exact hS _ _ | assumption | (constructor <;> omega) | (simp only [m_note, m_markUsed, m_vanish, up2, Int.toNat_natCast, a_live5, not_true_eq_false, not_false_eq_true, Nat.reduceEqDiff, false_and, true_and, and_true, and_false, and_self, if_true, if_false, ↓reduceIte, reduceCtorEq]; first | exact hS _ _ | assumption | (constructor <;> omega)))) | (refine st 0 _ _ _ _ _ _ _ rfl ?_) | (refine st 10 _ _ _ _ _ _ _ rfl ?_) | (refine st 21 _ _ _ _ _ _ _ rfl ?_) | (refine st 33 _ _ _ _ _ _ _ rfl ?_) | (refine st 35 _ _ _ _ _ _ _ rfl ?_)
  · refine a_ci (c_hasMethodIn hi (Or.inr (Or.inr ht)) hr) ?room ?_
    case room => first | decide | exact ⟨by decide, by decide, by omega, by omega⟩
    rintro _ _ _ ⟨⟨hb, rfl⟩ | ⟨hb, rfl⟩, rfl, rfl⟩
    · repeat' first | (refine a_si ?sd ?_; case sd => (first | (first | assumption | exact hS _ _ | omega | (constructor <;> omega)) | (refine ⟨?_, ?_⟩ <;> (first | assumption | exact hS _ _ | omega | (constructor <;> omega))) | (refine ⟨?_, ?_, ?_⟩ <;> (first | assumption | exact hS _ _ | omega | (constructor <;> omega))) | (refine ⟨?_, ?_, ?_, ?_⟩ <;> (first | assumption | exact hS _ _ | omega | (constructor <;> omega))) | (refine ⟨⟨?_, ?_⟩, ?_, ?_⟩ <;> (first | assumption | exact hS _ _ | omega | (constructor <;> omega))) | decide | (simp only [m_note, m_markUsed, m_vanish, up2, Int.toNat_natCast, a_live5, not_true_eq_false, not_false_eq_true, Nat.reduceEqDiff, false_and, true_and, and_true, and_false, and_self, if_true, if_false, ↓reduceIte, reduceCtorEq]; first | (first | assumption | exact hS _ _ | omega | (constructor <;> omega)) | (refine ⟨?_, ?_⟩ <;> (first | assumption | exact hS _ _ | omega | (constructor <;> omega))) | (refine ⟨?_, ?_, ?_⟩ <;> (first | assumption | exact hS _ _ | omega | (constructor <;> omega))) | (refine ⟨?_, ?_, ?_, ?_⟩ <;> (first | assumption | exact hS _ _ | omega | (constructor <;> omega))) | (refine ⟨⟨?_, ?_⟩, ?_, ?_⟩ <;> (first | assumption | exact hS _ _ | omega | (constructor <;> omega))) | decide))) | (refine And.intro ?_ ?_ <;> (intro hc; (try simp only [m_note, m_markUsed, m_vanish, up2, Int.toNat_natCast, a_live5, not_true_eq_false, not_false_eq_true, Nat.reduceEqDiff, false_and, true_and, and_true, and_false, and_self, if_true, if_false, ↓reduceIte, reduceCtorEq] at hc); try (exfalso; first | assumption | omega))) | (refine x_som_i l0 ?_) | (refine x_som_i l1 ?_) | (refine x_som_i l2 ?_) | (refine x_som_i l3 ?_) | (refine x_som_i l4 ?_) | (refine x_som_i l5 ?_) | (refine x_som_i l6 ?_) | (refine a_wo ?sd ?_; case sd => (first | exact hS _ _ | assumption | (constructor <;> omega) | (simp only [m_note, m_markUsed, m_vanish, up2, Int.toNat_natCast, a_live5, not_true_eq_false, not_false_eq_true, Nat.reduceEqDiff, false_and, true_and, and_true, and_false, and_self, if_true, if_false, ↓reduceIte, reduceCtorEq]; first | exact hS _ _ | assumption | (constructor <;> omega)))) | (refine st 0 _ _ _ _ _ _ _ rfl ?_) | (refine st 10 _ _ _ _ _ _ _ rfl ?_) | (refine st 21 _ _ _ _ _ _ _ rfl ?_) | (refine st 33 _ _ _ _ _ _ _ rfl ?_) | (refine st 35 _ _ _ _ _ _ _ rfl ?_)
      exact ⟨by rw [cif_f (by assumption), cif_t hb], rfl, rfl⟩
    · repeat' first | (refine a_si ?sd ?_; case sd => (first | (first | assumption | exact hS _ _ | omega | (constructor <;> omega)) | (refine ⟨?_, ?_⟩ <;> (first | assumption | exact hS _ _ | omega | (constructor <;> omega))) | (refine ⟨?_, ?_, ?_⟩ <;> (first | assumption | exact hS _ _ | omega | (constructor <;> omega))) | (refine ⟨?_, ?_, ?_, ?_⟩ <;> (first | assumption | exact hS _ _ | omega | (constructor <;> omega))) | (refine ⟨⟨?_, ?_⟩, ?_, ?_⟩ <;> (first | assumption | exact hS _ _ | omega | (constructor <;> omega))) | decide | (simp only [m_note, m_markUsed, m_vanish, up2, Int.toNat_natCast, a_live5, not_true_eq_false, not_false_eq_true, Nat.reduceEqDiff, false_and, true_and, and_true, and_false, and_self, if_true, if_false, ↓reduceIte, reduceCtorEq]; first | (first | assumption | exact hS _ _ | omega | (constructor <;> omega)) | (refine ⟨?_, ?_⟩ <;> (first | assumption | exact hS _ _ | omega | (constructor <;> omega))) | (refine ⟨?_, ?_, ?_⟩ <;> (first | assumption | exact hS _ _ | omega | (constructor <;> omega))) | (refine ⟨?_, ?_, ?_, ?_⟩ <;> (first | assumption | exact hS _ _ | omega | (constructor <;> omega))) | (refine ⟨⟨?_, ?_⟩, ?_, ?_⟩ <;> (first | assumption | exact hS _ _ | omega | (constructor <;> omega))) | decide))) | (refine And.intro ?_ ?_ <;> (intro hc; (try simp only [m_note, m_markUsed, m_vanish, up2, Int.toNat_natCast, a_live5, not_true_eq_false, not_false_eq_true, Nat.reduceEqDiff, false_and, true_and, and_true, and_false, and_self, if_true, if_false, ↓reduceIte, reduceCtorEq] at hc); try (exfalso; first | assumption | omega))) | (refine x_som_i l0 ?_) | (refine x_som_i l1 ?_) | (refine x_som_i l2 ?_) | (refine x_som_i l3 ?_) | (refine x_som_i l4 ?_) | (refine x_som_i l5 ?_) | (refine x_som_i l6 ?_) | (refine a_wo ?sd ?_; case sd => (first | exact hS _ _ | assumption | (constructor <;> omega) | (simp only [m_note, m_markUsed, m_vanish, up2, Int.toNat_natCast, a_live5, not_true_eq_false, not_false_eq_true, Nat.reduceEqDiff, false_and, true_and, and_true, and_false, and_self, if_true, if_false, ↓reduceIte, reduceCtorEq]; first | exact hS _ _ | assumption | (constructor <;> omega)))) | (refine st 0 _ _ _ _ _ _ _ rfl ?_) | (refine st 10 _ _ _ _ _ _ _ rfl ?_) | (refine st 21 _ _ _ _ _ _ _ rfl ?_) | (refine st 33 _ _ _ _ _ _ _ rfl ?_) | (refine st 35 _ _ _ _ _ _ _ rfl ?_)
      · exact ⟨by rw [cif_f (by assumption), cif_f hb, cif_t (by omega)], rfl, rfl⟩
      · exact ⟨by rw [cif_f (by assumption), cif_f hb, cif_f (by omega)], rfl, rfl⟩
  · exact ⟨by rw [cif_t (by assumption)], rfl, rfl⟩
theorem c_Session_take {t : Nat} (m : Int) (ht : v 20 t = 3) : AHolds X y_Session_take [aR 5 t, aI m] v L 10 400 0 0 (fun r v' L' => r = some (aI (v 35 t)) ∧ v' = up2 (cif (v 36 t = 3) (m_note (up2 v 36 t 1) 5 0 (v 35 t)) v) 37 t 1 ∧ L = L') := by
  refine a_sm fun hS => ?_
  refine a_met ok_Session_take (by decide +kernel) (Nat.le_of_ble_eq_true rfl) fun go st => ?_
  repeat' first | (refine a_si ?sd ?_; case sd => (first | (first | assumption | exact hS _ _ | omega | (constructor <;> omega)) | (refine ⟨?_, ?_⟩ <;> (first | assumption | exact hS _ _ | omega | (constructor <;> omega))) | (refine ⟨?_, ?_, ?_⟩ <;> (first | assumption | exact hS _ _ | omega | (constructor <;> omega))) | (refine ⟨?_, ?_, ?_, ?_⟩ <;> (first | assumption | exact hS _ _ | omega | (constructor <;> omega))) | (refine ⟨⟨?_, ?_⟩, ?_, ?_⟩ <;> (first | assumption | exact hS _ _ | omega | (constructor <;> omega))) | decide | (simp only [m_note, m_markUsed, m_vanish, up2, Int.toNat_natCast, a_live5, not_true_eq_false, not_false_eq_true, Nat.reduceEqDiff, false_and, true_and, and_true, and_false, and_self, if_true, if_false, ↓reduceIte, reduceCtorEq]; first | (first | assumption | exact hS _ _ | omega | (constructor <;> omega)) | (refine ⟨?_, ?_⟩ <;> (first | assumption | exact hS _ _ | omega | (constructor <;> omega))) | (refine ⟨?_, ?_, ?_⟩ <;> (first | assumption | exact hS _ _ | omega | (constructor <;> omega))) | (refine ⟨?_, ?_, ?_, ?_⟩ <;> (first | assumption | exact hS _ _ | omega | (constructor <;> omega))) | (refine ⟨⟨?_, ?_⟩, ?_, ?_⟩ <;> (first | assumption | exact hS _ _ | omega | (constructor <;> omega))) | decide))) | (refine And.intro ?_ ?_ <;> (intro hc; (try simp only [m_note, m_markUsed, m_vanish, up2, Int.toNat_natCast, a_live5, not_true_eq_false, not_false_eq_true, Nat.reduceEqDiff, false_and, true_and, and_true, and_false, and_self, if_true, if_false, ↓reduceIte, reduceCtorEq] at hc); try (exfalso; first | assumption | omega))) | (refine x_som_i l0 ?_) | (refine x_som_i l1 ?_) | (refine x_som_i l2 ?_) | (refine x_som_i l3 ?_) | (refine x_som_i l4 ?_) | (refine x_som_i l5 ?_) | (refine x_som_i l6 ?_) | (refine a_wo ?sd ?_; case sd => (first | exact hS _ _ | assumption | (constructor <;> omega) | (simp only [m_note, m_markUsed, m_vanish, up2, Int.toNat_natCast, a_live5, not_true_eq_false, not_false_eq_true, Nat.reduceEqDiff, false_and, true_and, and_true, and_false, and_self, if_true, if_false, ↓reduceIte, reduceCtorEq]; first | exact hS _ _ | assumption | (constructor <;> omega)))) | (refine st 0 _ _ _ _ _ _ _ rfl ?_) | (refine st 26 _ _ _ _ _ _ _ rfl ?_)
  · exact ⟨rfl, by rw [cif_f (by assumption)], rfl⟩
  · refine a_ci (c_note 5 0 (v 35 t)) ?room ?_
    case room => first | decide | exact ⟨by decide, by decide, by omega, by omega⟩
    rintro _ _ _ ⟨rfl, rfl, rfl⟩
    repeat' first | (refine a_si ?sd ?_; case sd => (first | (first | assumption | exact hS _ _ | omega | (constructor <;> omega)) | (refine ⟨?_, ?_⟩ <;> (first | assumption | exact hS _ _ | omega | (constructor <;> omega))) | (refine ⟨?_, ?_, ?_⟩ <;> (first | assumption | exact hS _ _ | omega | (constructor <;> omega))) | (refine ⟨?_, ?_, ?_, ?_⟩ <;> (first | assumption | exact hS _ _ | omega | (constructor <;> omega))) | (refine ⟨⟨?_, ?_⟩, ?_, ?_⟩ <;> (first | assumption | exact hS _ _ | omega | (constructor <;> omega))) | decide | (simp only [m_note, m_markUsed, m_vanish, up2, Int.toNat_natCast, a_live5, not_true_eq_false, not_false_eq_true, Nat.reduceEqDiff, false_and, true_and, and_true, and_false, and_self, if_true, if_false, ↓reduceIte, reduceCtorEq]; first | (first | assumption | exact hS _ _ | omega | (constructor <;> omega)) | (refine ⟨?_, ?_⟩ <;> (first | assumption | exact hS _ _ | omega | (constructor <;> omega))) | (refine ⟨?_, ?_, ?_⟩ <;> (first | assumption | exact hS _ _ | omega | (constructor <;> omega))) | (refine ⟨?_, ?_, ?_, ?_⟩ <;> (first | assumption | exact hS _ _ | omega | (constructor <;> omega))) | (refine ⟨⟨?_, ?_⟩, ?_, ?_⟩ <;> (first | assumption | exact hS _ _ | omega | (constructor <;> omega))) | decide))) | (refine And.intro ?_ ?_ <;> (intro hc; (try simp only [m_note, m_markUsed, m_vanish, up2, Int.toNat_natCast, a_live5, not_true_eq_false, not_false_eq_true, Nat.reduceEqDiff, false_and, true_and, and_true, and_false, and_self, if_true, if_false, ↓reduceIte, reduceCtorEq] at hc); try (exfalso; first | assumption | omega))) | (refine x_som_i l0 ?_) | (refine x_som_i l1 ?_) | (refine x_som_i l2 ?_) | (refine x_som_i l3 ?_) | (refine x_som_i l4 ?_) | (refine x_som_i l5 ?_) | (refine x_som_i l6 ?_) | (refine a_wo ?sd ?_; case sd => (first | exact hS _ _ | assumption | (constructor <;> omega) | (simp only [m_note, m_markUsed, m_vanish, up2, Int.toNat_natCast, a_live5, not_true_eq_false, not_false_eq_true, Nat.reduceEqDiff, false_and, true_and, and_true, and_false, and_self, if_true, if_false, ↓reduceIte, reduceCtorEq]; first | exact hS _ _ | assumption | (constructor <;> omega)))) | (refine st 0 _ _ _ _ _ _ _ rfl ?_) | (refine st 26 _ _ _ _ _ _ _ rfl ?_)
    exact ⟨by simp [m_note, up2], by rw [cif_t (by assumption)], rfl⟩
theorem c_Session_giveBack {t : Nat} (x m o b : Int) (ht : v 20 t = 3) (hm : iS m) (ho : iS o) (hb : b = 0 ∨ b = 1) : AHolds X y_Session_giveBack [aR 5 t, aI x, aI m, aI o, aI b] v L 20 800 0 0 (fun r v' L' => r = none ∧ v' = cif (b = 1) (m_vanish (m_markUsed (up2 v 37 t 0) t) t 3) (cif (m = 1 ∨ m = 2 ∧ o = 0) (m_vanish (m_markUsed (up2 v 37 t 0) t) t 2) (m_markUsed (up2 v 37 t 0) t)) ∧ L = L') := by
  refine a_sm fun hS => ?_
  refine a_met ok_Session_giveBack (by decide +kernel) (Nat.le_of_ble_eq_true rfl) fun go st => ?_
  repeat' first | (refine a_si ?sd ?_; case sd => (first | (first | assumption | exact hS _ _ | omega | (constructor <;> omega)) | (refine ⟨?_, ?_⟩ <;> (first | assumption | exact hS _ _ | omega | (constructor <;> omega))) | (refine ⟨?_, ?_, ?_⟩ <;> (first | assumption | exact hS _ _ | omega | (constructor <;> omega))) | (refine ⟨?_, ?_, ?_, ?_⟩ <;> (first | assumption | exact hS _ _ | omega | (constructor <;> omega))) | (refine ⟨⟨?_, ?_⟩, ?_, ?_⟩ <;> (first | assumption | exact hS _ _ | omega | (constructor <;> omega))) | decide | (simp only [m_note, m_markUsed, m_vanish, up2, Int.toNat_natCast, a_live5, not_true_eq_false, not_false_eq_true, Nat.reduceEqDiff, false_and, true_and, and_true, and_false, and_self, if_true, if_false, ↓reduceIte, reduceCtorEq]; first | (first | assumption | exact hS _ _ | omega | (constructor <;> omega)) | (refine ⟨?_, ?_⟩ <;> (first | assumption | exact hS _ _ | omega | (constructor <;> omega))) | (refine ⟨?_, ?_, ?_⟩ <;> (first | assumption | exact hS _ _ | omega | (constructor <;> omega))) | (refine ⟨?_, ?_, ?_, ?_⟩ <;> (first | assumption | exact hS _ _ | omega | (constructor <;> omega))) | (refine ⟨⟨?_, ?_⟩, ?_, ?_⟩ <;> (first | assumption | exact hS _ _ | omega | (constructor <;> omega))) | decide))) | (refine And.intro ?_ ?_ <;> (intro hc; (try simp only [m_note, m_markUsed, m_vanish, up2, Int.toNat_natCast, a_live5, not_true_eq_false, not_false_eq_true, Nat.reduceEqDiff, false_and, true_and, and_true, and_false, and_self, if_true, if_false, ↓reduceIte, reduceCtorEq] at hc); try (exfalso; first | assumption | omega))) | (refine x_som_i l0 ?_) | (refine x_som_i l1 ?_) | (refine x_som_i l2 ?_) | (refine x_som_i l3 ?_) | (refine x_som_i l4 ?_) | (refine x_som_i l5 ?_) | (refine x_som_i l6 ?_) | (refine a_wo ?sd ?_; case sd => (first | exact hS _ _ | assumption | (constructor <;> omega) | (simp only [m_note, m_markUsed, m_vanish, up2, Int.toNat_natCast, a_live5, not_true_eq_false, not_false_eq_true, Nat.reduceEqDiff, false_and, true_and, and_true, and_false, and_self, if_true, if_false, ↓reduceIte, reduceCtorEq]; first | exact hS _ _ | assumption | (constructor <;> omega)))) | (refine st 0 _ _ _ _ _ _ _ rfl ?_) | (refine st 22 _ _ _ _ _ _ _ rfl ?_) | (refine st 36 _ _ _ _ _ _ _ rfl ?_) | (refine st 41 _ _ _ _ _ _ _ rfl ?_)
  refine a_ci (c_markUsed ?a1) ?room ?_
  case room => first | decide | exact ⟨by decide, by decide, by omega, by omega⟩
  case a1 => (first | (first | assumption | exact hS _ _ | omega | (constructor <;> omega)) | (refine ⟨?_, ?_⟩ <;> (first | assumption | exact hS _ _ | omega | (constructor <;> omega))) | (refine ⟨?_, ?_, ?_⟩ <;> (first | assumption | exact hS _ _ | omega | (constructor <;> omega))) | (refine ⟨?_, ?_, ?_, ?_⟩ <;> (first | assumption | exact hS _ _ | omega | (constructor <;> omega))) | (refine ⟨⟨?_, ?_⟩, ?_, ?_⟩ <;> (first | assumption | exact hS _ _ | omega | (constructor <;> omega))) | decide | (simp only [m_note, m_markUsed, m_vanish, up2, Int.toNat_natCast, a_live5, not_true_eq_false, not_false_eq_true, Nat.reduceEqDiff, false_and, true_and, and_true, and_false, and_self, if_true, if_false, ↓reduceIte, reduceCtorEq]; first | (first | assumption | exact hS _ _ | omega | (constructor <;> omega)) | (refine ⟨?_, ?_⟩ <;> (first | assumption | exact hS _ _ | omega | (constructor <;> omega))) | (refine ⟨?_, ?_, ?_⟩ <;> (first | assumption | exact hS _ _ | omega | (constructor <;> omega))) | (refine ⟨?_, ?_, ?_, ?_⟩ <;> (first | assumption | exact hS _ _ | omega | (constructor <;> omega))) | (refine ⟨⟨?_, ?_⟩, ?_, ?_⟩ <;> (first | assumption | exact hS _ _ | omega | (constructor <;> omega))) | decide))
  rintro _ _ _ ⟨rfl, rfl, rfl⟩
  repeat' first | (refine a_si ?sd ?_; case sd => (first | (first | assumption | exact hS _ _ | omega | (constructor <;> omega)) | (refine ⟨?_, ?_⟩ <;> (first | assumption | exact hS _ _ | omega | (constructor <;> omega))) | (refine ⟨?_, ?_, ?_⟩ <;> (first | assumption | exact hS _ _ | omega | (constructor <;> omega))) | (refine ⟨?_, ?_, ?_, ?_⟩ <;> (first | assumption | exact hS _ _ | omega | (constructor <;> omega))) | (refine ⟨⟨?_, ?_⟩, ?_, ?_⟩ <;> (first | assumption | exact hS _ _ | omega | (constructor <;> omega))) | decide | (simp only [m_note, m_markUsed, m_vanish, up2, Int.toNat_natCast, a_live5, not_true_eq_false, not_false_eq_true, Nat.reduceEqDiff, false_and, true_and, and_true, and_false, and_self, if_true, if_false, ↓reduceIte, reduceCtorEq]; first | (first | assumption | exact hS _ _ | omega | (constructor <;> omega)) | (refine ⟨?_, ?_⟩ <;> (first | assumption | exact hS _ _ | omega | (constructor <;> omega))) | (refine ⟨?_, ?_, ?_⟩ <;> (first | assumption | exact hS _ _ | omega | (constructor <;> omega))) | (refine ⟨?_, ?_, ?_, ?_⟩ <;> (first | assumption | exact hS _ _ | omega | (constructor <;> omega))) | (refine ⟨⟨?_, ?_⟩, ?_, ?_⟩ <;> (first | assumption | exact hS _ _ | omega | (constructor <;> omega))) | decide))) | (refine And.intro ?_ ?_ <;> (intro hc; (try simp only [m_note, m_markUsed, m_vanish, up2, Int.toNat_natCast, a_live5, not_true_eq_false, not_false_eq_true, Nat.reduceEqDiff, false_and, true_and, and_true, and_false, and_self, if_true, if_false, ↓reduceIte, reduceCtorEq] at hc); try (exfalso; first | assumption | omega))) | (refine x_som_i l0 ?_) | (refine x_som_i l1 ?_) | (refine x_som_i l2 ?_) | (refine x_som_i l3 ?_) | (refine x_som_i l4 ?_) | (refine x_som_i l5 ?_) | (refine x_som_i l6 ?_) | (refine a_wo ?sd ?_; case sd => (first | exact hS _ _ | assumption | (constructor <;> omega) | (simp only [m_note, m_markUsed, m_vanish, up2, Int.toNat_natCast, a_live5, not_true_eq_false, not_false_eq_true, Nat.reduceEqDiff, false_and, true_and, and_true, and_false, and_self, if_true, if_false, ↓reduceIte, reduceCtorEq]; first | exact hS _ _ | assumption | (constructor <;> omega)))) | (refine st 0 _ _ _ _ _ _ _ rfl ?_) | (refine st 22 _ _ _ _ _ _ _ rfl ?_) | (refine st 36 _ _ _ _ _ _ _ rfl ?_) | (refine st 41 _ _ _ _ _ _ _ rfl ?_)
  · refine a_ci (c_vanish 2 ?a1) ?room ?_
    case room => first | decide | exact ⟨by decide, by decide, by omega, by omega⟩
    case a1 => (first | (first | assumption | exact hS _ _ | omega | (constructor <;> omega)) | (refine ⟨?_, ?_⟩ <;> (first | assumption | exact hS _ _ | omega | (constructor <;> omega))) | (refine ⟨?_, ?_, ?_⟩ <;> (first | assumption | exact hS _ _ | omega | (constructor <;> omega))) | (refine ⟨?_, ?_, ?_, ?_⟩ <;> (first | assumption | exact hS _ _ | omega | (constructor <;> omega))) | (refine ⟨⟨?_, ?_⟩, ?_, ?_⟩ <;> (first | assumption | exact hS _ _ | omega | (constructor <;> omega))) | decide | (simp only [m_note, m_markUsed, m_vanish, up2, Int.toNat_natCast, a_live5, not_true_eq_false, not_false_eq_true, Nat.reduceEqDiff, false_and, true_and, and_true, and_false, and_self, if_true, if_false, ↓reduceIte, reduceCtorEq]; first | (first | assumption | exact hS _ _ | omega | (constructor <;> omega)) | (refine ⟨?_, ?_⟩ <;> (first | assumption | exact hS _ _ | omega | (constructor <;> omega))) | (refine ⟨?_, ?_, ?_⟩ <;> (first | assumption | exact hS _ _ | omega | (constructor <;> omega))) | (refine ⟨?_, ?_, ?_, ?_⟩ <;> (first | assumption | exact hS _ _ | omega | (constructor <;> omega))) | (refine ⟨⟨?_, ?_⟩, ?_, ?_⟩ <;> (first | assumption | exact hS _ _ | omega | (constructor <;> omega))) | decide))
    rintro _ _ _ ⟨rfl, rfl, rfl⟩
    repeat' first | (refine a_si ?sd ?_; case sd => (first | (first | assumption | exact hS _ _ | omega | (constructor <;> omega)) | (refine ⟨?_, ?_⟩ <;> (first | assumption | exact hS _ _ | omega | (constructor <;> omega))) | (refine ⟨?_, ?_, ?_⟩ <;> (first | assumption | exact hS _ _ | omega | (constructor <;> omega))) | (refine ⟨?_, ?_, ?_, ?_⟩ <;> (first | assumption | exact hS _ _ | omega | (constructor <;> omega))) | (refine ⟨⟨?_, ?_⟩, ?_, ?_⟩ <;> (first | assumption | exact hS _ _ | omega | (constructor <;> omega))) | decide | (simp only [m_note, m_markUsed, m_vanish, up2, Int.toNat_natCast, a_live5, not_true_eq_false, not_false_eq_true, Nat.reduceEqDiff, false_and, true_and, and_true, and_false, and_self, if_true, if_false, ↓reduceIte, reduceCtorEq]; first | (first | assumption | exact hS _ _ | omega | (constructor <;> omega)) | (refine ⟨?_, ?_⟩ <;> (first | assumption | exact hS _ _ | omega | (constructor <;> omega))) | (refine ⟨?_, ?_, ?_⟩ <;> (first | assumption | exact hS _ _ | omega | (constructor <;> omega))) | (refine ⟨?_, ?_, ?_, ?_⟩ <;> (first | assumption | exact hS _ _ | omega | (constructor <;> omega))) | (refine ⟨⟨?_, ?_⟩, ?_, ?_⟩ <;> (first | assumption | exact hS _ _ | omega | (constructor <;> omega))) | decide))) | (refine And.intro ?_ ?_ <;> (intro hc; (try simp only [m_note, m_markUsed, m_vanish, up2, Int.toNat_natCast, a_live5, not_true_eq_false, not_false_eq_true, Nat.reduceEqDiff, false_and, true_and, and_true, and_false, and_self, if_true, if_false, ↓reduceIte, reduceCtorEq] at hc); try (exfalso; first | assumption | omega))) | (refine x_som_i l0 ?_) | (refine x_som_i l1 ?_) | (refine x_som_i l2 ?_) | (refine x_som_i l3 ?_) | (refine x_som_i l4 ?_) | (refine x_som_i l5 ?_) | (refine x_som_i l6 ?_) | (refine a_wo ?sd ?_; case sd => (first | exact hS _ _ | assumption | (constructor <;> omega) | (simp only [m_note, m_markUsed, m_vanish, up2, Int.toNat_natCast, a_live5, not_true_eq_false, not_false_eq_true, Nat.reduceEqDiff, false_and, true_and, and_true, and_false, and_self, if_true, if_false, ↓reduceIte, reduceCtorEq]; first | exact hS _ _ | assumption | (constructor <;> omega)))) | (refine st 0 _ _ _ _ _ _ _ rfl ?_) | (refine st 22 _ _ _ _ _ _ _ rfl ?_) | (refine st 36 _ _ _ _ _ _ _ rfl ?_) | (refine st 41 _ _ _ _ _ _ _ rfl ?_)
    exact ⟨rfl, by rw [cif_f (by omega), cif_t (by omega)], rfl⟩
  · exact ⟨rfl, by rw [cif_f (by omega), cif_f (by omega)], rfl⟩
  · exact ⟨rfl, by rw [cif_f (by omega), cif_f (by omega)], rfl⟩
  · refine a_ci (c_vanish 2 ?a1) ?room ?_
    case room => first | decide | exact ⟨by decide, by decide, by omega, by omega⟩
    case a1 => (first | (first | assumption | exact hS _ _ | omega | (constructor <;> omega)) | (refine ⟨?_, ?_⟩ <;> (first | assumption | exact hS _ _ | omega | (constructor <;> omega))) | (refine ⟨?_, ?_, ?_⟩ <;> (first | assumption | exact hS _ _ | omega | (constructor <;> omega))) | (refine ⟨?_, ?_, ?_, ?_⟩ <;> (first | assumption | exact hS _ _ | omega | (constructor <;> omega))) | (refine ⟨⟨?_, ?_⟩, ?_, ?_⟩ <;> (first | assumption | exact hS _ _ | omega | (constructor <;> omega))) | decide | (simp only [m_note, m_markUsed, m_vanish, up2, Int.toNat_natCast, a_live5, not_true_eq_false, not_false_eq_true, Nat.reduceEqDiff, false_and, true_and, and_true, and_false, and_self, if_true, if_false, ↓reduceIte, reduceCtorEq]; first | (first | assumption | exact hS _ _ | omega | (constructor <;> omega)) | (refine ⟨?_, ?_⟩ <;> (first | assumption | exact hS _ _ | omega | (constructor <;> omega))) | (refine ⟨?_, ?_, ?_⟩ <;> (first | assumption | exact hS _ _ | omega | (constructor <;> omega))) | (refine ⟨?_, ?_, ?_, ?_⟩ <;> (first | assumption | exact hS _ _ | omega | (constructor <;> omega))) | (refine ⟨⟨?_, ?_⟩, ?_, ?_⟩ <;> (first | assumption | exact hS _ _ | omega | (constructor <;> omega))) | decide))
    rintro _ _ _ ⟨rfl, rfl, rfl⟩
    repeat' first | (refine a_si ?sd ?_; case sd => (first | (first | assumption | exact hS _ _ | omega | (constructor <;> omega)) | (refine ⟨?_, ?_⟩ <;> (first | assumption | exact hS _ _ | omega | (constructor <;> omega))) | (refine ⟨?_, ?_, ?_⟩ <;> (first | assumption | exact hS _ _ | omega | (constructor <;> omega))) | (refine ⟨?_, ?_, ?_, ?_⟩ <;> (first | assumption | exact hS _ _ | omega | (constructor <;> omega))) | (refine ⟨⟨?_, ?_⟩, ?_, ?_⟩ <;> (first | assumption | exact hS _ _ | omega | (constructor <;> omega))) | decide | (simp only [m_note, m_markUsed, m_vanish, up2, Int.toNat_natCast, a_live5, not_true_eq_false, not_false_eq_true, Nat.reduceEqDiff, false_and, true_and, and_true, and_false, and_self, if_true, if_false, ↓reduceIte, reduceCtorEq]; first | (first | assumption | exact hS _ _ | omega | (constructor <;> omega)) | (refine ⟨?_, ?_⟩ <;> (first | assumption | exact hS _ _ | omega | (constructor <;> omega))) | (refine ⟨?_, ?_, ?_⟩ <;> (first | assumption | exact hS _ _ | omega | (constructor <;> omega))) | (refine ⟨?_, ?_, ?_, ?_⟩ <;> (first | assumption | exact hS _ _ | omega | (constructor <;> omega))) | (refine ⟨⟨?_, ?_⟩, ?_, ?_⟩ <;> (first | assumption | exact hS _ _ | omega | (constructor <;> omega))) | decide))) | (refine And.intro ?_ ?_ <;> (intro hc; (try simp only [m_note, m_markUsed, m_vanish, up2, Int.toNat_natCast, a_live5, not_true_eq_false, not_false_eq_true, Nat.reduceEqDiff, false_and, true_and, and_true, and_false, and_self, if_true, if_false, ↓reduceIte, reduceCtorEq] at hc); try (exfalso; first | assumption | omega))) | (refine x_som_i l0 ?_) | (refine x_som_i l1 ?_) | (refine x_som_i l2 ?_) | (refine x_som_i l3 ?_) | (refine x_som_i l4 ?_) | (refine x_som_i l5 ?_) | (refine x_som_i l6 ?_) | (refine a_wo ?sd ?_; case sd => (first | exact hS _ _ | assumption | (constructor <;> omega) | (simp only [m_note, m_markUsed, m_vanish, up2, Int.toNat_natCast, a_live5, not_true_eq_false, not_false_eq_true, Nat.reduceEqDiff, false_and, true_and, and_true, and_false, and_self, if_true, if_false, ↓reduceIte, reduceCtorEq]; first | exact hS _ _ | assumption | (constructor <;> omega)))) | (refine st 0 _ _ _ _ _ _ _ rfl ?_) | (refine st 22 _ _ _ _ _ _ _ rfl ?_) | (refine st 36 _ _ _ _ _ _ _ rfl ?_) | (refine st 41 _ _ _ _ _ _ _ rfl ?_)
    exact ⟨rfl, by rw [cif_f (by omega), cif_t (by omega)], rfl⟩
  · refine a_ci (c_vanish 3 ?a1) ?room ?_
    case room => first | decide | exact ⟨by decide, by decide, by omega, by omega⟩
    case a1 => (first | (first | assumption | exact hS _ _ | omega | (constructor <;> omega)) | (refine ⟨?_, ?_⟩ <;> (first | assumption | exact hS _ _ | omega | (constructor <;> omega))) | (refine ⟨?_, ?_, ?_⟩ <;> (first | assumption | exact hS _ _ | omega | (constructor <;> omega))) | (refine ⟨?_, ?_, ?_, ?_⟩ <;> (first | assumption | exact hS _ _ | omega | (constructor <;> omega))) | (refine ⟨⟨?_, ?_⟩, ?_, ?_⟩ <;> (first | assumption | exact hS _ _ | omega | (constructor <;> omega))) | decide | (simp only [m_note, m_markUsed, m_vanish, up2, Int.toNat_natCast, a_live5, not_true_eq_false, not_false_eq_true, Nat.reduceEqDiff, false_and, true_and, and_true, and_false, and_self, if_true, if_false, ↓reduceIte, reduceCtorEq]; first | (first | assumption | exact hS _ _ | omega | (constructor <;> omega)) | (refine ⟨?_, ?_⟩ <;> (first | assumption | exact hS _ _ | omega | (constructor <;> omega))) | (refine ⟨?_, ?_, ?_⟩ <;> (first | assumption | exact hS _ _ | omega | (constructor <;> omega))) | (refine ⟨?_, ?_, ?_, ?_⟩ <;> (first | assumption | exact hS _ _ | omega | (constructor <;> omega))) | (refine ⟨⟨?_, ?_⟩, ?_, ?_⟩ <;> (first | assumption | exact hS _ _ | omega | (constructor <;> omega))) | decide))
    rintro _ _ _ ⟨rfl, rfl, rfl⟩
    repeat' first | (refine a_si ?sd ?_; case sd => (first | (first | assumption | exact hS _ _ | omega | (constructor <;> omega)) | (refine ⟨?_, ?_⟩ <;> (first | assumption | exact hS _ _ | omega | (constructor <;> omega))) | (refine ⟨?_, ?_, ?_⟩ <;> (first | assumption | exact hS _ _ | omega | (constructor <;> omega))) | (refine ⟨?_, ?_, ?_, ?_⟩ <;> (first | assumption | exact hS _ _ | omega | (constructor <;> omega))) | (refine ⟨⟨?_, ?_⟩, ?_, ?_⟩ <;> (first | assumption | exact hS _ _ | omega | (constructor <;> omega))) | decide | (simp only [m_note, m_markUsed, m_vanish, up2, Int.toNat_natCast, a_live5, not_true_eq_false, not_false_eq_true, Nat.reduceEqDiff, false_and, true_and, and_true, and_false, and_self, if_true, if_false, ↓reduceIte, reduceCtorEq]; first | (first | assumption | exact hS _ _ | omega | (constructor <;> omega)) | (refine ⟨?_, ?_⟩ <;> (first | assumption | exact hS _ _ | omega | (constructor <;> omega))) | (refine ⟨?_, ?_, ?_⟩ <;> (first | assumption | exact hS _ _ | omega | (constructor <;> omega))) | (refine ⟨?_, ?_, ?_, ?_⟩ <;> (first | assumption | exact hS _ _ | omega | (constructor <;> omega))) | (refine ⟨⟨?_, ?_⟩, ?_, ?_⟩ <;> (first | assumption | exact hS _ _ | omega | (constructor <;> omega))) | decide))) | (refine And.intro ?_ ?_ <;> (intro hc; (try simp only [m_note, m_markUsed, m_vanish, up2, Int.toNat_natCast, a_live5, not_true_eq_false, not_false_eq_true, Nat.reduceEqDiff, false_and, true_and, and_true, and_false, and_self, if_true, if_false, ↓reduceIte, reduceCtorEq] at hc); try (exfalso; first | assumption | omega))) | (refine x_som_i l0 ?_) | (refine x_som_i l1 ?_) | (refine x_som_i l2 ?_) | (refine x_som_i l3 ?_) | (refine x_som_i l4 ?_) | (refine x_som_i l5 ?_) | (refine x_som_i l6 ?_) | (refine a_wo ?sd ?_; case sd => (first | exact hS _ _ | assumption | (constructor <;> omega) | (simp only [m_note, m_markUsed, m_vanish, up2, Int.toNat_natCast, a_live5, not_true_eq_false, not_false_eq_true, Nat.reduceEqDiff, false_and, true_and, and_true, and_false, and_self, if_true, if_false, ↓reduceIte, reduceCtorEq]; first | exact hS _ _ | assumption | (constructor <;> omega)))) | (refine st 0 _ _ _ _ _ _ _ rfl ?_) | (refine st 22 _ _ _ _ _ _ _ rfl ?_) | (refine st 36 _ _ _ _ _ _ _ rfl ?_) | (refine st 41 _ _ _ _ _ _ _ rfl ?_)
    exact ⟨rfl, by rw [cif_t (by omega)], rfl⟩
theorem c_comeToBe {t : Nat} (ht : v 20 t = 3) : AHolds X y_Session_comeToBe [aR 5 t] v L 20 800 0 0 (fun r v' L' => r = none ∧ v' = m_markUsed (up2 (up2 (m_fresh v) 35 t (v 5 0)) 36 t 1) t ∧ L = L') := by
  have h5 : iS (v 5 0) → True := fun _ => trivial
  refine a_sm fun hS => ?_
  refine a_met ok_Session_comeToBe (by decide +kernel) (Nat.le_of_ble_eq_true rfl) fun go st => ?_
  have h5 := hS 5 0
  repeat' first | (refine a_si ?sd ?_; case sd => (first | (first | assumption | exact hS _ _ | omega | (constructor <;> omega)) | (refine ⟨?_, ?_⟩ <;> (first | assumption | exact hS _ _ | omega | (constructor <;> omega))) | (refine ⟨?_, ?_, ?_⟩ <;> (first | assumption | exact hS _ _ | omega | (constructor <;> omega))) | (refine ⟨?_, ?_, ?_, ?_⟩ <;> (first | assumption | exact hS _ _ | omega | (constructor <;> omega))) | (refine ⟨⟨?_, ?_⟩, ?_, ?_⟩ <;> (first | assumption | exact hS _ _ | omega | (constructor <;> omega))) | decide | (simp only [m_note, m_markUsed, m_vanish, up2, Int.toNat_natCast, a_live5, not_true_eq_false, not_false_eq_true, Nat.reduceEqDiff, false_and, true_and, and_true, and_false, and_self, if_true, if_false, ↓reduceIte, reduceCtorEq]; first | (first | assumption | exact hS _ _ | omega | (constructor <;> omega)) | (refine ⟨?_, ?_⟩ <;> (first | assumption | exact hS _ _ | omega | (constructor <;> omega))) | (refine ⟨?_, ?_, ?_⟩ <;> (first | assumption | exact hS _ _ | omega | (constructor <;> omega))) | (refine ⟨?_, ?_, ?_, ?_⟩ <;> (first | assumption | exact hS _ _ | omega | (constructor <;> omega))) | (refine ⟨⟨?_, ?_⟩, ?_, ?_⟩ <;> (first | assumption | exact hS _ _ | omega | (constructor <;> omega))) | decide))) | (refine And.intro ?_ ?_ <;> (intro hc; (try simp only [m_note, m_markUsed, m_vanish, up2, Int.toNat_natCast, a_live5, not_true_eq_false, not_false_eq_true, Nat.reduceEqDiff, false_and, true_and, and_true, and_false, and_self, if_true, if_false, ↓reduceIte, reduceCtorEq] at hc); try (exfalso; first | assumption | omega))) | (refine x_som_i l0 ?_) | (refine x_som_i l1 ?_) | (refine x_som_i l2 ?_) | (refine x_som_i l3 ?_) | (refine x_som_i l4 ?_) | (refine x_som_i l5 ?_) | (refine x_som_i l6 ?_) | (refine a_wo ?sd ?_; case sd => (first | exact hS _ _ | assumption | (constructor <;> omega) | (simp only [m_note, m_markUsed, m_vanish, up2, Int.toNat_natCast, a_live5, not_true_eq_false, not_false_eq_true, Nat.reduceEqDiff, false_and, true_and, and_true, and_false, and_self, if_true, if_false, ↓reduceIte, reduceCtorEq]; first | exact hS _ _ | assumption | (constructor <;> omega)))) | (refine st 0 _ _ _ _ _ _ _ rfl ?_)
  refine a_ci (c_newInstance) ?room ?_
  case room => first | decide | exact ⟨by decide, by decide, by omega, by omega⟩
  rintro _ _ _ ⟨rfl, rfl, rfl⟩
  repeat' first | (refine a_si ?sd ?_; case sd => (first | (first | assumption | exact hS _ _ | omega | (constructor <;> omega)) | (refine ⟨?_, ?_⟩ <;> (first | assumption | exact hS _ _ | omega | (constructor <;> omega))) | (refine ⟨?_, ?_, ?_⟩ <;> (first | assumption | exact hS _ _ | omega | (constructor <;> omega))) | (refine ⟨?_, ?_, ?_, ?_⟩ <;> (first | assumption | exact hS _ _ | omega | (constructor <;> omega))) | (refine ⟨⟨?_, ?_⟩, ?_, ?_⟩ <;> (first | assumption | exact hS _ _ | omega | (constructor <;> omega))) | decide | (simp only [m_note, m_markUsed, m_vanish, up2, Int.toNat_natCast, a_live5, not_true_eq_false, not_false_eq_true, Nat.reduceEqDiff, false_and, true_and, and_true, and_false, and_self, if_true, if_false, ↓reduceIte, reduceCtorEq]; first | (first | assumption | exact hS _ _ | omega | (constructor <;> omega)) | (refine ⟨?_, ?_⟩ <;> (first | assumption | exact hS _ _ | omega | (constructor <;> omega))) | (refine ⟨?_, ?_, ?_⟩ <;> (first | assumption | exact hS _ _ | omega | (constructor <;> omega))) | (refine ⟨?_, ?_, ?_, ?_⟩ <;> (first | assumption | exact hS _ _ | omega | (constructor <;> omega))) | (refine ⟨⟨?_, ?_⟩, ?_, ?_⟩ <;> (first | assumption | exact hS _ _ | omega | (constructor <;> omega))) | decide))) | (refine And.intro ?_ ?_ <;> (intro hc; (try simp only [m_note, m_markUsed, m_vanish, up2, Int.toNat_natCast, a_live5, not_true_eq_false, not_false_eq_true, Nat.reduceEqDiff, false_and, true_and, and_true, and_false, and_self, if_true, if_false, ↓reduceIte, reduceCtorEq] at hc); try (exfalso; first | assumption | omega))) | (refine x_som_i l0 ?_) | (refine x_som_i l1 ?_) | (refine x_som_i l2 ?_) | (refine x_som_i l3 ?_) | (refine x_som_i l4 ?_) | (refine x_som_i l5 ?_) | (refine x_som_i l6 ?_) | (refine a_wo ?sd ?_; case sd => (first | exact hS _ _ | assumption | (constructor <;> omega) | (simp only [m_note, m_markUsed, m_vanish, up2, Int.toNat_natCast, a_live5, not_true_eq_false, not_false_eq_true, Nat.reduceEqDiff, false_and, true_and, and_true, and_false, and_self, if_true, if_false, ↓reduceIte, reduceCtorEq]; first | exact hS _ _ | assumption | (constructor <;> omega)))) | (refine st 0 _ _ _ _ _ _ _ rfl ?_)
  refine a_ci (c_markUsed ?a1) ?room ?_
  case room => first | decide | exact ⟨by decide, by decide, by omega, by omega⟩
  case a1 => (first | (first | assumption | exact hS _ _ | omega | (constructor <;> omega)) | (refine ⟨?_, ?_⟩ <;> (first | assumption | exact hS _ _ | omega | (constructor <;> omega))) | (refine ⟨?_, ?_, ?_⟩ <;> (first | assumption | exact hS _ _ | omega | (constructor <;> omega))) | (refine ⟨?_, ?_, ?_, ?_⟩ <;> (first | assumption | exact hS _ _ | omega | (constructor <;> omega))) | (refine ⟨⟨?_, ?_⟩, ?_, ?_⟩ <;> (first | assumption | exact hS _ _ | omega | (constructor <;> omega))) | decide | (simp only [m_note, m_markUsed, m_vanish, up2, Int.toNat_natCast, a_live5, not_true_eq_false, not_false_eq_true, Nat.reduceEqDiff, false_and, true_and, and_true, and_false, and_self, if_true, if_false, ↓reduceIte, reduceCtorEq]; first | (first | assumption | exact hS _ _ | omega | (constructor <;> omega)) | (refine ⟨?_, ?_⟩ <;> (first | assumption | exact hS _ _ | omega | (constructor <;> omega))) | (refine ⟨?_, ?_, ?_⟩ <;> (first | assumption | exact hS _ _ | omega | (constructor <;> omega))) | (refine ⟨?_, ?_, ?_, ?_⟩ <;> (first | assumption | exact hS _ _ | omega | (constructor <;> omega))) | (refine ⟨⟨?_, ?_⟩, ?_, ?_⟩ <;> (first | assumption | exact hS _ _ | omega | (constructor <;> omega))) | decide))
  rintro _ _ _ ⟨rfl, rfl, rfl⟩
  repeat' first | (refine a_si ?sd ?_; case sd => (first | (first | assumption | exact hS _ _ | omega | (constructor <;> omega)) | (refine ⟨?_, ?_⟩ <;> (first | assumption | exact hS _ _ | omega | (constructor <;> omega))) | (refine ⟨?_, ?_, ?_⟩ <;> (first | assumption | exact hS _ _ | omega | (constructor <;> omega))) | (refine ⟨?_, ?_, ?_, ?_⟩ <;> (first | assumption | exact hS _ _ | omega | (constructor <;> omega))) | (refine ⟨⟨?_, ?_⟩, ?_, ?_⟩ <;> (first | assumption | exact hS _ _ | omega | (constructor <;> omega))) | decide | (simp only [m_note, m_markUsed, m_vanish, up2, Int.toNat_natCast, a_live5, not_true_eq_false, not_false_eq_true, Nat.reduceEqDiff, false_and, true_and, and_true, and_false, and_self, if_true, if_false, ↓reduceIte, reduceCtorEq]; first | (first | assumption | exact hS _ _ | omega | (constructor <;> omega)) | (refine ⟨?_, ?_⟩ <;> (first | assumption | exact hS _ _ | omega | (constructor <;> omega))) | (refine ⟨?_, ?_, ?_⟩ <;> (first | assumption | exact hS _ _ | omega | (constructor <;> omega))) | (refine ⟨?_, ?_, ?_, ?_⟩ <;> (first | assumption | exact hS _ _ | omega | (constructor <;> omega))) | (refine ⟨⟨?_, ?_⟩, ?_, ?_⟩ <;> (first | assumption | exact hS _ _ | omega | (constructor <;> omega))) | decide))) | (refine And.intro ?_ ?_ <;> (intro hc; (try simp only [m_note, m_markUsed, m_vanish, up2, Int.toNat_natCast, a_live5, not_true_eq_false, not_false_eq_true, Nat.reduceEqDiff, false_and, true_and, and_true, and_false, and_self, if_true, if_false, ↓reduceIte, reduceCtorEq] at hc); try (exfalso; first | assumption | omega))) | (refine x_som_i l0 ?_) | (refine x_som_i l1 ?_) | (refine x_som_i l2 ?_) | (refine x_som_i l3 ?_) | (refine x_som_i l4 ?_) | (refine x_som_i l5 ?_) | (refine x_som_i l6 ?_) | (refine a_wo ?sd ?_; case sd => (first | exact hS _ _ | assumption | (constructor <;> omega) | (simp only [m_note, m_markUsed, m_vanish, up2, Int.toNat_natCast, a_live5, not_true_eq_false, not_false_eq_true, Nat.reduceEqDiff, false_and, true_and, and_true, and_false, and_self, if_true, if_false, ↓reduceIte, reduceCtorEq]; first | exact hS _ _ | assumption | (constructor <;> omega)))) | (refine st 0 _ _ _ _ _ _ _ rfl ?_)
  exact ⟨rfl, rfl, rfl⟩
def m_putAway (v : SV) (t : Nat) : SV := m_note (up2 v 36 t 3) 4 0 (v 35 t)
theorem c_putAway {t : Nat} (ht : v 20 t = 3) : AHolds X y_Session_putAway [aR 5 t] v L 10 400 0 0 (fun r v' L' => r = none ∧ v' = m_putAway v t ∧ L = L') := by
  refine a_sm fun hS => ?_
  refine a_met ok_Session_putAway (by decide +kernel) (Nat.le_of_ble_eq_true rfl) fun go st => ?_
  repeat' first | (refine a_si ?sd ?_; case sd => (first | (first | assumption | exact hS _ _ | omega | (constructor <;> omega)) | (refine ⟨?_, ?_⟩ <;> (first | assumption | exact hS _ _ | omega | (constructor <;> omega))) | (refine ⟨?_, ?_, ?_⟩ <;> (first | assumption | exact hS _ _ | omega | (constructor <;> omega))) | (refine ⟨?_, ?_, ?_, ?_⟩ <;> (first | assumption | exact hS _ _ | omega | (constructor <;> omega))) | (refine ⟨⟨?_, ?_⟩, ?_, ?_⟩ <;> (first | assumption | exact hS _ _ | omega | (constructor <;> omega))) | decide | (simp only [m_note, m_markUsed, m_vanish, up2, Int.toNat_natCast, a_live5, not_true_eq_false, not_false_eq_true, Nat.reduceEqDiff, false_and, true_and, and_true, and_false, and_self, if_true, if_false, ↓reduceIte, reduceCtorEq]; first | (first | assumption | exact hS _ _ | omega | (constructor <;> omega)) | (refine ⟨?_, ?_⟩ <;> (first | assumption | exact hS _ _ | omega | (constructor <;> omega))) | (refine ⟨?_, ?_, ?_⟩ <;> (first | assumption | exact hS _ _ | omega | (constructor <;> omega))) | (refine ⟨?_, ?_, ?_, ?_⟩ <;> (first | assumption | exact hS _ _ | omega | (constructor <;> omega))) | (refine ⟨⟨?_, ?_⟩, ?_, ?_⟩ <;> (first | assumption | exact hS _ _ | omega | (constructor <;> omega))) | decide))) | (refine And.intro ?_ ?_ <;> (intro hc; (try simp only [m_note, m_markUsed, m_vanish, up2, Int.toNat_natCast, a_live5, not_true_eq_false, not_false_eq_true, Nat.reduceEqDiff, false_and, true_and, and_true, and_false, and_self, if_true, if_false, ↓reduceIte, reduceCtorEq] at hc); try (exfalso; first | assumption | omega))) | (refine x_som_i l0 ?_) | (refine x_som_i l1 ?_) | (refine x_som_i l2 ?_) | (refine x_som_i l3 ?_) | (refine x_som_i l4 ?_) | (refine x_som_i l5 ?_) | (refine x_som_i l6 ?_) | (refine a_wo ?sd ?_; case sd => (first | exact hS _ _ | assumption | (constructor <;> omega) | (simp only [m_note, m_markUsed, m_vanish, up2, Int.toNat_natCast, a_live5, not_true_eq_false, not_false_eq_true, Nat.reduceEqDiff, false_and, true_and, and_true, and_false, and_self, if_true, if_false, ↓reduceIte, reduceCtorEq]; first | exact hS _ _ | assumption | (constructor <;> omega)))) | (refine st 0 _ _ _ _ _ _ _ rfl ?_)
  refine a_ci (c_note 4 0 (v 35 t)) ?room ?_
  case room => first | decide | exact ⟨by decide, by decide, by omega, by omega⟩
  rintro _ _ _ ⟨rfl, rfl, rfl⟩
  repeat' first | (refine a_si ?sd ?_; case sd => (first | (first | assumption | exact hS _ _ | omega | (constructor <;> omega)) | (refine ⟨?_, ?_⟩ <;> (first | assumption | exact hS _ _ | omega | (constructor <;> omega))) | (refine ⟨?_, ?_, ?_⟩ <;> (first | assumption | exact hS _ _ | omega | (constructor <;> omega))) | (refine ⟨?_, ?_, ?_, ?_⟩ <;> (first | assumption | exact hS _ _ | omega | (constructor <;> omega))) | (refine ⟨⟨?_, ?_⟩, ?_, ?_⟩ <;> (first | assumption | exact hS _ _ | omega | (constructor <;> omega))) | decide | (simp only [m_note, m_markUsed, m_vanish, up2, Int.toNat_natCast, a_live5, not_true_eq_false, not_false_eq_true, Nat.reduceEqDiff, false_and, true_and, and_true, and_false, and_self, if_true, if_false, ↓reduceIte, reduceCtorEq]; first | (first | assumption | exact hS _ _ | omega | (constructor <;> omega)) | (refine ⟨?_, ?_⟩ <;> (first | assumption | exact hS _ _ | omega | (constructor <;> omega))) | (refine ⟨?_, ?_, ?_⟩ <;> (first | assumption | exact hS _ _ | omega | (constructor <;> omega))) | (refine ⟨?_, ?_, ?_, ?_⟩ <;> (first | assumption | exact hS _ _ | omega | (constructor <;> omega))) | (refine ⟨⟨?_, ?_⟩, ?_, ?_⟩ <;> (first | assumption | exact hS _ _ | omega | (constructor <;> omega))) | decide))) | (refine And.intro ?_ ?_ <;> (intro hc; (try simp only [m_note, m_markUsed, m_vanish, up2, Int.toNat_natCast, a_live5, not_true_eq_false, not_false_eq_true, Nat.reduceEqDiff, false_and, true_and, and_true, and_false, and_self, if_true, if_false, ↓reduceIte, reduceCtorEq] at hc); try (exfalso; first | assumption | omega))) | (refine x_som_i l0 ?_) | (refine x_som_i l1 ?_) | (refine x_som_i l2 ?_) | (refine x_som_i l3 ?_) | (refine x_som_i l4 ?_) | (refine x_som_i l5 ?_) | (refine x_som_i l6 ?_) | (refine a_wo ?sd ?_; case sd => (first | exact hS _ _ | assumption | (constructor <;> omega) | (simp only [m_note, m_markUsed, m_vanish, up2, Int.toNat_natCast, a_live5, not_true_eq_false, not_false_eq_true, Nat.reduceEqDiff, false_and, true_and, and_true, and_false, and_self, if_true, if_false, ↓reduceIte, reduceCtorEq]; first | exact hS _ _ | assumption | (constructor <;> omega)))) | (refine st 0 _ _ _ _ _ _ _ rfl ?_)
  exact ⟨rfl, rfl, rfl⟩
def idleLong (v : SV) (t : Nat) : Prop := ¬ v 36 t = 0 ∧ v 37 t = 0 ∧ ¬ v 43 (v 34 t).toNat = 0 ∧ v 39 t ≤ v 2 0 - v 43 (v 34 t).toNat
theorem c_isIdleTooLong {t : Nat} (ht : v 20 t = 3) (hh : v 40 (v 34 t).toNat = 1) (hn : 0 ≤ v 2 0) (hi : 0 ≤ v 43 (v 34 t).toNat) : AHolds X y_Session_isIdleTooLong [aR 5 t] v L 0 0 0 0 (AC (idleLong v t) (aI 1) (aI 0) v L) := by
  have hn2 : iS (v 2 0) → iS (v 43 (v 34 t).toNat) → iS (v 2 0 - v 43 (v 34 t).toNat) := fun h1 h2 => ⟨by have := h2.2; omega, by have := h1.2; omega⟩
  refine a_sm fun hS => ?_
  refine a_met ok_Session_isIdleTooLong (by decide +kernel) (Nat.le_of_ble_eq_true rfl) fun go st => ?_
  have hn3 := hn2 (hS _ _) (hS _ _)
  repeat' first | (refine a_si ?sd ?_; case sd => (first | (first | assumption | exact hS _ _ | omega | (constructor <;> omega)) | (refine ⟨?_, ?_⟩ <;> (first | assumption | exact hS _ _ | omega | (constructor <;> omega))) | (refine ⟨?_, ?_, ?_⟩ <;> (first | assumption | exact hS _ _ | omega | (constructor <;> omega))) | (refine ⟨?_, ?_, ?_, ?_⟩ <;> (first | assumption | exact hS _ _ | omega | (constructor <;> omega))) | (refine ⟨⟨?_, ?_⟩, ?_, ?_⟩ <;> (first | assumption | exact hS _ _ | omega | (constructor <;> omega))) | decide | (simp only [m_note, m_markUsed, m_vanish, up2, Int.toNat_natCast, a_live5, not_true_eq_false, not_false_eq_true, Nat.reduceEqDiff, false_and, true_and, and_true, and_false, and_self, if_true, if_false, ↓reduceIte, reduceCtorEq]; first | (first | assumption | exact hS _ _ | omega | (constructor <;> omega)) | (refine ⟨?_, ?_⟩ <;> (first | assumption | exact hS _ _ | omega | (constructor <;> omega))) | (refine ⟨?_, ?_, ?_⟩ <;> (first | assumption | exact hS _ _ | omega | (constructor <;> omega))) | (refine ⟨?_, ?_, ?_, ?_⟩ <;> (first | assumption | exact hS _ _ | omega | (constructor <;> omega))) | (refine ⟨⟨?_, ?_⟩, ?_, ?_⟩ <;> (first | assumption | exact hS _ _ | omega | (constructor <;> omega))) | decide))) | (refine And.intro ?_ ?_ <;> (intro hc; (try simp only [m_note, m_markUsed, m_vanish, up2, Int.toNat_natCast, a_live5, not_true_eq_false, not_false_eq_true, Nat.reduceEqDiff, false_and, true_and, and_true, and_false, and_self, if_true, if_false, ↓reduceIte, reduceCtorEq] at hc); try (exfalso; first | assumption | omega))) | (refine x_som_i l0 ?_) | (refine x_som_i l1 ?_) | (refine x_som_i l2 ?_) | (refine x_som_i l3 ?_) | (refine x_som_i l4 ?_) | (refine x_som_i l5 ?_) | (refine x_som_i l6 ?_) | (refine a_wo ?sd ?_; case sd => (first | exact hS _ _ | assumption | (constructor <;> omega) | (simp only [m_note, m_markUsed, m_vanish, up2, Int.toNat_natCast, a_live5, not_true_eq_false, not_false_eq_true, Nat.reduceEqDiff, false_and, true_and, and_true, and_false, and_self, if_true, if_false, ↓reduceIte, reduceCtorEq]; first | exact hS _ _ | assumption | (constructor <;> omega)))) | (refine st 0 _ _ _ _ _ _ _ rfl ?_) | (refine st 24 _ _ _ _ _ _ _ rfl ?_) | (refine st 26 _ _ _ _ _ _ _ rfl ?_) | (refine st 52 _ _ _ _ _ _ _ rfl ?_) | (refine st 53 _ _ _ _ _ _ _ rfl ?_)
  all_goals first | exact ac_t (by unfold idleLong; omega) | exact ac_f (by unfold idleLong; omega)
theorem c_retire {t : Nat} (ht : v 20 t = 3) : AHolds X y_Session_retire [aR 5 t] v L 20 800 0 0 (fun r v' L' => r = none ∧ v' = m_vanish v t (cif (v 36 t = 1) 2 6) ∧ L = L') := by
  refine a_sm fun hS => ?_
  refine a_met ok_Session_retire (by decide +kernel) (Nat.le_of_ble_eq_true rfl) fun go st => ?_
  repeat' first | (refine a_si ?sd ?_; case sd => (first | (first | assumption | exact hS _ _ | omega | (constructor <;> omega)) | (refine ⟨?_, ?_⟩ <;> (first | assumption | exact hS _ _ | omega | (constructor <;> omega))) | (refine ⟨?_, ?_, ?_⟩ <;> (first | assumption | exact hS _ _ | omega | (constructor <;> omega))) | (refine ⟨?_, ?_, ?_, ?_⟩ <;> (first | assumption | exact hS _ _ | omega | (constructor <;> omega))) | (refine ⟨⟨?_, ?_⟩, ?_, ?_⟩ <;> (first | assumption | exact hS _ _ | omega | (constructor <;> omega))) | decide | (simp only [m_note, m_markUsed, m_vanish, up2, Int.toNat_natCast, a_live5, not_true_eq_false, not_false_eq_true, Nat.reduceEqDiff, false_and, true_and, and_true, and_false, and_self, if_true, if_false, ↓reduceIte, reduceCtorEq]; first | (first | assumption | exact hS _ _ | omega | (constructor <;> omega)) | (refine ⟨?_, ?_⟩ <;> (first | assumption | exact hS _ _ | omega | (constructor <;> omega))) | (refine ⟨?_, ?_, ?_⟩ <;> (first | assumption | exact hS _ _ | omega | (constructor <;> omega))) | (refine ⟨?_, ?_, ?_, ?_⟩ <;> (first | assumption | exact hS _ _ | omega | (constructor <;> omega))) | (refine ⟨⟨?_, ?_⟩, ?_, ?_⟩ <;> (first | assumption | exact hS _ _ | omega | (constructor <;> omega))) | decide))) | (refine And.intro ?_ ?_ <;> (intro hc; (try simp only [m_note, m_markUsed, m_vanish, up2, Int.toNat_natCast, a_live5, not_true_eq_false, not_false_eq_true, Nat.reduceEqDiff, false_and, true_and, and_true, and_false, and_self, if_true, if_false, ↓reduceIte, reduceCtorEq] at hc); try (exfalso; first | assumption | omega))) | (refine x_som_i l0 ?_) | (refine x_som_i l1 ?_) | (refine x_som_i l2 ?_) | (refine x_som_i l3 ?_) | (refine x_som_i l4 ?_) | (refine x_som_i l5 ?_) | (refine x_som_i l6 ?_) | (refine a_wo ?sd ?_; case sd => (first | exact hS _ _ | assumption | (constructor <;> omega) | (simp only [m_note, m_markUsed, m_vanish, up2, Int.toNat_natCast, a_live5, not_true_eq_false, not_false_eq_true, Nat.reduceEqDiff, false_and, true_and, and_true, and_false, and_self, if_true, if_false, ↓reduceIte, reduceCtorEq]; first | exact hS _ _ | assumption | (constructor <;> omega)))) | (refine st 0 _ _ _ _ _ _ _ rfl ?_) | (refine st 13 _ _ _ _ _ _ _ rfl ?_) | (refine st 15 _ _ _ _ _ _ _ rfl ?_)
  · refine a_ci (c_vanish 6 ht) ?room ?_
    case room => first | decide | exact ⟨by decide, by decide, by omega, by omega⟩
    rintro _ _ _ ⟨rfl, rfl, rfl⟩
    repeat' first | (refine a_si ?sd ?_; case sd => (first | (first | assumption | exact hS _ _ | omega | (constructor <;> omega)) | (refine ⟨?_, ?_⟩ <;> (first | assumption | exact hS _ _ | omega | (constructor <;> omega))) | (refine ⟨?_, ?_, ?_⟩ <;> (first | assumption | exact hS _ _ | omega | (constructor <;> omega))) | (refine ⟨?_, ?_, ?_, ?_⟩ <;> (first | assumption | exact hS _ _ | omega | (constructor <;> omega))) | (refine ⟨⟨?_, ?_⟩, ?_, ?_⟩ <;> (first | assumption | exact hS _ _ | omega | (constructor <;> omega))) | decide | (simp only [m_note, m_markUsed, m_vanish, up2, Int.toNat_natCast, a_live5, not_true_eq_false, not_false_eq_true, Nat.reduceEqDiff, false_and, true_and, and_true, and_false, and_self, if_true, if_false, ↓reduceIte, reduceCtorEq]; first | (first | assumption | exact hS _ _ | omega | (constructor <;> omega)) | (refine ⟨?_, ?_⟩ <;> (first | assumption | exact hS _ _ | omega | (constructor <;> omega))) | (refine ⟨?_, ?_, ?_⟩ <;> (first | assumption | exact hS _ _ | omega | (constructor <;> omega))) | (refine ⟨?_, ?_, ?_, ?_⟩ <;> (first | assumption | exact hS _ _ | omega | (constructor <;> omega))) | (refine ⟨⟨?_, ?_⟩, ?_, ?_⟩ <;> (first | assumption | exact hS _ _ | omega | (constructor <;> omega))) | decide))) | (refine And.intro ?_ ?_ <;> (intro hc; (try simp only [m_note, m_markUsed, m_vanish, up2, Int.toNat_natCast, a_live5, not_true_eq_false, not_false_eq_true, Nat.reduceEqDiff, false_and, true_and, and_true, and_false, and_self, if_true, if_false, ↓reduceIte, reduceCtorEq] at hc); try (exfalso; first | assumption | omega))) | (refine x_som_i l0 ?_) | (refine x_som_i l1 ?_) | (refine x_som_i l2 ?_) | (refine x_som_i l3 ?_) | (refine x_som_i l4 ?_) | (refine x_som_i l5 ?_) | (refine x_som_i l6 ?_) | (refine a_wo ?sd ?_; case sd => (first | exact hS _ _ | assumption | (constructor <;> omega) | (simp only [m_note, m_markUsed, m_vanish, up2, Int.toNat_natCast, a_live5, not_true_eq_false, not_false_eq_true, Nat.reduceEqDiff, false_and, true_and, and_true, and_false, and_self, if_true, if_false, ↓reduceIte, reduceCtorEq]; first | exact hS _ _ | assumption | (constructor <;> omega)))) | (refine st 0 _ _ _ _ _ _ _ rfl ?_) | (refine st 13 _ _ _ _ _ _ _ rfl ?_) | (refine st 15 _ _ _ _ _ _ _ rfl ?_)
    exact ⟨rfl, by rw [cif_f (by omega)], rfl⟩
  · refine a_ci (c_vanish 2 ht) ?room ?_
    case room => first | decide | exact ⟨by decide, by decide, by omega, by omega⟩
    rintro _ _ _ ⟨rfl, rfl, rfl⟩
    repeat' first | (refine a_si ?sd ?_; case sd => (first | (first | assumption | exact hS _ _ | omega | (constructor <;> omega)) | (refine ⟨?_, ?_⟩ <;> (first | assumption | exact hS _ _ | omega | (constructor <;> omega))) | (refine ⟨?_, ?_, ?_⟩ <;> (first | assumption | exact hS _ _ | omega | (constructor <;> omega))) | (refine ⟨?_, ?_, ?_, ?_⟩ <;> (first | assumption | exact hS _ _ | omega | (constructor <;> omega))) | (refine ⟨⟨?_, ?_⟩, ?_, ?_⟩ <;> (first | assumption | exact hS _ _ | omega | (constructor <;> omega))) | decide | (simp only [m_note, m_markUsed, m_vanish, up2, Int.toNat_natCast, a_live5, not_true_eq_false, not_false_eq_true, Nat.reduceEqDiff, false_and, true_and, and_true, and_false, and_self, if_true, if_false, ↓reduceIte, reduceCtorEq]; first | (first | assumption | exact hS _ _ | omega | (constructor <;> omega)) | (refine ⟨?_, ?_⟩ <;> (first | assumption | exact hS _ _ | omega | (constructor <;> omega))) | (refine ⟨?_, ?_, ?_⟩ <;> (first | assumption | exact hS _ _ | omega | (constructor <;> omega))) | (refine ⟨?_, ?_, ?_, ?_⟩ <;> (first | assumption | exact hS _ _ | omega | (constructor <;> omega))) | (refine ⟨⟨?_, ?_⟩, ?_, ?_⟩ <;> (first | assumption | exact hS _ _ | omega | (constructor <;> omega))) | decide))) | (refine And.intro ?_ ?_ <;> (intro hc; (try simp only [m_note, m_markUsed, m_vanish, up2, Int.toNat_natCast, a_live5, not_true_eq_false, not_false_eq_true, Nat.reduceEqDiff, false_and, true_and, and_true, and_false, and_self, if_true, if_false, ↓reduceIte, reduceCtorEq] at hc); try (exfalso; first | assumption | omega))) | (refine x_som_i l0 ?_) | (refine x_som_i l1 ?_) | (refine x_som_i l2 ?_) | (refine x_som_i l3 ?_) | (refine x_som_i l4 ?_) | (refine x_som_i l5 ?_) | (refine x_som_i l6 ?_) | (refine a_wo ?sd ?_; case sd => (first | exact hS _ _ | assumption | (constructor <;> omega) | (simp only [m_note, m_markUsed, m_vanish, up2, Int.toNat_natCast, a_live5, not_true_eq_false, not_false_eq_true, Nat.reduceEqDiff, false_and, true_and, and_true, and_false, and_self, if_true, if_false, ↓reduceIte, reduceCtorEq]; first | exact hS _ _ | assumption | (constructor <;> omega)))) | (refine st 0 _ _ _ _ _ _ _ rfl ?_) | (refine st 13 _ _ _ _ _ _ _ rfl ?_) | (refine st 15 _ _ _ _ _ _ _ rfl ?_)
    exact ⟨rfl, by rw [cif_t (by omega)], rfl⟩
-- singletons
theorem c_Singleton_judge {t i : Nat} (m e : Int) (ht : v 20 t = 2) (hi : i < 8) (hr : rowOK v i) (hm : iS m) (he : e = 0 ∨ e = 1) : AHolds X y_Singleton_judge [aR 5 t, aR 1 i, aI m, aI e] v L 10 400 0 0 (fun r v' L' => r = some (aI (cif (¬ v 30 t = 0) 9 (cif (hasM v i t) (cif (m = 0 ∨ hasW v i t) 20 12) (cif (e = 1 ∧ (m = 0 ∧ v 33 t = 0 ∨ ¬ m = 0 ∧ v 32 t = 0)) 20 21)))) ∧ v = v' ∧ L = L') := by
  refine a_sm fun hS => ?_
  refine a_met ok_Singleton_judge (by decide +kernel) (Nat.le_of_ble_eq_true rfl) fun go st => ?_
  repeat' first | (refine a_si ?sd ?_; case sd => (first | (first | assumption | exact hS _ _ | omega | (constructor <;> omega)) | (refine ⟨?_, ?_⟩ <;> (first | assumption | exact hS _ _ | omega | (constructor <;> omega))) | (refine ⟨?_, ?_, ?_⟩ <;> (first | assumption | exact hS _ _ | omega | (constructor <;> omega))) | (refine ⟨?_, ?_, ?_, ?_⟩ <;> (first | assumption | exact hS _ _ | omega | (constructor <;> omega))) | (refine ⟨⟨?_, ?_⟩, ?_, ?_⟩ <;> (first | assumption | exact hS _ _ | omega | (constructor <;> omega))) | decide | (simp only [m_note, m_markUsed, m_vanish, up2, Int.toNat_natCast, a_live5, not_true_eq_false, not_false_eq_true, Nat.reduceEqDiff, false_and, true_and, and_true, and_false, and_self, if_true, if_false, ↓reduceIte, reduceCtorEq]; first | (first | assumption | exact hS _ _ | omega | (constructor <;> omega)) | (refine ⟨?_, ?_⟩ <;> (first | assumption | exact hS _ _ | omega | (constructor <;> omega))) | (refine ⟨?_, ?_, ?_⟩ <;> (first | assumption | exact hS _ _ | omega | (constructor <;> omega))) | (refine ⟨?_, ?_, ?_, ?_⟩ <;> (first | assumption | exact hS _ _ | omega | (constructor <;> omega))) | (refine ⟨⟨?_, ?_⟩, ?_, ?_⟩ <;> (first | assumption | exact hS _ _ | omega | (constructor <;> omega))) | decide))) | (refine And.intro ?_ ?_ <;> (intro hc; (try simp only [m_note, m_markUsed, m_vanish, up2, Int.toNat_natCast, a_live5, not_true_eq_false, not_false_eq_true, Nat.reduceEqDiff, false_and, true_and, and_true, and_false, and_self, if_true, if_false, ↓reduceIte, reduceCtorEq] at hc); try (exfalso; first | assumption | omega))) | (refine x_som_i l0 ?_) | (refine x_som_i l1 ?_) | (refine x_som_i l2 ?_) | (refine x_som_i l3 ?_) | (refine x_som_i l4 ?_) | (refine x_som_i l5 ?_) | (refine x_som_i l6 ?_) | (refine a_wo ?sd ?_; case sd => (first | exact hS _ _ | assumption | (constructor <;> omega) | (simp only [m_note, m_markUsed, m_vanish, up2, Int.toNat_natCast, a_live5, not_true_eq_false, not_false_eq_true, Nat.reduceEqDiff, false_and, true_and, and_true, and_false, and_self, if_true, if_false, ↓reduceIte, reduceCtorEq]; first | exact hS _ _ | assumption | (constructor <;> omega)))) | (refine st 0 _ _ _ _ _ _ _ rfl ?_) | (refine st 10 _ _ _ _ _ _ _ rfl ?_) | (refine st 30 _ _ _ _ _ _ _ rfl ?_) | (refine st 35 _ _ _ _ _ _ _ rfl ?_) | (refine st 37 _ _ _ _ _ _ _ rfl ?_) | (refine st 38 _ _ _ _ _ _ _ rfl ?_) | (refine st 53 _ _ _ _ _ _ _ rfl ?_) | (refine st 57 _ _ _ _ _ _ _ rfl ?_) | (refine st 68 _ _ _ _ _ _ _ rfl ?_) | (refine st 69 _ _ _ _ _ _ _ rfl ?_) | (refine st 85 _ _ _ _ _ _ _ rfl ?_) | (refine st 87 _ _ _ _ _ _ _ rfl ?_)
  · refine a_ci (c_hasMethodIn hi (Or.inr (Or.inl ht)) hr) ?room ?_
    case room => first | decide | exact ⟨by decide, by decide, by omega, by omega⟩
    rintro _ _ _ ⟨⟨hb, rfl⟩ | ⟨hb, rfl⟩, rfl, rfl⟩
    · repeat' first | (refine a_si ?sd ?_; case sd => (first | (first | assumption | exact hS _ _ | omega | (constructor <;> omega)) | (refine ⟨?_, ?_⟩ <;> (first | assumption | exact hS _ _ | omega | (constructor <;> omega))) | (refine ⟨?_, ?_, ?_⟩ <;> (first | assumption | exact hS _ _ | omega | (constructor <;> omega))) | (refine ⟨?_, ?_, ?_, ?_⟩ <;> (first | assumption | exact hS _ _ | omega | (constructor <;> omega))) | (refine ⟨⟨?_, ?_⟩, ?_, ?_⟩ <;> (first | assumption | exact hS _ _ | omega | (constructor <;> omega))) | decide | (simp only [m_note, m_markUsed, m_vanish, up2, Int.toNat_natCast, a_live5, not_true_eq_false, not_false_eq_true, Nat.reduceEqDiff, false_and, true_and, and_true, and_false, and_self, if_true, if_false, ↓reduceIte, reduceCtorEq]; first | (first | assumption | exact hS _ _ | omega | (constructor <;> omega)) | (refine ⟨?_, ?_⟩ <;> (first | assumption | exact hS _ _ | omega | (constructor <;> omega))) | (refine ⟨?_, ?_, ?_⟩ <;> (first | assumption | exact hS _ _ | omega | (constructor <;> omega))) | (refine ⟨?_, ?_, ?_, ?_⟩ <;> (first | assumption | exact hS _ _ | omega | (constructor <;> omega))) | (refine ⟨⟨?_, ?_⟩, ?_, ?_⟩ <;> (first | assumption | exact hS _ _ | omega | (constructor <;> omega))) | decide))) | (refine And.intro ?_ ?_ <;> (intro hc; (try simp only [m_note, m_markUsed, m_vanish, up2, Int.toNat_natCast, a_live5, not_true_eq_false, not_false_eq_true, Nat.reduceEqDiff, false_and, true_and, and_true, and_false, and_self, if_true, if_false, ↓reduceIte, reduceCtorEq] at hc); try (exfalso; first | assumption | omega))) | (refine x_som_i l0 ?_) | (refine x_som_i l1 ?_) | (refine x_som_i l2 ?_) | (refine x_som_i l3 ?_) | (refine x_som_i l4 ?_) | (refine x_som_i l5 ?_) | (refine x_som_i l6 ?_) | (refine a_wo ?sd ?_; case sd => (first | exact hS _ _ | assumption | (constructor <;> omega) | (simp only [m_note, m_markUsed, m_vanish, up2, Int.toNat_natCast, a_live5, not_true_eq_false, not_false_eq_true, Nat.reduceEqDiff, false_and, true_and, and_true, and_false, and_self, if_true, if_false, ↓reduceIte, reduceCtorEq]; first | exact hS _ _ | assumption | (constructor <;> omega)))) | (refine st 0 _ _ _ _ _ _ _ rfl ?_) | (refine st 10 _ _ _ _ _ _ _ rfl ?_) | (refine st 30 _ _ _ _ _ _ _ rfl ?_) | (refine st 35 _ _ _ _ _ _ _ rfl ?_) | (refine st 37 _ _ _ _ _ _ _ rfl ?_) | (refine st 38 _ _ _ _ _ _ _ rfl ?_) | (refine st 53 _ _ _ _ _ _ _ rfl ?_) | (refine st 57 _ _ _ _ _ _ _ rfl ?_) | (refine st 68 _ _ _ _ _ _ _ rfl ?_) | (refine st 69 _ _ _ _ _ _ _ rfl ?_) | (refine st 85 _ _ _ _ _ _ _ rfl ?_) | (refine st 87 _ _ _ _ _ _ _ rfl ?_)
      · exact ⟨by rw [cif_f (by omega), cif_t hb, cif_t (by omega)], rfl, rfl⟩
      · refine a_ci (c_writesIn hi (Or.inr (Or.inl ht)) hr) ?room ?_
        case room => first | decide | exact ⟨by decide, by decide, by omega, by omega⟩
        rintro _ _ _ ⟨⟨hw, rfl⟩ | ⟨hw, rfl⟩, rfl, rfl⟩
        · repeat' first | (refine a_si ?sd ?_; case sd => (first | (first | assumption | exact hS _ _ | omega | (constructor <;> omega)) | (refine ⟨?_, ?_⟩ <;> (first | assumption | exact hS _ _ | omega | (constructor <;> omega))) | (refine ⟨?_, ?_, ?_⟩ <;> (first | assumption | exact hS _ _ | omega | (constructor <;> omega))) | (refine ⟨?_, ?_, ?_, ?_⟩ <;> (first | assumption | exact hS _ _ | omega | (constructor <;> omega))) | (refine ⟨⟨?_, ?_⟩, ?_, ?_⟩ <;> (first | assumption | exact hS _ _ | omega | (constructor <;> omega))) | decide | (simp only [m_note, m_markUsed, m_vanish, up2, Int.toNat_natCast, a_live5, not_true_eq_false, not_false_eq_true, Nat.reduceEqDiff, false_and, true_and, and_true, and_false, and_self, if_true, if_false, ↓reduceIte, reduceCtorEq]; first | (first | assumption | exact hS _ _ | omega | (constructor <;> omega)) | (refine ⟨?_, ?_⟩ <;> (first | assumption | exact hS _ _ | omega | (constructor <;> omega))) | (refine ⟨?_, ?_, ?_⟩ <;> (first | assumption | exact hS _ _ | omega | (constructor <;> omega))) | (refine ⟨?_, ?_, ?_, ?_⟩ <;> (first | assumption | exact hS _ _ | omega | (constructor <;> omega))) | (refine ⟨⟨?_, ?_⟩, ?_, ?_⟩ <;> (first | assumption | exact hS _ _ | omega | (constructor <;> omega))) | decide))) | (refine And.intro ?_ ?_ <;> (intro hc; (try simp only [m_note, m_markUsed, m_vanish, up2, Int.toNat_natCast, a_live5, not_true_eq_false, not_false_eq_true, Nat.reduceEqDiff, false_and, true_and, and_true, and_false, and_self, if_true, if_false, ↓reduceIte, reduceCtorEq] at hc); try (exfalso; first | assumption | omega))) | (refine x_som_i l0 ?_) | (refine x_som_i l1 ?_) | (refine x_som_i l2 ?_) | (refine x_som_i l3 ?_) | (refine x_som_i l4 ?_) | (refine x_som_i l5 ?_) | (refine x_som_i l6 ?_) | (refine a_wo ?sd ?_; case sd => (first | exact hS _ _ | assumption | (constructor <;> omega) | (simp only [m_note, m_markUsed, m_vanish, up2, Int.toNat_natCast, a_live5, not_true_eq_false, not_false_eq_true, Nat.reduceEqDiff, false_and, true_and, and_true, and_false, and_self, if_true, if_false, ↓reduceIte, reduceCtorEq]; first | exact hS _ _ | assumption | (constructor <;> omega)))) | (refine st 0 _ _ _ _ _ _ _ rfl ?_) | (refine st 10 _ _ _ _ _ _ _ rfl ?_) | (refine st 30 _ _ _ _ _ _ _ rfl ?_) | (refine st 35 _ _ _ _ _ _ _ rfl ?_) | (refine st 37 _ _ _ _ _ _ _ rfl ?_) | (refine st 38 _ _ _ _ _ _ _ rfl ?_) | (refine st 53 _ _ _ _ _ _ _ rfl ?_) | (refine st 57 _ _ _ _ _ _ _ rfl ?_) | (refine st 68 _ _ _ _ _ _ _ rfl ?_) | (refine st 69 _ _ _ _ _ _ _ rfl ?_) | (refine st 85 _ _ _ _ _ _ _ rfl ?_) | (refine st 87 _ _ _ _ _ _ _ rfl ?_)
          exact ⟨by rw [cif_f (by omega), cif_t hb, cif_t (Or.inr hw)], rfl, rfl⟩
        · repeat' first | (refine a_si ?sd ?_; case sd => (first | (first | assumption | exact hS _ _ | omega | (constructor <;> omega)) | (refine ⟨?_, ?_⟩ <;> (first | assumption | exact hS _ _ | omega | (constructor <;> omega))) | (refine ⟨?_, ?_, ?_⟩ <;> (first | assumption | exact hS _ _ | omega | (constructor <;> omega))) | (refine ⟨?_, ?_, ?_, ?_⟩ <;> (first | assumption | exact hS _ _ | omega | (constructor <;> omega))) | (refine ⟨⟨?_, ?_⟩, ?_, ?_⟩ <;> (first | assumption | exact hS _ _ | omega | (constructor <;> omega))) | decide | (simp only [m_note, m_markUsed, m_vanish, up2, Int.toNat_natCast, a_live5, not_true_eq_false, not_false_eq_true, Nat.reduceEqDiff, false_and, true_and, and_true, and_false, and_self, if_true, if_false, ↓reduceIte, reduceCtorEq]; first | (first | assumption | exact hS _ _ | omega | (constructor <;> omega)) | (refine ⟨?_, ?_⟩ <;> (first | assumption | exact hS _ _ | omega | (constructor <;> omega))) | (refine ⟨?_, ?_, ?_⟩ <;> (first | assumption | exact hS _ _ | omega | (constructor <;> omega))) | (refine ⟨?_, ?_, ?_, ?_⟩ <;> (first | assumption | exact hS _ _ | omega | (constructor <;> omega))) | (refine ⟨⟨?_, ?_⟩, ?_, ?_⟩ <;> (first | assumption | exact hS _ _ | omega | (constructor <;> omega))) | decide))) | (refine And.intro ?_ ?_ <;> (intro hc; (try simp only [m_note, m_markUsed, m_vanish, up2, Int.toNat_natCast, a_live5, not_true_eq_false, not_false_eq_true, Nat.reduceEqDiff, false_and, true_and, and_true, and_false, and_self, if_true, if_false, ↓reduceIte, reduceCtorEq] at hc); try (exfalso; first | assumption | omega))) | (refine x_som_i l0 ?_) | (refine x_som_i l1 ?_) | (refine x_som_i l2 ?_) | (refine x_som_i l3 ?_) | (refine x_som_i l4 ?_) | (refine x_som_i l5 ?_) | (refine x_som_i l6 ?_) | (refine a_wo ?sd ?_; case sd => (first | exact hS _ _ | assumption | (constructor <;> omega) | (simp only [m_note, m_markUsed, m_vanish, up2, Int.toNat_natCast, a_live5, not_true_eq_false, not_false_eq_true, Nat.reduceEqDiff, false_and, true_and, and_true, and_false, and_self, if_true, if_false, ↓reduceIte, reduceCtorEq]; first | exact hS _ _ | assumption | (constructor <;> omega)))) | (refine st 0 _ _ _ _ _ _ _ rfl ?_) | (refine st 10 _ _ _ _ _ _ _ rfl ?_) | (refine st 30 _ _ _ _ _ _ _ rfl ?_) | (refine st 35 _ _ _ _ _ _ _ rfl ?_) | (refine st 37 _ _ _ _ _ _ _ rfl ?_) | (refine st 38 _ _ _ _ _ _ _ rfl ?_) | (refine st 53 _ _ _ _ _ _ _ rfl ?_) | (refine st 57 _ _ _ _ _ _ _ rfl ?_) | (refine st 68 _ _ _ _ _ _ _ rfl ?_) | (refine st 69 _ _ _ _ _ _ _ rfl ?_) | (refine st 85 _ _ _ _ _ _ _ rfl ?_) | (refine st 87 _ _ _ _ _ _ _ rfl ?_)
          exact ⟨by rw [cif_f (by omega), cif_t hb, cif_f (fun q => q.elim (by assumption) hw)], rfl, rfl⟩
    · repeat' first | (refine a_si ?sd ?_; case sd => (first | (first | assumption | exact hS _ _ | omega | (constructor <;> omega)) | (refine ⟨?_, ?_⟩ <;> (first | assumption | exact hS _ _ | omega | (constructor <;> omega))) | (refine ⟨?_, ?_, ?_⟩ <;> (first | assumption | exact hS _ _ | omega | (constructor <;> omega))) | (refine ⟨?_, ?_, ?_, ?_⟩ <;> (first | assumption | exact hS _ _ | omega | (constructor <;> omega))) | (refine ⟨⟨?_, ?_⟩, ?_, ?_⟩ <;> (first | assumption | exact hS _ _ | omega | (constructor <;> omega))) | decide | (simp only [m_note, m_markUsed, m_vanish, up2, Int.toNat_natCast, a_live5, not_true_eq_false, not_false_eq_true, Nat.reduceEqDiff, false_and, true_and, and_true, and_false, and_self, if_true, if_false, ↓reduceIte, reduceCtorEq]; first | (first | assumption | exact hS _ _ | omega | (constructor <;> omega)) | (refine ⟨?_, ?_⟩ <;> (first | assumption | exact hS _ _ | omega | (constructor <;> omega))) | (refine ⟨?_, ?_, ?_⟩ <;> (first | assumption | exact hS _ _ | omega | (constructor <;> omega))) | (refine ⟨?_, ?_, ?_, ?_⟩ <;> (first | assumption | exact hS _ _ | omega | (constructor <;> omega))) | (refine ⟨⟨?_, ?_⟩, ?_, ?_⟩ <;> (first | assumption | exact hS _ _ | omega | (constructor <;> omega))) | decide))) | (refine And.intro ?_ ?_ <;> (intro hc; (try simp only [m_note, m_markUsed, m_vanish, up2, Int.toNat_natCast, a_live5, not_true_eq_false, not_false_eq_true, Nat.reduceEqDiff, false_and, true_and, and_true, and_false, and_self, if_true, if_false, ↓reduceIte, reduceCtorEq] at hc); try (exfalso; first | assumption | omega))) | (refine x_som_i l0 ?_) | (refine x_som_i l1 ?_) | (refine x_som_i l2 ?_) | (refine x_som_i l3 ?_) | (refine x_som_i l4 ?_) | (refine x_som_i l5 ?_) | (refine x_som_i l6 ?_) | (refine a_wo ?sd ?_; case sd => (first | exact hS _ _ | assumption | (constructor <;> omega) | (simp only [m_note, m_markUsed, m_vanish, up2, Int.toNat_natCast, a_live5, not_true_eq_false, not_false_eq_true, Nat.reduceEqDiff, false_and, true_and, and_true, and_false, and_self, if_true, if_false, ↓reduceIte, reduceCtorEq]; first | exact hS _ _ | assumption | (constructor <;> omega)))) | (refine st 0 _ _ _ _ _ _ _ rfl ?_) | (refine st 10 _ _ _ _ _ _ _ rfl ?_) | (refine st 30 _ _ _ _ _ _ _ rfl ?_) | (refine st 35 _ _ _ _ _ _ _ rfl ?_) | (refine st 37 _ _ _ _ _ _ _ rfl ?_) | (refine st 38 _ _ _ _ _ _ _ rfl ?_) | (refine st 53 _ _ _ _ _ _ _ rfl ?_) | (refine st 57 _ _ _ _ _ _ _ rfl ?_) | (refine st 68 _ _ _ _ _ _ _ rfl ?_) | (refine st 69 _ _ _ _ _ _ _ rfl ?_) | (refine st 85 _ _ _ _ _ _ _ rfl ?_) | (refine st 87 _ _ _ _ _ _ _ rfl ?_)
      all_goals first
        | exact ⟨by rw [cif_f (by omega), cif_f hb, cif_t (by omega)], rfl, rfl⟩
        | exact ⟨by rw [cif_f (by omega), cif_f hb, cif_f (by omega)], rfl, rfl⟩
  · exact ⟨by rw [cif_t (by assumption)], rfl, rfl⟩
theorem c_Singleton_take {t : Nat} (m : Int) (ht : v 20 t = 2) (hm : iS m) : AHolds X y_Singleton_take [aR 5 t, aI m] v L 0 0 0 0 (fun r v' L' => r = some (aI (v 31 t)) ∧ v' = cif (m = 1) (up2 (up2 v 32 t (wr (v 32 t + 1))) 33 t (wr (v 33 t + 1))) (up2 v 32 t (wr (v 32 t + 1))) ∧ L = L') := by
  refine a_sm fun hS => ?_
  refine a_met ok_Singleton_take (by decide +kernel) (Nat.le_of_ble_eq_true rfl) fun go st => ?_
  repeat' first | (refine a_si ?sd ?_; case sd => (first | (first | assumption | exact hS _ _ | omega | (constructor <;> omega)) | (refine ⟨?_, ?_⟩ <;> (first | assumption | exact hS _ _ | omega | (constructor <;> omega))) | (refine ⟨?_, ?_, ?_⟩ <;> (first | assumption | exact hS _ _ | omega | (constructor <;> omega))) | (refine ⟨?_, ?_, ?_, ?_⟩ <;> (first | assumption | exact hS _ _ | omega | (constructor <;> omega))) | (refine ⟨⟨?_, ?_⟩, ?_, ?_⟩ <;> (first | assumption | exact hS _ _ | omega | (constructor <;> omega))) | decide | (simp only [m_note, m_markUsed, m_vanish, up2, Int.toNat_natCast, a_live5, not_true_eq_false, not_false_eq_true, Nat.reduceEqDiff, false_and, true_and, and_true, and_false, and_self, if_true, if_false, ↓reduceIte, reduceCtorEq]; first | (first | assumption | exact hS _ _ | omega | (constructor <;> omega)) | (refine ⟨?_, ?_⟩ <;> (first | assumption | exact hS _ _ | omega | (constructor <;> omega))) | (refine ⟨?_, ?_, ?_⟩ <;> (first | assumption | exact hS _ _ | omega | (constructor <;> omega))) | (refine ⟨?_, ?_, ?_, ?_⟩ <;> (first | assumption | exact hS _ _ | omega | (constructor <;> omega))) | (refine ⟨⟨?_, ?_⟩, ?_, ?_⟩ <;> (first | assumption | exact hS _ _ | omega | (constructor <;> omega))) | decide))) | (refine And.intro ?_ ?_ <;> (intro hc; (try simp only [m_note, m_markUsed, m_vanish, up2, Int.toNat_natCast, a_live5, not_true_eq_false, not_false_eq_true, Nat.reduceEqDiff, false_and, true_and, and_true, and_false, and_self, if_true, if_false, ↓reduceIte, reduceCtorEq] at hc); try (exfalso; first | assumption | omega))) | (refine x_som_i l0 ?_) | (refine x_som_i l1 ?_) | (refine x_som_i l2 ?_) | (refine x_som_i l3 ?_) | (refine x_som_i l4 ?_) | (refine x_som_i l5 ?_) | (refine x_som_i l6 ?_) | (refine a_wo ?sd ?_; case sd => (first | exact hS _ _ | assumption | (constructor <;> omega) | (simp only [m_note, m_markUsed, m_vanish, up2, Int.toNat_natCast, a_live5, not_true_eq_false, not_false_eq_true, Nat.reduceEqDiff, false_and, true_and, and_true, and_false, and_self, if_true, if_false, ↓reduceIte, reduceCtorEq]; first | exact hS _ _ | assumption | (constructor <;> omega)))) | (refine st 0 _ _ _ _ _ _ _ rfl ?_) | (refine st 25 _ _ _ _ _ _ _ rfl ?_)
  refine a_wr ?_
  repeat' first | (refine a_si ?sd ?_; case sd => (first | (first | assumption | exact hS _ _ | omega | (constructor <;> omega)) | (refine ⟨?_, ?_⟩ <;> (first | assumption | exact hS _ _ | omega | (constructor <;> omega))) | (refine ⟨?_, ?_, ?_⟩ <;> (first | assumption | exact hS _ _ | omega | (constructor <;> omega))) | (refine ⟨?_, ?_, ?_, ?_⟩ <;> (first | assumption | exact hS _ _ | omega | (constructor <;> omega))) | (refine ⟨⟨?_, ?_⟩, ?_, ?_⟩ <;> (first | assumption | exact hS _ _ | omega | (constructor <;> omega))) | decide | (simp only [m_note, m_markUsed, m_vanish, up2, Int.toNat_natCast, a_live5, not_true_eq_false, not_false_eq_true, Nat.reduceEqDiff, false_and, true_and, and_true, and_false, and_self, if_true, if_false, ↓reduceIte, reduceCtorEq]; first | (first | assumption | exact hS _ _ | omega | (constructor <;> omega)) | (refine ⟨?_, ?_⟩ <;> (first | assumption | exact hS _ _ | omega | (constructor <;> omega))) | (refine ⟨?_, ?_, ?_⟩ <;> (first | assumption | exact hS _ _ | omega | (constructor <;> omega))) | (refine ⟨?_, ?_, ?_, ?_⟩ <;> (first | assumption | exact hS _ _ | omega | (constructor <;> omega))) | (refine ⟨⟨?_, ?_⟩, ?_, ?_⟩ <;> (first | assumption | exact hS _ _ | omega | (constructor <;> omega))) | decide))) | (refine And.intro ?_ ?_ <;> (intro hc; (try simp only [m_note, m_markUsed, m_vanish, up2, Int.toNat_natCast, a_live5, not_true_eq_false, not_false_eq_true, Nat.reduceEqDiff, false_and, true_and, and_true, and_false, and_self, if_true, if_false, ↓reduceIte, reduceCtorEq] at hc); try (exfalso; first | assumption | omega))) | (refine x_som_i l0 ?_) | (refine x_som_i l1 ?_) | (refine x_som_i l2 ?_) | (refine x_som_i l3 ?_) | (refine x_som_i l4 ?_) | (refine x_som_i l5 ?_) | (refine x_som_i l6 ?_) | (refine a_wo ?sd ?_; case sd => (first | exact hS _ _ | assumption | (constructor <;> omega) | (simp only [m_note, m_markUsed, m_vanish, up2, Int.toNat_natCast, a_live5, not_true_eq_false, not_false_eq_true, Nat.reduceEqDiff, false_and, true_and, and_true, and_false, and_self, if_true, if_false, ↓reduceIte, reduceCtorEq]; first | exact hS _ _ | assumption | (constructor <;> omega)))) | (refine st 0 _ _ _ _ _ _ _ rfl ?_) | (refine st 25 _ _ _ _ _ _ _ rfl ?_)
  · exact ⟨rfl, by rw [cif_f (by assumption)], rfl⟩
  · refine a_wr ?_
    repeat' first | (refine a_si ?sd ?_; case sd => (first | (first | assumption | exact hS _ _ | omega | (constructor <;> omega)) | (refine ⟨?_, ?_⟩ <;> (first | assumption | exact hS _ _ | omega | (constructor <;> omega))) | (refine ⟨?_, ?_, ?_⟩ <;> (first | assumption | exact hS _ _ | omega | (constructor <;> omega))) | (refine ⟨?_, ?_, ?_, ?_⟩ <;> (first | assumption | exact hS _ _ | omega | (constructor <;> omega))) | (refine ⟨⟨?_, ?_⟩, ?_, ?_⟩ <;> (first | assumption | exact hS _ _ | omega | (constructor <;> omega))) | decide | (simp only [m_note, m_markUsed, m_vanish, up2, Int.toNat_natCast, a_live5, not_true_eq_false, not_false_eq_true, Nat.reduceEqDiff, false_and, true_and, and_true, and_false, and_self, if_true, if_false, ↓reduceIte, reduceCtorEq]; first | (first | assumption | exact hS _ _ | omega | (constructor <;> omega)) | (refine ⟨?_, ?_⟩ <;> (first | assumption | exact hS _ _ | omega | (constructor <;> omega))) | (refine ⟨?_, ?_, ?_⟩ <;> (first | assumption | exact hS _ _ | omega | (constructor <;> omega))) | (refine ⟨?_, ?_, ?_, ?_⟩ <;> (first | assumption | exact hS _ _ | omega | (constructor <;> omega))) | (refine ⟨⟨?_, ?_⟩, ?_, ?_⟩ <;> (first | assumption | exact hS _ _ | omega | (constructor <;> omega))) | decide))) | (refine And.intro ?_ ?_ <;> (intro hc; (try simp only [m_note, m_markUsed, m_vanish, up2, Int.toNat_natCast, a_live5, not_true_eq_false, not_false_eq_true, Nat.reduceEqDiff, false_and, true_and, and_true, and_false, and_self, if_true, if_false, ↓reduceIte, reduceCtorEq] at hc); try (exfalso; first | assumption | omega))) | (refine x_som_i l0 ?_) | (refine x_som_i l1 ?_) | (refine x_som_i l2 ?_) | (refine x_som_i l3 ?_) | (refine x_som_i l4 ?_) | (refine x_som_i l5 ?_) | (refine x_som_i l6 ?_) | (refine a_wo ?sd ?_; case sd => (first | exact hS _ _ | assumption | (constructor <;> omega) | (simp only [m_note, m_markUsed, m_vanish, up2, Int.toNat_natCast, a_live5, not_true_eq_false, not_false_eq_true, Nat.reduceEqDiff, false_and, true_and, and_true, and_false, and_self, if_true, if_false, ↓reduceIte, reduceCtorEq]; first | exact hS _ _ | assumption | (constructor <;> omega)))) | (refine st 0 _ _ _ _ _ _ _ rfl ?_) | (refine st 25 _ _ _ _ _ _ _ rfl ?_)
    exact ⟨rfl, by rw [cif_t (by assumption)]; rfl, rfl⟩
theorem c_Singleton_giveBack {t : Nat} (x m o b : Int) (ht : v 20 t = 2) (hm : iS m) : AHolds X y_Singleton_giveBack [aR 5 t, aI x, aI m, aI o, aI b] v L 0 0 0 0 (fun r v' L' => r = none ∧ v' = cif (m = 1) (up2 (up2 v 32 t (wr (v 32 t - 1))) 33 t (wr (v 33 t - 1))) (up2 v 32 t (wr (v 32 t - 1))) ∧ L = L') := by
  refine a_sm fun hS => ?_
  refine a_met ok_Singleton_giveBack (by decide +kernel) (Nat.le_of_ble_eq_true rfl) fun go st => ?_
  repeat' first | (refine a_si ?sd ?_; case sd => (first | (first | assumption | exact hS _ _ | omega | (constructor <;> omega)) | (refine ⟨?_, ?_⟩ <;> (first | assumption | exact hS _ _ | omega | (constructor <;> omega))) | (refine ⟨?_, ?_, ?_⟩ <;> (first | assumption | exact hS _ _ | omega | (constructor <;> omega))) | (refine ⟨?_, ?_, ?_, ?_⟩ <;> (first | assumption | exact hS _ _ | omega | (constructor <;> omega))) | (refine ⟨⟨?_, ?_⟩, ?_, ?_⟩ <;> (first | assumption | exact hS _ _ | omega | (constructor <;> omega))) | decide | (simp only [m_note, m_markUsed, m_vanish, up2, Int.toNat_natCast, a_live5, not_true_eq_false, not_false_eq_true, Nat.reduceEqDiff, false_and, true_and, and_true, and_false, and_self, if_true, if_false, ↓reduceIte, reduceCtorEq]; first | (first | assumption | exact hS _ _ | omega | (constructor <;> omega)) | (refine ⟨?_, ?_⟩ <;> (first | assumption | exact hS _ _ | omega | (constructor <;> omega))) | (refine ⟨?_, ?_, ?_⟩ <;> (first | assumption | exact hS _ _ | omega | (constructor <;> omega))) | (refine ⟨?_, ?_, ?_, ?_⟩ <;> (first | assumption | exact hS _ _ | omega | (constructor <;> omega))) | (refine ⟨⟨?_, ?_⟩, ?_, ?_⟩ <;> (first | assumption | exact hS _ _ | omega | (constructor <;> omega))) | decide))) | (refine And.intro ?_ ?_ <;> (intro hc; (try simp only [m_note, m_markUsed, m_vanish, up2, Int.toNat_natCast, a_live5, not_true_eq_false, not_false_eq_true, Nat.reduceEqDiff, false_and, true_and, and_true, and_false, and_self, if_true, if_false, ↓reduceIte, reduceCtorEq] at hc); try (exfalso; first | assumption | omega))) | (refine x_som_i l0 ?_) | (refine x_som_i l1 ?_) | (refine x_som_i l2 ?_) | (refine x_som_i l3 ?_) | (refine x_som_i l4 ?_) | (refine x_som_i l5 ?_) | (refine x_som_i l6 ?_) | (refine a_wo ?sd ?_; case sd => (first | exact hS _ _ | assumption | (constructor <;> omega) | (simp only [m_note, m_markUsed, m_vanish, up2, Int.toNat_natCast, a_live5, not_true_eq_false, not_false_eq_true, Nat.reduceEqDiff, false_and, true_and, and_true, and_false, and_self, if_true, if_false, ↓reduceIte, reduceCtorEq]; first | exact hS _ _ | assumption | (constructor <;> omega)))) | (refine st 0 _ _ _ _ _ _ _ rfl ?_) | (refine st 25 _ _ _ _ _ _ _ rfl ?_)
  refine a_wr ?_
  repeat' first | (refine a_si ?sd ?_; case sd => (first | (first | assumption | exact hS _ _ | omega | (constructor <;> omega)) | (refine ⟨?_, ?_⟩ <;> (first | assumption | exact hS _ _ | omega | (constructor <;> omega))) | (refine ⟨?_, ?_, ?_⟩ <;> (first | assumption | exact hS _ _ | omega | (constructor <;> omega))) | (refine ⟨?_, ?_, ?_, ?_⟩ <;> (first | assumption | exact hS _ _ | omega | (constructor <;> omega))) | (refine ⟨⟨?_, ?_⟩, ?_, ?_⟩ <;> (first | assumption | exact hS _ _ | omega | (constructor <;> omega))) | decide | (simp only [m_note, m_markUsed, m_vanish, up2, Int.toNat_natCast, a_live5, not_true_eq_false, not_false_eq_true, Nat.reduceEqDiff, false_and, true_and, and_true, and_false, and_self, if_true, if_false, ↓reduceIte, reduceCtorEq]; first | (first | assumption | exact hS _ _ | omega | (constructor <;> omega)) | (refine ⟨?_, ?_⟩ <;> (first | assumption | exact hS _ _ | omega | (constructor <;> omega))) | (refine ⟨?_, ?_, ?_⟩ <;> (first | assumption | exact hS _ _ | omega | (constructor <;> omega))) | (refine ⟨?_, ?_, ?_, ?_⟩ <;> (first | assumption | exact hS _ _ | omega | (constructor <;> omega))) | (refine ⟨⟨?_, ?_⟩, ?_, ?_⟩ <;> (first | assumption | exact hS _ _ | omega | (constructor <;> omega))) | decide))) | (refine And.intro ?_ ?_ <;> (intro hc; (try simp only [m_note, m_markUsed, m_vanish, up2, Int.toNat_natCast, a_live5, not_true_eq_false, not_false_eq_true, Nat.reduceEqDiff, false_and, true_and, and_true, and_false, and_self, if_true, if_false, ↓reduceIte, reduceCtorEq] at hc); try (exfalso; first | assumption | omega))) | (refine x_som_i l0 ?_) | (refine x_som_i l1 ?_) | (refine x_som_i l2 ?_) | (refine x_som_i l3 ?_) | (refine x_som_i l4 ?_) | (refine x_som_i l5 ?_) | (refine x_som_i l6 ?_) | (refine a_wo ?sd ?_; case sd => (first | exact hS _ _ | assumption | (constructor <;> omega) | (simp only [m_note, m_markUsed, m_vanish, up2, Int.toNat_natCast, a_live5, not_true_eq_false, not_false_eq_true, Nat.reduceEqDiff, false_and, true_and, and_true, and_false, and_self, if_true, if_false, ↓reduceIte, reduceCtorEq]; first | exact hS _ _ | assumption | (constructor <;> omega)))) | (refine st 0 _ _ _ _ _ _ _ rfl ?_) | (refine st 25 _ _ _ _ _ _ _ rfl ?_)
  · exact ⟨rfl, by rw [cif_f (by assumption)], rfl⟩
  · refine a_wr ?_
    repeat' first | (refine a_si ?sd ?_; case sd => (first | (first | assumption | exact hS _ _ | omega | (constructor <;> omega)) | (refine ⟨?_, ?_⟩ <;> (first | assumption | exact hS _ _ | omega | (constructor <;> omega))) | (refine ⟨?_, ?_, ?_⟩ <;> (first | assumption | exact hS _ _ | omega | (constructor <;> omega))) | (refine ⟨?_, ?_, ?_, ?_⟩ <;> (first | assumption | exact hS _ _ | omega | (constructor <;> omega))) | (refine ⟨⟨?_, ?_⟩, ?_, ?_⟩ <;> (first | assumption | exact hS _ _ | omega | (constructor <;> omega))) | decide | (simp only [m_note, m_markUsed, m_vanish, up2, Int.toNat_natCast, a_live5, not_true_eq_false, not_false_eq_true, Nat.reduceEqDiff, false_and, true_and, and_true, and_false, and_self, if_true, if_false, ↓reduceIte, reduceCtorEq]; first | (first | assumption | exact hS _ _ | omega | (constructor <;> omega)) | (refine ⟨?_, ?_⟩ <;> (first | assumption | exact hS _ _ | omega | (constructor <;> omega))) | (refine ⟨?_, ?_, ?_⟩ <;> (first | assumption | exact hS _ _ | omega | (constructor <;> omega))) | (refine ⟨?_, ?_, ?_, ?_⟩ <;> (first | assumption | exact hS _ _ | omega | (constructor <;> omega))) | (refine ⟨⟨?_, ?_⟩, ?_, ?_⟩ <;> (first | assumption | exact hS _ _ | omega | (constructor <;> omega))) | decide))) | (refine And.intro ?_ ?_ <;> (intro hc; (try simp only [m_note, m_markUsed, m_vanish, up2, Int.toNat_natCast, a_live5, not_true_eq_false, not_false_eq_true, Nat.reduceEqDiff, false_and, true_and, and_true, and_false, and_self, if_true, if_false, ↓reduceIte, reduceCtorEq] at hc); try (exfalso; first | assumption | omega))) | (refine x_som_i l0 ?_) | (refine x_som_i l1 ?_) | (refine x_som_i l2 ?_) | (refine x_som_i l3 ?_) | (refine x_som_i l4 ?_) | (refine x_som_i l5 ?_) | (refine x_som_i l6 ?_) | (refine a_wo ?sd ?_; case sd => (first | exact hS _ _ | assumption | (constructor <;> omega) | (simp only [m_note, m_markUsed, m_vanish, up2, Int.toNat_natCast, a_live5, not_true_eq_false, not_false_eq_true, Nat.reduceEqDiff, false_and, true_and, and_true, and_false, and_self, if_true, if_false, ↓reduceIte, reduceCtorEq]; first | exact hS _ _ | assumption | (constructor <;> omega)))) | (refine st 0 _ _ _ _ _ _ _ rfl ?_) | (refine st 25 _ _ _ _ _ _ _ rfl ?_)
    exact ⟨rfl, by rw [cif_t (by assumption)]; rfl, rfl⟩
theorem c_Singleton_destroy {t : Nat} (ht : v 20 t = 2) : AHolds X y_Singleton_destroy [aR 5 t] v L 10 400 0 0 (fun r v' L' => r = none ∧ v' = up2 (m_note v 2 0 (v 31 t)) 31 t (-1) ∧ L = L') := by
  refine a_sm fun hS => ?_
  refine a_met ok_Singleton_destroy (by decide +kernel) (Nat.le_of_ble_eq_true rfl) fun go st => ?_
  repeat' first | (refine a_si ?sd ?_; case sd => (first | (first | assumption | exact hS _ _ | omega | (constructor <;> omega)) | (refine ⟨?_, ?_⟩ <;> (first | assumption | exact hS _ _ | omega | (constructor <;> omega))) | (refine ⟨?_, ?_, ?_⟩ <;> (first | assumption | exact hS _ _ | omega | (constructor <;> omega))) | (refine ⟨?_, ?_, ?_, ?_⟩ <;> (first | assumption | exact hS _ _ | omega | (constructor <;> omega))) | (refine ⟨⟨?_, ?_⟩, ?_, ?_⟩ <;> (first | assumption | exact hS _ _ | omega | (constructor <;> omega))) | decide | (simp only [m_note, m_markUsed, m_vanish, up2, Int.toNat_natCast, a_live5, not_true_eq_false, not_false_eq_true, Nat.reduceEqDiff, false_and, true_and, and_true, and_false, and_self, if_true, if_false, ↓reduceIte, reduceCtorEq]; first | (first | assumption | exact hS _ _ | omega | (constructor <;> omega)) | (refine ⟨?_, ?_⟩ <;> (first | assumption | exact hS _ _ | omega | (constructor <;> omega))) | (refine ⟨?_, ?_, ?_⟩ <;> (first | assumption | exact hS _ _ | omega | (constructor <;> omega))) | (refine ⟨?_, ?_, ?_, ?_⟩ <;> (first | assumption | exact hS _ _ | omega | (constructor <;> omega))) | (refine ⟨⟨?_, ?_⟩, ?_, ?_⟩ <;> (first | assumption | exact hS _ _ | omega | (constructor <;> omega))) | decide))) | (refine And.intro ?_ ?_ <;> (intro hc; (try simp only [m_note, m_markUsed, m_vanish, up2, Int.toNat_natCast, a_live5, not_true_eq_false, not_false_eq_true, Nat.reduceEqDiff, false_and, true_and, and_true, and_false, and_self, if_true, if_false, ↓reduceIte, reduceCtorEq] at hc); try (exfalso; first | assumption | omega))) | (refine x_som_i l0 ?_) | (refine x_som_i l1 ?_) | (refine x_som_i l2 ?_) | (refine x_som_i l3 ?_) | (refine x_som_i l4 ?_) | (refine x_som_i l5 ?_) | (refine x_som_i l6 ?_) | (refine a_wo ?sd ?_; case sd => (first | exact hS _ _ | assumption | (constructor <;> omega) | (simp only [m_note, m_markUsed, m_vanish, up2, Int.toNat_natCast, a_live5, not_true_eq_false, not_false_eq_true, Nat.reduceEqDiff, false_and, true_and, and_true, and_false, and_self, if_true, if_false, ↓reduceIte, reduceCtorEq]; first | exact hS _ _ | assumption | (constructor <;> omega)))) | (refine st 0 _ _ _ _ _ _ _ rfl ?_)
  refine a_ci (c_note 2 0 (v 31 t)) ?room ?_
  case room => first | decide | exact ⟨by decide, by decide, by omega, by omega⟩
  rintro _ _ _ ⟨rfl, rfl, rfl⟩
  repeat' first | (refine a_si ?sd ?_; case sd => (first | (first | assumption | exact hS _ _ | omega | (constructor <;> omega)) | (refine ⟨?_, ?_⟩ <;> (first | assumption | exact hS _ _ | omega | (constructor <;> omega))) | (refine ⟨?_, ?_, ?_⟩ <;> (first | assumption | exact hS _ _ | omega | (constructor <;> omega))) | (refine ⟨?_, ?_, ?_, ?_⟩ <;> (first | assumption | exact hS _ _ | omega | (constructor <;> omega))) | (refine ⟨⟨?_, ?_⟩, ?_, ?_⟩ <;> (first | assumption | exact hS _ _ | omega | (constructor <;> omega))) | decide | (simp only [m_note, m_markUsed, m_vanish, up2, Int.toNat_natCast, a_live5, not_true_eq_false, not_false_eq_true, Nat.reduceEqDiff, false_and, true_and, and_true, and_false, and_self, if_true, if_false, ↓reduceIte, reduceCtorEq]; first | (first | assumption | exact hS _ _ | omega | (constructor <;> omega)) | (refine ⟨?_, ?_⟩ <;> (first | assumption | exact hS _ _ | omega | (constructor <;> omega))) | (refine ⟨?_, ?_, ?_⟩ <;> (first | assumption | exact hS _ _ | omega | (constructor <;> omega))) | (refine ⟨?_, ?_, ?_, ?_⟩ <;> (first | assumption | exact hS _ _ | omega | (constructor <;> omega))) | (refine ⟨⟨?_, ?_⟩, ?_, ?_⟩ <;> (first | assumption | exact hS _ _ | omega | (constructor <;> omega))) | decide))) | (refine And.intro ?_ ?_ <;> (intro hc; (try simp only [m_note, m_markUsed, m_vanish, up2, Int.toNat_natCast, a_live5, not_true_eq_false, not_false_eq_true, Nat.reduceEqDiff, false_and, true_and, and_true, and_false, and_self, if_true, if_false, ↓reduceIte, reduceCtorEq] at hc); try (exfalso; first | assumption | omega))) | (refine x_som_i l0 ?_) | (refine x_som_i l1 ?_) | (refine x_som_i l2 ?_) | (refine x_som_i l3 ?_) | (refine x_som_i l4 ?_) | (refine x_som_i l5 ?_) | (refine x_som_i l6 ?_) | (refine a_wo ?sd ?_; case sd => (first | exact hS _ _ | assumption | (constructor <;> omega) | (simp only [m_note, m_markUsed, m_vanish, up2, Int.toNat_natCast, a_live5, not_true_eq_false, not_false_eq_true, Nat.reduceEqDiff, false_and, true_and, and_true, and_false, and_self, if_true, if_false, ↓reduceIte, reduceCtorEq]; first | exact hS _ _ | assumption | (constructor <;> omega)))) | (refine st 0 _ _ _ _ _ _ _ rfl ?_)
  exact ⟨rfl, rfl, rfl⟩
end
end
