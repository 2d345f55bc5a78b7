section
-- ===== PART A: goes FIRST, ahead of the names: the tables' words, and 'selects' of the private methods out of them =====
/-- a private method of a class that the tables say can be made, by its rows of tables_1 -/
def lw_okq (q : MethodName × Nat) : Prop := (q.1.cls ≠ "java/lang/invoke/MethodHandle" ∧ q.1.cls ≠ "java/lang/invoke/VarHandle") ∧ Cond.instantiable q.1.cls q.2 ∈ tables_1 ∧ Cond.privateMethod q.1 ∈ tables_1 ∧ Cond.instanceMethod q.1 ∈ tables_1
theorem lw_p0 : lw_okq (⟨"TankerDesk", "tapeNumber", "(I)V"⟩, 11) := ⟨⟨by decide +kernel, by decide +kernel⟩, List.mem_of_getElem? (i := 23) (by decide +kernel), List.mem_of_getElem? (i := 376) (by decide +kernel), List.mem_of_getElem? (i := 377) (by decide +kernel)⟩
theorem lw_p1 : lw_okq (⟨"TankerDesk$Reader", "advance", "()V"⟩, 11) := ⟨⟨by decide +kernel, by decide +kernel⟩, List.mem_of_getElem? (i := 31) (by decide +kernel), List.mem_of_getElem? (i := 394) (by decide +kernel), List.mem_of_getElem? (i := 395) (by decide +kernel)⟩
theorem lw_p2 : lw_okq (⟨"TankerDesk$Reader", "advanceRun", "()V"⟩, 11) := ⟨⟨by decide +kernel, by decide +kernel⟩, List.mem_of_getElem? (i := 31) (by decide +kernel), List.mem_of_getElem? (i := 398) (by decide +kernel), List.mem_of_getElem? (i := 399) (by decide +kernel)⟩
theorem lw_p3 : lw_okq (⟨"TankerDesk$Reader", "readTanker", "()Z"⟩, 11) := ⟨⟨by decide +kernel, by decide +kernel⟩, List.mem_of_getElem? (i := 31) (by decide +kernel), List.mem_of_getElem? (i := 408) (by decide +kernel), List.mem_of_getElem? (i := 409) (by decide +kernel)⟩
theorem lw_p4 : lw_okq (⟨"TankerDesk$Reader", "isWord", "(Ljava/lang/String;)Z"⟩, 11) := ⟨⟨by decide +kernel, by decide +kernel⟩, List.mem_of_getElem? (i := 31) (by decide +kernel), List.mem_of_getElem? (i := 413) (by decide +kernel), List.mem_of_getElem? (i := 414) (by decide +kernel)⟩
theorem lw_p5 : lw_okq (⟨"TankerDesk$Reader", "refuse", "(I)Z"⟩, 11) := ⟨⟨by decide +kernel, by decide +kernel⟩, List.mem_of_getElem? (i := 31) (by decide +kernel), List.mem_of_getElem? (i := 465) (by decide +kernel), List.mem_of_getElem? (i := 466) (by decide +kernel)⟩
theorem lw_p6 : lw_okq (⟨"TankerDesk$Reader", "readNumber", "(II)Z"⟩, 11) := ⟨⟨by decide +kernel, by decide +kernel⟩, List.mem_of_getElem? (i := 31) (by decide +kernel), List.mem_of_getElem? (i := 473) (by decide +kernel), List.mem_of_getElem? (i := 474) (by decide +kernel)⟩
theorem lw_p7 : lw_okq (⟨"TankerDesk$Reader", "readOther", "()Z"⟩, 11) := ⟨⟨by decide +kernel, by decide +kernel⟩, List.mem_of_getElem? (i := 31) (by decide +kernel), List.mem_of_getElem? (i := 477) (by decide +kernel), List.mem_of_getElem? (i := 478) (by decide +kernel)⟩
theorem lw_p8 : lw_okq (⟨"TankerDesk$Reader", "sortOfWord", "()I"⟩, 11) := ⟨⟨by decide +kernel, by decide +kernel⟩, List.mem_of_getElem? (i := 31) (by decide +kernel), List.mem_of_getElem? (i := 481) (by decide +kernel), List.mem_of_getElem? (i := 482) (by decide +kernel)⟩
theorem lw_p9 : lw_okq (⟨"TankerDesk$Reader", "readCompartment", "()Z"⟩, 11) := ⟨⟨by decide +kernel, by decide +kernel⟩, List.mem_of_getElem? (i := 31) (by decide +kernel), List.mem_of_getElem? (i := 492) (by decide +kernel), List.mem_of_getElem? (i := 493) (by decide +kernel)⟩
theorem lw_p10 : lw_okq (⟨"TankerDesk$Reader", "readLiquid", "()Z"⟩, 11) := ⟨⟨by decide +kernel, by decide +kernel⟩, List.mem_of_getElem? (i := 31) (by decide +kernel), List.mem_of_getElem? (i := 498) (by decide +kernel), List.mem_of_getElem? (i := 499) (by decide +kernel)⟩
theorem lw_p11 : lw_okq (⟨"TankerDesk$Reader", "readBar", "()Z"⟩, 11) := ⟨⟨by decide +kernel, by decide +kernel⟩, List.mem_of_getElem? (i := 31) (by decide +kernel), List.mem_of_getElem? (i := 502) (by decide +kernel), List.mem_of_getElem? (i := 503) (by decide +kernel)⟩
theorem lw_p12 : lw_okq (⟨"TankerDesk$Reader", "readLast", "()Z"⟩, 11) := ⟨⟨by decide +kernel, by decide +kernel⟩, List.mem_of_getElem? (i := 31) (by decide +kernel), List.mem_of_getElem? (i := 510) (by decide +kernel), List.mem_of_getElem? (i := 511) (by decide +kernel)⟩
theorem lw_p13 : lw_okq (⟨"TankerDesk$Reader", "readDrop", "()Z"⟩, 11) := ⟨⟨by decide +kernel, by decide +kernel⟩, List.mem_of_getElem? (i := 31) (by decide +kernel), List.mem_of_getElem? (i := 514) (by decide +kernel), List.mem_of_getElem? (i := 515) (by decide +kernel)⟩
theorem lw_p14 : lw_okq (⟨"TankerDesk$Reader", "readSign", "()Z"⟩, 11) := ⟨⟨by decide +kernel, by decide +kernel⟩, List.mem_of_getElem? (i := 31) (by decide +kernel), List.mem_of_getElem? (i := 518) (by decide +kernel), List.mem_of_getElem? (i := 519) (by decide +kernel)⟩
theorem lw_p15 : lw_okq (⟨"TankerDesk$Cargo", "surges", "(LTankerDesk$Told;I)Z"⟩, 4) := ⟨⟨by decide +kernel, by decide +kernel⟩, List.mem_of_getElem? (i := 157) (by decide +kernel), List.mem_of_getElem? (i := 555) (by decide +kernel), List.mem_of_getElem? (i := 556) (by decide +kernel)⟩
def lw_privs_1 : List (MethodName × Nat) := [(⟨"TankerDesk", "tapeNumber", "(I)V"⟩, 11), (⟨"TankerDesk$Reader", "advance", "()V"⟩, 11), (⟨"TankerDesk$Reader", "advanceRun", "()V"⟩, 11), (⟨"TankerDesk$Reader", "readTanker", "()Z"⟩, 11), (⟨"TankerDesk$Reader", "isWord", "(Ljava/lang/String;)Z"⟩, 11), (⟨"TankerDesk$Reader", "refuse", "(I)Z"⟩, 11), (⟨"TankerDesk$Reader", "readNumber", "(II)Z"⟩, 11), (⟨"TankerDesk$Reader", "readOther", "()Z"⟩, 11), (⟨"TankerDesk$Reader", "sortOfWord", "()I"⟩, 11), (⟨"TankerDesk$Reader", "readCompartment", "()Z"⟩, 11), (⟨"TankerDesk$Reader", "readLiquid", "()Z"⟩, 11), (⟨"TankerDesk$Reader", "readBar", "()Z"⟩, 11), (⟨"TankerDesk$Reader", "readLast", "()Z"⟩, 11), (⟨"TankerDesk$Reader", "readDrop", "()Z"⟩, 11), (⟨"TankerDesk$Reader", "readSign", "()Z"⟩, 11), (⟨"TankerDesk$Cargo", "surges", "(LTankerDesk$Told;I)Z"⟩, 4)]
theorem lw_r1 : ∀ q ∈ lw_privs_1, lw_okq q := List.forall_mem_cons.mpr ⟨lw_p0, List.forall_mem_cons.mpr ⟨lw_p1, List.forall_mem_cons.mpr ⟨lw_p2, List.forall_mem_cons.mpr ⟨lw_p3, List.forall_mem_cons.mpr ⟨lw_p4, List.forall_mem_cons.mpr ⟨lw_p5, List.forall_mem_cons.mpr ⟨lw_p6, List.forall_mem_cons.mpr ⟨lw_p7, List.forall_mem_cons.mpr ⟨lw_p8, List.forall_mem_cons.mpr ⟨lw_p9, List.forall_mem_cons.mpr ⟨lw_p10, List.forall_mem_cons.mpr ⟨lw_p11, List.forall_mem_cons.mpr ⟨lw_p12, List.forall_mem_cons.mpr ⟨lw_p13, List.forall_mem_cons.mpr ⟨lw_p14, List.forall_mem_cons.mpr ⟨lw_p15, fun _ h => absurd h List.not_mem_nil⟩⟩⟩⟩⟩⟩⟩⟩⟩⟩⟩⟩⟩⟩⟩⟩
theorem lw_p16 : lw_okq (⟨"TankerDesk$OrderTable", "collect", "(LTankerDesk$Told;LTankerDesk$Cargo;I)V"⟩, 4) := ⟨⟨by decide +kernel, by decide +kernel⟩, List.mem_of_getElem? (i := 227) (by decide +kernel), List.mem_of_getElem? (i := 606) (by decide +kernel), List.mem_of_getElem? (i := 607) (by decide +kernel)⟩
theorem lw_p17 : lw_okq (⟨"TankerDesk$OrderTable", "partsOfAll", "(I)I"⟩, 4) := ⟨⟨by decide +kernel, by decide +kernel⟩, List.mem_of_getElem? (i := 227) (by decide +kernel), List.mem_of_getElem? (i := 618) (by decide +kernel), List.mem_of_getElem? (i := 619) (by decide +kernel)⟩
theorem lw_p18 : lw_okq (⟨"TankerDesk$OrderTable", "waysBehind", "(I)I"⟩, 4) := ⟨⟨by decide +kernel, by decide +kernel⟩, List.mem_of_getElem? (i := 227) (by decide +kernel), List.mem_of_getElem? (i := 623) (by decide +kernel), List.mem_of_getElem? (i := 624) (by decide +kernel)⟩
theorem lw_p19 : lw_okq (⟨"TankerDesk$OrderTable", "leastBehind", "(I)I"⟩, 4) := ⟨⟨by decide +kernel, by decide +kernel⟩, List.mem_of_getElem? (i := 227) (by decide +kernel), List.mem_of_getElem? (i := 635) (by decide +kernel), List.mem_of_getElem? (i := 636) (by decide +kernel)⟩
theorem lw_p20 : lw_okq (⟨"TankerDesk", "isSo", "(II)Z"⟩, 11) := ⟨⟨by decide +kernel, by decide +kernel⟩, List.mem_of_getElem? (i := 23) (by decide +kernel), List.mem_of_getElem? (i := 643) (by decide +kernel), List.mem_of_getElem? (i := 644) (by decide +kernel)⟩
theorem lw_p21 : lw_okq (⟨"TankerDesk$Planner", "prepare", "(LTankerDesk$Told;LTankerDesk$State;Z)V"⟩, 18) := ⟨⟨by decide +kernel, by decide +kernel⟩, List.mem_of_getElem? (i := 246) (by decide +kernel), List.mem_of_getElem? (i := 665) (by decide +kernel), List.mem_of_getElem? (i := 666) (by decide +kernel)⟩
theorem lw_p22 : lw_okq (⟨"TankerDesk$Planner", "isHopeless", "(I)Z"⟩, 18) := ⟨⟨by decide +kernel, by decide +kernel⟩, List.mem_of_getElem? (i := 246) (by decide +kernel), List.mem_of_getElem? (i := 676) (by decide +kernel), List.mem_of_getElem? (i := 677) (by decide +kernel)⟩
theorem lw_p23 : lw_okq (⟨"TankerDesk$Planner", "consider", "()V"⟩, 18) := ⟨⟨by decide +kernel, by decide +kernel⟩, List.mem_of_getElem? (i := 246) (by decide +kernel), List.mem_of_getElem? (i := 680) (by decide +kernel), List.mem_of_getElem? (i := 681) (by decide +kernel)⟩
theorem lw_p24 : lw_okq (⟨"TankerDesk$Planner", "isBetter", "(I)Z"⟩, 18) := ⟨⟨by decide +kernel, by decide +kernel⟩, List.mem_of_getElem? (i := 246) (by decide +kernel), List.mem_of_getElem? (i := 684) (by decide +kernel), List.mem_of_getElem? (i := 685) (by decide +kernel)⟩
theorem lw_p25 : lw_okq (⟨"TankerDesk$Planner", "keepDeal", "()V"⟩, 18) := ⟨⟨by decide +kernel, by decide +kernel⟩, List.mem_of_getElem? (i := 246) (by decide +kernel), List.mem_of_getElem? (i := 690) (by decide +kernel), List.mem_of_getElem? (i := 691) (by decide +kernel)⟩
theorem lw_p26 : lw_okq (⟨"TankerDesk$Planner", "gives", "(II)Z"⟩, 18) := ⟨⟨by decide +kernel, by decide +kernel⟩, List.mem_of_getElem? (i := 246) (by decide +kernel), List.mem_of_getElem? (i := 694) (by decide +kernel), List.mem_of_getElem? (i := 695) (by decide +kernel)⟩
theorem lw_p27 : lw_okq (⟨"TankerDesk$Planner", "takeBack", "(II)V"⟩, 18) := ⟨⟨by decide +kernel, by decide +kernel⟩, List.mem_of_getElem? (i := 246) (by decide +kernel), List.mem_of_getElem? (i := 703) (by decide +kernel), List.mem_of_getElem? (i := 704) (by decide +kernel)⟩
theorem lw_p28 : lw_okq (⟨"java/lang/Throwable", "fillInStackTrace", "(I)Ljava/lang/Throwable;"⟩, 6) := ⟨⟨by decide +kernel, by decide +kernel⟩, List.mem_of_getElem? (i := 828) (by decide +kernel), List.mem_of_getElem? (i := 826) (by decide +kernel), List.mem_of_getElem? (i := 827) (by decide +kernel)⟩
theorem lw_p29 : lw_okq (⟨"TankerDeskModel", "lays", "(I)V"⟩, 28) := ⟨⟨by decide +kernel, by decide +kernel⟩, List.mem_of_getElem? (i := 863) (by decide +kernel), List.mem_of_getElem? (i := 861) (by decide +kernel), List.mem_of_getElem? (i := 862) (by decide +kernel)⟩
theorem lw_p30 : lw_okq (⟨"TankerDeskModel", "go", "()V"⟩, 28) := ⟨⟨by decide +kernel, by decide +kernel⟩, List.mem_of_getElem? (i := 863) (by decide +kernel), List.mem_of_getElem? (i := 964) (by decide +kernel), List.mem_of_getElem? (i := 965) (by decide +kernel)⟩
theorem lw_p31 : lw_okq (⟨"TankerDeskModel", "tapeAt", "(I)I"⟩, 28) := ⟨⟨by decide +kernel, by decide +kernel⟩, List.mem_of_getElem? (i := 863) (by decide +kernel), List.mem_of_getElem? (i := 974) (by decide +kernel), List.mem_of_getElem? (i := 975) (by decide +kernel)⟩
def lw_privs_2 : List (MethodName × Nat) := [(⟨"TankerDesk$OrderTable", "collect", "(LTankerDesk$Told;LTankerDesk$Cargo;I)V"⟩, 4), (⟨"TankerDesk$OrderTable", "partsOfAll", "(I)I"⟩, 4), (⟨"TankerDesk$OrderTable", "waysBehind", "(I)I"⟩, 4), (⟨"TankerDesk$OrderTable", "leastBehind", "(I)I"⟩, 4), (⟨"TankerDesk", "isSo", "(II)Z"⟩, 11), (⟨"TankerDesk$Planner", "prepare", "(LTankerDesk$Told;LTankerDesk$State;Z)V"⟩, 18), (⟨"TankerDesk$Planner", "isHopeless", "(I)Z"⟩, 18), (⟨"TankerDesk$Planner", "consider", "()V"⟩, 18), (⟨"TankerDesk$Planner", "isBetter", "(I)Z"⟩, 18), (⟨"TankerDesk$Planner", "keepDeal", "()V"⟩, 18), (⟨"TankerDesk$Planner", "gives", "(II)Z"⟩, 18), (⟨"TankerDesk$Planner", "takeBack", "(II)V"⟩, 18), (⟨"java/lang/Throwable", "fillInStackTrace", "(I)Ljava/lang/Throwable;"⟩, 6), (⟨"TankerDeskModel", "lays", "(I)V"⟩, 28), (⟨"TankerDeskModel", "go", "()V"⟩, 28), (⟨"TankerDeskModel", "tapeAt", "(I)I"⟩, 28)]
theorem lw_r2 : ∀ q ∈ lw_privs_2, lw_okq q := List.forall_mem_cons.mpr ⟨lw_p16, List.forall_mem_cons.mpr ⟨lw_p17, List.forall_mem_cons.mpr ⟨lw_p18, List.forall_mem_cons.mpr ⟨lw_p19, List.forall_mem_cons.mpr ⟨lw_p20, List.forall_mem_cons.mpr ⟨lw_p21, List.forall_mem_cons.mpr ⟨lw_p22, List.forall_mem_cons.mpr ⟨lw_p23, List.forall_mem_cons.mpr ⟨lw_p24, List.forall_mem_cons.mpr ⟨lw_p25, List.forall_mem_cons.mpr ⟨lw_p26, List.forall_mem_cons.mpr ⟨lw_p27, List.forall_mem_cons.mpr ⟨lw_p28, List.forall_mem_cons.mpr ⟨lw_p29, List.forall_mem_cons.mpr ⟨lw_p30, List.forall_mem_cons.mpr ⟨lw_p31, fun _ h => absurd h List.not_mem_nil⟩⟩⟩⟩⟩⟩⟩⟩⟩⟩⟩⟩⟩⟩⟩⟩
theorem lw_p32 : lw_okq (⟨"TankerDeskModel", "readLine", "(Z)Z"⟩, 28) := ⟨⟨by decide +kernel, by decide +kernel⟩, List.mem_of_getElem? (i := 863) (by decide +kernel), List.mem_of_getElem? (i := 980) (by decide +kernel), List.mem_of_getElem? (i := 981) (by decide +kernel)⟩
theorem lw_p33 : lw_okq (⟨"TankerDeskModel", "readTanker", "()Z"⟩, 28) := ⟨⟨by decide +kernel, by decide +kernel⟩, List.mem_of_getElem? (i := 863) (by decide +kernel), List.mem_of_getElem? (i := 984) (by decide +kernel), List.mem_of_getElem? (i := 985) (by decide +kernel)⟩
theorem lw_p34 : lw_okq (⟨"TankerDeskModel", "isWord", "(J)Z"⟩, 28) := ⟨⟨by decide +kernel, by decide +kernel⟩, List.mem_of_getElem? (i := 863) (by decide +kernel), List.mem_of_getElem? (i := 995) (by decide +kernel), List.mem_of_getElem? (i := 996) (by decide +kernel)⟩
theorem lw_p35 : lw_okq (⟨"TankerDeskModel", "bad", "(I)Z"⟩, 28) := ⟨⟨by decide +kernel, by decide +kernel⟩, List.mem_of_getElem? (i := 863) (by decide +kernel), List.mem_of_getElem? (i := 999) (by decide +kernel), List.mem_of_getElem? (i := 1000) (by decide +kernel)⟩
theorem lw_p36 : lw_okq (⟨"TankerDeskModel", "told", "(III)Z"⟩, 28) := ⟨⟨by decide +kernel, by decide +kernel⟩, List.mem_of_getElem? (i := 863) (by decide +kernel), List.mem_of_getElem? (i := 1003) (by decide +kernel), List.mem_of_getElem? (i := 1004) (by decide +kernel)⟩
theorem lw_p37 : lw_okq (⟨"TankerDeskModel", "readHold", "()Z"⟩, 28) := ⟨⟨by decide +kernel, by decide +kernel⟩, List.mem_of_getElem? (i := 863) (by decide +kernel), List.mem_of_getElem? (i := 1014) (by decide +kernel), List.mem_of_getElem? (i := 1015) (by decide +kernel)⟩
theorem lw_p38 : lw_okq (⟨"TankerDeskModel", "readLiquid", "()Z"⟩, 28) := ⟨⟨by decide +kernel, by decide +kernel⟩, List.mem_of_getElem? (i := 863) (by decide +kernel), List.mem_of_getElem? (i := 1022) (by decide +kernel), List.mem_of_getElem? (i := 1023) (by decide +kernel)⟩
theorem lw_p39 : lw_okq (⟨"TankerDeskModel", "readBar", "()Z"⟩, 28) := ⟨⟨by decide +kernel, by decide +kernel⟩, List.mem_of_getElem? (i := 863) (by decide +kernel), List.mem_of_getElem? (i := 1026) (by decide +kernel), List.mem_of_getElem? (i := 1027) (by decide +kernel)⟩
theorem lw_p40 : lw_okq (⟨"TankerDeskModel", "oneOf", "(I)Z"⟩, 28) := ⟨⟨by decide +kernel, by decide +kernel⟩, List.mem_of_getElem? (i := 863) (by decide +kernel), List.mem_of_getElem? (i := 1030) (by decide +kernel), List.mem_of_getElem? (i := 1031) (by decide +kernel)⟩
theorem lw_p41 : lw_okq (⟨"TankerDeskModel", "readLast", "()Z"⟩, 28) := ⟨⟨by decide +kernel, by decide +kernel⟩, List.mem_of_getElem? (i := 863) (by decide +kernel), List.mem_of_getElem? (i := 1034) (by decide +kernel), List.mem_of_getElem? (i := 1035) (by decide +kernel)⟩
theorem lw_p42 : lw_okq (⟨"TankerDeskModel", "readDrop", "()Z"⟩, 28) := ⟨⟨by decide +kernel, by decide +kernel⟩, List.mem_of_getElem? (i := 863) (by decide +kernel), List.mem_of_getElem? (i := 1038) (by decide +kernel), List.mem_of_getElem? (i := 1039) (by decide +kernel)⟩
theorem lw_p43 : lw_okq (⟨"TankerDeskModel", "readEnd", "()Z"⟩, 28) := ⟨⟨by decide +kernel, by decide +kernel⟩, List.mem_of_getElem? (i := 863) (by decide +kernel), List.mem_of_getElem? (i := 1042) (by decide +kernel), List.mem_of_getElem? (i := 1043) (by decide +kernel)⟩
theorem lw_p44 : lw_okq (⟨"TankerDeskModel", "laysNow", "()V"⟩, 28) := ⟨⟨by decide +kernel, by decide +kernel⟩, List.mem_of_getElem? (i := 863) (by decide +kernel), List.mem_of_getElem? (i := 1054) (by decide +kernel), List.mem_of_getElem? (i := 1055) (by decide +kernel)⟩
theorem lw_p45 : lw_okq (⟨"TankerDeskModel", "holds", "(II)I"⟩, 28) := ⟨⟨by decide +kernel, by decide +kernel⟩, List.mem_of_getElem? (i := 863) (by decide +kernel), List.mem_of_getElem? (i := 1058) (by decide +kernel), List.mem_of_getElem? (i := 1059) (by decide +kernel)⟩
theorem lw_p46 : lw_okq (⟨"TankerDeskModel", "its", "(II)I"⟩, 28) := ⟨⟨by decide +kernel, by decide +kernel⟩, List.mem_of_getElem? (i := 863) (by decide +kernel), List.mem_of_getElem? (i := 1062) (by decide +kernel), List.mem_of_getElem? (i := 1063) (by decide +kernel)⟩
theorem lw_p47 : lw_okq (⟨"TankerDeskModel", "bars", "()I"⟩, 28) := ⟨⟨by decide +kernel, by decide +kernel⟩, List.mem_of_getElem? (i := 863) (by decide +kernel), List.mem_of_getElem? (i := 1066) (by decide +kernel), List.mem_of_getElem? (i := 1067) (by decide +kernel)⟩
def lw_privs_3 : List (MethodName × Nat) := [(⟨"TankerDeskModel", "readLine", "(Z)Z"⟩, 28), (⟨"TankerDeskModel", "readTanker", "()Z"⟩, 28), (⟨"TankerDeskModel", "isWord", "(J)Z"⟩, 28), (⟨"TankerDeskModel", "bad", "(I)Z"⟩, 28), (⟨"TankerDeskModel", "told", "(III)Z"⟩, 28), (⟨"TankerDeskModel", "readHold", "()Z"⟩, 28), (⟨"TankerDeskModel", "readLiquid", "()Z"⟩, 28), (⟨"TankerDeskModel", "readBar", "()Z"⟩, 28), (⟨"TankerDeskModel", "oneOf", "(I)Z"⟩, 28), (⟨"TankerDeskModel", "readLast", "()Z"⟩, 28), (⟨"TankerDeskModel", "readDrop", "()Z"⟩, 28), (⟨"TankerDeskModel", "readEnd", "()Z"⟩, 28), (⟨"TankerDeskModel", "laysNow", "()V"⟩, 28), (⟨"TankerDeskModel", "holds", "(II)I"⟩, 28), (⟨"TankerDeskModel", "its", "(II)I"⟩, 28), (⟨"TankerDeskModel", "bars", "()I"⟩, 28)]
theorem lw_r3 : ∀ q ∈ lw_privs_3, lw_okq q := List.forall_mem_cons.mpr ⟨lw_p32, List.forall_mem_cons.mpr ⟨lw_p33, List.forall_mem_cons.mpr ⟨lw_p34, List.forall_mem_cons.mpr ⟨lw_p35, List.forall_mem_cons.mpr ⟨lw_p36, List.forall_mem_cons.mpr ⟨lw_p37, List.forall_mem_cons.mpr ⟨lw_p38, List.forall_mem_cons.mpr ⟨lw_p39, List.forall_mem_cons.mpr ⟨lw_p40, List.forall_mem_cons.mpr ⟨lw_p41, List.forall_mem_cons.mpr ⟨lw_p42, List.forall_mem_cons.mpr ⟨lw_p43, List.forall_mem_cons.mpr ⟨lw_p44, List.forall_mem_cons.mpr ⟨lw_p45, List.forall_mem_cons.mpr ⟨lw_p46, List.forall_mem_cons.mpr ⟨lw_p47, fun _ h => absurd h List.not_mem_nil⟩⟩⟩⟩⟩⟩⟩⟩⟩⟩⟩⟩⟩⟩⟩⟩
theorem lw_p48 : lw_okq (⟨"TankerDeskModel", "front", "(I)I"⟩, 28) := ⟨⟨by decide +kernel, by decide +kernel⟩, List.mem_of_getElem? (i := 863) (by decide +kernel), List.mem_of_getElem? (i := 1073) (by decide +kernel), List.mem_of_getElem? (i := 1074) (by decide +kernel)⟩
theorem lw_p49 : lw_okq (⟨"TankerDeskModel", "muchBut", "(II)I"⟩, 28) := ⟨⟨by decide +kernel, by decide +kernel⟩, List.mem_of_getElem? (i := 863) (by decide +kernel), List.mem_of_getElem? (i := 1077) (by decide +kernel), List.mem_of_getElem? (i := 1078) (by decide +kernel)⟩
theorem lw_p50 : lw_okq (⟨"TankerDeskModel", "rear", "(I)I"⟩, 28) := ⟨⟨by decide +kernel, by decide +kernel⟩, List.mem_of_getElem? (i := 863) (by decide +kernel), List.mem_of_getElem? (i := 1081) (by decide +kernel), List.mem_of_getElem? (i := 1082) (by decide +kernel)⟩
theorem lw_p51 : lw_okq (⟨"TankerDeskModel", "stands", "(I)I"⟩, 28) := ⟨⟨by decide +kernel, by decide +kernel⟩, List.mem_of_getElem? (i := 863) (by decide +kernel), List.mem_of_getElem? (i := 1085) (by decide +kernel), List.mem_of_getElem? (i := 1086) (by decide +kernel)⟩
theorem lw_p52 : lw_okq (⟨"TankerDeskModel", "isHold", "(I)Z"⟩, 28) := ⟨⟨by decide +kernel, by decide +kernel⟩, List.mem_of_getElem? (i := 863) (by decide +kernel), List.mem_of_getElem? (i := 1094) (by decide +kernel), List.mem_of_getElem? (i := 1095) (by decide +kernel)⟩
theorem lw_p53 : lw_okq (⟨"TankerDeskModel", "top", "(I)I"⟩, 28) := ⟨⟨by decide +kernel, by decide +kernel⟩, List.mem_of_getElem? (i := 863) (by decide +kernel), List.mem_of_getElem? (i := 1098) (by decide +kernel), List.mem_of_getElem? (i := 1099) (by decide +kernel)⟩
theorem lw_p54 : lw_okq (⟨"TankerDeskModel", "lastIn", "(I)I"⟩, 28) := ⟨⟨by decide +kernel, by decide +kernel⟩, List.mem_of_getElem? (i := 863) (by decide +kernel), List.mem_of_getElem? (i := 1102) (by decide +kernel), List.mem_of_getElem? (i := 1103) (by decide +kernel)⟩
theorem lw_p55 : lw_okq (⟨"TankerDeskModel", "isDrop", "(I)Z"⟩, 28) := ⟨⟨by decide +kernel, by decide +kernel⟩, List.mem_of_getElem? (i := 863) (by decide +kernel), List.mem_of_getElem? (i := 1110) (by decide +kernel), List.mem_of_getElem? (i := 1111) (by decide +kernel)⟩
theorem lw_p56 : lw_okq (⟨"TankerDeskModel", "refuse", "()I"⟩, 28) := ⟨⟨by decide +kernel, by decide +kernel⟩, List.mem_of_getElem? (i := 863) (by decide +kernel), List.mem_of_getElem? (i := 1114) (by decide +kernel), List.mem_of_getElem? (i := 1115) (by decide +kernel)⟩
theorem lw_p57 : lw_okq (⟨"TankerDeskModel", "loadedOf", "(I)I"⟩, 28) := ⟨⟨by decide +kernel, by decide +kernel⟩, List.mem_of_getElem? (i := 863) (by decide +kernel), List.mem_of_getElem? (i := 1118) (by decide +kernel), List.mem_of_getElem? (i := 1119) (by decide +kernel)⟩
theorem lw_p58 : lw_okq (⟨"TankerDeskModel", "isLiquid", "(I)Z"⟩, 28) := ⟨⟨by decide +kernel, by decide +kernel⟩, List.mem_of_getElem? (i := 863) (by decide +kernel), List.mem_of_getElem? (i := 1126) (by decide +kernel), List.mem_of_getElem? (i := 1127) (by decide +kernel)⟩
theorem lw_p59 : lw_okq (⟨"TankerDeskModel", "mayCome", "(III)Z"⟩, 28) := ⟨⟨by decide +kernel, by decide +kernel⟩, List.mem_of_getElem? (i := 863) (by decide +kernel), List.mem_of_getElem? (i := 1130) (by decide +kernel), List.mem_of_getElem? (i := 1131) (by decide +kernel)⟩
theorem lw_p60 : lw_okq (⟨"TankerDeskModel", "aboardNow", "()I"⟩, 28) := ⟨⟨by decide +kernel, by decide +kernel⟩, List.mem_of_getElem? (i := 863) (by decide +kernel), List.mem_of_getElem? (i := 1142) (by decide +kernel), List.mem_of_getElem? (i := 1143) (by decide +kernel)⟩
theorem lw_p61 : lw_okq (⟨"TankerDeskModel", "ordersOf", "(I)I"⟩, 28) := ⟨⟨by decide +kernel, by decide +kernel⟩, List.mem_of_getElem? (i := 863) (by decide +kernel), List.mem_of_getElem? (i := 1146) (by decide +kernel), List.mem_of_getElem? (i := 1147) (by decide +kernel)⟩
theorem lw_p62 : lw_okq (⟨"TankerDeskModel", "ordersFrom", "(III)I"⟩, 28) := ⟨⟨by decide +kernel, by decide +kernel⟩, List.mem_of_getElem? (i := 863) (by decide +kernel), List.mem_of_getElem? (i := 1150) (by decide +kernel), List.mem_of_getElem? (i := 1151) (by decide +kernel)⟩
theorem lw_p63 : lw_okq (⟨"TankerDeskModel", "laysPlan", "(I)V"⟩, 28) := ⟨⟨by decide +kernel, by decide +kernel⟩, List.mem_of_getElem? (i := 863) (by decide +kernel), List.mem_of_getElem? (i := 1166) (by decide +kernel), List.mem_of_getElem? (i := 1167) (by decide +kernel)⟩
def lw_privs_4 : List (MethodName × Nat) := [(⟨"TankerDeskModel", "front", "(I)I"⟩, 28), (⟨"TankerDeskModel", "muchBut", "(II)I"⟩, 28), (⟨"TankerDeskModel", "rear", "(I)I"⟩, 28), (⟨"TankerDeskModel", "stands", "(I)I"⟩, 28), (⟨"TankerDeskModel", "isHold", "(I)Z"⟩, 28), (⟨"TankerDeskModel", "top", "(I)I"⟩, 28), (⟨"TankerDeskModel", "lastIn", "(I)I"⟩, 28), (⟨"TankerDeskModel", "isDrop", "(I)Z"⟩, 28), (⟨"TankerDeskModel", "refuse", "()I"⟩, 28), (⟨"TankerDeskModel", "loadedOf", "(I)I"⟩, 28), (⟨"TankerDeskModel", "isLiquid", "(I)Z"⟩, 28), (⟨"TankerDeskModel", "mayCome", "(III)Z"⟩, 28), (⟨"TankerDeskModel", "aboardNow", "()I"⟩, 28), (⟨"TankerDeskModel", "ordersOf", "(I)I"⟩, 28), (⟨"TankerDeskModel", "ordersFrom", "(III)I"⟩, 28), (⟨"TankerDeskModel", "laysPlan", "(I)V"⟩, 28)]
theorem lw_r4 : ∀ q ∈ lw_privs_4, lw_okq q := List.forall_mem_cons.mpr ⟨lw_p48, List.forall_mem_cons.mpr ⟨lw_p49, List.forall_mem_cons.mpr ⟨lw_p50, List.forall_mem_cons.mpr ⟨lw_p51, List.forall_mem_cons.mpr ⟨lw_p52, List.forall_mem_cons.mpr ⟨lw_p53, List.forall_mem_cons.mpr ⟨lw_p54, List.forall_mem_cons.mpr ⟨lw_p55, List.forall_mem_cons.mpr ⟨lw_p56, List.forall_mem_cons.mpr ⟨lw_p57, List.forall_mem_cons.mpr ⟨lw_p58, List.forall_mem_cons.mpr ⟨lw_p59, List.forall_mem_cons.mpr ⟨lw_p60, List.forall_mem_cons.mpr ⟨lw_p61, List.forall_mem_cons.mpr ⟨lw_p62, List.forall_mem_cons.mpr ⟨lw_p63, fun _ h => absurd h List.not_mem_nil⟩⟩⟩⟩⟩⟩⟩⟩⟩⟩⟩⟩⟩⟩⟩⟩
theorem lw_p64 : lw_okq (⟨"TankerDeskModel", "tries", "(II)V"⟩, 28) := ⟨⟨by decide +kernel, by decide +kernel⟩, List.mem_of_getElem? (i := 863) (by decide +kernel), List.mem_of_getElem? (i := 1170) (by decide +kernel), List.mem_of_getElem? (i := 1171) (by decide +kernel)⟩
theorem lw_p65 : lw_okq (⟨"TankerDeskModel", "looks", "(I)V"⟩, 28) := ⟨⟨by decide +kernel, by decide +kernel⟩, List.mem_of_getElem? (i := 863) (by decide +kernel), List.mem_of_getElem? (i := 1174) (by decide +kernel), List.mem_of_getElem? (i := 1175) (by decide +kernel)⟩
theorem lw_p66 : lw_okq (⟨"TankerDeskModel", "pours", "(I)I"⟩, 28) := ⟨⟨by decide +kernel, by decide +kernel⟩, List.mem_of_getElem? (i := 863) (by decide +kernel), List.mem_of_getElem? (i := 1178) (by decide +kernel), List.mem_of_getElem? (i := 1179) (by decide +kernel)⟩
theorem lw_p67 : lw_okq (⟨"TankerDeskModel", "having", "(I)I"⟩, 28) := ⟨⟨by decide +kernel, by decide +kernel⟩, List.mem_of_getElem? (i := 863) (by decide +kernel), List.mem_of_getElem? (i := 1186) (by decide +kernel), List.mem_of_getElem? (i := 1187) (by decide +kernel)⟩
theorem lw_p68 : lw_okq (⟨"TankerDeskModel", "snap", "()V"⟩, 28) := ⟨⟨by decide +kernel, by decide +kernel⟩, List.mem_of_getElem? (i := 863) (by decide +kernel), List.mem_of_getElem? (i := 1194) (by decide +kernel), List.mem_of_getElem? (i := 1195) (by decide +kernel)⟩
theorem lw_p69 : lw_okq (⟨"TankerDeskModel", "puts", "(III)V"⟩, 28) := ⟨⟨by decide +kernel, by decide +kernel⟩, List.mem_of_getElem? (i := 863) (by decide +kernel), List.mem_of_getElem? (i := 1206) (by decide +kernel), List.mem_of_getElem? (i := 1207) (by decide +kernel)⟩
theorem lw_p70 : lw_okq (⟨"TankerDeskModel", "goes", "(I)V"⟩, 28) := ⟨⟨by decide +kernel, by decide +kernel⟩, List.mem_of_getElem? (i := 863) (by decide +kernel), List.mem_of_getElem? (i := 1218) (by decide +kernel), List.mem_of_getElem? (i := 1219) (by decide +kernel)⟩
def lw_privs_5 : List (MethodName × Nat) := [(⟨"TankerDeskModel", "tries", "(II)V"⟩, 28), (⟨"TankerDeskModel", "looks", "(I)V"⟩, 28), (⟨"TankerDeskModel", "pours", "(I)I"⟩, 28), (⟨"TankerDeskModel", "having", "(I)I"⟩, 28), (⟨"TankerDeskModel", "snap", "()V"⟩, 28), (⟨"TankerDeskModel", "puts", "(III)V"⟩, 28), (⟨"TankerDeskModel", "goes", "(I)V"⟩, 28)]
theorem lw_r5 : ∀ q ∈ lw_privs_5, lw_okq q := List.forall_mem_cons.mpr ⟨lw_p64, List.forall_mem_cons.mpr ⟨lw_p65, List.forall_mem_cons.mpr ⟨lw_p66, List.forall_mem_cons.mpr ⟨lw_p67, List.forall_mem_cons.mpr ⟨lw_p68, List.forall_mem_cons.mpr ⟨lw_p69, List.forall_mem_cons.mpr ⟨lw_p70, fun _ h => absurd h List.not_mem_nil⟩⟩⟩⟩⟩⟩⟩
def lw_privs : List (MethodName × Nat) := lw_privs_1 ++ (lw_privs_2 ++ (lw_privs_3 ++ (lw_privs_4 ++ (lw_privs_5))))
def lw_tbl : List Cond := k2_sels lw_privs ++ tables_1
theorem lw_privs_ok : ∀ q ∈ lw_privs, lw_okq q := by
  show ∀ q ∈ lw_privs_1 ++ (lw_privs_2 ++ (lw_privs_3 ++ (lw_privs_4 ++ (lw_privs_5)))), lw_okq q
  exact List.forall_mem_append.mpr ⟨lw_r1, List.forall_mem_append.mpr ⟨lw_r2, List.forall_mem_append.mpr ⟨lw_r3, List.forall_mem_append.mpr ⟨lw_r4, lw_r5⟩⟩⟩⟩
-- ===== end of PART A; then your names; then what follows =====
end
section
/-! ===== BEGIN words of one list among another's, by their places ===== -/
theorem goodIn_r {big : List Cond} (ws : List Cond) (ps : List Nat) (hp : ws = ps.filterMap (fun i => big[i]?)) (h : ws.all goodWord = true) : GoodIn big ws := by
  intro w hw
  have h1 := List.all_eq_true.mp h w hw
  rw [hp] at hw
  obtain ⟨i, -, hi⟩ := List.mem_filterMap.mp hw
  have hm : w ∈ big := by first | exact List.mem_of_getElem? hi | exact List.getElem?_mem hi
  exact ⟨hm, good_of_word h1⟩
theorem goodIn_app {big a b : List Cond} (ha : GoodIn big a) (hb : GoodIn big b) : GoodIn big (a ++ b) := fun w h => (List.mem_append.mp h).elim (ha w) (hb w)
theorem goodIn_ca {big a b : List Cond} {c : Cond} (ha : GoodIn big (c :: a)) (hb : GoodIn big b) : GoodIn big (c :: (a ++ b)) := fun w h => (List.mem_cons.mp h).elim (fun e => ha w (List.mem_cons.mpr (Or.inl e))) (fun h => (List.mem_append.mp h).elim (fun h => ha w (List.mem_cons.mpr (Or.inr h))) (hb w))
theorem goodIn_sub {big ws : List Cond} (hm : ∀ w ∈ ws, w ∈ big) (h : ws.all goodWord = true) : GoodIn big ws := fun w hw => ⟨hm w hw, good_of_word (List.all_eq_true.mp h w hw)⟩
/-! ===== END ===== -/

/-! ===== BEGIN exceptions that leave a method, and their catching by the caller (launches without stack traces) ===== -/
section VXA
/-! The laws vx_back, vx_callV, vx_callS, vx_callSW, vx_throw0, vx_throwS follow proofs of the library, with one case more: JvmDerived/Free/Laws.lean (Back.of_free), Shelf42/LK1.lean (callV, callS), Shelf/KitTraced.lean (throwNew0V, throwNewS). -/
/-- where a method has thrown q: the class by its name, the cell, what was written, the world -/
def vx_T (XC : String → State → State → Prop) (st : State) (q : Addr) (t : State) (mc ms : Nat) (free : Addr → Prop) : Prop :=
  ∃ (E : String) (ce : Cell) (L : List Loc), XC E st t ∧ t.heap[q]? = some ce ∧ ce.vm = .none ∧ st.vm.findClass E = some ce.cls ∧ st.WarmedH t.vm ∧ st.sameButNew ({ t with vm := st.vm } : State) L mc ms ∧ ∀ z ∈ L, free z.base
def vx_Q (Qc : Array Value → State → Outcome → State → Prop) (XC : String → State → State → Prop) (mc ms : Nat) (free : Addr → Prop) : Array Value → State → Outcome → State → Prop := fun a st o t =>
  (Qc a st o t ∧ ∃ L, FrameEnd st o t L mc ms ∧ ∀ q ∈ L, free q.base) ∨ ∃ q, o = .threw q ∧ vx_T XC st q t mc ms free
/-- a callee that returns or throws -/
def vx_Met (l : Launch) (y : MethodName) (ws : List Cond) (rm : Room) (Pc : Array Value → State → Prop) (Qc : Array Value → State → Outcome → State → Prop) (XC : String → State → State → Prop) (mc ms : Nat) (free : Addr → Prop) : Prop :=
  MetFree l y (headSpec ws rm) Pc (fun _ _ _ _ _ => True) (vx_Q Qc XC mc ms free)
def vx_Post (XC : String → State → State → Prop) (mc ms : Nat) (free : Addr → Prop) : Pt → Array Value → Addr → Pt → Prop := fun A a q B =>
  ∃ (g : JFrame) (mk : MethodId) (t : State) (L : List Loc) (E : String) (ce : Cell), B.U.heap = t.heap ∧ B.U.vm = t.vm ∧ XC E (A.U.calling g mk a) t ∧ t.heap[q]? = some ce ∧ ce.vm = .none ∧ A.U.vm.findClass E = some ce.cls ∧ B.locs = A.locs ++ L ∧ (∀ z ∈ L, free z.base) ∧ B.cells = A.cells + mc ∧ B.slots = A.slots + ms
def vx_Back (l : Launch) (R : Room) (p : Program) (e : Env) (below : List Frame) (s : State) (sargs : Array Value) (y : MethodName) (len W9 : Nat)
    (Pre : Pt → Array Value → Prop) (Post : Pt → Array Value → Option Value → Pt → Prop) (PostX : Pt → Array Value → Addr → Pt → Prop) : Prop :=
  ∀ (m : MethodId) (meth : Method) (c : Code) (A : Pt) (g : JFrame) (ig : Instr) (mk : MethodId) (a : Array Value),
    Stand p l e R s m sargs below meth c A.U A.locs A.cells A.slots → g.method = m → g.locals.size = c.maxLocals → decode c.code g.pc = .ok (ig, len) →
    2 * g.monitorRoom + (g.stack.map fun v => v.category).sum ≤ W9 → A.U.methodNamed? y = some mk → Pre A a →
    (∃ (v : Option Value) (B : Pt), Stand p l e R s m sargs below meth c B.U B.locs B.cells B.slots ∧ Post A a v B ∧
      Steps p.tables e below (doInvoke e (A.U.setTop g) [] mk a).1 (B.U.setTop { g with pc := g.pc + len, stack := v.toList ++ g.stack })) ∨
    (∃ (q : Addr) (B : Pt), Stand p l e R s m sargs below meth c B.U B.locs B.cells B.slots ∧ PostX A a q B ∧
      Steps p.tables e below (doInvoke e (A.U.setTop g) [] mk a).1 ((B.U.setTop g).pushFrame (.throwing q)))
section Payer
variable {l : Launch} {R : Room} {p : Program} {e : Env} {below : List Frame} {s : State} {sargs : Array Value} {y : MethodName} {len W9 : Nat}
theorem vx_back {ws : List Cond} {rm : Room} {Pc : Array Value → State → Prop} {Qc : Array Value → State → Outcome → State → Prop} {XC : String → State → State → Prop} {mc ms : Nat} {free : Addr → Prop} {bytes : ByteArray} {maxL : Nat} {ret : Option FieldType}
    (hM : vx_Met l y ws rm Pc Qc XC mc ms free) (hblind : FrameBlind Pc) (hrc : rm.cells = mc) (hrs : rm.slots = ms)
    (hframes : rm.frames + 1 ≤ R.frames) (hlocals : W9 + (maxL + 11) + rm.locals ≤ R.locals)
    (hws : ∀ w ∈ ws, ∀ a' U, s.WarmedH U.vm → w.before a' U = true) (hcode : Cond.code y bytes maxL ret ∈ ws) (hinit : ∀ a' U, s.WarmedH U.vm → (Cond.initialized y.cls).before a' U = true) :
    vx_Back l R p e below s sargs y len W9 (PreOf R mc ms Pc) (PostOf Qc mc ms free) (vx_Post XC mc ms free) := by
  intro m meth c A g ig mk a X hg hsize hdg hW hn hp
  have h1 : (headSpec ws rm).pre.before a A.U = true := atoms_intro fun w hw => hws w hw _ _ X.warmed
  have h2 : (Cond.code y bytes maxL ret).before a A.U = true := hws _ hcode _ _ X.warmed
  have h3 : (Cond.initialized y.cls).before a A.U = true := hinit _ _ X.warmed
  have h4 : A.cells + (headSpec ws rm).room.cells ≤ R.cells := by rw [show (headSpec ws rm).room.cells = mc from hrc]; exact hp.1
  have h5 : A.slots + (headSpec ws rm).room.slots ≤ R.slots := by rw [show (headSpec ws rm).room.slots = ms from hrs]; exact hp.2.1
  have hPc : Pc a (A.U.calling g mk a) := hblind _ _ _ _ hp.2.2
  obtain ⟨U, Ls, c0, s0⟩ := A
  dsimp only [Pt.U, Pt.locs, Pt.cells, Pt.slots] at h1 h2 h3 h4 h5 X hn hPc ⊢
  obtain ⟨methY, cY, hmY, hcY, -, hlY, -, -, -, -⟩ := Cond.code_spec hn h2
  obtain ⟨kY, hkY, -⟩ := className_of_methodNamed hn
  have hinitY : kY.init = .initialized := Cond.initialized_spec (findClass_of_methodNamed hn) hkY h3
  have h : At U g.method c below := by rw [hg]; exact X.here
  have hlocals9 : W9 + (maxL + 11) + (headSpec ws rm).room.locals ≤ R.locals := hlocals
  have happ : (headSpec ws rm).appliesLoose y e.platform (U.calling g mk a) = true :=
    Spec.appliesLoose_calling (g := g) h hdg hn hkY hinitY
      (X.room_calling (g := g) (R' := (headSpec ws rm).room) hsize hmY hcY hframes (by rw [hlY]; omega) h4 h5) h1
  obtain ⟨mid, hmid⟩ := h.above
  have hfr : (U.setTop g).frames = (.java g :: mid) ++ below := by rw [State.frames_setTop' g h.top, hmid]; rfl
  obtain ⟨o, s₂, hsteps, -, hend, hq⟩ := Steps.callFree hM p X.admits X.cas X.clock (acts := []) hfr happ hPc trivial
  have hq' : vx_Q Qc XC mc ms free a (U.calling g mk a) o s₂ := hq
  rw [State.frames_setTop' g h.top] at hend
  obtain ⟨g₀, hg0⟩ := Option.isSome_iff_exists.mp h.top
  obtain ⟨r, hr⟩ := State.topJava?_eq_some.mp hg0
  have hr' : (({ U with heap := s₂.heap, slotsUsed := s₂.slotsUsed } : State).setVm s₂.vm).frames = .java g₀ :: r := hr
  rcases hq' with ⟨hqc, L, hfe, hL⟩ | ⟨q, rfl, E, ce, L, hx, hce, hcv, hcl, hW₂, hsm, hL⟩
  · obtain ⟨⟨v, rfl⟩, hW₂, e2, q2, q3, q4, q5, q6⟩ := id hfe
    have e3 : s₂ = ({ (U.calling g mk a).setFrames s₂.frames with heap := s₂.heap, slotsUsed := s₂.slotsUsed } : State).setVm s₂.vm := by
      have : s₂ = ({ s₂ with vm := (U.calling g mk a).vm } : State).setVm s₂.vm := rfl
      rw [e2] at this
      exact this
    obtain ⟨c₂, i₂, len₂, hc₂, hd₂, hf₂⟩ := hend
    have hW' : U.WarmedH s₂.vm := hW₂
    have hcc : c₂ = c := by
      have h1 : s₂.code? g.method = U.code? g.method := by
        rw [State.code?_eq, State.code?_eq, hW'.alike.method?]
      exact Option.some.inj (hc₂.symm.trans (h1.trans h.code))
    subst hcc
    have hlen : len₂ = len := by rw [hdg] at hd₂; cases hd₂; rfl
    subst hlen
    have hs₂ : s₂ = (({ U with heap := s₂.heap, slotsUsed := s₂.slotsUsed } : State).setVm s₂.vm).setTop { g with pc := g.pc + len₂, stack := v.toList ++ g.stack } := by
      refine e3.trans ?_
      rw [hf₂, State.calling_eq h.top, State.setFrames_setFrames, State.setTop_of_frames _ hr', hr]
      rfl
    have hsame : U.sameButNew ({ U with heap := s₂.heap, slotsUsed := s₂.slotsUsed } : State) L mc ms := by
      refine ⟨?_, q2, q3, q4, q5, q6⟩
      obtain ⟨t, ht, -⟩ := State.frames_cons hr
      show ({ U with heap := s₂.heap, slotsUsed := s₂.slotsUsed } : State) = { U.setFrames U.frames with heap := s₂.heap, slotsUsed := s₂.slotsUsed }
      rw [State.setFrames_self ht]
    subst hg
    refine Or.inl ⟨v, ⟨(({ U with heap := s₂.heap, slotsUsed := s₂.slotsUsed } : State).setVm s₂.vm), Ls ++ L, c0 + mc, s0 + ms⟩,
      ⟨X.admits, X.cas, X.clock, X.frames, X.room, X.hears, X.method, X.code, (X.here.setHeapUsed s₂.heap s₂.slotsUsed).setVm hW'.alike, X.tail, State.WarmedH.trans X.warmed hW', X.limits, X.bytes, X.same.trans (hsame.setVm s.vm)⟩,
      ⟨g, mk, s₂, L, rfl, rfl, hqc, rfl, hL, rfl, rfl⟩, ?_⟩
    show Steps p.tables e below _ ((({ U with heap := s₂.heap, slotsUsed := s₂.slotsUsed } : State).setVm s₂.vm).setTop { g with pc := g.pc + len₂, stack := v.toList ++ g.stack })
    rw [← hs₂]
    exact hsteps
  · obtain ⟨e2, q2, q3, q4, q5, q6⟩ := id hsm
    have e3 : s₂ = ({ (U.calling g mk a).setFrames s₂.frames with heap := s₂.heap, slotsUsed := s₂.slotsUsed } : State).setVm s₂.vm := by
      have : s₂ = ({ s₂ with vm := (U.calling g mk a).vm } : State).setVm s₂.vm := rfl
      rw [e2] at this
      exact this
    have hf₂ : s₂.frames = .throwing q :: .java g :: U.frames.tail := hend
    have hW' : U.WarmedH s₂.vm := hW₂
    have hs₂ : s₂ = ((({ U with heap := s₂.heap, slotsUsed := s₂.slotsUsed } : State).setVm s₂.vm).setTop g).pushFrame (.throwing q) := by
      refine e3.trans ?_
      rw [hf₂, State.calling_eq h.top, State.setFrames_setFrames, State.pushFrame, State.frames_setTop _ hr', State.setTop_of_frames _ hr', State.setFrames_setFrames, hr]
      rfl
    have hsame : U.sameButNew ({ U with heap := s₂.heap, slotsUsed := s₂.slotsUsed } : State) L mc ms := by
      refine ⟨?_, q2, q3, q4, q5, q6⟩
      obtain ⟨t, ht, -⟩ := State.frames_cons hr
      show ({ U with heap := s₂.heap, slotsUsed := s₂.slotsUsed } : State) = { U.setFrames U.frames with heap := s₂.heap, slotsUsed := s₂.slotsUsed }
      rw [State.setFrames_self ht]
    subst hg
    refine Or.inr ⟨q, ⟨(({ U with heap := s₂.heap, slotsUsed := s₂.slotsUsed } : State).setVm s₂.vm), Ls ++ L, c0 + mc, s0 + ms⟩,
      ⟨X.admits, X.cas, X.clock, X.frames, X.room, X.hears, X.method, X.code, (X.here.setHeapUsed s₂.heap s₂.slotsUsed).setVm hW'.alike, X.tail, State.WarmedH.trans X.warmed hW', X.limits, X.bytes, X.same.trans (hsame.setVm s.vm)⟩,
      ⟨g, mk, s₂, L, E, ce, rfl, rfl, hx, hce, hcv, hcl, rfl, hL, rfl, rfl⟩, ?_⟩
    show Steps p.tables e below _ (((({ U with heap := s₂.heap, slotsUsed := s₂.slotsUsed } : State).setVm s₂.vm).setTop g).pushFrame (.throwing q))
    rw [← hs₂]
    exact hsteps
end Payer
section Calls
variable {p : Program} {l : Launch} {e : Env} {R : Room} {s : State} {m : MethodId} {args : Array Value} {below : List Frame} {meth : Method} {c : Code} {T : State} {locs : List Loc} {cells slots : Nat}
theorem vx_callV (X : Stand p l e R s m args below meth c T locs cells slots) (hexec : p.tables.exec = Jvm.exec) {own C : String} {index : Nat} {y : MethodName} {bytes : ByteArray} {maxL : Nat} {ret : Option FieldType}
    (hown : s.vm.findClass own = some m.cls) (hlink : (Cond.methodLink own index y).before args s = true) (hinst : (Cond.instanceMethod y).before args s = true) (hsel : (Cond.selects C y y).before args s = true)
    (hcode : (Cond.code y bytes maxL ret).before args s = true) (hy : y.cls ≠ "java/lang/invoke/MethodHandle" ∧ y.cls ≠ "java/lang/invoke/VarHandle")
    {W9 : Nat} {Pre : Pt → Array Value → Prop} {Post : Pt → Array Value → Option Value → Pt → Prop} {PostX : Pt → Array Value → Addr → Pt → Prop} (hK : vx_Back l R p e below s args y 3 W9 Pre Post PostX)
    {b : Addr} {cellB : Cell} (hcell : T.heap[b]? = some cellB) (hobj : cellB.vm.isStatics = false) (hcls : s.vm.findClass C = some cellB.cls)
    {g : JFrame} (hg : g.method = m) (hsize : g.locals.size = c.maxLocals) {argsL rest : List Value} (hlen : ∀ sig, parseMethodDescriptor y.desc = some sig → argsL.length = sig.parameters.length)
    (hstack : g.stack = argsL.reverse ++ .ref b :: rest) (hW : 2 * g.monitorRoom + (rest.map fun v => v.category).sum ≤ W9) (hdg : decode c.code g.pc = .ok (.invokevirtual index, 3))
    (hpre : ∀ vm₁, s.WarmedH vm₁ → Pre ⟨T.setVm vm₁, locs, cells, slots⟩ (Value.ref b :: argsL).toArray) :
    (∃ (v : Option Value) (vm₁ : Vm) (B : Pt), s.WarmedH vm₁ ∧ Stand p l e R s m args below meth c B.U B.locs B.cells B.slots ∧ Post ⟨T.setVm vm₁, locs, cells, slots⟩ (Value.ref b :: argsL).toArray v B ∧
      ∀ target, Steps p.tables e below (B.U.setTop { g with pc := g.pc + 3, stack := v.toList ++ rest }) target → Steps p.tables e below (T.setTop g) target) ∨
    (∃ (q : Addr) (vm₁ : Vm) (B : Pt), s.WarmedH vm₁ ∧ Stand p l e R s m args below meth c B.U B.locs B.cells B.slots ∧ PostX ⟨T.setVm vm₁, locs, cells, slots⟩ (Value.ref b :: argsL).toArray q B ∧
      Steps p.tables e below (T.setTop g) ((B.U.setTop { g with stack := rest }).pushFrame (.throwing q))) := by
  obtain ⟨mk, methM, hnamed, hmethM, hstM, habM⟩ := Cond.instanceMethod_spec hinst
  obtain ⟨methM', cM, hmethM', -, -, -, -, -, -, hsigM⟩ := Cond.code_spec hnamed hcode
  cases hmethM.symm.trans hmethM'
  obtain ⟨c2, r2, m2, q1, q2, q3, q4, kP, hkP, hkPi⟩ := Cond.selects_spec hsel
  cases hcls.symm.trans q1
  cases (State.methodFound?_of_named hnamed hy).symm.trans q2
  cases hnamed.symm.trans q3
  have hselP : selectMethod e.platform s.vm cellB.cls mk = .method mk := by rw [Launch.admits_selectMethod X.admits]; exact q4
  obtain ⟨vm₁, X₁, hstep₁⟩ := X.invokevirtual hexec hown hlink hnamed hmethM hstM hkP hkPi hy (a := b) (cell := cellB) hcell
    (fun z h => by rw [h] at hobj; cases hobj) hselP hmethM habM hkP hkPi (g := g) hg (argsL := argsL) (rest := rest) (hlen _ hsigM) hstack hdg
  rcases hK m meth c ⟨T.setVm vm₁, locs, cells, slots⟩ { g with stack := rest } (.invokevirtual index) mk (Value.ref b :: argsL).toArray X₁ hg hsize hdg hW (X₁.named hnamed) (hpre vm₁ X₁.warmed) with ⟨v, B, X', hpost, hsteps⟩ | ⟨q, B, X', hpost, hsteps⟩
  · exact Or.inl ⟨v, vm₁, B, X₁.warmed, X', hpost, fun target h => hstep₁ _ fun acts => by rw [doInvoke_state]; exact hsteps.trans h⟩
  · exact Or.inr ⟨q, vm₁, B, X₁.warmed, X', hpost, hstep₁ _ fun acts => by rw [doInvoke_state]; exact hsteps⟩
theorem vx_callS (X : Stand p l e R s m args below meth c T locs cells slots) (hexec : p.tables.exec = Jvm.exec) {own : String} {index : Nat} {y : MethodName} {bytes : ByteArray} {maxL : Nat} {ret : Option FieldType}
    (hown : s.vm.findClass own = some m.cls) (hlink : (Cond.methodLink own index y).before args s = true) (hstat : (Cond.static y).before args s = true) (hinit : (Cond.initialized y.cls).before args s = true)
    (hcode : (Cond.code y bytes maxL ret).before args s = true) (hy : y.cls ≠ "java/lang/invoke/MethodHandle" ∧ y.cls ≠ "java/lang/invoke/VarHandle")
    {W9 : Nat} {Pre : Pt → Array Value → Prop} {Post : Pt → Array Value → Option Value → Pt → Prop} {PostX : Pt → Array Value → Addr → Pt → Prop} (hK : vx_Back l R p e below s args y 3 W9 Pre Post PostX)
    {g : JFrame} (hg : g.method = m) (hsize : g.locals.size = c.maxLocals) {argsL rest : List Value} (hlen : ∀ sig, parseMethodDescriptor y.desc = some sig → argsL.length = sig.parameters.length)
    (hstack : g.stack = argsL.reverse ++ rest) (hW : 2 * g.monitorRoom + (rest.map fun v => v.category).sum ≤ W9) (hdg : decode c.code g.pc = .ok (.invokestatic index, 3))
    (hpre : ∀ vm₁, s.WarmedH vm₁ → Pre ⟨T.setVm vm₁, locs, cells, slots⟩ argsL.toArray) :
    (∃ (v : Option Value) (vm₁ : Vm) (B : Pt), s.WarmedH vm₁ ∧ Stand p l e R s m args below meth c B.U B.locs B.cells B.slots ∧ Post ⟨T.setVm vm₁, locs, cells, slots⟩ argsL.toArray v B ∧
      ∀ target, Steps p.tables e below (B.U.setTop { g with pc := g.pc + 3, stack := v.toList ++ rest }) target → Steps p.tables e below (T.setTop g) target) ∨
    (∃ (q : Addr) (vm₁ : Vm) (B : Pt), s.WarmedH vm₁ ∧ Stand p l e R s m args below meth c B.U B.locs B.cells B.slots ∧ PostX ⟨T.setVm vm₁, locs, cells, slots⟩ argsL.toArray q B ∧
      Steps p.tables e below (T.setTop g) ((B.U.setTop { g with stack := rest }).pushFrame (.throwing q))) := by
  obtain ⟨mk, hnamed⟩ := Cond.code_named hcode
  obtain ⟨methM, cM, hmethM, -, -, -, -, -, -, hsigM⟩ := Cond.code_spec hnamed hcode
  have hstatic : methM.isStatic = true := Cond.static_spec hnamed hmethM hstat
  obtain ⟨kP, hkP, -⟩ := className_of_methodNamed hnamed
  have hinitP : kP.init = .initialized := Cond.initialized_spec (findClass_of_methodNamed hnamed) hkP hinit
  obtain ⟨vm₁, X₁, hstep₁⟩ := X.invokestatic hexec hown hlink hnamed hmethM hstatic hkP hinitP hy (g := g) hg (argsL := argsL) (rest := rest) (hlen _ hsigM) hstack hdg
  rcases hK m meth c ⟨T.setVm vm₁, locs, cells, slots⟩ { g with stack := rest } (.invokestatic index) mk argsL.toArray X₁ hg hsize hdg hW (X₁.named hnamed) (hpre vm₁ X₁.warmed) with ⟨v, B, X', hpost, hsteps⟩ | ⟨q, B, X', hpost, hsteps⟩
  · exact Or.inl ⟨v, vm₁, B, X₁.warmed, X', hpost, fun target h => hstep₁ _ fun acts => by rw [doInvoke_state]; exact hsteps.trans h⟩
  · exact Or.inr ⟨q, vm₁, B, X₁.warmed, X', hpost, hstep₁ _ fun acts => by rw [doInvoke_state]; exact hsteps⟩
end Calls
theorem vx_cls {s : State} {T : State} {vm₁ : Vm} {E : String} {k : ClassId} (hW : s.WarmedH vm₁) (h : (T.setVm vm₁).vm.findClass E = some k) : s.vm.findClass E = some k := by
  have h1 : vm₁.findClass E = some k := h
  rw [hW.alike.findClass] at h1
  exact h1
/-- the method's frame g, with q thrown over it -/
def vx_W (p : Program) (l : Launch) (e : Env) (R : Room) (s : State) (m : MethodId) (args : Array Value) (below : List Frame) (meth : Method) (c : Code) (H : Heap) (locs : List Loc) (cells slots : Nat) (Q : State → Prop) (g : JFrame) (q : Addr) : Prop :=
  ∀ T : State, T.heap = H → Stand p l e R s m args below meth c T locs cells slots → ∃ t, Steps p.tables e below ((T.setTop g).pushFrame (.throwing q)) t ∧ Q t
def vx_Run (p : Program) (l : Launch) (e : Env) (R : Room) (s : State) (m : MethodId) (args : Array Value) (below : List Frame) (meth : Method) (c : Code) (H : Heap) (locs : List Loc) (cells slots mc ms : Nat) (g : JFrame) (rest : List Value) (Qa : State → Outcome → State → Prop) (XC : String → State → State → Prop) (free : Addr → Prop) : Prop :=
  ∀ T : State, T.heap = H → Stand p l e R s m args below meth c T locs cells slots →
    (∃ (v : Option Value) (st₀ t T' : State) (L : List Loc), st₀.heap = H ∧ Stand p l e R s m args below meth c T' (locs ++ L) (cells + mc) (slots + ms) ∧ (∀ q ∈ L, free q.base) ∧ T'.heap = t.heap ∧ T'.vm = t.vm ∧ Qa st₀ (.returned v) t ∧
      Goes p e below T g T' { g with pc := g.pc + 3, stack := v.toList ++ rest }) ∨
    (∃ (q : Addr) (st₀ t T' : State) (L : List Loc) (E : String) (ce : Cell), st₀.heap = H ∧ Stand p l e R s m args below meth c T' (locs ++ L) (cells + mc) (slots + ms) ∧ (∀ z ∈ L, free z.base) ∧ T'.heap = t.heap ∧ T'.vm = t.vm ∧ XC E st₀ t ∧ t.heap[q]? = some ce ∧ ce.vm = .none ∧ s.vm.findClass E = some ce.cls ∧
      Steps p.tables e below (T.setTop g) ((T'.setTop { g with stack := rest }).pushFrame (.throwing q)))
def vx_X {S : Type} (px : S → Prop) (B : String → S → State → Prop) (A : Nat → Prop) : String → State → State → Prop := fun E st t => ∃ u : S, px u ∧ B E u t ∧ va_F A st t
section Runs
variable {p : Program} {l : Launch} {e : Env} {R : Room} {s : State} {m : MethodId} {args : Array Value} {below : List Frame} {meth : Method} {c : Code} {H : Heap} {locs : List Loc} {cells slots : Nat}
variable {y : MethodName} {bytes cc : ByteArray} {maxL nL mc ms n index : Nat} {ret : Option FieldType} {ws : List Cond} {rm : Room} {Pc : Array Value → State → Prop} {Qc : Array Value → State → Outcome → State → Prop} {XC : String → State → State → Prop} {free : Addr → Prop} {Ts : List Cond} {own C : String} {b : Addr} {As rest : List Value} {g : JFrame}
theorem vx_callBack (cb : CallB R s args own index y bytes maxL ret ws rm mc ms n) (hM : vx_Met l y ws rm Pc Qc XC mc ms free) (hbl : FrameBlind Pc) : vx_Back l R p e below s args y 3 8 (PreOf R mc ms Pc) (PostOf Qc mc ms free) (vx_Post XC mc ms free) := by
  obtain ⟨hrc, hrs, hfr, hlo, hws, hcw, -, hini, -⟩ := cb
  exact vx_back (bytes := bytes) (maxL := maxL) (ret := ret) hM hbl hrc hrs hfr hlo hws hcw (fun a' U hW => word_at hW (Or.inl (by first | rfl | simp [Cond.onTables, Cond.keeps, Cond.steady])) hini)
theorem vx_runV (S : CallFix p m c cc nL s args Ts own) (hM : vx_Met l y ws rm Pc Qc XC mc ms free) (cw : CallW R s args own C index y bytes maxL ret ws rm mc ms n) (hp : PreV s H C b Pc As)
    (hg : g.method = m) (hn : As.length = n) (hsize : g.locals.size = nL) (hstack : g.stack = As.reverse ++ .ref b :: rest) (hW : 2 * g.monitorRoom + (rest.map fun v => v.category).sum ≤ 8) (hdg : decode cc g.pc = .ok (.invokevirtual index, 3)) (hf : cells + mc ≤ R.cells ∧ slots + ms ≤ R.slots) :
    vx_Run p l e R s m args below meth c H locs cells slots mc ms g rest (Qc (Value.ref b :: As).toArray) XC free := by
  have hK : vx_Back l R p e below s args y 3 8 (PreOf R mc ms Pc) (PostOf Qc mc ms free) (vx_Post XC mc ms free) := vx_callBack cw.1 hM hp.1
  obtain ⟨⟨-, -, -, -, -, -, hcode, -, hy, hlen, hl⟩, hin, hse⟩ := cw
  obtain ⟨hx, hb, hml, ho, -⟩ := S
  obtain ⟨-, ⟨cellB, hcB, hoB, hclB⟩, hPc⟩ := hp
  intro T hT X
  rcases vx_callV X hx (C := C) (bytes := bytes) (maxL := maxL) (ret := ret) ho hl hin hse hcode hy hK (by rw [hT]; exact hcB) hoB hclB hg (hsize.trans hml.symm) (argsL := As) (rest := rest) (fun sig h => hn.trans (hlen sig h)) hstack hW (by rw [hb]; exact hdg)
    (fun vm₁ hW₁ => ⟨hf.1, hf.2, hPc (T.setVm vm₁) hT hW₁⟩) with ⟨v, vm₁, ⟨U', l2, c2, s2⟩, hW₁, X', ⟨g', mk, t, L, e1, e2, hq, h1, hL, h2, h3⟩, st⟩ | ⟨q, vm₁, ⟨U', l2, c2, s2⟩, hW₁, X', ⟨g', mk, t, L, E, ce, e1, e2, hq, hce, hcv, hcl, h1, hL, h2, h3⟩, st⟩
  · dsimp only [Pt.U, Pt.locs, Pt.cells, Pt.slots] at X' e1 e2 h1 h2 h3 st
    subst h1; subst h2; subst h3
    exact Or.inl ⟨v, (T.setVm vm₁).calling g' mk (Value.ref b :: As).toArray, t, U', L, hT, X', hL, e1, e2, hq, st⟩
  · dsimp only [Pt.U, Pt.locs, Pt.cells, Pt.slots] at X' e1 e2 h1 h2 h3 st hcl
    subst h1; subst h2; subst h3
    exact Or.inr ⟨q, (T.setVm vm₁).calling g' mk (Value.ref b :: As).toArray, t, U', L, E, ce, hT, X', hL, e1, e2, hq, hce, hcv, vx_cls hW₁ hcl, st⟩
theorem vx_runS (S : CallFix p m c cc nL s args Ts own) (hM : vx_Met l y ws rm Pc Qc XC mc ms free) (cw : CallB R s args own index y bytes maxL ret ws rm mc ms n ∧ (Cond.static y).before args s = true) (hp : PreS s H Pc As)
    (hg : g.method = m) (hn : As.length = n) (hsize : g.locals.size = nL) (hstack : g.stack = As.reverse ++ rest) (hW : 2 * g.monitorRoom + (rest.map fun v => v.category).sum ≤ 8) (hdg : decode cc g.pc = .ok (.invokestatic index, 3)) (hf : cells + mc ≤ R.cells ∧ slots + ms ≤ R.slots) :
    vx_Run p l e R s m args below meth c H locs cells slots mc ms g rest (Qc As.toArray) XC free := by
  have hK : vx_Back l R p e below s args y 3 8 (PreOf R mc ms Pc) (PostOf Qc mc ms free) (vx_Post XC mc ms free) := vx_callBack cw.1 hM hp.1
  obtain ⟨⟨-, -, -, -, -, -, hcode, hini, hy, hlen, hl⟩, hstt⟩ := cw
  obtain ⟨hx, hb, hml, ho, -⟩ := S
  intro T hT X
  rcases vx_callS X hx (bytes := bytes) (maxL := maxL) (ret := ret) ho hl hstt hini hcode hy hK hg (hsize.trans hml.symm) (argsL := As) (rest := rest) (fun sig h => hn.trans (hlen sig h)) hstack hW (by rw [hb]; exact hdg)
    (fun vm₁ hW₁ => ⟨hf.1, hf.2, hp.2 (T.setVm vm₁) hT hW₁⟩) with ⟨v, vm₁, ⟨U', l2, c2, s2⟩, hW₁, X', ⟨g', mk, t, L, e1, e2, hq, h1, hL, h2, h3⟩, st⟩ | ⟨q, vm₁, ⟨U', l2, c2, s2⟩, hW₁, X', ⟨g', mk, t, L, E, ce, e1, e2, hq, hce, hcv, hcl, h1, hL, h2, h3⟩, st⟩
  · dsimp only [Pt.U, Pt.locs, Pt.cells, Pt.slots] at X' e1 e2 h1 h2 h3 st
    subst h1; subst h2; subst h3
    exact Or.inl ⟨v, (T.setVm vm₁).calling g' mk As.toArray, t, U', L, hT, X', hL, e1, e2, hq, st⟩
  · dsimp only [Pt.U, Pt.locs, Pt.cells, Pt.slots] at X' e1 e2 h1 h2 h3 st hcl
    subst h1; subst h2; subst h3
    exact Or.inr ⟨q, (T.setVm vm₁).calling g' mk As.toArray, t, U', L, E, ce, hT, X', hL, e1, e2, hq, hce, hcv, vx_cls hW₁ hcl, st⟩
end Runs
section Rows
variable {p : Program} {l : Launch} {e : Env} {R : Room} {s : State} {m : MethodId} {args : Array Value} {below : List Frame} {meth : Method} {c : Code} {H : Heap} {locs : List Loc} {cells slots : Nat} {Q : State → Prop}
variable {mc ms : Nat} {free : Addr → Prop} {A0 A1 : Nat → Prop} {H0 : Heap} {a : Array Value} {pc : Nat} {ls : Array Slot} {st0 rest : List Value}
theorem vx_keep {st₀ t T' : State} {L : List Loc} (h0 : st₀.heap = H) (e1 : T'.heap = t.heap) (hS : va_S A0 H0 H locs) (hA : ∀ q, q < H.size → A1 q → A0 q) (hf : ∀ q, free q → A0 q) (hL : ∀ q ∈ L, free q.base) (hF : va_F A1 st₀ t) :
    H.size ≤ T'.heap.size ∧ (∀ q : Nat, q < H.size → ¬ A1 q → T'.heap[q]? = H[q]?) ∧ va_S A0 H0 T'.heap (locs ++ L) := by
  obtain ⟨hz, hk⟩ := hF
  rw [h0] at hz hk
  exact ⟨by rw [e1]; exact hz, fun q h1 h2 => by rw [e1]; exact hk q h1 h2,
    ⟨Nat.le_trans hS.1 (by rw [e1]; exact hz), fun q h1 h2 => by rw [e1, hk q (Nat.lt_of_lt_of_le h1 hS.1) (fun z => h2 (hA q (Nat.lt_of_lt_of_le h1 hS.1) z))]; exact hS.2.1 q h1 h2, fun q hq => by
      rcases List.mem_append.mp hq with h | h
      · exact hS.2.2 q h
      · exact hf _ (hL q h)⟩⟩
theorem vx_calli {S SX : Type} {post : Int32 → S → Prop} {px : SX → Prop} {B : S → State → Prop} {BX : String → SX → State → Prop} {AX : Nat → Prop} (hr : vx_Run p l e R s m args below meth c H locs cells slots mc ms (F0 m pc ls st0) rest (va_Qi post B A1 a) (vx_X px BX AX) free) (hS : va_S A0 H0 H locs) (hA : ∀ q, q < H.size → A1 q → A0 q) (hf : ∀ q, free q → A0 q) (hAX : ∀ q, q < H.size → AX q → A0 q)
    (kx : ∀ (E : String) (ce : Cell) (q9 : Addr) (u : SX) (t : State) (H1 : Heap) (locs1 : List Loc), t.heap = H1 → s.vm.Alike t.vm → px u → BX E u t → H.size ≤ H1.size → (∀ q : Nat, q < H.size → ¬ AX q → H1[q]? = H[q]?) → va_S A0 H0 H1 locs1 → H1[q9]? = some ce → ce.vm = .none → s.vm.findClass E = some ce.cls → vx_W p l e R s m args below meth c H1 locs1 (cells + mc) (slots + ms) Q (F0 m pc ls rest) q9)
    (kk : ∀ (r : Int32) (u : S) (t : State) (H1 : Heap) (locs1 : List Loc), t.heap = H1 → s.vm.Alike t.vm → post r u → B u t → H.size ≤ H1.size → (∀ q : Nat, q < H.size → ¬ A1 q → H1[q]? = H[q]?) → va_S A0 H0 H1 locs1 → W p l e R s m args below meth c H1 locs1 (cells + mc) (slots + ms) Q (F0 m (pc + 3) ls (.int r :: rest))) : W p l e R s m args below meth c H locs cells slots Q (F0 m pc ls st0) := by
  intro T hT X
  rcases hr T hT X with ⟨v, st₀, t, T', L, h0, X', hL, e1, e2, ⟨⟨r, u, hv, hp, hb⟩, hF⟩, st⟩ | ⟨q, st₀, t, T', L, E, ce, h0, X', hL, e1, e2, ⟨u, hp, hb, hF⟩, hce, hcv, hcl, st⟩
  · cases hv
    obtain ⟨k1, k2, k3⟩ := vx_keep h0 e1 hS hA hf hL hF
    obtain ⟨t2, a1, b1⟩ := kk r u t T'.heap (locs ++ L) e1.symm (by rw [← e2]; exact X'.warmed.alike) hp hb k1 k2 k3 T' rfl X'
    exact ⟨t2, st t2 a1, b1⟩
  · obtain ⟨k1, k2, k3⟩ := vx_keep h0 e1 hS hAX hf hL hF
    obtain ⟨t2, a1, b1⟩ := kx E ce q u t T'.heap (locs ++ L) e1.symm (by rw [← e2]; exact X'.warmed.alike) hp hb k1 k2 k3 (by rw [e1]; exact hce) hcv hcl T' rfl X'
    exact ⟨t2, st.trans a1, b1⟩
theorem vx_calll {S SX : Type} {post : Int64 → S → Prop} {px : SX → Prop} {B : S → State → Prop} {BX : String → SX → State → Prop} {AX : Nat → Prop} (hr : vx_Run p l e R s m args below meth c H locs cells slots mc ms (F0 m pc ls st0) rest (va_Ql post B A1 a) (vx_X px BX AX) free) (hS : va_S A0 H0 H locs) (hA : ∀ q, q < H.size → A1 q → A0 q) (hf : ∀ q, free q → A0 q) (hAX : ∀ q, q < H.size → AX q → A0 q)
    (kx : ∀ (E : String) (ce : Cell) (q9 : Addr) (u : SX) (t : State) (H1 : Heap) (locs1 : List Loc), t.heap = H1 → s.vm.Alike t.vm → px u → BX E u t → H.size ≤ H1.size → (∀ q : Nat, q < H.size → ¬ AX q → H1[q]? = H[q]?) → va_S A0 H0 H1 locs1 → H1[q9]? = some ce → ce.vm = .none → s.vm.findClass E = some ce.cls → vx_W p l e R s m args below meth c H1 locs1 (cells + mc) (slots + ms) Q (F0 m pc ls rest) q9)
    (kk : ∀ (r : Int64) (u : S) (t : State) (H1 : Heap) (locs1 : List Loc), t.heap = H1 → s.vm.Alike t.vm → post r u → B u t → H.size ≤ H1.size → (∀ q : Nat, q < H.size → ¬ A1 q → H1[q]? = H[q]?) → va_S A0 H0 H1 locs1 → W p l e R s m args below meth c H1 locs1 (cells + mc) (slots + ms) Q (F0 m (pc + 3) ls (.long r :: rest))) : W p l e R s m args below meth c H locs cells slots Q (F0 m pc ls st0) := by
  intro T hT X
  rcases hr T hT X with ⟨v, st₀, t, T', L, h0, X', hL, e1, e2, ⟨⟨r, u, hv, hp, hb⟩, hF⟩, st⟩ | ⟨q, st₀, t, T', L, E, ce, h0, X', hL, e1, e2, ⟨u, hp, hb, hF⟩, hce, hcv, hcl, st⟩
  · cases hv
    obtain ⟨k1, k2, k3⟩ := vx_keep h0 e1 hS hA hf hL hF
    obtain ⟨t2, a1, b1⟩ := kk r u t T'.heap (locs ++ L) e1.symm (by rw [← e2]; exact X'.warmed.alike) hp hb k1 k2 k3 T' rfl X'
    exact ⟨t2, st t2 a1, b1⟩
  · obtain ⟨k1, k2, k3⟩ := vx_keep h0 e1 hS hAX hf hL hF
    obtain ⟨t2, a1, b1⟩ := kx E ce q u t T'.heap (locs ++ L) e1.symm (by rw [← e2]; exact X'.warmed.alike) hp hb k1 k2 k3 (by rw [e1]; exact hce) hcv hcl T' rfl X'
    exact ⟨t2, st.trans a1, b1⟩
theorem vx_callf {S SX : Type} {post : UInt32 → S → Prop} {px : SX → Prop} {B : S → State → Prop} {BX : String → SX → State → Prop} {AX : Nat → Prop} (hr : vx_Run p l e R s m args below meth c H locs cells slots mc ms (F0 m pc ls st0) rest (va_Qf post B A1 a) (vx_X px BX AX) free) (hS : va_S A0 H0 H locs) (hA : ∀ q, q < H.size → A1 q → A0 q) (hf : ∀ q, free q → A0 q) (hAX : ∀ q, q < H.size → AX q → A0 q)
    (kx : ∀ (E : String) (ce : Cell) (q9 : Addr) (u : SX) (t : State) (H1 : Heap) (locs1 : List Loc), t.heap = H1 → s.vm.Alike t.vm → px u → BX E u t → H.size ≤ H1.size → (∀ q : Nat, q < H.size → ¬ AX q → H1[q]? = H[q]?) → va_S A0 H0 H1 locs1 → H1[q9]? = some ce → ce.vm = .none → s.vm.findClass E = some ce.cls → vx_W p l e R s m args below meth c H1 locs1 (cells + mc) (slots + ms) Q (F0 m pc ls rest) q9)
    (kk : ∀ (r : UInt32) (u : S) (t : State) (H1 : Heap) (locs1 : List Loc), t.heap = H1 → s.vm.Alike t.vm → post r u → B u t → H.size ≤ H1.size → (∀ q : Nat, q < H.size → ¬ A1 q → H1[q]? = H[q]?) → va_S A0 H0 H1 locs1 → W p l e R s m args below meth c H1 locs1 (cells + mc) (slots + ms) Q (F0 m (pc + 3) ls (.float r :: rest))) : W p l e R s m args below meth c H locs cells slots Q (F0 m pc ls st0) := by
  intro T hT X
  rcases hr T hT X with ⟨v, st₀, t, T', L, h0, X', hL, e1, e2, ⟨⟨r, u, hv, hp, hb⟩, hF⟩, st⟩ | ⟨q, st₀, t, T', L, E, ce, h0, X', hL, e1, e2, ⟨u, hp, hb, hF⟩, hce, hcv, hcl, st⟩
  · cases hv
    obtain ⟨k1, k2, k3⟩ := vx_keep h0 e1 hS hA hf hL hF
    obtain ⟨t2, a1, b1⟩ := kk r u t T'.heap (locs ++ L) e1.symm (by rw [← e2]; exact X'.warmed.alike) hp hb k1 k2 k3 T' rfl X'
    exact ⟨t2, st t2 a1, b1⟩
  · obtain ⟨k1, k2, k3⟩ := vx_keep h0 e1 hS hAX hf hL hF
    obtain ⟨t2, a1, b1⟩ := kx E ce q u t T'.heap (locs ++ L) e1.symm (by rw [← e2]; exact X'.warmed.alike) hp hb k1 k2 k3 (by rw [e1]; exact hce) hcv hcl T' rfl X'
    exact ⟨t2, st.trans a1, b1⟩
theorem vx_calld {S SX : Type} {post : UInt64 → S → Prop} {px : SX → Prop} {B : S → State → Prop} {BX : String → SX → State → Prop} {AX : Nat → Prop} (hr : vx_Run p l e R s m args below meth c H locs cells slots mc ms (F0 m pc ls st0) rest (va_Qd post B A1 a) (vx_X px BX AX) free) (hS : va_S A0 H0 H locs) (hA : ∀ q, q < H.size → A1 q → A0 q) (hf : ∀ q, free q → A0 q) (hAX : ∀ q, q < H.size → AX q → A0 q)
    (kx : ∀ (E : String) (ce : Cell) (q9 : Addr) (u : SX) (t : State) (H1 : Heap) (locs1 : List Loc), t.heap = H1 → s.vm.Alike t.vm → px u → BX E u t → H.size ≤ H1.size → (∀ q : Nat, q < H.size → ¬ AX q → H1[q]? = H[q]?) → va_S A0 H0 H1 locs1 → H1[q9]? = some ce → ce.vm = .none → s.vm.findClass E = some ce.cls → vx_W p l e R s m args below meth c H1 locs1 (cells + mc) (slots + ms) Q (F0 m pc ls rest) q9)
    (kk : ∀ (r : UInt64) (u : S) (t : State) (H1 : Heap) (locs1 : List Loc), t.heap = H1 → s.vm.Alike t.vm → post r u → B u t → H.size ≤ H1.size → (∀ q : Nat, q < H.size → ¬ A1 q → H1[q]? = H[q]?) → va_S A0 H0 H1 locs1 → W p l e R s m args below meth c H1 locs1 (cells + mc) (slots + ms) Q (F0 m (pc + 3) ls (.double r :: rest))) : W p l e R s m args below meth c H locs cells slots Q (F0 m pc ls st0) := by
  intro T hT X
  rcases hr T hT X with ⟨v, st₀, t, T', L, h0, X', hL, e1, e2, ⟨⟨r, u, hv, hp, hb⟩, hF⟩, st⟩ | ⟨q, st₀, t, T', L, E, ce, h0, X', hL, e1, e2, ⟨u, hp, hb, hF⟩, hce, hcv, hcl, st⟩
  · cases hv
    obtain ⟨k1, k2, k3⟩ := vx_keep h0 e1 hS hA hf hL hF
    obtain ⟨t2, a1, b1⟩ := kk r u t T'.heap (locs ++ L) e1.symm (by rw [← e2]; exact X'.warmed.alike) hp hb k1 k2 k3 T' rfl X'
    exact ⟨t2, st t2 a1, b1⟩
  · obtain ⟨k1, k2, k3⟩ := vx_keep h0 e1 hS hAX hf hL hF
    obtain ⟨t2, a1, b1⟩ := kx E ce q u t T'.heap (locs ++ L) e1.symm (by rw [← e2]; exact X'.warmed.alike) hp hb k1 k2 k3 (by rw [e1]; exact hce) hcv hcl T' rfl X'
    exact ⟨t2, st.trans a1, b1⟩
theorem vx_callv {S SX : Type} {post : S → Prop} {px : SX → Prop} {B : S → State → Prop} {BX : String → SX → State → Prop} {AX : Nat → Prop} (hr : vx_Run p l e R s m args below meth c H locs cells slots mc ms (F0 m pc ls st0) rest (va_Qv post B A1 a) (vx_X px BX AX) free) (hS : va_S A0 H0 H locs) (hA : ∀ q, q < H.size → A1 q → A0 q) (hf : ∀ q, free q → A0 q) (hAX : ∀ q, q < H.size → AX q → A0 q)
    (kx : ∀ (E : String) (ce : Cell) (q9 : Addr) (u : SX) (t : State) (H1 : Heap) (locs1 : List Loc), t.heap = H1 → s.vm.Alike t.vm → px u → BX E u t → H.size ≤ H1.size → (∀ q : Nat, q < H.size → ¬ AX q → H1[q]? = H[q]?) → va_S A0 H0 H1 locs1 → H1[q9]? = some ce → ce.vm = .none → s.vm.findClass E = some ce.cls → vx_W p l e R s m args below meth c H1 locs1 (cells + mc) (slots + ms) Q (F0 m pc ls rest) q9)
    (kk : ∀ (u : S) (t : State) (H1 : Heap) (locs1 : List Loc), t.heap = H1 → s.vm.Alike t.vm → post u → B u t → H.size ≤ H1.size → (∀ q : Nat, q < H.size → ¬ A1 q → H1[q]? = H[q]?) → va_S A0 H0 H1 locs1 → W p l e R s m args below meth c H1 locs1 (cells + mc) (slots + ms) Q (F0 m (pc + 3) ls (rest))) : W p l e R s m args below meth c H locs cells slots Q (F0 m pc ls st0) := by
  intro T hT X
  rcases hr T hT X with ⟨v, st₀, t, T', L, h0, X', hL, e1, e2, ⟨⟨u, hv, hp, hb⟩, hF⟩, st⟩ | ⟨q, st₀, t, T', L, E, ce, h0, X', hL, e1, e2, ⟨u, hp, hb, hF⟩, hce, hcv, hcl, st⟩
  · cases hv
    obtain ⟨k1, k2, k3⟩ := vx_keep h0 e1 hS hA hf hL hF
    obtain ⟨t2, a1, b1⟩ := kk u t T'.heap (locs ++ L) e1.symm (by rw [← e2]; exact X'.warmed.alike) hp hb k1 k2 k3 T' rfl X'
    exact ⟨t2, st t2 a1, b1⟩
  · obtain ⟨k1, k2, k3⟩ := vx_keep h0 e1 hS hAX hf hL hF
    obtain ⟨t2, a1, b1⟩ := kx E ce q u t T'.heap (locs ++ L) e1.symm (by rw [← e2]; exact X'.warmed.alike) hp hb k1 k2 k3 (by rw [e1]; exact hce) hcv hcl T' rfl X'
    exact ⟨t2, st.trans a1, b1⟩
/-- caught by the row x of this method's table; the rows ahead don't take it -/
theorem vx_catch {own name : String} {E : String} {ce : Cell} {q : Addr} (hown : s.vm.findClass own = some m.cls) (pre : List ExceptionTableEntry) (x : ExceptionTableEntry) (suf : List ExceptionTableEntry) (hsplit : c.exceptionTable.toList = pre ++ x :: suf)
    (hpass : ∀ z ∈ pre, covers z pc = false ∨ (z.catchType ≠ 0 ∧ ∃ nm : String, (Cond.classLink own z.catchType nm).before args s = true ∧ va_Nc E nm s)) (hx : covers x pc = true) (h0 : x.catchType ≠ 0)
    (hlink : (Cond.classLink own x.catchType name).before args s = true) (hcast : (Cond.castable E name).before args s = true) (hcell : H[q]? = some ce) (hv : ce.vm = .none) (hcl : s.vm.findClass E = some ce.cls)
    (kk : W p l e R s m args below meth c H locs cells slots Q (F0 m x.handlerPc ls [.ref q])) : vx_W p l e R s m args below meth c H locs cells slots Q (F0 m pc ls rest) q := by
  intro T hT X
  have hpl : e.platform.magicAccessors = ({} : Platform).magicAccessors := by rw [X.admits.platform]
  obtain ⟨c3, c4, hc3, hc4, hasg⟩ := Cond.castable_spec hcast
  cases Option.some.inj (hc3.symm.trans hcl)
  obtain ⟨c5, hc5, hcl5⟩ := Cond.classLink_spec hown hlink e.platform hpl
  cases Option.some.inj (hc4.symm.trans hc5)
  obtain ⟨vm', X', st⟩ := X.thenCaughtThrough q (g := F0 m pc ls rest) rfl (Steps.refl _) (by rw [hT]; exact hcell) (by rw [hv]; rfl) (by obtain ⟨k9, h9, -⟩ := Vm.findClass_spec hcl; exact ⟨k9, h9⟩) pre x suf hsplit
    (fun z hz => by
      rcases hpass z hz with h | ⟨hz0, nm, hl1, hn1⟩
      · exact Or.inl h
      · obtain ⟨c6, hc6, hcl6⟩ := Cond.classLink_spec hown hl1 e.platform hpl
        obtain ⟨a8, b8, h1, h2, h3⟩ := hn1
        cases Option.some.inj (h1.symm.trans hcl)
        cases Option.some.inj (h2.symm.trans hc6)
        exact Or.inr ⟨hz0, _, hcl6, h3⟩) hx (Or.inr ⟨h0, c4, hcl5, hasg⟩)
  obtain ⟨t, a1, b1⟩ := kk (T.setVm vm') hT X'
  exact ⟨t, st.trans a1, b1⟩
end Rows
section Ends
variable {p : Program} {l : Launch} {e : Env} {R : Room} {s : State} {m : MethodId} {args : Array Value} {below : List Frame} {meth : Method} {c : Code} {H : Heap} {locs : List Loc} {cells slots : Nat} {Q : State → Prop}
variable {mc ms : Nat} {free : Addr → Prop} {A0 A1 : Nat → Prop} {H0 : Heap} {a : Array Value} {ls : Array Slot} {st0 rest : List Value}
variable {Qc : Array Value → State → Outcome → State → Prop} {XC : String → State → State → Prop}
/-- what a body that may throw owes at its end -/
def vx_MQ (below : List Frame) (Qc : Array Value → State → Outcome → State → Prop) (XC : String → State → State → Prop) (a : Array Value) (s : State) (mc ms : Nat) (free : Addr → Prop) : State → Prop := fun t =>
  ∃ o, t.status = .running ∧ Ended t below o ∧ vx_Q Qc XC mc ms free a s o t
theorem vx_ret {g : JFrame} {mc ms : Nat} (k : W p l e R s m args below meth c H locs cells slots (MQ below Qc args s mc ms free) g) : W p l e R s m args below meth c H locs cells slots (vx_MQ below Qc XC args s mc ms free) g := by
  intro T hT X
  obtain ⟨t, a1, o, b1, b2, b3, b4⟩ := k T hT X
  exact ⟨t, a1, o, b1, b2, Or.inl ⟨b3, b4⟩⟩
/-- not caught here: it goes on to the caller -/
theorem vx_widen {g : JFrame} {q : Addr} {k n : Nat} (h1 : cells ≤ k) (h2 : slots ≤ n) (kk : vx_W p l e R s m args below meth c H locs k n Q g q) : vx_W p l e R s m args below meth c H locs cells slots Q g q := fun T hT X => kk T hT (stand_widen X h1 h2)
theorem vx_out {pc : Nat} {E : String} {ce : Cell} {q : Addr} {mc ms : Nat} (hout : ∀ x ∈ c.exceptionTable.toList, covers x pc = false) (hlocks : meth.locks = false) (hcell : H[q]? = some ce) (hv : ce.vm = .none) (hcl : s.vm.findClass E = some ce.cls)
    (hx : ∀ t : State, t.heap = H → s.vm.Alike t.vm → XC E s t) (hf : ∀ z ∈ locs, free z.base) (hc : cells ≤ mc) (hs : slots ≤ ms) :
    vx_W p l e R s m args below meth c H locs cells slots (vx_MQ below Qc XC args s mc ms free) (F0 m pc ls rest) q := by
  intro T hT X
  obtain ⟨st1, hrun, hend, hW, hsm⟩ := X.leaveThrown q (g := F0 m pc ls rest) rfl rfl rfl hout hlocks
  have hcell9 : (T.setFrames (.throwing q :: below)).heap[q]? = some ce := by
    show T.heap[q]? = some ce
    rw [hT]; exact hcell
  exact ⟨_, st1, .threw q, hrun, hend, Or.inr ⟨q, rfl, E, ce, locs, hx _ hT hW.alike, hcell9, hv, hcl, hW, hsm.mono hc hs, hf⟩⟩
theorem vx_frame {U : State} {k n : Nat} (h : s.sameButNew ({ U with vm := s.vm } : State) locs k n) : s.heap.size ≤ U.heap.size ∧ ∀ q : Nat, q < s.heap.size → (∀ z ∈ locs, z.base ≠ q) → U.heap[q]? = s.heap[q]? := by
  obtain ⟨-, h2, -, -, -, h6⟩ := h
  refine ⟨h2, fun q hq hz => ?_⟩
  obtain ⟨c9, e1, e2, e3, e4⟩ := h6 q _ (Array.getElem?_eq_getElem hq)
  have hs : c9.slots = (s.heap[q]).slots := Array.ext_getElem? fun i => e4 i fun hm => hz _ hm rfl
  have h9 : c9 = s.heap[q] := by
    rw [hs] at e2
    exact e2
  have e5 : U.heap[q]? = some c9 := e1
  rw [e5, h9, Array.getElem?_eq_getElem hq]
/-- the words of a throw but the four that speak of the heap -/
def vx_no (w : Cond) : Bool := decide (w ≠ .isRef (.static Bundle.tN "UNASSIGNED_STACK" Bundle.steD)) && decide (w ≠ .isRef (.static Bundle.tN "SUPPRESSED_SENTINEL" Bundle.listD)) && decide (w ≠ .laysStatic Bundle.tN "UNASSIGNED_STACK" Bundle.steD) && decide (w ≠ .laysStatic Bundle.tN "SUPPRESSED_SENTINEL" Bundle.listD)
def vx_at0 (own : String) (ic : Nat) (X : String) (names : List String) : List Cond := (Bundle.ownAtoms0 own ic X names).filter vx_no
def vx_atS (own : String) (ic : Nat) (X : String) (names : List String) : List Cond := (Bundle.ownAtoms own ic X names).filter vx_no
/-- a word that the tables alone decide, or a good one -/
def vx_ot (w : Cond) : Bool := w.onTables || goodWord w
theorem vx_ot_at {args a' : Array Value} {s U : State} {w : Cond} (hW : s.WarmedH U.vm) (hvm : s.vm = U.vm) (hg : vx_ot w = true) (h : w.before args s = true) : w.before a' U = true := by
  simp only [vx_ot, Bool.or_eq_true] at hg
  rcases hg with hg | hg
  · exact va_tabs hg hvm h
  · exact word_at hW (good_of_word hg) h
/-- a list's words: the good ones out of the method's own list, the others by premises of their own -/
theorem vx_hat {args : Array Value} {s : State} {L B : List Cond} (h1 : ∀ w ∈ L.filter goodWord, w.before args s = true) (h2 : ∀ w ∈ L.filter (fun w => !goodWord w), w ∈ B) (h3 : ∀ w ∈ B, w.before args s = true) : ∀ w ∈ L, w.before args s = true := by
  intro w hw
  by_cases g : goodWord w = true
  · exact h1 w (List.mem_filter.mpr ⟨hw, g⟩)
  · refine h3 w (h2 w (List.mem_filter.mpr ⟨hw, ?_⟩))
    show (!goodWord w) = true
    cases hgw : goodWord w
    · rfl
    · exact absurd hgw g
theorem vx_c {args : Array Value} {s : State} {w : Cond} {B : List Cond} (h : w.before args s = true) (t : ∀ w ∈ B, w.before args s = true) : ∀ w' ∈ w :: B, w'.before args s = true := fun w' h' => (List.mem_cons.mp h').elim (fun e => by rw [e]; exact h) (t w')
theorem vx_n {args : Array Value} {s : State} : ∀ w ∈ ([] : List Cond), w.before args s = true := fun _ h => nomatch h
theorem vx_own {args : Array Value} {s : State} {L : List Cond} (h1 : ∀ w ∈ L.filter vx_no, w.before args s = true)
    (hU : (Cond.isRef (.static Bundle.tN "UNASSIGNED_STACK" Bundle.steD)).before args s = true) (hN : (Cond.isRef (.static Bundle.tN "SUPPRESSED_SENTINEL" Bundle.listD)).before args s = true)
    (lU : (Cond.laysStatic Bundle.tN "UNASSIGNED_STACK" Bundle.steD).before args s = true) (lN : (Cond.laysStatic Bundle.tN "SUPPRESSED_SENTINEL" Bundle.listD).before args s = true) : ∀ w ∈ L, w.before args s = true := by
  intro w hw
  by_cases e1 : w = .isRef (.static Bundle.tN "UNASSIGNED_STACK" Bundle.steD)
  · rw [e1]; exact hU
  · by_cases e2 : w = .isRef (.static Bundle.tN "SUPPRESSED_SENTINEL" Bundle.listD)
    · rw [e2]; exact hN
    · by_cases e3 : w = .laysStatic Bundle.tN "UNASSIGNED_STACK" Bundle.steD
      · rw [e3]; exact lU
      · by_cases e4 : w = .laysStatic Bundle.tN "SUPPRESSED_SENTINEL" Bundle.listD
        · rw [e4]; exact lN
        · exact h1 w (List.mem_filter.mpr ⟨hw, by unfold vx_no; rw [decide_eq_true e1, decide_eq_true e2, decide_eq_true e3, decide_eq_true e4]; rfl⟩)
/-- where a static field lies, its class's statics cell in H -/
def vx_L (C n d : String) (A : Nat → Prop) (U : State) (H : Heap) : Prop := ∃ (c : ClassId) (k : Class) (i : Nat) (f : Field) (a : Nat) (cell : Cell), U.vm.findClass C = some c ∧ U.fieldFound? C n d = some (c, k, i, f) ∧ f.isStatic = true ∧ k.statics = some a ∧ H[a]? = some cell ∧ cell.vm.isStatics = true ∧ cell.cls = c ∧ f.slot < cell.slots.size ∧ k.staticTypes[f.slot]? = some f.type ∧ ¬ A a
theorem vx_L.moved {C n d : String} {A : Nat → Prop} {u U : State} {H : Heap} (hvm : u.vm.Alike U.vm) (h : vx_L C n d A u H) : vx_L C n d A U H := by
  obtain ⟨c, k, i, f, a, cell, h1, h2, h3, h4, h5, h6, h7, h8, h9, h10⟩ := h
  obtain ⟨k', hi', he⟩ := State.fieldFound?_setVm hvm h2
  exact ⟨c, k', i, f, a, cell, by rw [hvm.findClass]; exact h1, hi', h3, by rw [he]; exact h4, h5, h6, h7, h8, by rw [he]; exact h9, h10⟩
theorem vx_L.kept {C n d : String} {A : Nat → Prop} {U : State} {H H1 : Heap} (h : vx_L C n d A U H) (hq : ∀ a : Nat, a < H.size → ¬ A a → H1[a]? = H[a]?) : vx_L C n d A U H1 := by
  obtain ⟨c, k, i, f, a, cell, h1, h2, h3, h4, h5, h6, h7, h8, h9, h10⟩ := h
  exact ⟨c, k, i, f, a, cell, h1, h2, h3, h4, by rw [hq a (Array.getElem?_eq_some_iff.mp h5).1 h10]; exact h5, h6, h7, h8, h9, h10⟩
theorem vx_L.narrow {C n d : String} {A B : Nat → Prop} {U : State} {H : Heap} (h : vx_L C n d A U H) (hAB : ∀ q, B q → A q) : vx_L C n d B U H := by
  obtain ⟨c, k, i, f, a, cell, h1, h2, h3, h4, h5, h6, h7, h8, h9, h10⟩ := h
  exact ⟨c, k, i, f, a, cell, h1, h2, h3, h4, h5, h6, h7, h8, h9, fun z => h10 (hAB _ z)⟩
theorem vx_L.word {C n d : String} {A : Nat → Prop} {s : State} {args : Array Value} (h : vx_L C n d A s s.heap) : (Cond.laysStatic C n d).before args s = true := by
  obtain ⟨c, k, i, f, a, cell, h1, h2, h3, h4, h5, h6, h7, h8, h9, -⟩ := h
  show (Cond.laysStatic C n d).holds args s none s [] = true
  exact Cond.laysStatic_of h1 h2 h3 h4 h5 h6 h7 h8 h9
/-- .. and what it holds: null or some reference -/
def vx_Zq (C n d : String) (A : Nat → Prop) (U : State) (H : Heap) : Prop := va_Zq C n d A U H ∧ vx_L C n d A U H
theorem vx_Zq.moved {C n d : String} {A : Nat → Prop} {u U : State} {H : Heap} (hvm : u.vm.Alike U.vm) (h : vx_Zq C n d A u H) : vx_Zq C n d A U H := ⟨va_Zq.moved hvm h.1, vx_L.moved hvm h.2⟩
theorem vx_Zq.kept {C n d : String} {A : Nat → Prop} {U : State} {H H1 : Heap} (h : vx_Zq C n d A U H) (hq : ∀ a : Nat, a < H.size → ¬ A a → H1[a]? = H[a]?) : vx_Zq C n d A U H1 := ⟨va_Zq.kept h.1 hq, vx_L.kept h.2 hq⟩
theorem vx_Zq.narrow {C n d : String} {A B : Nat → Prop} {U : State} {H : Heap} (h : vx_Zq C n d A U H) (hAB : ∀ q, B q → A q) : vx_Zq C n d B U H := ⟨va_Zq.narrow h.1 hAB, vx_L.narrow h.2 hAB⟩
theorem vx_Zqof {args : Array Value} {s : State} {C n d : String} {A : Nat → Prop} (hl : (Cond.laysStatic C n d).before args s = true) (hini : (Cond.initialized C).before args s = true) (h : (Cond.isRef (.static C n d)).before args s = true) (hA : ∀ a : Nat, a < s.heap.size → ¬ A a) : vx_Zq C n d A s s.heap := by
  refine ⟨va_Zqof hl hini h hA, ?_⟩
  obtain ⟨c, k, i, f, a, cell, h1, h2, h3, h4, h5, h6, h7, h8, h9⟩ := Cond.laysStatic_spec hl
  exact ⟨c, k, i, f, a, cell, h1, h2, h3, h4, h5, h6, h7, h8, h9, hA a (Array.getElem?_eq_some_iff.mp h5).1⟩
theorem vx_isRef {C n d : String} {v : Value} {A : Nat → Prop} {s : State} {args : Array Value} (h : va_Z C n d v A s s.heap) (hv : v.isRef = true) : (Cond.isRef (.static C n d)).before args s = true := by
  obtain ⟨cf, kf, fi, f, a, cell, h1, h2, h3, h4, h5, h6, h7, -⟩ := h
  have he : (Term.static C n d).eval args s none [] s = some v := by
    simp [Term.eval, State.fieldNamed?, h1, h2, h4, h5, h6, h7]
  simp only [Cond.before, Cond.holds, Cond.value, he]
  cases v <;> simp_all [Value.isRef]
theorem vx_isRefq {C n d : String} {A : Nat → Prop} {s : State} {args : Array Value} (h : va_Zq C n d A s s.heap) : (Cond.isRef (.static C n d)).before args s = true := by
  rcases h with h | ⟨t, h⟩
  · exact vx_isRef h rfl
  · exact vx_isRef h rfl
/-- the same frame, seen from here: as if the method were called anew in this heap -/
theorem vx_rebase {T : State} (X : Stand p l e R s m args below meth c T locs cells slots) {R' : Room} (hf : R'.frames ≤ R.frames) (hl : R'.locals ≤ R.locals) (hc : cells + R'.cells ≤ R.cells) (hs : slots + R'.slots ≤ R.slots) :
    Stand p l e R' ((T.setVm s.vm).setFrames (.invoking m args :: below)) m args below meth c T [] 0 0 := by
  have htop : (T.setVm s.vm).topJava?.isSome := X.here.top
  have hF : ((T.setVm s.vm).setFrames (.invoking m args :: below)).frames = .invoking m args :: below := State.frames_setFrames _ (State.cur_lt_of_top htop)
  obtain ⟨g₀, hg0⟩ := Option.isSome_iff_exists.mp htop
  obtain ⟨r, hr⟩ := State.topJava?_eq_some.mp hg0
  have hl9 : e.platform.stackLimits (T.setVm s.vm).me = e.platform.stackLimits s.me := X.limits
  have hb9 : (T.setVm s.vm).me.stackBytes = s.me.stackBytes := X.bytes
  refine ⟨X.admits, X.cas, X.clock, hF, ?_, X.hears, X.method, X.code, X.here, X.tail, X.warmed, ?_, ?_, ?_⟩
  · have h := X.room
    have hU : ((T.setVm s.vm).setFrames (.invoking m args :: below)).localsInUse = s.localsInUse := by
      rw [State.localsInUse_invoking hF (meth := meth) (c := c) X.method X.code, State.localsInUse_invoking X.frames X.method X.code]
    simp only [State.hasRoom, Bool.and_eq_true, decide_eq_true_eq] at h ⊢
    obtain ⟨⟨⟨⟨h1, h2, h3, h4, h5, h6⟩, h7⟩, h8⟩, h9⟩ := h
    rw [X.frames, List.length_cons] at h2 h3
    have q1 := X.heapSize
    have q2 := X.used
    simp only [hF, hU, List.length_cons, State.stackLimits_setFrames, State.stackBytes_setFrames, hl9, hb9]
    refine ⟨⟨⟨⟨by omega, by omega, by omega, by omega, by omega, h6⟩, ?_⟩, ?_⟩, X.book⟩
    · show T.heap.size + R'.cells ≤ e.platform.maxCells
      omega
    · show T.slotsUsed + R'.slots ≤ e.platform.maxSlots
      omega
  · rw [State.stackLimits_setFrames]; rfl
  · rw [State.stackBytes_setFrames]; rfl
  · refine ⟨?_, Nat.le_refl _, Nat.le_refl _, ?_, ?_, fun a c9 h9 => ⟨c9, h9, rfl, rfl, fun _ _ => rfl⟩⟩
    · obtain ⟨t, ht, -⟩ := State.frames_cons hr
      show T.setVm s.vm = { ((T.setVm s.vm).setFrames (.invoking m args :: below)).setFrames (T.setVm s.vm).frames with heap := T.heap, slotsUsed := T.slotsUsed }
      rw [State.setFrames_setFrames, State.setFrames_self ht]
      rfl
    · show T.slotsUsed = T.slotsUsed + ((T.heap.toList.drop T.heap.size).map (·.slots.size)).sum
      rw [List.drop_eq_nil_of_le (Nat.le_of_eq Array.length_toList)]
      rfl
    · show ((T.heap.toList.drop T.heap.size).map (·.slots.size)).sum ≤ 0
      rw [List.drop_eq_nil_of_le (Nat.le_of_eq Array.length_toList)]
      exact Nat.le_refl _
/-- 'throw new E()': new; dup; invokespecial; athrow -/
theorem vx_throw0 {cc : ByteArray} {pc : Nat} (hexec : p.tables.exec = Jvm.exec) (hb : c.code = cc) (hl : l.stackTraces = false) {own cls : String} {names : List String} {ik ic mc ms : Nat} {A : Nat → Prop}
    (hown : s.vm.findClass own = some m.cls) (hcls : Bundle.fit cls = true) (hnames : ∀ n ∈ names, Bundle.fit n = true)
    (hk : (Cond.classLink own ik cls).before args s = true) (hini : (Cond.initialized cls).before args s = true) (hat : ∀ w ∈ vx_at0 own ic cls names, w.before args s = true)
    (hgood : ∀ w ∈ Cond.classLink own ik cls :: Cond.initialized cls :: vx_at0 own ic cls names, vx_ot w = true)
    (hU : vx_Zq Bundle.tN "UNASSIGNED_STACK" Bundle.steD A s s.heap) (hN : vx_Zq Bundle.tN "SUPPRESSED_SENTINEL" Bundle.listD A s s.heap) (hS : va_S A s.heap H locs) (hsize : ls.size = c.maxLocals)
    (d0 : decode cc pc = .ok (.new ik, 3)) (d3 : decode cc (pc + 3) = .ok (.dup, 1)) (d4 : decode cc (pc + 4) = .ok (.invokespecial ic, 3)) (d7 : decode cc (pc + 7) = .ok (.athrow, 1))
    (hout : ∀ x ∈ c.exceptionTable.toList, covers x (pc + 7) = false)
    (hRframes : names.length + 3 < R.frames) (hRlocals : (rest.map fun v => v.category).sum + (13 * (names.length + 1) + 42) ≤ R.locals) (hRcells : cells + 1 ≤ R.cells) (hRslots : slots + 6 ≤ R.slots) (hlocks : meth.locks = false)
    (hx : ∀ t : State, s.vm.Alike t.vm → H.size ≤ t.heap.size → (∀ q : Nat, q < H.size → t.heap[q]? = H[q]?) → XC cls s t)
    (hf : ∀ z ∈ locs, free z.base) (hc : cells + 1 ≤ mc) (hs : slots + 6 ≤ ms) :
    W p l e R s m args below meth c H locs cells slots (vx_MQ below Qc XC args s mc ms free) (F0 m pc ls rest) := by
  intro T hT X
  have htr : e.platform.stackTraces = false := (show e.platform.stackTraces = l.stackTraces by rw [X.admits.platform]).trans hl
  have Y := vx_rebase X (R' := { frames := R.frames, locals := R.locals, cells := 1, slots := 6 }) (Nat.le_refl _) (Nat.le_refl _) hRcells hRslots
  obtain ⟨s', hA⟩ : ∃ z, z = (T.setVm s.vm).setFrames (.invoking m args :: below) := ⟨_, rfl⟩
  rw [← hA] at Y
  have hvm : s'.vm = s.vm := by rw [hA]; rfl
  have hhp : s'.heap = H := by rw [hA]; exact hT
  have hW0 : s.WarmedH s'.vm := by rw [hvm]; exact State.WarmedH.refl s
  have hat' : ∀ w ∈ vx_at0 own ic cls names, w.before args s' = true := fun w hw => vx_ot_at hW0 hvm.symm (hgood w (List.mem_cons_of_mem _ (List.mem_cons_of_mem _ hw))) (hat w hw)
  have hk' : (Cond.classLink own ik cls).before args s' = true := vx_ot_at hW0 hvm.symm (hgood _ List.mem_cons_self) hk
  have hini' : (Cond.initialized cls).before args s' = true := vx_ot_at hW0 hvm.symm (hgood _ (List.mem_cons_of_mem _ List.mem_cons_self)) hini
  have hU' : vx_Zq Bundle.tN "UNASSIGNED_STACK" Bundle.steD A s' s'.heap := by rw [hhp]; exact vx_Zq.moved hW0.alike (hU.kept hS.2.1)
  have hN' : vx_Zq Bundle.tN "SUPPRESSED_SENTINEL" Bundle.listD A s' s'.heap := by rw [hhp]; exact vx_Zq.moved hW0.alike (hN.kept hS.2.1)
  have h : ∀ w ∈ Bundle.ownAtoms0 own ic cls names, w.before args s' = true := vx_own hat' (vx_isRefq hU'.1) (vx_isRefq hN'.1) hU'.2.word hN'.2.word
  have hown' : s'.vm.findClass own = some m.cls := by rw [hvm]; exact hown
  have hins : (Cond.instantiable cls 6).before args s' = true := h _ (by simp [Bundle.ownAtoms0])
  obtain ⟨vm₁, cX, kX, hfX, hkX, -, -, X₁, st1⟩ := Y.newCold hexec (own := own) (C := cls) (index := ik) (n := 6) hown' hk' hins hini'
    (g := F0 m pc ls rest) rfl (by rw [hb]; exact d0) (Nat.le_refl _) (Nat.le_refl _)
  generalize hT1 : (T.setVm vm₁).pushCell { cls := cX, slots := kX.instanceTypes.map defaultValue, vm := .none } = T1 at X₁ st1
  have hcat : (Value.ref T.heap.size).category = 1 := rfl
  have hcellA : T1.heap[T.heap.size]? = some (freshCell cX kX) := by rw [← hT1]; exact State.heap_pushCell_size _ _
  have d3' : decode c.code (pc + 3) = .ok (.dup, 1) := by rw [hb]; exact d3
  obtain ⟨U, hsteps, hrun, hend, hW, hsame, ce, hce, hO⟩ := X₁.ctorThrow0 hexec htr (own := own) (cls := cls) (names := names) (ic := ic) hown' hcls hnames h (fun x hx => nomatch hx) hfX hkX hcellA (by rw [hhp, hT]; exact Nat.le_refl _)
    (g := { method := m, pc := pc + 4, locals := ls, stack := .ref T.heap.size :: .ref T.heap.size :: rest, locked := none }) rfl hsize rfl rfl (rest := rest) rfl
    (by rw [hb]; exact d4) (by rw [hb]; exact d7) hout hRframes (by simp only [List.map_cons, List.sum_cons, hcat]; omega) hlocks
  obtain ⟨f1, f2⟩ := vx_frame hsame
  rw [hhp] at f1 f2
  have hWs : s.WarmedH U.vm := State.WarmedH.trans hW0 hW
  have hcl : s.vm.findClass cls = some ce.cls := by
    have h9 := hO.cls
    rw [hvm] at h9
    exact h9
  have hall : s.sameButNew ({ U with vm := s.vm } : State) locs mc ms := by
    subst hA
    obtain ⟨e1, e2⟩ := hsame
    rw [State.setFrames_setFrames] at e1
    have h2 : (T.setVm s.vm).sameButNew ({ U with vm := s.vm } : State) [] (0 + 1) (0 + 6) := ⟨e1, e2⟩
    have h3 := X.same.trans h2
    rw [List.append_nil] at h3
    exact h3.mono hc hs
  refine ⟨U, ?_, .threw T.heap.size, hrun, hend, Or.inr ⟨T.heap.size, rfl, cls, ce, locs, hx U hWs.alike f1 (fun q hq => f2 q hq (fun z hz => nomatch hz)), hce, hO.vm, hcl, hWs, hall, hf⟩⟩
  refine st1 _ ?_
  show Steps p.tables e below (T1.setTop { method := m, pc := pc + 3, locals := ls, stack := .ref T.heap.size :: rest, locked := none }) _
  jvm_step X₁.here [X₁.here.top, hexec, d3', Value.category]
  exact hsteps
/-- 'throw new E("text")': new; dup; ldc; invokespecial; athrow -/
theorem vx_throwS {cc : ByteArray} {pc : Nat} (hexec : p.tables.exec = Jvm.exec) (hb : c.code = cc) (hl : l.stackTraces = false) {own cls text : String} {names : List String} {ik is ic mc ms sa : Nat} {A : Nat → Prop}
    (hown : s.vm.findClass own = some m.cls) (hcls : Bundle.fit cls = true) (hnames : ∀ n ∈ names, Bundle.fit n = true)
    (hk : (Cond.classLink own ik cls).before args s = true) (hini : (Cond.initialized cls).before args s = true) (hstr : vk_R own is text sa s) (hat : ∀ w ∈ vx_atS own ic cls names, w.before args s = true)
    (hgood : ∀ w ∈ Cond.classLink own ik cls :: Cond.initialized cls :: vx_atS own ic cls names, vx_ot w = true)
    (hU : vx_Zq Bundle.tN "UNASSIGNED_STACK" Bundle.steD A s s.heap) (hN : vx_Zq Bundle.tN "SUPPRESSED_SENTINEL" Bundle.listD A s s.heap) (hS : va_S A s.heap H locs) (hsize : ls.size = c.maxLocals)
    (d0 : decode cc pc = .ok (.new ik, 3)) (d3 : decode cc (pc + 3) = .ok (.dup, 1)) (d4 : decode cc (pc + 4) = .ok (.ldc is, 2)) (d6 : decode cc (pc + 6) = .ok (.invokespecial ic, 3)) (d9 : decode cc (pc + 9) = .ok (.athrow, 1))
    (hout : ∀ x ∈ c.exceptionTable.toList, covers x (pc + 9) = false)
    (hRframes : names.length + 3 < R.frames) (hRlocals : (rest.map fun v => v.category).sum + (13 * (names.length + 1) + 43) ≤ R.locals) (hRcells : cells + 1 ≤ R.cells) (hRslots : slots + 6 ≤ R.slots) (hlocks : meth.locks = false)
    (hx : ∀ t : State, s.vm.Alike t.vm → H.size ≤ t.heap.size → (∀ q : Nat, q < H.size → t.heap[q]? = H[q]?) → XC cls s t)
    (hf : ∀ z ∈ locs, free z.base) (hc : cells + 1 ≤ mc) (hs : slots + 6 ≤ ms) :
    W p l e R s m args below meth c H locs cells slots (vx_MQ below Qc XC args s mc ms free) (F0 m pc ls rest) := by
  intro T hT X
  have htr : e.platform.stackTraces = false := (show e.platform.stackTraces = l.stackTraces by rw [X.admits.platform]).trans hl
  have Y := vx_rebase X (R' := { frames := R.frames, locals := R.locals, cells := 1, slots := 6 }) (Nat.le_refl _) (Nat.le_refl _) hRcells hRslots
  obtain ⟨s', hA⟩ : ∃ z, z = (T.setVm s.vm).setFrames (.invoking m args :: below) := ⟨_, rfl⟩
  rw [← hA] at Y
  have hvm : s'.vm = s.vm := by rw [hA]; rfl
  have hhp : s'.heap = H := by rw [hA]; exact hT
  have hW0 : s.WarmedH s'.vm := by rw [hvm]; exact State.WarmedH.refl s
  have hat' : ∀ w ∈ vx_atS own ic cls names, w.before args s' = true := fun w hw => vx_ot_at hW0 hvm.symm (hgood w (List.mem_cons_of_mem _ (List.mem_cons_of_mem _ hw))) (hat w hw)
  have hk' : (Cond.classLink own ik cls).before args s' = true := vx_ot_at hW0 hvm.symm (hgood _ List.mem_cons_self) hk
  have hini' : (Cond.initialized cls).before args s' = true := vx_ot_at hW0 hvm.symm (hgood _ (List.mem_cons_of_mem _ List.mem_cons_self)) hini
  have hU' : vx_Zq Bundle.tN "UNASSIGNED_STACK" Bundle.steD A s' s'.heap := by rw [hhp]; exact vx_Zq.moved hW0.alike (hU.kept hS.2.1)
  have hN' : vx_Zq Bundle.tN "SUPPRESSED_SENTINEL" Bundle.listD A s' s'.heap := by rw [hhp]; exact vx_Zq.moved hW0.alike (hN.kept hS.2.1)
  have h : ∀ w ∈ Bundle.ownAtoms own ic cls names, w.before args s' = true := vx_own hat' (vx_isRefq hU'.1) (vx_isRefq hN'.1) hU'.2.word hN'.2.word
  have hown' : s'.vm.findClass own = some m.cls := by rw [hvm]; exact hown
  have hins : (Cond.instantiable cls 6).before args s' = true := h _ (by simp [Bundle.ownAtoms])
  obtain ⟨vm₁, cX, kX, hfX, hkX, -, -, X₁, st1⟩ := Y.newCold hexec (own := own) (C := cls) (index := ik) (n := 6) hown' hk' hins hini'
    (g := F0 m pc ls rest) rfl (by rw [hb]; exact d0) (Nat.le_refl _) (Nat.le_refl _)
  generalize hT1 : (T.setVm vm₁).pushCell { cls := cX, slots := kX.instanceTypes.map defaultValue, vm := .none } = T1 at X₁ st1
  have hcat : (Value.ref T.heap.size).category = 1 := rfl
  have hcellA : T1.heap[T.heap.size]? = some (freshCell cX kX) := by rw [← hT1]; exact State.heap_pushCell_size _ _
  have d3' : decode c.code (pc + 3) = .ok (.dup, 1) := by rw [hb]; exact d3
  have d4' : decode c.code (pc + 4) = .ok (.ldc is, 2) := by rw [hb]; exact d4
  have hstr' : vk_R own is text sa s' := vk_R.warm hW0 hstr
  obtain ⟨U, hsteps, hrun, hend, hW, hsame, ce, hce, hO⟩ := X₁.ctorThrowS hexec htr (own := own) (cls := cls) (names := names) (ic := ic) hown' hcls hnames h (fun x hx => nomatch hx) hfX hkX hcellA (by rw [hhp, hT]; exact Nat.le_refl _) (msg := .ref sa) rfl
    (g := { method := m, pc := pc + 6, locals := ls, stack := .ref sa :: .ref T.heap.size :: .ref T.heap.size :: rest, locked := none }) rfl hsize rfl rfl (rest := rest) rfl
    (by rw [hb]; exact d6) (by rw [hb]; exact d9) hout hRframes (by simp only [List.map_cons, List.sum_cons, hcat]; omega) hlocks
  obtain ⟨f1, f2⟩ := vx_frame hsame
  rw [hhp] at f1 f2
  have hWs : s.WarmedH U.vm := State.WarmedH.trans hW0 hW
  have hcl : s.vm.findClass cls = some ce.cls := by
    have h9 := hO.cls
    rw [hvm] at h9
    exact h9
  have hall : s.sameButNew ({ U with vm := s.vm } : State) locs mc ms := by
    subst hA
    obtain ⟨e1, e2⟩ := hsame
    rw [State.setFrames_setFrames] at e1
    have h2 : (T.setVm s.vm).sameButNew ({ U with vm := s.vm } : State) [] (0 + 1) (0 + 6) := ⟨e1, e2⟩
    have h3 := X.same.trans h2
    rw [List.append_nil] at h3
    exact h3.mono hc hs
  refine ⟨U, ?_, .threw T.heap.size, hrun, hend, Or.inr ⟨T.heap.size, rfl, cls, ce, locs, hx U hWs.alike f1 (fun q hq => f2 q hq (fun z hz => nomatch hz)), hce, hO.vm, hcl, hWs, hall, hf⟩⟩
  refine st1 _ ?_
  show Steps p.tables e below (T1.setTop { method := m, pc := pc + 3, locals := ls, stack := .ref T.heap.size :: rest, locked := none }) _
  jvm_step X₁.here [X₁.here.top, hexec, d3', Value.category]
  exact X₁.ldcString hexec (own := own) (text := text) (index := is) (a := sa) hown' hstr'.1 hstr'.2
    (g := { method := m, pc := pc + 4, locals := ls, stack := .ref T.heap.size :: .ref T.heap.size :: rest, locked := none }) rfl d4' _ hsteps
/-- 'throw new E("text")', the text by a wide index -/
theorem vx_throwSW {cc : ByteArray} {pc : Nat} (hexec : p.tables.exec = Jvm.exec) (hb : c.code = cc) (hl : l.stackTraces = false) {own cls text : String} {names : List String} {ik is ic mc ms sa : Nat} {A : Nat → Prop}
    (hown : s.vm.findClass own = some m.cls) (hcls : Bundle.fit cls = true) (hnames : ∀ n ∈ names, Bundle.fit n = true)
    (hk : (Cond.classLink own ik cls).before args s = true) (hini : (Cond.initialized cls).before args s = true) (hstr : vk_R own is text sa s) (hat : ∀ w ∈ vx_atS own ic cls names, w.before args s = true)
    (hgood : ∀ w ∈ Cond.classLink own ik cls :: Cond.initialized cls :: vx_atS own ic cls names, vx_ot w = true)
    (hU : vx_Zq Bundle.tN "UNASSIGNED_STACK" Bundle.steD A s s.heap) (hN : vx_Zq Bundle.tN "SUPPRESSED_SENTINEL" Bundle.listD A s s.heap) (hS : va_S A s.heap H locs) (hsize : ls.size = c.maxLocals)
    (d0 : decode cc pc = .ok (.new ik, 3)) (d3 : decode cc (pc + 3) = .ok (.dup, 1)) (d4 : decode cc (pc + 4) = .ok (.ldc_w is, 3)) (d7 : decode cc (pc + 7) = .ok (.invokespecial ic, 3)) (d10 : decode cc (pc + 10) = .ok (.athrow, 1))
    (hout : ∀ x ∈ c.exceptionTable.toList, covers x (pc + 10) = false)
    (hRframes : names.length + 3 < R.frames) (hRlocals : (rest.map fun v => v.category).sum + (13 * (names.length + 1) + 43) ≤ R.locals) (hRcells : cells + 1 ≤ R.cells) (hRslots : slots + 6 ≤ R.slots) (hlocks : meth.locks = false)
    (hx : ∀ t : State, s.vm.Alike t.vm → H.size ≤ t.heap.size → (∀ q : Nat, q < H.size → t.heap[q]? = H[q]?) → XC cls s t)
    (hf : ∀ z ∈ locs, free z.base) (hc : cells + 1 ≤ mc) (hs : slots + 6 ≤ ms) :
    W p l e R s m args below meth c H locs cells slots (vx_MQ below Qc XC args s mc ms free) (F0 m pc ls rest) := by
  intro T hT X
  have htr : e.platform.stackTraces = false := (show e.platform.stackTraces = l.stackTraces by rw [X.admits.platform]).trans hl
  have Y := vx_rebase X (R' := { frames := R.frames, locals := R.locals, cells := 1, slots := 6 }) (Nat.le_refl _) (Nat.le_refl _) hRcells hRslots
  obtain ⟨s', hA⟩ : ∃ z, z = (T.setVm s.vm).setFrames (.invoking m args :: below) := ⟨_, rfl⟩
  rw [← hA] at Y
  have hvm : s'.vm = s.vm := by rw [hA]; rfl
  have hhp : s'.heap = H := by rw [hA]; exact hT
  have hW0 : s.WarmedH s'.vm := by rw [hvm]; exact State.WarmedH.refl s
  have hat' : ∀ w ∈ vx_atS own ic cls names, w.before args s' = true := fun w hw => vx_ot_at hW0 hvm.symm (hgood w (List.mem_cons_of_mem _ (List.mem_cons_of_mem _ hw))) (hat w hw)
  have hk' : (Cond.classLink own ik cls).before args s' = true := vx_ot_at hW0 hvm.symm (hgood _ List.mem_cons_self) hk
  have hini' : (Cond.initialized cls).before args s' = true := vx_ot_at hW0 hvm.symm (hgood _ (List.mem_cons_of_mem _ List.mem_cons_self)) hini
  have hU' : vx_Zq Bundle.tN "UNASSIGNED_STACK" Bundle.steD A s' s'.heap := by rw [hhp]; exact vx_Zq.moved hW0.alike (hU.kept hS.2.1)
  have hN' : vx_Zq Bundle.tN "SUPPRESSED_SENTINEL" Bundle.listD A s' s'.heap := by rw [hhp]; exact vx_Zq.moved hW0.alike (hN.kept hS.2.1)
  have h : ∀ w ∈ Bundle.ownAtoms own ic cls names, w.before args s' = true := vx_own hat' (vx_isRefq hU'.1) (vx_isRefq hN'.1) hU'.2.word hN'.2.word
  have hown' : s'.vm.findClass own = some m.cls := by rw [hvm]; exact hown
  have hins : (Cond.instantiable cls 6).before args s' = true := h _ (by simp [Bundle.ownAtoms])
  obtain ⟨vm₁, cX, kX, hfX, hkX, -, -, X₁, st1⟩ := Y.newCold hexec (own := own) (C := cls) (index := ik) (n := 6) hown' hk' hins hini'
    (g := F0 m pc ls rest) rfl (by rw [hb]; exact d0) (Nat.le_refl _) (Nat.le_refl _)
  generalize hT1 : (T.setVm vm₁).pushCell { cls := cX, slots := kX.instanceTypes.map defaultValue, vm := .none } = T1 at X₁ st1
  have hcat : (Value.ref T.heap.size).category = 1 := rfl
  have hcellA : T1.heap[T.heap.size]? = some (freshCell cX kX) := by rw [← hT1]; exact State.heap_pushCell_size _ _
  have d3' : decode c.code (pc + 3) = .ok (.dup, 1) := by rw [hb]; exact d3
  have d4' : decode c.code (pc + 4) = .ok (.ldc_w is, 3) := by rw [hb]; exact d4
  have hstr' : vk_R own is text sa s' := vk_R.warm hW0 hstr
  obtain ⟨U, hsteps, hrun, hend, hW, hsame, ce, hce, hO⟩ := X₁.ctorThrowS hexec htr (own := own) (cls := cls) (names := names) (ic := ic) hown' hcls hnames h (fun x hx => nomatch hx) hfX hkX hcellA (by rw [hhp, hT]; exact Nat.le_refl _) (msg := .ref sa) rfl
    (g := { method := m, pc := pc + 7, locals := ls, stack := .ref sa :: .ref T.heap.size :: .ref T.heap.size :: rest, locked := none }) rfl hsize rfl rfl (rest := rest) rfl
    (by rw [hb]; exact d7) (by rw [hb]; exact d10) hout hRframes (by simp only [List.map_cons, List.sum_cons, hcat]; omega) hlocks
  obtain ⟨f1, f2⟩ := vx_frame hsame
  rw [hhp] at f1 f2
  have hWs : s.WarmedH U.vm := State.WarmedH.trans hW0 hW
  have hcl : s.vm.findClass cls = some ce.cls := by
    have h9 := hO.cls
    rw [hvm] at h9
    exact h9
  have hall : s.sameButNew ({ U with vm := s.vm } : State) locs mc ms := by
    subst hA
    obtain ⟨e1, e2⟩ := hsame
    rw [State.setFrames_setFrames] at e1
    have h2 : (T.setVm s.vm).sameButNew ({ U with vm := s.vm } : State) [] (0 + 1) (0 + 6) := ⟨e1, e2⟩
    have h3 := X.same.trans h2
    rw [List.append_nil] at h3
    exact h3.mono hc hs
  refine ⟨U, ?_, .threw T.heap.size, hrun, hend, Or.inr ⟨T.heap.size, rfl, cls, ce, locs, hx U hWs.alike f1 (fun q hq => f2 q hq (fun z hz => nomatch hz)), hce, hO.vm, hcl, hWs, hall, hf⟩⟩
  refine st1 _ ?_
  show Steps p.tables e below (T1.setTop { method := m, pc := pc + 3, locals := ls, stack := .ref T.heap.size :: rest, locked := none }) _
  jvm_step X₁.here [X₁.here.top, hexec, d3', Value.category]
  exact X₁.ldcStringW hexec (own := own) (text := text) (index := is) (a := sa) hown' hstr'.1 hstr'.2
    (g := { method := m, pc := pc + 4, locals := ls, stack := .ref T.heap.size :: .ref T.heap.size :: rest, locked := none }) rfl d4' _ hsteps
end Ends
section Bodies
variable {l : Launch}
theorem vx_ofW {y : MethodName} {ws ws' : List Cond} {rm : Room} {Pc : Array Value → State → Prop} {Qc : Array Value → State → Outcome → State → Prop} {XC : String → State → State → Prop} {mc ms : Nat} {free : Addr → Prop} {cc : ByteArray} {maxL : Nat} {ret : Option FieldType}
    (hy : plainName y.cls = true) (hw : ws = Cond.code y cc maxL ret :: ws')
    (body : ∀ p e s m args below meth c s₁, BodyLoose p l y (headSpec ws rm) cc maxL ret e s m args below meth c s₁ → c.maxLocals = maxL → (∀ x ∈ c.exceptionTable.toList, False) → Pc args s →
      W p l e (headSpec ws rm).room s m args below meth c s.heap [] 0 0 (vx_MQ below Qc XC args s mc ms free) (entryFrame m args maxL)) : vx_Met l y ws rm Pc Qc XC mc ms free := by
  refine MetFree.of_bodyS (code := cc) (maxLocals := maxL) (ret := ret) hy ?_ ?_
  · intro args s m h hn
    obtain ⟨meth, c, h1, h2, h3, h4, h5, h6, -, -⟩ := Cond.code_spec hn (atoms_spec (ws := ws) h _ (by rw [hw]; exact List.mem_cons_self))
    exact ⟨meth, c, h1, h2, h3, h4, h5, h6⟩
  · intro p e s m args below meth c s₁ B hml hP _
    have hh0 : s₁.heap = s.heap := by rw [B.state]; rfl
    have ht : ∀ x ∈ c.exceptionTable.toList, False := by
      obtain ⟨meth9, c9, h1, h2, -, -, -, -, h7, -⟩ := Cond.code_spec B.named (atoms_spec (ws := ws) B.pre _ (by rw [hw]; exact List.mem_cons_self))
      cases Option.some.inj (h1.symm.trans B.method)
      cases Option.some.inj (h2.symm.trans (Stand.of_body B).code)
      intro x hx
      rw [Array.isEmpty_iff.mp h7] at hx
      cases hx
    obtain ⟨t, a1, o, b1, b2, b3⟩ := body p e s m args below meth c s₁ B hml ht hP s₁ hh0 (Stand.of_body B)
    exact ⟨t, o, a1, b1, b2, b3⟩
/-- the table of a body with handlers -/
theorem vx_table {p : Program} {x y : MethodName} {S : Spec} {cc bytes : ByteArray} {maxL maxL' : Nat} {ret ret' : Option FieldType} {e : Env} {s s₁ : State} {m : MethodId} {args : Array Value} {below : List Frame} {meth : Method} {c : Code} {hh : List (Nat × Nat × Nat × Nat)}
    (B : BodyLoose p l y S cc maxL ret e s m args below meth c s₁) (h : (Cond.codeWith y bytes maxL' ret' hh).before args s = true) : c.exceptionTable.toList = tableOf hh := by
  obtain ⟨m9, meth9, c9, hn9, h1, h2, -, -, h6, -⟩ := Cond.codeWith_spec h
  cases Option.some.inj (hn9.symm.trans B.named)
  cases Option.some.inj (h1.symm.trans B.method)
  cases Option.some.inj (h2.symm.trans (Stand.of_body B).code)
  rw [← h6, table_eq]
end Bodies
end VXA
/-! ===== END ===== -/
/-! ===== BEGIN a static call of a method with an exception table ===== -/
section VXS
variable {p : Program} {l : Launch} {e : Env} {R : Room} {s : State} {m : MethodId} {args : Array Value} {below : List Frame} {meth : Method} {c : Code} {T : State} {H : Heap} {locs : List Loc} {cells slots : Nat}
abbrev vx_CSW (R : Room) (s : State) (args : Array Value) (own : String) (index : Nat) (y : MethodName) (bytes : ByteArray) (maxL : Nat) (ret : Option FieldType) (hh : List (Nat × Nat × Nat × Nat)) (ws : List Cond) (rm : Room) (mc ms n : Nat) : Prop :=
  (rm.cells = mc ∧ rm.slots = ms ∧ rm.frames + 1 ≤ R.frames ∧ 8 + (maxL + 11) + rm.locals ≤ R.locals ∧ (∀ w ∈ ws, ∀ (a' : Array Value) (U : State), s.WarmedH U.vm → w.before a' U = true) ∧ Cond.codeWith y bytes maxL ret hh ∈ ws) ∧
  (Cond.codeWith y bytes maxL ret hh).before args s = true ∧ (Cond.initialized y.cls).before args s = true ∧ (y.cls ≠ "java/lang/invoke/MethodHandle" ∧ y.cls ≠ "java/lang/invoke/VarHandle") ∧
  (∀ sig, parseMethodDescriptor y.desc = some sig → n = sig.parameters.length) ∧ (Cond.methodLink own index y).before args s = true ∧ (Cond.static y).before args s = true
theorem vx_cwSW {own : String} {index maxL mc ms : Nat} {y : MethodName} {bytes : ByteArray} {ret : Option FieldType} {hh : List (Nat × Nat × Nat × Nat)} {Ts ws ws' : List Cond} {rm : Room} (n : Nat) (ht : ∀ w ∈ Ts, w.before args s = true) (hT : GoodIn Ts (va_wsS own index y ws)) (hw : ws = Cond.codeWith y bytes maxL ret hh :: ws') (hrc : rm.cells = mc) (hrs : rm.slots = ms)
    (hd : y.cls ≠ "java/lang/invoke/MethodHandle" ∧ y.cls ≠ "java/lang/invoke/VarHandle" ∧ (parseMethodDescriptor y.desc).map (fun d => d.parameters.length) = some n) (hR : rm.frames + 1 ≤ R.frames ∧ 8 + (maxL + 11) + rm.locals ≤ R.locals) :
    vx_CSW R s args own index y bytes maxL ret hh ws rm mc ms n := by
  have ok : ∀ w ∈ va_wsS own index y ws, w.before args s = true := fun w h => ht w (hT w h).1
  have hG : GoodIn Ts ws := fun w h => hT w (by unfold va_wsS; exact List.mem_append_right _ h)
  have hc : Cond.codeWith y bytes maxL ret hh ∈ ws := by rw [hw]; exact List.mem_cons_self
  refine ⟨⟨hrc, hrs, hR.1, hR.2, pay_in ht hG, hc⟩, ht _ (hG _ hc).1, ok _ (by simp [va_wsS]), ⟨hd.1, hd.2.1⟩, fun sig h => ?_, ok _ (by simp [va_wsS]), ok _ (by simp [va_wsS])⟩
  have h2 := hd.2.2
  rw [h] at h2
  exact (Option.some.inj h2).symm
theorem vx_callSW (X : Stand p l e R s m args below meth c T locs cells slots) (hexec : p.tables.exec = Jvm.exec) {own : String} {index : Nat} {y : MethodName} {bytes : ByteArray} {maxL : Nat} {ret : Option FieldType} {hh : List (Nat × Nat × Nat × Nat)}
    (hown : s.vm.findClass own = some m.cls) (hlink : (Cond.methodLink own index y).before args s = true) (hstat : (Cond.static y).before args s = true) (hinit : (Cond.initialized y.cls).before args s = true)
    (hcode : (Cond.codeWith y bytes maxL ret hh).before args s = true) (hy : y.cls ≠ "java/lang/invoke/MethodHandle" ∧ y.cls ≠ "java/lang/invoke/VarHandle")
    {W9 : Nat} {Pre : Pt → Array Value → Prop} {Post : Pt → Array Value → Option Value → Pt → Prop} (hK : Back l R p e below s args y 3 W9 Pre Post)
    {g : JFrame} (hg : g.method = m) (hsize : g.locals.size = c.maxLocals) {argsL rest : List Value} (hlen : ∀ sig, parseMethodDescriptor y.desc = some sig → argsL.length = sig.parameters.length)
    (hstack : g.stack = argsL.reverse ++ rest) (hW : 2 * g.monitorRoom + (rest.map fun v => v.category).sum ≤ W9) (hdg : decode c.code g.pc = .ok (.invokestatic index, 3))
    (hpre : ∀ vm₁, s.WarmedH vm₁ → Pre ⟨T.setVm vm₁, locs, cells, slots⟩ argsL.toArray) :
    ∃ (v : Option Value) (vm₁ : Vm) (B : Pt), s.WarmedH vm₁ ∧ Stand p l e R s m args below meth c B.U B.locs B.cells B.slots ∧ Post ⟨T.setVm vm₁, locs, cells, slots⟩ argsL.toArray v B ∧
      ∀ target, Steps p.tables e below (B.U.setTop { g with pc := g.pc + 3, stack := v.toList ++ rest }) target → Steps p.tables e below (T.setTop g) target := by
  obtain ⟨mk, methM, cM, hnamed, hmethM, -, -, -, -, -, -, hsigM⟩ := Cond.codeWith_spec hcode
  have hstatic : methM.isStatic = true := Cond.static_spec hnamed hmethM hstat
  obtain ⟨kP, hkP, -⟩ := className_of_methodNamed hnamed
  have hinitP : kP.init = .initialized := Cond.initialized_spec (findClass_of_methodNamed hnamed) hkP hinit
  obtain ⟨vm₁, X₁, hstep₁⟩ := X.invokestatic hexec hown hlink hnamed hmethM hstatic hkP hinitP hy (g := g) hg (argsL := argsL) (rest := rest) (hlen _ hsigM) hstack hdg
  obtain ⟨v, B, X', hpost, hsteps⟩ := hK m meth c ⟨T.setVm vm₁, locs, cells, slots⟩ { g with stack := rest } (.invokestatic index) mk argsL.toArray X₁ hg hsize hdg hW (X₁.named hnamed) (hpre vm₁ X₁.warmed)
  exact ⟨v, vm₁, B, X₁.warmed, X', hpost, fun target h => hstep₁ _ fun acts => by rw [doInvoke_state]; exact hsteps.trans h⟩
theorem vx_runSW {y : MethodName} {bytes cc : ByteArray} {maxL nL mc ms n index : Nat} {ret : Option FieldType} {hh : List (Nat × Nat × Nat × Nat)} {ws : List Cond} {rm : Room} {Pc : Array Value → State → Prop} {Qc : Array Value → State → Outcome → State → Prop} {free : Addr → Prop} {Ts : List Cond} {own : String} {As rest : List Value} {g : JFrame}
    (S : CallFix p m c cc nL s args Ts own) (hM : Met l y ws rm Pc Qc mc ms free) (cw : vx_CSW R s args own index y bytes maxL ret hh ws rm mc ms n) (hp : PreS s H Pc As)
    (hg : g.method = m) (hn : As.length = n) (hsize : g.locals.size = nL) (hstack : g.stack = As.reverse ++ rest) (hW : 2 * g.monitorRoom + (rest.map fun v => v.category).sum ≤ 8) (hdg : decode cc g.pc = .ok (.invokestatic index, 3)) (hf : cells + mc ≤ R.cells ∧ slots + ms ≤ R.slots) :
    va_Run p l e R s m args below meth c H locs cells slots mc ms g rest (Qc As.toArray) (free) := by
  obtain ⟨⟨hrc, hrs, hfr, hlo, hws, hcw⟩, hcode, hini, hy, hlen, hl, hstt⟩ := cw
  have hK : Back l R p e below s args y 3 8 (PreOf R mc ms Pc) (PostOf Qc mc ms free) := va_backW (hh := hh) (bytes := bytes) (maxL := maxL) (ret := ret) hM hp.1 hrc hrs hfr hlo hws hcw (fun a' U hW => word_at hW (Or.inl (by first | rfl | simp [Cond.onTables, Cond.keeps, Cond.steady])) hini)
  obtain ⟨hx, hb, hml, ho, -⟩ := S
  intro T hT X
  obtain ⟨v, vm₁, ⟨U', l2, c2, s2⟩, hW₁, X', ⟨g', mk, t, L, e1, e2, hq, h1, hL, h2, h3⟩, st⟩ := vx_callSW X hx (hh := hh) (bytes := bytes) (maxL := maxL) (ret := ret) ho hl hstt hini hcode hy hK hg (hsize.trans hml.symm) (argsL := As) (rest := rest) (fun sig h => hn.trans (hlen sig h)) hstack hW (by rw [hb]; exact hdg)
    (fun vm₁ hW₁ => ⟨hf.1, hf.2, hp.2 (T.setVm vm₁) hT hW₁⟩)
  dsimp only [Pt.U, Pt.locs, Pt.cells, Pt.slots] at X' e1 e2 h1 h2 h3 st
  subst h1; subst h2; subst h3
  exact ⟨v, (T.setVm vm₁).calling g' mk As.toArray, t, U', L, hT, X', hL, e1, e2, hq, st⟩
/-- not caught here, past rows that name other classes: it goes on to the caller -/
theorem vx_outP {p : Program} {l : Launch} {e : Env} {R : Room} {s : State} {m : MethodId} {args : Array Value} {below : List Frame} {meth : Method} {c : Code} {H : Heap} {locs : List Loc} {cells slots : Nat} {free : Addr → Prop} {ls : Array Slot} {rest : List Value} {Qc : Array Value → State → Outcome → State → Prop} {XC : String → State → State → Prop}
    {pc : Nat} {own E : String} {ce : Cell} {q : Addr} {mc ms : Nat} (hown : s.vm.findClass own = some m.cls) (hlocks : meth.locks = false)
    (hpass : ∀ z ∈ c.exceptionTable.toList, covers z pc = false ∨ (z.catchType ≠ 0 ∧ ∃ nm : String, (Cond.classLink own z.catchType nm).before args s = true ∧ va_Nc E nm s)) (hcell : H[q]? = some ce) (hv : ce.vm = .none) (hcl : s.vm.findClass E = some ce.cls)
    (hx : ∀ t : State, t.heap = H → s.vm.Alike t.vm → XC E s t) (hf : ∀ z ∈ locs, free z.base) (hc : cells ≤ mc) (hs : slots ≤ ms) :
    vx_W p l e R s m args below meth c H locs cells slots (vx_MQ below Qc XC args s mc ms free) (F0 m pc ls rest) q := by
  intro T hT X
  have hpl : e.platform.magicAccessors = ({} : Platform).magicAccessors := by rw [X.admits.platform]
  obtain ⟨vm', hW', X', st⟩ := X.outThrough hlocks q (g := F0 m pc ls rest) rfl rfl rfl (cell := ce) (by rw [hT]; exact hcell) (by rw [hv]; rfl)
    (by obtain ⟨k9, h9, -⟩ := Vm.findClass_spec hcl; exact ⟨k9, h9⟩) (fun z hz => by
      rcases hpass z hz with h | ⟨hz0, nm, hl1, hn1⟩
      · exact Or.inl h
      · obtain ⟨c6, hc6, hcl6⟩ := Cond.classLink_spec hown hl1 e.platform hpl
        obtain ⟨a8, b8, h1, h2, h3⟩ := hn1
        cases Option.some.inj (h1.symm.trans hcl)
        cases Option.some.inj (h2.symm.trans hc6)
        exact Or.inr ⟨hz0, _, hcl6, h3⟩)
  obtain ⟨g₀, hfr⟩ := X'.frames_eq
  have hcell9 : ((T.setVm vm').setFrames (.throwing q :: below)).heap[q]? = some ce := by
    show T.heap[q]? = some ce
    rw [hT]; exact hcell
  have hend : Ended ((T.setVm vm').setFrames (.throwing q :: below)) below (.threw q) := State.frames_setFrames _ (State.cur_lt_of_frames hfr)
  refine ⟨(T.setVm vm').setFrames (.throwing q :: below), ?_, .threw q, X'.here.running, hend, Or.inr ⟨q, rfl, E, ce, locs, hx _ hT (X'.ends _).1.alike, hcell9, hv, hcl, (X'.ends _).1, (X'.ends _).2.mono hc hs, hf⟩⟩
  rw [X.pushThrowing_eq]
  exact st
/-- a thing of a world lies in the heap -/
theorem vx_lt {D : va_G} {cl : List vw_C} {ws : va_W} {H1 : Heap} (h : va_P D cl ws H1) {k : Nat} {q : Nat × va_E} (hk : ws[k]? = some q) : q.1 < H1.size := (h k q hk).lt
end VXS
/-! ===== END ===== -/
/-! ===== BEGIN methods with a table of their own: called by a name, returning or throwing ===== -/
section VXH
/-! vx_backW, vx_callVX, vx_callSX, vx_callVW, vx_runVW, vx_runVX, vx_runSX, vx_ofWH follow the same proofs as their sisters above (Free/Laws.lean, Shelf42/LK1.lean); vx_outP calls Shelf42/NT130.lean (outThrough). -/
section
variable {l : Launch} {R : Room} {p : Program} {e : Env} {below : List Frame} {s : State} {sargs : Array Value} {y : MethodName} {len W9 : Nat}
theorem vx_backW {ws : List Cond} {rm : Room} {Pc : Array Value → State → Prop} {Qc : Array Value → State → Outcome → State → Prop} {XC : String → State → State → Prop} {mc ms : Nat} {free : Addr → Prop} {bytes : ByteArray} {maxL : Nat} {ret : Option FieldType} {hh : List (Nat × Nat × Nat × Nat)}
    (hM : vx_Met l y ws rm Pc Qc XC mc ms free) (hblind : FrameBlind Pc) (hrc : rm.cells = mc) (hrs : rm.slots = ms)
    (hframes : rm.frames + 1 ≤ R.frames) (hlocals : W9 + (maxL + 11) + rm.locals ≤ R.locals)
    (hws : ∀ w ∈ ws, ∀ a' U, s.WarmedH U.vm → w.before a' U = true) (hcode : Cond.codeWith y bytes maxL ret hh ∈ ws) (hinit : ∀ a' U, s.WarmedH U.vm → (Cond.initialized y.cls).before a' U = true) :
    vx_Back l R p e below s sargs y len W9 (PreOf R mc ms Pc) (PostOf Qc mc ms free) (vx_Post XC mc ms free) := by
  intro m meth c A g ig mk a X hg hsize hdg hW hn hp
  have h1 : (headSpec ws rm).pre.before a A.U = true := atoms_intro fun w hw => hws w hw _ _ X.warmed
  have h2 : (Cond.codeWith y bytes maxL ret hh).before a A.U = true := hws _ hcode _ _ X.warmed
  have h3 : (Cond.initialized y.cls).before a A.U = true := hinit _ _ X.warmed
  have h4 : A.cells + (headSpec ws rm).room.cells ≤ R.cells := by rw [show (headSpec ws rm).room.cells = mc from hrc]; exact hp.1
  have h5 : A.slots + (headSpec ws rm).room.slots ≤ R.slots := by rw [show (headSpec ws rm).room.slots = ms from hrs]; exact hp.2.1
  have hPc : Pc a (A.U.calling g mk a) := hblind _ _ _ _ hp.2.2
  obtain ⟨U, Ls, c0, s0⟩ := A
  dsimp only [Pt.U, Pt.locs, Pt.cells, Pt.slots] at h1 h2 h3 h4 h5 X hn hPc ⊢
  obtain ⟨m9, methY, cY, hn9, hmY, hcY, -, hlY, -⟩ := Cond.codeWith_spec h2
  cases Option.some.inj (hn9.symm.trans hn)
  obtain ⟨kY, hkY, -⟩ := className_of_methodNamed hn
  have hinitY : kY.init = .initialized := Cond.initialized_spec (findClass_of_methodNamed hn) hkY h3
  have h : At U g.method c below := by rw [hg]; exact X.here
  have hlocals9 : W9 + (maxL + 11) + (headSpec ws rm).room.locals ≤ R.locals := hlocals
  have happ : (headSpec ws rm).appliesLoose y e.platform (U.calling g mk a) = true :=
    Spec.appliesLoose_calling (g := g) h hdg hn hkY hinitY
      (X.room_calling (g := g) (R' := (headSpec ws rm).room) hsize hmY hcY hframes (by rw [hlY]; omega) h4 h5) h1
  obtain ⟨mid, hmid⟩ := h.above
  have hfr : (U.setTop g).frames = (.java g :: mid) ++ below := by rw [State.frames_setTop' g h.top, hmid]; rfl
  obtain ⟨o, s₂, hsteps, -, hend, hq⟩ := Steps.callFree hM p X.admits X.cas X.clock (acts := []) hfr happ hPc trivial
  have hq' : vx_Q Qc XC mc ms free a (U.calling g mk a) o s₂ := hq
  rw [State.frames_setTop' g h.top] at hend
  obtain ⟨g₀, hg0⟩ := Option.isSome_iff_exists.mp h.top
  obtain ⟨r, hr⟩ := State.topJava?_eq_some.mp hg0
  have hr' : (({ U with heap := s₂.heap, slotsUsed := s₂.slotsUsed } : State).setVm s₂.vm).frames = .java g₀ :: r := hr
  rcases hq' with ⟨hqc, L, hfe, hL⟩ | ⟨q, rfl, E, ce, L, hx, hce, hcv, hcl, hW₂, hsm, hL⟩
  · obtain ⟨⟨v, rfl⟩, hW₂, e2, q2, q3, q4, q5, q6⟩ := id hfe
    have e3 : s₂ = ({ (U.calling g mk a).setFrames s₂.frames with heap := s₂.heap, slotsUsed := s₂.slotsUsed } : State).setVm s₂.vm := by
      have : s₂ = ({ s₂ with vm := (U.calling g mk a).vm } : State).setVm s₂.vm := rfl
      rw [e2] at this
      exact this
    obtain ⟨c₂, i₂, len₂, hc₂, hd₂, hf₂⟩ := hend
    have hW' : U.WarmedH s₂.vm := hW₂
    have hcc : c₂ = c := by
      have h1 : s₂.code? g.method = U.code? g.method := by
        rw [State.code?_eq, State.code?_eq, hW'.alike.method?]
      exact Option.some.inj (hc₂.symm.trans (h1.trans h.code))
    subst hcc
    have hlen : len₂ = len := by rw [hdg] at hd₂; cases hd₂; rfl
    subst hlen
    have hs₂ : s₂ = (({ U with heap := s₂.heap, slotsUsed := s₂.slotsUsed } : State).setVm s₂.vm).setTop { g with pc := g.pc + len₂, stack := v.toList ++ g.stack } := by
      refine e3.trans ?_
      rw [hf₂, State.calling_eq h.top, State.setFrames_setFrames, State.setTop_of_frames _ hr', hr]
      rfl
    have hsame : U.sameButNew ({ U with heap := s₂.heap, slotsUsed := s₂.slotsUsed } : State) L mc ms := by
      refine ⟨?_, q2, q3, q4, q5, q6⟩
      obtain ⟨t, ht, -⟩ := State.frames_cons hr
      show ({ U with heap := s₂.heap, slotsUsed := s₂.slotsUsed } : State) = { U.setFrames U.frames with heap := s₂.heap, slotsUsed := s₂.slotsUsed }
      rw [State.setFrames_self ht]
    subst hg
    refine Or.inl ⟨v, ⟨(({ U with heap := s₂.heap, slotsUsed := s₂.slotsUsed } : State).setVm s₂.vm), Ls ++ L, c0 + mc, s0 + ms⟩,
      ⟨X.admits, X.cas, X.clock, X.frames, X.room, X.hears, X.method, X.code, (X.here.setHeapUsed s₂.heap s₂.slotsUsed).setVm hW'.alike, X.tail, State.WarmedH.trans X.warmed hW', X.limits, X.bytes, X.same.trans (hsame.setVm s.vm)⟩,
      ⟨g, mk, s₂, L, rfl, rfl, hqc, rfl, hL, rfl, rfl⟩, ?_⟩
    show Steps p.tables e below _ ((({ U with heap := s₂.heap, slotsUsed := s₂.slotsUsed } : State).setVm s₂.vm).setTop { g with pc := g.pc + len₂, stack := v.toList ++ g.stack })
    rw [← hs₂]
    exact hsteps
  · obtain ⟨e2, q2, q3, q4, q5, q6⟩ := id hsm
    have e3 : s₂ = ({ (U.calling g mk a).setFrames s₂.frames with heap := s₂.heap, slotsUsed := s₂.slotsUsed } : State).setVm s₂.vm := by
      have : s₂ = ({ s₂ with vm := (U.calling g mk a).vm } : State).setVm s₂.vm := rfl
      rw [e2] at this
      exact this
    have hf₂ : s₂.frames = .throwing q :: .java g :: U.frames.tail := hend
    have hW' : U.WarmedH s₂.vm := hW₂
    have hs₂ : s₂ = ((({ U with heap := s₂.heap, slotsUsed := s₂.slotsUsed } : State).setVm s₂.vm).setTop g).pushFrame (.throwing q) := by
      refine e3.trans ?_
      rw [hf₂, State.calling_eq h.top, State.setFrames_setFrames, State.pushFrame, State.frames_setTop _ hr', State.setTop_of_frames _ hr', State.setFrames_setFrames, hr]
      rfl
    have hsame : U.sameButNew ({ U with heap := s₂.heap, slotsUsed := s₂.slotsUsed } : State) L mc ms := by
      refine ⟨?_, q2, q3, q4, q5, q6⟩
      obtain ⟨t, ht, -⟩ := State.frames_cons hr
      show ({ U with heap := s₂.heap, slotsUsed := s₂.slotsUsed } : State) = { U.setFrames U.frames with heap := s₂.heap, slotsUsed := s₂.slotsUsed }
      rw [State.setFrames_self ht]
    subst hg
    refine Or.inr ⟨q, ⟨(({ U with heap := s₂.heap, slotsUsed := s₂.slotsUsed } : State).setVm s₂.vm), Ls ++ L, c0 + mc, s0 + ms⟩,
      ⟨X.admits, X.cas, X.clock, X.frames, X.room, X.hears, X.method, X.code, (X.here.setHeapUsed s₂.heap s₂.slotsUsed).setVm hW'.alike, X.tail, State.WarmedH.trans X.warmed hW', X.limits, X.bytes, X.same.trans (hsame.setVm s.vm)⟩,
      ⟨g, mk, s₂, L, E, ce, rfl, rfl, hx, hce, hcv, hcl, rfl, hL, rfl, rfl⟩, ?_⟩
    show Steps p.tables e below _ (((({ U with heap := s₂.heap, slotsUsed := s₂.slotsUsed } : State).setVm s₂.vm).setTop g).pushFrame (.throwing q))
    rw [← hs₂]
    exact hsteps
end
variable {p : Program} {l : Launch} {e : Env} {R : Room} {s : State} {m : MethodId} {args : Array Value} {below : List Frame} {meth : Method} {c : Code} {T : State} {H : Heap} {locs : List Loc} {cells slots : Nat}
theorem vx_callVX (X : Stand p l e R s m args below meth c T locs cells slots) (hexec : p.tables.exec = Jvm.exec) {own C : String} {index : Nat} {y : MethodName} {bytes : ByteArray} {maxL : Nat} {ret : Option FieldType} {hh : List (Nat × Nat × Nat × Nat)}
    (hown : s.vm.findClass own = some m.cls) (hlink : (Cond.methodLink own index y).before args s = true) (hinst : (Cond.instanceMethod y).before args s = true) (hsel : (Cond.selects C y y).before args s = true)
    (hcode : (Cond.codeWith y bytes maxL ret hh).before args s = true) (hy : y.cls ≠ "java/lang/invoke/MethodHandle" ∧ y.cls ≠ "java/lang/invoke/VarHandle")
    {W9 : Nat} {Pre : Pt → Array Value → Prop} {Post : Pt → Array Value → Option Value → Pt → Prop} {PostX : Pt → Array Value → Addr → Pt → Prop} (hK : vx_Back l R p e below s args y 3 W9 Pre Post PostX)
    {b : Addr} {cellB : Cell} (hcell : T.heap[b]? = some cellB) (hobj : cellB.vm.isStatics = false) (hcls : s.vm.findClass C = some cellB.cls)
    {g : JFrame} (hg : g.method = m) (hsize : g.locals.size = c.maxLocals) {argsL rest : List Value} (hlen : ∀ sig, parseMethodDescriptor y.desc = some sig → argsL.length = sig.parameters.length)
    (hstack : g.stack = argsL.reverse ++ .ref b :: rest) (hW : 2 * g.monitorRoom + (rest.map fun v => v.category).sum ≤ W9) (hdg : decode c.code g.pc = .ok (.invokevirtual index, 3))
    (hpre : ∀ vm₁, s.WarmedH vm₁ → Pre ⟨T.setVm vm₁, locs, cells, slots⟩ (Value.ref b :: argsL).toArray) :
    (∃ (v : Option Value) (vm₁ : Vm) (B : Pt), s.WarmedH vm₁ ∧ Stand p l e R s m args below meth c B.U B.locs B.cells B.slots ∧ Post ⟨T.setVm vm₁, locs, cells, slots⟩ (Value.ref b :: argsL).toArray v B ∧
      ∀ target, Steps p.tables e below (B.U.setTop { g with pc := g.pc + 3, stack := v.toList ++ rest }) target → Steps p.tables e below (T.setTop g) target) ∨
    (∃ (q : Addr) (vm₁ : Vm) (B : Pt), s.WarmedH vm₁ ∧ Stand p l e R s m args below meth c B.U B.locs B.cells B.slots ∧ PostX ⟨T.setVm vm₁, locs, cells, slots⟩ (Value.ref b :: argsL).toArray q B ∧
      Steps p.tables e below (T.setTop g) ((B.U.setTop { g with stack := rest }).pushFrame (.throwing q))) := by
  obtain ⟨mk, methM, hnamed, hmethM, hstM, habM⟩ := Cond.instanceMethod_spec hinst
  obtain ⟨m8, methM', cM, hn8, hmethM', -, -, -, -, -, -, hsigM⟩ := Cond.codeWith_spec hcode
  cases Option.some.inj (hn8.symm.trans hnamed)
  cases hmethM.symm.trans hmethM'
  obtain ⟨c2, r2, m2, q1, q2, q3, q4, kP, hkP, hkPi⟩ := Cond.selects_spec hsel
  cases hcls.symm.trans q1
  cases (State.methodFound?_of_named hnamed hy).symm.trans q2
  cases hnamed.symm.trans q3
  have hselP : selectMethod e.platform s.vm cellB.cls mk = .method mk := by rw [Launch.admits_selectMethod X.admits]; exact q4
  obtain ⟨vm₁, X₁, hstep₁⟩ := X.invokevirtual hexec hown hlink hnamed hmethM hstM hkP hkPi hy (a := b) (cell := cellB) hcell
    (fun z h => by rw [h] at hobj; cases hobj) hselP hmethM habM hkP hkPi (g := g) hg (argsL := argsL) (rest := rest) (hlen _ hsigM) hstack hdg
  rcases hK m meth c ⟨T.setVm vm₁, locs, cells, slots⟩ { g with stack := rest } (.invokevirtual index) mk (Value.ref b :: argsL).toArray X₁ hg hsize hdg hW (X₁.named hnamed) (hpre vm₁ X₁.warmed) with ⟨v, B, X', hpost, hsteps⟩ | ⟨q, B, X', hpost, hsteps⟩
  · exact Or.inl ⟨v, vm₁, B, X₁.warmed, X', hpost, fun target h => hstep₁ _ fun acts => by rw [doInvoke_state]; exact hsteps.trans h⟩
  · exact Or.inr ⟨q, vm₁, B, X₁.warmed, X', hpost, hstep₁ _ fun acts => by rw [doInvoke_state]; exact hsteps⟩
theorem vx_callSX (X : Stand p l e R s m args below meth c T locs cells slots) (hexec : p.tables.exec = Jvm.exec) {own : String} {index : Nat} {y : MethodName} {bytes : ByteArray} {maxL : Nat} {ret : Option FieldType} {hh : List (Nat × Nat × Nat × Nat)}
    (hown : s.vm.findClass own = some m.cls) (hlink : (Cond.methodLink own index y).before args s = true) (hstat : (Cond.static y).before args s = true) (hinit : (Cond.initialized y.cls).before args s = true)
    (hcode : (Cond.codeWith y bytes maxL ret hh).before args s = true) (hy : y.cls ≠ "java/lang/invoke/MethodHandle" ∧ y.cls ≠ "java/lang/invoke/VarHandle")
    {W9 : Nat} {Pre : Pt → Array Value → Prop} {Post : Pt → Array Value → Option Value → Pt → Prop} {PostX : Pt → Array Value → Addr → Pt → Prop} (hK : vx_Back l R p e below s args y 3 W9 Pre Post PostX)
    {g : JFrame} (hg : g.method = m) (hsize : g.locals.size = c.maxLocals) {argsL rest : List Value} (hlen : ∀ sig, parseMethodDescriptor y.desc = some sig → argsL.length = sig.parameters.length)
    (hstack : g.stack = argsL.reverse ++ rest) (hW : 2 * g.monitorRoom + (rest.map fun v => v.category).sum ≤ W9) (hdg : decode c.code g.pc = .ok (.invokestatic index, 3))
    (hpre : ∀ vm₁, s.WarmedH vm₁ → Pre ⟨T.setVm vm₁, locs, cells, slots⟩ argsL.toArray) :
    (∃ (v : Option Value) (vm₁ : Vm) (B : Pt), s.WarmedH vm₁ ∧ Stand p l e R s m args below meth c B.U B.locs B.cells B.slots ∧ Post ⟨T.setVm vm₁, locs, cells, slots⟩ argsL.toArray v B ∧
      ∀ target, Steps p.tables e below (B.U.setTop { g with pc := g.pc + 3, stack := v.toList ++ rest }) target → Steps p.tables e below (T.setTop g) target) ∨
    (∃ (q : Addr) (vm₁ : Vm) (B : Pt), s.WarmedH vm₁ ∧ Stand p l e R s m args below meth c B.U B.locs B.cells B.slots ∧ PostX ⟨T.setVm vm₁, locs, cells, slots⟩ argsL.toArray q B ∧
      Steps p.tables e below (T.setTop g) ((B.U.setTop { g with stack := rest }).pushFrame (.throwing q))) := by
  obtain ⟨mk, methM, cM, hnamed, hmethM, -, -, -, -, -, -, hsigM⟩ := Cond.codeWith_spec hcode
  have hstatic : methM.isStatic = true := Cond.static_spec hnamed hmethM hstat
  obtain ⟨kP, hkP, -⟩ := className_of_methodNamed hnamed
  have hinitP : kP.init = .initialized := Cond.initialized_spec (findClass_of_methodNamed hnamed) hkP hinit
  obtain ⟨vm₁, X₁, hstep₁⟩ := X.invokestatic hexec hown hlink hnamed hmethM hstatic hkP hinitP hy (g := g) hg (argsL := argsL) (rest := rest) (hlen _ hsigM) hstack hdg
  rcases hK m meth c ⟨T.setVm vm₁, locs, cells, slots⟩ { g with stack := rest } (.invokestatic index) mk argsL.toArray X₁ hg hsize hdg hW (X₁.named hnamed) (hpre vm₁ X₁.warmed) with ⟨v, B, X', hpost, hsteps⟩ | ⟨q, B, X', hpost, hsteps⟩
  · exact Or.inl ⟨v, vm₁, B, X₁.warmed, X', hpost, fun target h => hstep₁ _ fun acts => by rw [doInvoke_state]; exact hsteps.trans h⟩
  · exact Or.inr ⟨q, vm₁, B, X₁.warmed, X', hpost, hstep₁ _ fun acts => by rw [doInvoke_state]; exact hsteps⟩
theorem vx_callVW (X : Stand p l e R s m args below meth c T locs cells slots) (hexec : p.tables.exec = Jvm.exec) {own C : String} {index : Nat} {y : MethodName} {bytes : ByteArray} {maxL : Nat} {ret : Option FieldType} {hh : List (Nat × Nat × Nat × Nat)}
    (hown : s.vm.findClass own = some m.cls) (hlink : (Cond.methodLink own index y).before args s = true) (hinst : (Cond.instanceMethod y).before args s = true) (hsel : (Cond.selects C y y).before args s = true)
    (hcode : (Cond.codeWith y bytes maxL ret hh).before args s = true) (hy : y.cls ≠ "java/lang/invoke/MethodHandle" ∧ y.cls ≠ "java/lang/invoke/VarHandle")
    {W9 : Nat} {Pre : Pt → Array Value → Prop} {Post : Pt → Array Value → Option Value → Pt → Prop} (hK : Back l R p e below s args y 3 W9 Pre Post)
    {b : Addr} {cellB : Cell} (hcell : T.heap[b]? = some cellB) (hobj : cellB.vm.isStatics = false) (hcls : s.vm.findClass C = some cellB.cls)
    {g : JFrame} (hg : g.method = m) (hsize : g.locals.size = c.maxLocals) {argsL rest : List Value} (hlen : ∀ sig, parseMethodDescriptor y.desc = some sig → argsL.length = sig.parameters.length)
    (hstack : g.stack = argsL.reverse ++ .ref b :: rest) (hW : 2 * g.monitorRoom + (rest.map fun v => v.category).sum ≤ W9) (hdg : decode c.code g.pc = .ok (.invokevirtual index, 3))
    (hpre : ∀ vm₁, s.WarmedH vm₁ → Pre ⟨T.setVm vm₁, locs, cells, slots⟩ (Value.ref b :: argsL).toArray) :
    ∃ (v : Option Value) (vm₁ : Vm) (B : Pt), s.WarmedH vm₁ ∧ Stand p l e R s m args below meth c B.U B.locs B.cells B.slots ∧ Post ⟨T.setVm vm₁, locs, cells, slots⟩ (Value.ref b :: argsL).toArray v B ∧
      ∀ target, Steps p.tables e below (B.U.setTop { g with pc := g.pc + 3, stack := v.toList ++ rest }) target → Steps p.tables e below (T.setTop g) target := by
  obtain ⟨mk, methM, hnamed, hmethM, hstM, habM⟩ := Cond.instanceMethod_spec hinst
  obtain ⟨m8, methM', cM, hn8, hmethM', -, -, -, -, -, -, hsigM⟩ := Cond.codeWith_spec hcode
  cases Option.some.inj (hn8.symm.trans hnamed)
  cases hmethM.symm.trans hmethM'
  obtain ⟨c2, r2, m2, q1, q2, q3, q4, kP, hkP, hkPi⟩ := Cond.selects_spec hsel
  cases hcls.symm.trans q1
  cases (State.methodFound?_of_named hnamed hy).symm.trans q2
  cases hnamed.symm.trans q3
  have hselP : selectMethod e.platform s.vm cellB.cls mk = .method mk := by rw [Launch.admits_selectMethod X.admits]; exact q4
  obtain ⟨vm₁, X₁, hstep₁⟩ := X.invokevirtual hexec hown hlink hnamed hmethM hstM hkP hkPi hy (a := b) (cell := cellB) hcell
    (fun z h => by rw [h] at hobj; cases hobj) hselP hmethM habM hkP hkPi (g := g) hg (argsL := argsL) (rest := rest) (hlen _ hsigM) hstack hdg
  obtain ⟨v, B, X', hpost, hsteps⟩ := hK m meth c ⟨T.setVm vm₁, locs, cells, slots⟩ { g with stack := rest } (.invokevirtual index) mk (Value.ref b :: argsL).toArray X₁ hg hsize hdg hW (X₁.named hnamed) (hpre vm₁ X₁.warmed)
  exact ⟨v, vm₁, B, X₁.warmed, X', hpost, fun target h => hstep₁ _ fun acts => by rw [doInvoke_state]; exact hsteps.trans h⟩
abbrev vx_CVW (R : Room) (s : State) (args : Array Value) (own C : String) (index : Nat) (y : MethodName) (bytes : ByteArray) (maxL : Nat) (ret : Option FieldType) (hh : List (Nat × Nat × Nat × Nat)) (ws : List Cond) (rm : Room) (mc ms n : Nat) : Prop :=
  (rm.cells = mc ∧ rm.slots = ms ∧ rm.frames + 1 ≤ R.frames ∧ 8 + (maxL + 11) + rm.locals ≤ R.locals ∧ (∀ w ∈ ws, ∀ (a' : Array Value) (U : State), s.WarmedH U.vm → w.before a' U = true) ∧ Cond.codeWith y bytes maxL ret hh ∈ ws) ∧
  (Cond.codeWith y bytes maxL ret hh).before args s = true ∧ (Cond.initialized y.cls).before args s = true ∧ (y.cls ≠ "java/lang/invoke/MethodHandle" ∧ y.cls ≠ "java/lang/invoke/VarHandle") ∧
  (∀ sig, parseMethodDescriptor y.desc = some sig → n = sig.parameters.length) ∧ (Cond.methodLink own index y).before args s = true ∧ (Cond.instanceMethod y).before args s = true ∧ (Cond.selects C y y).before args s = true
theorem vx_cwVW {own C : String} {index maxL mc ms : Nat} {y : MethodName} {bytes : ByteArray} {ret : Option FieldType} {hh : List (Nat × Nat × Nat × Nat)} {Ts ws ws' : List Cond} {rm : Room} (n : Nat) (ht : ∀ w ∈ Ts, w.before args s = true) (hT : GoodIn Ts (wsV own index C y ws)) (hw : ws = Cond.codeWith y bytes maxL ret hh :: ws') (hrc : rm.cells = mc) (hrs : rm.slots = ms)
    (hd : y.cls = C ∧ y.cls ≠ "java/lang/invoke/MethodHandle" ∧ y.cls ≠ "java/lang/invoke/VarHandle" ∧ (parseMethodDescriptor y.desc).map (fun d => d.parameters.length) = some n) (hR : rm.frames + 1 ≤ R.frames ∧ 8 + (maxL + 11) + rm.locals ≤ R.locals) :
    vx_CVW R s args own C index y bytes maxL ret hh ws rm mc ms n := by
  obtain ⟨hC, hd⟩ := hd
  subst hC
  have ok : ∀ w ∈ wsV own index y.cls y ws, w.before args s = true := fun w h => ht w (hT w h).1
  have hG : GoodIn Ts ws := fun w h => hT w (by unfold wsV; exact List.mem_append_right _ h)
  have hc : Cond.codeWith y bytes maxL ret hh ∈ ws := by rw [hw]; exact List.mem_cons_self
  refine ⟨⟨hrc, hrs, hR.1, hR.2, pay_in ht hG, hc⟩, ht _ (hG _ hc).1, ok _ (by simp [wsV]), ⟨hd.1, hd.2.1⟩, fun sig h => ?_, ok _ (by simp [wsV]), ok _ (by simp [wsV]), ok _ (by simp [wsV])⟩
  have h2 := hd.2.2
  rw [h] at h2
  exact (Option.some.inj h2).symm
theorem vx_runVW {y : MethodName} {bytes cc : ByteArray} {maxL nL mc ms n index : Nat} {ret : Option FieldType} {hh : List (Nat × Nat × Nat × Nat)} {ws : List Cond} {rm : Room} {Pc : Array Value → State → Prop} {Qc : Array Value → State → Outcome → State → Prop} {free : Addr → Prop} {Ts : List Cond} {own C : String} {b : Addr} {As rest : List Value} {g : JFrame}
    (S : CallFix p m c cc nL s args Ts own) (hM : Met l y ws rm Pc Qc mc ms free) (cw : vx_CVW R s args own C index y bytes maxL ret hh ws rm mc ms n) (hp : PreV s H C b Pc As)
    (hg : g.method = m) (hn : As.length = n) (hsize : g.locals.size = nL) (hstack : g.stack = As.reverse ++ .ref b :: rest) (hW : 2 * g.monitorRoom + (rest.map fun v => v.category).sum ≤ 8) (hdg : decode cc g.pc = .ok (.invokevirtual index, 3)) (hf : cells + mc ≤ R.cells ∧ slots + ms ≤ R.slots) :
    va_Run p l e R s m args below meth c H locs cells slots mc ms g rest (Qc (Value.ref b :: As).toArray) free := by
  obtain ⟨⟨hrc, hrs, hfr, hlo, hws, hcw⟩, hcode, hini, hy, hlen, hl, hin, hse⟩ := cw
  have hK : Back l R p e below s args y 3 8 (PreOf R mc ms Pc) (PostOf Qc mc ms free) := va_backW (hh := hh) (bytes := bytes) (maxL := maxL) (ret := ret) hM hp.1 hrc hrs hfr hlo hws hcw (fun a' U hW => word_at hW (Or.inl (by first | rfl | simp [Cond.onTables, Cond.keeps, Cond.steady])) hini)
  obtain ⟨hx, hb, hml, ho, -⟩ := S
  obtain ⟨-, ⟨cellB, hcB, hoB, hclB⟩, hPc⟩ := hp
  intro T hT X
  obtain ⟨v, vm₁, ⟨U', l2, c2, s2⟩, hW₁, X', ⟨g', mk, t, L, e1, e2, hq, h1, hL, h2, h3⟩, st⟩ := vx_callVW X hx (C := C) (hh := hh) (bytes := bytes) (maxL := maxL) (ret := ret) ho hl hin hse hcode hy hK (by rw [hT]; exact hcB) hoB hclB hg (hsize.trans hml.symm) (argsL := As) (rest := rest) (fun sig h => hn.trans (hlen sig h)) hstack hW (by rw [hb]; exact hdg)
    (fun vm₁ hW₁ => ⟨hf.1, hf.2, hPc (T.setVm vm₁) hT hW₁⟩)
  dsimp only [Pt.U, Pt.locs, Pt.cells, Pt.slots] at X' e1 e2 h1 h2 h3 st
  subst h1; subst h2; subst h3
  exact ⟨v, (T.setVm vm₁).calling g' mk (Value.ref b :: As).toArray, t, U', L, hT, X', hL, e1, e2, hq, st⟩
section
variable {y : MethodName} {bytes cc : ByteArray} {maxL nL mc ms n index : Nat} {ret : Option FieldType} {ws : List Cond} {rm : Room} {Pc : Array Value → State → Prop} {Qc : Array Value → State → Outcome → State → Prop} {XC : String → State → State → Prop} {free : Addr → Prop} {Ts : List Cond} {own C : String} {b : Addr} {As rest : List Value} {g : JFrame}
theorem vx_runVX {hh : List (Nat × Nat × Nat × Nat)} (S : CallFix p m c cc nL s args Ts own) (hM : vx_Met l y ws rm Pc Qc XC mc ms free) (cw : vx_CVW R s args own C index y bytes maxL ret hh ws rm mc ms n) (hp : PreV s H C b Pc As)
    (hg : g.method = m) (hn : As.length = n) (hsize : g.locals.size = nL) (hstack : g.stack = As.reverse ++ .ref b :: rest) (hW : 2 * g.monitorRoom + (rest.map fun v => v.category).sum ≤ 8) (hdg : decode cc g.pc = .ok (.invokevirtual index, 3)) (hf : cells + mc ≤ R.cells ∧ slots + ms ≤ R.slots) :
    vx_Run p l e R s m args below meth c H locs cells slots mc ms g rest (Qc (Value.ref b :: As).toArray) XC free := by
  obtain ⟨⟨hrc, hrs, hfr, hlo, hws, hcw⟩, hcode, hini, hy, hlen, hl, hin, hse⟩ := cw
  have hK : vx_Back l R p e below s args y 3 8 (PreOf R mc ms Pc) (PostOf Qc mc ms free) (vx_Post XC mc ms free) := vx_backW (hh := hh) (bytes := bytes) (maxL := maxL) (ret := ret) hM hp.1 hrc hrs hfr hlo hws hcw (fun a' U hW => word_at hW (Or.inl (by first | rfl | simp [Cond.onTables, Cond.keeps, Cond.steady])) hini)
  obtain ⟨hx, hb, hml, ho, -⟩ := S
  obtain ⟨-, ⟨cellB, hcB, hoB, hclB⟩, hPc⟩ := hp
  intro T hT X
  rcases vx_callVX X hx (C := C) (hh := hh) (bytes := bytes) (maxL := maxL) (ret := ret) ho hl hin hse hcode hy hK (by rw [hT]; exact hcB) hoB hclB hg (hsize.trans hml.symm) (argsL := As) (rest := rest) (fun sig h => hn.trans (hlen sig h)) hstack hW (by rw [hb]; exact hdg)
    (fun vm₁ hW₁ => ⟨hf.1, hf.2, hPc (T.setVm vm₁) hT hW₁⟩) with ⟨v, vm₁, ⟨U', l2, c2, s2⟩, hW₁, X', ⟨g', mk, t, L, e1, e2, hq, h1, hL, h2, h3⟩, st⟩ | ⟨q, vm₁, ⟨U', l2, c2, s2⟩, hW₁, X', ⟨g', mk, t, L, E, ce, e1, e2, hq, hce, hcv, hcl, h1, hL, h2, h3⟩, st⟩
  · dsimp only [Pt.U, Pt.locs, Pt.cells, Pt.slots] at X' e1 e2 h1 h2 h3 st
    subst h1; subst h2; subst h3
    exact Or.inl ⟨v, (T.setVm vm₁).calling g' mk (Value.ref b :: As).toArray, t, U', L, hT, X', hL, e1, e2, hq, st⟩
  · dsimp only [Pt.U, Pt.locs, Pt.cells, Pt.slots] at X' e1 e2 h1 h2 h3 st hcl
    subst h1; subst h2; subst h3
    exact Or.inr ⟨q, (T.setVm vm₁).calling g' mk (Value.ref b :: As).toArray, t, U', L, E, ce, hT, X', hL, e1, e2, hq, hce, hcv, vx_cls hW₁ hcl, st⟩
theorem vx_runSX {hh : List (Nat × Nat × Nat × Nat)} (S : CallFix p m c cc nL s args Ts own) (hM : vx_Met l y ws rm Pc Qc XC mc ms free) (cw : vx_CSW R s args own index y bytes maxL ret hh ws rm mc ms n) (hp : PreS s H Pc As)
    (hg : g.method = m) (hn : As.length = n) (hsize : g.locals.size = nL) (hstack : g.stack = As.reverse ++ rest) (hW : 2 * g.monitorRoom + (rest.map fun v => v.category).sum ≤ 8) (hdg : decode cc g.pc = .ok (.invokestatic index, 3)) (hf : cells + mc ≤ R.cells ∧ slots + ms ≤ R.slots) :
    vx_Run p l e R s m args below meth c H locs cells slots mc ms g rest (Qc As.toArray) XC free := by
  obtain ⟨⟨hrc, hrs, hfr, hlo, hws, hcw⟩, hcode, hini, hy, hlen, hl, hstt⟩ := cw
  have hK : vx_Back l R p e below s args y 3 8 (PreOf R mc ms Pc) (PostOf Qc mc ms free) (vx_Post XC mc ms free) := vx_backW (hh := hh) (bytes := bytes) (maxL := maxL) (ret := ret) hM hp.1 hrc hrs hfr hlo hws hcw (fun a' U hW => word_at hW (Or.inl (by first | rfl | simp [Cond.onTables, Cond.keeps, Cond.steady])) hini)
  obtain ⟨hx, hb, hml, ho, -⟩ := S
  intro T hT X
  rcases vx_callSX X hx (hh := hh) (bytes := bytes) (maxL := maxL) (ret := ret) ho hl hstt hini hcode hy hK hg (hsize.trans hml.symm) (argsL := As) (rest := rest) (fun sig h => hn.trans (hlen sig h)) hstack hW (by rw [hb]; exact hdg)
    (fun vm₁ hW₁ => ⟨hf.1, hf.2, hp.2 (T.setVm vm₁) hT hW₁⟩) with ⟨v, vm₁, ⟨U', l2, c2, s2⟩, hW₁, X', ⟨g', mk, t, L, e1, e2, hq, h1, hL, h2, h3⟩, st⟩ | ⟨q, vm₁, ⟨U', l2, c2, s2⟩, hW₁, X', ⟨g', mk, t, L, E, ce, e1, e2, hq, hce, hcv, hcl, h1, hL, h2, h3⟩, st⟩
  · dsimp only [Pt.U, Pt.locs, Pt.cells, Pt.slots] at X' e1 e2 h1 h2 h3 st
    subst h1; subst h2; subst h3
    exact Or.inl ⟨v, (T.setVm vm₁).calling g' mk As.toArray, t, U', L, hT, X', hL, e1, e2, hq, st⟩
  · dsimp only [Pt.U, Pt.locs, Pt.cells, Pt.slots] at X' e1 e2 h1 h2 h3 st hcl
    subst h1; subst h2; subst h3
    exact Or.inr ⟨q, (T.setVm vm₁).calling g' mk As.toArray, t, U', L, E, ce, hT, X', hL, e1, e2, hq, hce, hcv, vx_cls hW₁ hcl, st⟩
end
end VXH
theorem vx_ofWH {l : Launch} {y : MethodName} {ws ws' : List Cond} {rm : Room} {Pc : Array Value → State → Prop} {Qc : Array Value → State → Outcome → State → Prop} {XC : String → State → State → Prop} {mc ms : Nat} {free : Addr → Prop} {cc : ByteArray} {maxL : Nat} {ret : Option FieldType} {hh : List (Nat × Nat × Nat × Nat)}
    (hy : plainName y.cls = true) (hw : ws = Cond.codeWith y cc maxL ret hh :: ws')
    (body : ∀ p e s m args below meth c s₁, BodyLoose p l y (headSpec ws rm) cc maxL ret e s m args below meth c s₁ → c.maxLocals = maxL → Pc args s →
      W p l e (headSpec ws rm).room s m args below meth c s.heap [] 0 0 (vx_MQ below Qc XC args s mc ms free) (entryFrame m args maxL)) : vx_Met l y ws rm Pc Qc XC mc ms free := by
  refine MetFree.of_bodyS (code := cc) (maxLocals := maxL) (ret := ret) hy ?_ ?_
  · intro args s m h hn
    obtain ⟨m9, meth, c, hn9, h1, h2, h3, h4, -, h5, h6, -⟩ := Cond.codeWith_spec (atoms_spec (ws := ws) h _ (by rw [hw]; exact List.mem_cons_self))
    cases hn.symm.trans hn9
    exact ⟨meth, c, h1, h2, h3, h4, h5, h6⟩
  · intro p e s m args below meth c s₁ B hml hP _
    have hh0 : s₁.heap = s.heap := by rw [B.state]; rfl
    obtain ⟨t, a1, o, b1, b2, b3⟩ := body p e s m args below meth c s₁ B hml hP s₁ hh0 (Stand.of_body B)
    exact ⟨t, o, a1, b1, b2, b3⟩
/-! ===== END ===== -/
end
section
theorem in_pl {ws : List Cond} (is : List Nat) (h : is.map (fun i => lw_tbl[i]?) = ws.map some) : ∀ w ∈ ws, w ∈ lw_tbl := by
  intro w hw
  have h1 : some w ∈ ws.map some := List.mem_map.mpr ⟨w, hw, rfl⟩
  rw [← h] at h1
  obtain ⟨i, -, hi⟩ := List.mem_map.mp h1
  exact List.mem_of_getElem? hi
def RX0 : String := "TankerDesk$Cargo"
def TX0 : u_T := fun k => match k with
  | 0 => ("TankerDesk$Cargo", "held", "[I", true)
  | 1 => ("TankerDesk$Cargo", "owner", "[I", true)
  | 2 => ("TankerDesk$Cargo", "last", "[I", true)
  | _ => ("TankerDesk$Cargo", "weight", "[I", true)
def tyX0 : Nat → FieldType := fun k => match k with
  | 0 => .array .int
  | 1 => .array .int
  | 2 => .array .int
  | _ => .array .int
abbrev wsX00 : List Cond := u_ws RX0 TX0 4
theorem nmX0 : ∀ a, a < 4 → ∀ b, b < 4 → a ≠ b → (TX0 a).2.1 ≠ (TX0 b).2.1 := by decide +kernel
theorem tyX0_ok : ∀ k, k < 4 → parseFieldDescriptor (TX0 k).2.2.1 = some (tyX0 k) := by decide +kernel
abbrev cX0_init : ByteArray := prog_2_method_1_code
def yX0_init : MethodName := ⟨RX0, "<init>", "()V"⟩
abbrev cX0_copyFrom : ByteArray := prog_2_method_2_code
def yX0_copyFrom : MethodName := ⟨RX0, "copyFrom", "(LTankerDesk$Cargo;)V"⟩
abbrev cX0_begin : ByteArray := prog_2_method_3_code
def yX0_begin : MethodName := ⟨RX0, "begin", "(LTankerDesk$Told;)V"⟩
abbrev cX0_lay : ByteArray := prog_2_method_4_code
def yX0_lay : MethodName := ⟨RX0, "lay", "(LTankerDesk$Told;IIII)V"⟩
abbrev cX0_takeOut : ByteArray := prog_2_method_5_code
def yX0_takeOut : MethodName := ⟨RX0, "takeOut", "(I)V"⟩
abbrev cX0_takeOutAll : ByteArray := prog_2_method_6_code
def yX0_takeOutAll : MethodName := ⟨RX0, "takeOutAll", "(I)V"⟩
abbrev cX0_loaded : ByteArray := prog_2_method_7_code
def yX0_loaded : MethodName := ⟨RX0, "loaded", "(I)I"⟩
abbrev cX0_partsOf : ByteArray := prog_2_method_8_code
def yX0_partsOf : MethodName := ⟨RX0, "partsOf", "(I)I"⟩
abbrev cX0_standing : ByteArray := prog_2_method_9_code
def yX0_standing : MethodName := ⟨RX0, "standing", "(LTankerDesk$Told;I)I"⟩
abbrev cX0_frontLoad : ByteArray := prog_2_method_10_code
def yX0_frontLoad : MethodName := ⟨RX0, "frontLoad", "(LTankerDesk$Told;I)I"⟩
abbrev cX0_rearLoad : ByteArray := prog_2_method_11_code
def yX0_rearLoad : MethodName := ⟨RX0, "rearLoad", "(LTankerDesk$Told;I)I"⟩
abbrev cX0_surges : ByteArray := prog_2_method_12_code
def yX0_surges : MethodName := ⟨RX0, "surges", "(LTankerDesk$Told;I)Z"⟩
abbrev cX0_isIn : ByteArray := prog_2_method_13_code
def yX0_isIn : MethodName := ⟨RX0, "isIn", "(II)Z"⟩
def RX1 : String := "TankerDesk$History"
def TX1 : u_T := fun k => match k with
  | 0 => ("TankerDesk$History", "rows", "[LTankerDesk$State;", true)
  | 1 => ("TankerDesk$History", "next", "I", false)
  | _ => ("TankerDesk$History", "kept", "I", false)
def tyX1 : Nat → FieldType := fun k => match k with
  | 0 => .array (.object "TankerDesk$State")
  | 1 => .int
  | _ => .int
abbrev wsX10 : List Cond := u_ws RX1 TX1 3
theorem nmX1 : ∀ a, a < 3 → ∀ b, b < 3 → a ≠ b → (TX1 a).2.1 ≠ (TX1 b).2.1 := by decide +kernel
theorem tyX1_ok : ∀ k, k < 3 → parseFieldDescriptor (TX1 k).2.2.1 = some (tyX1 k) := by decide +kernel
abbrev cX1_init : ByteArray := prog_3_method_1_code
def yX1_init : MethodName := ⟨RX1, "<init>", "()V"⟩
abbrev cX1_forget : ByteArray := prog_3_method_2_code
def yX1_forget : MethodName := ⟨RX1, "forget", "()V"⟩
abbrev cX1_keep : ByteArray := prog_3_method_3_code
def yX1_keep : MethodName := ⟨RX1, "keep", "(LTankerDesk$State;)V"⟩
abbrev cX1_goBack : ByteArray := prog_3_method_4_code
def yX1_goBack : MethodName := ⟨RX1, "goBack", "(LTankerDesk$State;)Z"⟩
def RX2 : String := "TankerDesk$OrderTable"
def TX2 : u_T := fun k => match k with
  | 0 => ("TankerDesk$OrderTable", "aboard", "I", false)
  | 1 => ("TankerDesk$OrderTable", "drops", "[I", true)
  | 2 => ("TankerDesk$OrderTable", "parts", "[I", true)
  | _ => ("TankerDesk$OrderTable", "ways", "[I", true)
def tyX2 : Nat → FieldType := fun k => match k with
  | 0 => .int
  | 1 => .array .int
  | 2 => .array .int
  | _ => .array .int
abbrev wsX20 : List Cond := u_ws RX2 TX2 4
theorem nmX2 : ∀ a, a < 4 → ∀ b, b < 4 → a ≠ b → (TX2 a).2.1 ≠ (TX2 b).2.1 := by decide +kernel
theorem tyX2_ok : ∀ k, k < 4 → parseFieldDescriptor (TX2 k).2.2.1 = some (tyX2 k) := by decide +kernel
abbrev cX2_init : ByteArray := prog_4_method_1_code
def yX2_init : MethodName := ⟨RX2, "<init>", "()V"⟩
abbrev cX2_count : ByteArray := prog_4_method_2_code
def yX2_count : MethodName := ⟨RX2, "count", "(LTankerDesk$Told;LTankerDesk$Cargo;I)I"⟩
abbrev cX2_dropOfFirst : ByteArray := prog_4_method_3_code
def yX2_dropOfFirst : MethodName := ⟨RX2, "dropOfFirst", "(I)I"⟩
abbrev cX2_collect : ByteArray := prog_4_method_4_code
def yX2_collect : MethodName := ⟨RX2, "collect", "(LTankerDesk$Told;LTankerDesk$Cargo;I)V"⟩
abbrev cX2_partsOfAll : ByteArray := prog_4_method_5_code
def yX2_partsOfAll : MethodName := ⟨RX2, "partsOfAll", "(I)I"⟩
abbrev cX2_waysBehind : ByteArray := prog_4_method_6_code
def yX2_waysBehind : MethodName := ⟨RX2, "waysBehind", "(I)I"⟩
abbrev cX2_leastBehind : ByteArray := prog_4_method_7_code
def yX2_leastBehind : MethodName := ⟨RX2, "leastBehind", "(I)I"⟩
def RX3 : String := "TankerDesk$Planner"
def TX3 : u_T := fun k => match k with
  | 0 => ("TankerDesk$Planner", "table", "LTankerDesk$OrderTable;", true)
  | 1 => ("TankerDesk$Planner", "trial", "LTankerDesk$Cargo;", true)
  | 2 => ("TankerDesk$Planner", "told", "LTankerDesk$Told;", false)
  | 3 => ("TankerDesk$Planner", "state", "LTankerDesk$State;", false)
  | 4 => ("TankerDesk$Planner", "washing", "Z", false)
  | 5 => ("TankerDesk$Planner", "waiting", "I", false)
  | 6 => ("TankerDesk$Planner", "who", "[I", true)
  | 7 => ("TankerDesk$Planner", "lacked", "[I", true)
  | 8 => ("TankerDesk$Planner", "lack", "[I", true)
  | 9 => ("TankerDesk$Planner", "room", "[I", true)
  | 10 => ("TankerDesk$Planner", "used", "I", false)
  | 11 => ("TankerDesk$Planner", "washed", "I", false)
  | 12 => ("TankerDesk$Planner", "found", "Z", false)
  | 13 => ("TankerDesk$Planner", "bestWashed", "I", false)
  | 14 => ("TankerDesk$Planner", "bestServed", "I", false)
  | 15 => ("TankerDesk$Planner", "bestUsed", "I", false)
  | 16 => ("TankerDesk$Planner", "bestDrop", "[I", true)
  | _ => ("TankerDesk$Planner", "bestAmount", "[I", true)
def tyX3 : Nat → FieldType := fun k => match k with
  | 0 => .object "TankerDesk$OrderTable"
  | 1 => .object "TankerDesk$Cargo"
  | 2 => .object "TankerDesk$Told"
  | 3 => .object "TankerDesk$State"
  | 4 => .boolean
  | 5 => .int
  | 6 => .array .int
  | 7 => .array .int
  | 8 => .array .int
  | 9 => .array .int
  | 10 => .int
  | 11 => .int
  | 12 => .boolean
  | 13 => .int
  | 14 => .int
  | 15 => .int
  | 16 => .array .int
  | _ => .array .int
abbrev wsX30 : List Cond := u_ws RX3 TX3 18
theorem nmX3 : ∀ a, a < 18 → ∀ b, b < 18 → a ≠ b → (TX3 a).2.1 ≠ (TX3 b).2.1 := by decide +kernel
theorem tyX3_ok : ∀ k, k < 18 → parseFieldDescriptor (TX3 k).2.2.1 = some (tyX3 k) := by decide +kernel
abbrev cX3_init : ByteArray := prog_5_method_1_code
def yX3_init : MethodName := ⟨RX3, "<init>", "()V"⟩
abbrev cX3_findsPlan : ByteArray := prog_5_method_2_code
def yX3_findsPlan : MethodName := ⟨RX3, "findsPlan", "(LTankerDesk$Told;LTankerDesk$State;)Z"⟩
abbrev cX3_fewestWashes : ByteArray := prog_5_method_3_code
def yX3_fewestWashes : MethodName := ⟨RX3, "fewestWashes", "(LTankerDesk$Told;LTankerDesk$State;)I"⟩
abbrev cX3_prepare : ByteArray := prog_5_method_4_code
def yX3_prepare : MethodName := ⟨RX3, "prepare", "(LTankerDesk$Told;LTankerDesk$State;Z)V"⟩
abbrev cX3_deal : ByteArray := prog_5_method_5_code
def yX3_deal : MethodName := ⟨RX3, "deal", "(LTankerDesk$Planner;I)V"⟩
abbrev cX3_isHopeless : ByteArray := prog_5_method_6_code
def yX3_isHopeless : MethodName := ⟨RX3, "isHopeless", "(I)Z"⟩
abbrev cX3_gives : ByteArray := prog_5_method_7_code
def yX3_gives : MethodName := ⟨RX3, "gives", "(II)Z"⟩
abbrev cX3_takeBack : ByteArray := prog_5_method_8_code
def yX3_takeBack : MethodName := ⟨RX3, "takeBack", "(II)V"⟩
abbrev cX3_consider : ByteArray := prog_5_method_9_code
def yX3_consider : MethodName := ⟨RX3, "consider", "()V"⟩
abbrev cX3_isBetter : ByteArray := prog_5_method_10_code
def yX3_isBetter : MethodName := ⟨RX3, "isBetter", "(I)Z"⟩
abbrev cX3_keepDeal : ByteArray := prog_5_method_11_code
def yX3_keepDeal : MethodName := ⟨RX3, "keepDeal", "()V"⟩
def RX4 : String := "TankerDesk$Reader"
def TX4 : u_T := fun k => match k with
  | 0 => ("TankerDesk$Reader", "linesOf", "[I", true)
  | 1 => ("TankerDesk$Reader", "tape", "[B", false)
  | 2 => ("TankerDesk$Reader", "size", "I", false)
  | 3 => ("TankerDesk$Reader", "at", "I", false)
  | 4 => ("TankerDesk$Reader", "token", "I", false)
  | 5 => ("TankerDesk$Reader", "start", "I", false)
  | 6 => ("TankerDesk$Reader", "value", "I", false)
  | 7 => ("TankerDesk$Reader", "told", "LTankerDesk$Told;", false)
  | 8 => ("TankerDesk$Reader", "lines", "I", false)
  | 9 => ("TankerDesk$Reader", "faultKind", "I", false)
  | _ => ("TankerDesk$Reader", "faultPlace", "I", false)
def tyX4 : Nat → FieldType := fun k => match k with
  | 0 => .array .int
  | 1 => .array .byte
  | 2 => .int
  | 3 => .int
  | 4 => .int
  | 5 => .int
  | 6 => .int
  | 7 => .object "TankerDesk$Told"
  | 8 => .int
  | 9 => .int
  | _ => .int
abbrev wsX40 : List Cond := u_ws RX4 TX4 11
theorem nmX4 : ∀ a, a < 11 → ∀ b, b < 11 → a ≠ b → (TX4 a).2.1 ≠ (TX4 b).2.1 := by decide +kernel
theorem tyX4_ok : ∀ k, k < 11 → parseFieldDescriptor (TX4 k).2.2.1 = some (tyX4 k) := by decide +kernel
abbrev cX4_init : ByteArray := prog_6_method_1_code
def yX4_init : MethodName := ⟨RX4, "<init>", "()V"⟩
abbrev cX4_reads : ByteArray := prog_6_method_2_code
def yX4_reads : MethodName := ⟨RX4, "reads", "([BILTankerDesk$Told;)Z"⟩
abbrev cX4_refuse : ByteArray := prog_6_method_3_code
def yX4_refuse : MethodName := ⟨RX4, "refuse", "(I)Z"⟩
abbrev cX4_readSign : ByteArray := prog_6_method_4_code
def yX4_readSign : MethodName := ⟨RX4, "readSign", "()Z"⟩
abbrev cX4_readTanker : ByteArray := prog_6_method_5_code
def yX4_readTanker : MethodName := ⟨RX4, "readTanker", "()Z"⟩
abbrev cX4_readOther : ByteArray := prog_6_method_6_code
def yX4_readOther : MethodName := ⟨RX4, "readOther", "()Z"⟩
abbrev cX4_sortOfWord : ByteArray := prog_6_method_7_code
def yX4_sortOfWord : MethodName := ⟨RX4, "sortOfWord", "()I"⟩
abbrev cX4_readCompartment : ByteArray := prog_6_method_8_code
def yX4_readCompartment : MethodName := ⟨RX4, "readCompartment", "()Z"⟩
abbrev cX4_readLiquid : ByteArray := prog_6_method_9_code
def yX4_readLiquid : MethodName := ⟨RX4, "readLiquid", "()Z"⟩
abbrev cX4_readBar : ByteArray := prog_6_method_10_code
def yX4_readBar : MethodName := ⟨RX4, "readBar", "()Z"⟩
abbrev cX4_readLast : ByteArray := prog_6_method_11_code
def yX4_readLast : MethodName := ⟨RX4, "readLast", "()Z"⟩
abbrev cX4_readDrop : ByteArray := prog_6_method_12_code
def yX4_readDrop : MethodName := ⟨RX4, "readDrop", "()Z"⟩
abbrev cX4_readNumber : ByteArray := prog_6_method_13_code
def yX4_readNumber : MethodName := ⟨RX4, "readNumber", "(II)Z"⟩
abbrev cX4_isWord : ByteArray := prog_6_method_14_code
def yX4_isWord : MethodName := ⟨RX4, "isWord", "(Ljava/lang/String;)Z"⟩
abbrev cX4_advance : ByteArray := prog_6_method_15_code
def yX4_advance : MethodName := ⟨RX4, "advance", "()V"⟩
abbrev cX4_advanceRun : ByteArray := prog_6_method_16_code
def yX4_advanceRun : MethodName := ⟨RX4, "advanceRun", "()V"⟩
abbrev cX4_isLetter : ByteArray := prog_6_method_17_code
def yX4_isLetter : MethodName := ⟨RX4, "isLetter", "(I)Z"⟩
abbrev cX4_isDigit : ByteArray := prog_6_method_18_code
def yX4_isDigit : MethodName := ⟨RX4, "isDigit", "(I)Z"⟩
def RX5 : String := "TankerDesk$State"
def TX5 : u_T := fun k => match k with
  | 0 => ("TankerDesk$State", "cargo", "LTankerDesk$Cargo;", true)
  | 1 => ("TankerDesk$State", "drops", "I", false)
  | 2 => ("TankerDesk$State", "fate", "[I", true)
  | 3 => ("TankerDesk$State", "metered", "[I", true)
  | _ => ("TankerDesk$State", "washed", "I", false)
def tyX5 : Nat → FieldType := fun k => match k with
  | 0 => .object "TankerDesk$Cargo"
  | 1 => .int
  | 2 => .array .int
  | 3 => .array .int
  | _ => .int
abbrev wsX50 : List Cond := u_ws RX5 TX5 5
theorem nmX5 : ∀ a, a < 5 → ∀ b, b < 5 → a ≠ b → (TX5 a).2.1 ≠ (TX5 b).2.1 := by decide +kernel
theorem tyX5_ok : ∀ k, k < 5 → parseFieldDescriptor (TX5 k).2.2.1 = some (tyX5 k) := by decide +kernel
abbrev cX5_init : ByteArray := prog_7_method_1_code
def yX5_init : MethodName := ⟨RX5, "<init>", "()V"⟩
abbrev cX5_begin : ByteArray := prog_7_method_2_code
def yX5_begin : MethodName := ⟨RX5, "begin", "(LTankerDesk$Told;)V"⟩
abbrev cX5_addDrop : ByteArray := prog_7_method_3_code
def yX5_addDrop : MethodName := ⟨RX5, "addDrop", "()V"⟩
abbrev cX5_copyFrom : ByteArray := prog_7_method_4_code
def yX5_copyFrom : MethodName := ⟨RX5, "copyFrom", "(LTankerDesk$State;)V"⟩
abbrev cX5_hasDrop : ByteArray := prog_7_method_5_code
def yX5_hasDrop : MethodName := ⟨RX5, "hasDrop", "(I)Z"⟩
abbrev cX5_how : ByteArray := prog_7_method_6_code
def yX5_how : MethodName := ⟨RX5, "how", "(LTankerDesk$Told;I)I"⟩
abbrev cX5_shortOf : ByteArray := prog_7_method_7_code
def yX5_shortOf : MethodName := ⟨RX5, "shortOf", "(LTankerDesk$Told;I)I"⟩
abbrev cX5_waiting : ByteArray := prog_7_method_8_code
def yX5_waiting : MethodName := ⟨RX5, "waiting", "(LTankerDesk$Told;)I"⟩
def RX6 : String := "TankerDesk$Told"
def TX6 : u_T := fun k => match k with
  | 0 => ("TankerDesk$Told", "head", "[I", true)
  | 1 => ("TankerDesk$Told", "compartments", "I", false)
  | 2 => ("TankerDesk$Told", "cap", "[I", true)
  | 3 => ("TankerDesk$Told", "x", "[I", true)
  | 4 => ("TankerDesk$Told", "open", "[I", true)
  | 5 => ("TankerDesk$Told", "last", "[I", true)
  | 6 => ("TankerDesk$Told", "liquids", "I", false)
  | 7 => ("TankerDesk$Told", "density", "[I", true)
  | 8 => ("TankerDesk$Told", "bars", "J", false)
  | 9 => ("TankerDesk$Told", "textDrops", "I", false)
  | 10 => ("TankerDesk$Told", "dropLiquid", "[I", true)
  | _ => ("TankerDesk$Told", "dropQuantity", "[I", true)
def tyX6 : Nat → FieldType := fun k => match k with
  | 0 => .array .int
  | 1 => .int
  | 2 => .array .int
  | 3 => .array .int
  | 4 => .array .int
  | 5 => .array .int
  | 6 => .int
  | 7 => .array .int
  | 8 => .long
  | 9 => .int
  | 10 => .array .int
  | _ => .array .int
abbrev wsX60 : List Cond := u_ws RX6 TX6 12
theorem nmX6 : ∀ a, a < 12 → ∀ b, b < 12 → a ≠ b → (TX6 a).2.1 ≠ (TX6 b).2.1 := by decide +kernel
theorem tyX6_ok : ∀ k, k < 12 → parseFieldDescriptor (TX6 k).2.2.1 = some (tyX6 k) := by decide +kernel
abbrev cX6_init : ByteArray := prog_8_method_1_code
def yX6_init : MethodName := ⟨RX6, "<init>", "()V"⟩
abbrev cX6_clear : ByteArray := prog_8_method_2_code
def yX6_clear : MethodName := ⟨RX6, "clear", "()V"⟩
abbrev cX6_hasCompartment : ByteArray := prog_8_method_3_code
def yX6_hasCompartment : MethodName := ⟨RX6, "hasCompartment", "(I)Z"⟩
abbrev cX6_hasLiquid : ByteArray := prog_8_method_4_code
def yX6_hasLiquid : MethodName := ⟨RX6, "hasLiquid", "(I)Z"⟩
abbrev cX6_top : ByteArray := prog_8_method_5_code
def yX6_top : MethodName := ⟨RX6, "top", "(I)I"⟩
abbrev cX6_bar : ByteArray := prog_8_method_6_code
def yX6_bar : MethodName := ⟨RX6, "bar", "(II)V"⟩
abbrev cX6_isBarred : ByteArray := prog_8_method_7_code
def yX6_isBarred : MethodName := ⟨RX6, "isBarred", "(II)Z"⟩
def RX7 : String := "TankerDesk"
def TX7 : u_T := fun k => match k with
  | 0 => ("TankerDesk", "tape", "[B", true)
  | 1 => ("TankerDesk", "taped", "I", false)
  | 2 => ("TankerDesk", "latestFault", "I", false)
  | 3 => ("TankerDesk", "reader", "LTankerDesk$Reader;", true)
  | 4 => ("TankerDesk", "told", "LTankerDesk$Told;", false)
  | 5 => ("TankerDesk", "spare", "LTankerDesk$Told;", false)
  | 6 => ("TankerDesk", "state", "LTankerDesk$State;", true)
  | 7 => ("TankerDesk", "history", "LTankerDesk$History;", true)
  | 8 => ("TankerDesk", "trial", "LTankerDesk$Cargo;", true)
  | 9 => ("TankerDesk", "table", "LTankerDesk$OrderTable;", true)
  | _ => ("TankerDesk", "planner", "LTankerDesk$Planner;", true)
def tyX7 : Nat → FieldType := fun k => match k with
  | 0 => .array .byte
  | 1 => .int
  | 2 => .int
  | 3 => .object "TankerDesk$Reader"
  | 4 => .object "TankerDesk$Told"
  | 5 => .object "TankerDesk$Told"
  | 6 => .object "TankerDesk$State"
  | 7 => .object "TankerDesk$History"
  | 8 => .object "TankerDesk$Cargo"
  | 9 => .object "TankerDesk$OrderTable"
  | _ => .object "TankerDesk$Planner"
abbrev wsX70 : List Cond := u_ws RX7 TX7 11
theorem nmX7 : ∀ a, a < 11 → ∀ b, b < 11 → a ≠ b → (TX7 a).2.1 ≠ (TX7 b).2.1 := by decide +kernel
theorem tyX7_ok : ∀ k, k < 11 → parseFieldDescriptor (TX7 k).2.2.1 = some (tyX7 k) := by decide +kernel
abbrev cX7_init : ByteArray := prog_1_method_1_code
def yX7_init : MethodName := ⟨RX7, "<init>", "()V"⟩
abbrev cX7_feed : ByteArray := prog_1_method_2_code
def yX7_feed : MethodName := ⟨RX7, "feed", "(IIIII)I"⟩
abbrev cX7_end : ByteArray := prog_1_method_3_code
def yX7_end : MethodName := ⟨RX7, "end", "(I)Z"⟩
abbrev cX7_text : ByteArray := prog_1_method_4_code
def yX7_text : MethodName := ⟨RX7, "text", "()I"⟩
abbrev cX7_fault : ByteArray := prog_1_method_5_code
def yX7_fault : MethodName := ⟨RX7, "fault", "()I"⟩
abbrev cX7_now : ByteArray := prog_1_method_6_code
def yX7_now : MethodName := ⟨RX7, "now", "(I)I"⟩
abbrev cX7_compartment : ByteArray := prog_1_method_7_code
def yX7_compartment : MethodName := ⟨RX7, "compartment", "(II)I"⟩
abbrev cX7_drop : ByteArray := prog_1_method_8_code
def yX7_drop : MethodName := ⟨RX7, "drop", "(II)I"⟩
abbrev cX7_may : ByteArray := prog_1_method_9_code
def yX7_may : MethodName := ⟨RX7, "may", "(II)Z"⟩
abbrev cX7_would : ByteArray := prog_1_method_10_code
def yX7_would : MethodName := ⟨RX7, "would", "(III)I"⟩
abbrev cX7_orders : ByteArray := prog_1_method_11_code
def yX7_orders : MethodName := ⟨RX7, "orders", "()I"⟩
abbrev cX7_ordered : ByteArray := prog_1_method_12_code
def yX7_ordered : MethodName := ⟨RX7, "ordered", "(I)I"⟩
abbrev cX7_without : ByteArray := prog_1_method_13_code
def yX7_without : MethodName := ⟨RX7, "without", "(I)I"⟩
abbrev cX7_plan : ByteArray := prog_1_method_14_code
def yX7_plan : MethodName := ⟨RX7, "plan", "(I)I"⟩
abbrev cX7_washes : ByteArray := prog_1_method_15_code
def yX7_washes : MethodName := ⟨RX7, "washes", "()I"⟩
abbrev cX7_asks : ByteArray := prog_1_method_16_code
def yX7_asks : MethodName := ⟨RX7, "asks", "(II)I"⟩
abbrev cX7_cancel : ByteArray := prog_1_method_17_code
def yX7_cancel : MethodName := ⟨RX7, "cancel", "(I)Z"⟩
abbrev cX7_put : ByteArray := prog_1_method_18_code
def yX7_put : MethodName := ⟨RX7, "put", "(II)I"⟩
abbrev cX7_load : ByteArray := prog_1_method_19_code
def yX7_load : MethodName := ⟨RX7, "load", "()I"⟩
abbrev cX7_unload : ByteArray := prog_1_method_20_code
def yX7_unload : MethodName := ⟨RX7, "unload", "(II)I"⟩
abbrev cX7_empty : ByteArray := prog_1_method_21_code
def yX7_empty : MethodName := ⟨RX7, "empty", "(I)I"⟩
abbrev cX7_wash : ByteArray := prog_1_method_22_code
def yX7_wash : MethodName := ⟨RX7, "wash", "(I)Z"⟩
abbrev cX7_undo : ByteArray := prog_1_method_23_code
def yX7_undo : MethodName := ⟨RX7, "undo", "()I"⟩
abbrev cX7_tapeNumber : ByteArray := prog_1_method_24_code
def yX7_tapeNumber : MethodName := ⟨RX7, "tapeNumber", "(I)V"⟩
abbrev cX7_isSo : ByteArray := prog_1_method_25_code
def yX7_isSo : MethodName := ⟨RX7, "isSo", "(II)Z"⟩
def RX8 : String := "TankerDeskModel"
def TX8 : u_T := fun k => match k with
  | 0 => ("TankerDeskModel", "thrown", "I", false)
  | 1 => ("TankerDeskModel", "tape", "[I", true)
  | 2 => ("TankerDeskModel", "taped", "I", false)
  | 3 => ("TankerDeskModel", "size", "I", false)
  | 4 => ("TankerDeskModel", "to", "I", false)
  | 5 => ("TankerDeskModel", "from", "I", false)
  | 6 => ("TankerDeskModel", "sort", "I", false)
  | 7 => ("TankerDeskModel", "number", "I", false)
  | 8 => ("TankerDeskModel", "fault", "I", false)
  | 9 => ("TankerDeskModel", "place", "I", false)
  | 10 => ("TankerDeskModel", "word", "J", false)
  | 11 => ("TankerDeskModel", "now", "[I", true)
  | 12 => ("TankerDeskModel", "read", "[I", true)
  | 13 => ("TankerDeskModel", "snaps", "[I", true)
  | 14 => ("TankerDeskModel", "snapMany", "I", false)
  | 15 => ("TankerDeskModel", "got", "I", false)
  | 16 => ("TankerDeskModel", "much", "[I", true)
  | 17 => ("TankerDeskModel", "liquid", "[I", true)
  | 18 => ("TankerDeskModel", "drop", "[I", true)
  | 19 => ("TankerDeskModel", "first", "[I", true)
  | 20 => ("TankerDeskModel", "row", "[I", true)
  | 21 => ("TankerDeskModel", "firstMany", "I", false)
  | 22 => ("TankerDeskModel", "given", "[I", true)
  | 23 => ("TankerDeskModel", "amounts", "[I", true)
  | 24 => ("TankerDeskModel", "bestGiven", "[I", true)
  | 25 => ("TankerDeskModel", "bestAmounts", "[I", true)
  | 26 => ("TankerDeskModel", "bestServed", "I", false)
  | _ => ("TankerDeskModel", "bestMany", "I", false)
def tyX8 : Nat → FieldType := fun k => match k with
  | 0 => .int
  | 1 => .array .int
  | 2 => .int
  | 3 => .int
  | 4 => .int
  | 5 => .int
  | 6 => .int
  | 7 => .int
  | 8 => .int
  | 9 => .int
  | 10 => .long
  | 11 => .array .int
  | 12 => .array .int
  | 13 => .array .int
  | 14 => .int
  | 15 => .int
  | 16 => .array .int
  | 17 => .array .int
  | 18 => .array .int
  | 19 => .array .int
  | 20 => .array .int
  | 21 => .int
  | 22 => .array .int
  | 23 => .array .int
  | 24 => .array .int
  | 25 => .array .int
  | 26 => .int
  | _ => .int
abbrev wsX80 : List Cond := u_ws RX8 TX8 28
theorem nmX8 : ∀ a, a < 28 → ∀ b, b < 28 → a ≠ b → (TX8 a).2.1 ≠ (TX8 b).2.1 := by decide +kernel
theorem tyX8_ok : ∀ k, k < 28 → parseFieldDescriptor (TX8 k).2.2.1 = some (tyX8 k) := by decide +kernel
abbrev cX8_thrown : ByteArray := prog_10_method_1_code
def yX8_thrown : MethodName := ⟨RX8, "thrown", "()I"⟩
abbrev cX8_refuse : ByteArray := prog_10_method_2_code
def yX8_refuse : MethodName := ⟨RX8, "refuse", "()I"⟩
abbrev cX8_isIn : ByteArray := prog_10_method_3_code
def yX8_isIn : MethodName := ⟨RX8, "isIn", "(III)Z"⟩
abbrev cX8_has : ByteArray := prog_10_method_4_code
def yX8_has : MethodName := ⟨RX8, "has", "(II)Z"⟩
abbrev cX8_lays : ByteArray := prog_10_method_5_code
def yX8_lays : MethodName := ⟨RX8, "lays", "(I)V"⟩
abbrev cX8_feed : ByteArray := prog_10_method_6_code
def yX8_feed : MethodName := ⟨RX8, "feed", "(IIIII)I"⟩
abbrev cX8_end : ByteArray := prog_10_method_7_code
def yX8_end : MethodName := ⟨RX8, "end", "(I)Z"⟩
abbrev cX8_tapeAt : ByteArray := prog_10_method_8_code
def yX8_tapeAt : MethodName := ⟨RX8, "tapeAt", "(I)I"⟩
abbrev cX8_isDigit : ByteArray := prog_10_method_9_code
def yX8_isDigit : MethodName := ⟨RX8, "isDigit", "(I)Z"⟩
abbrev cX8_isLetter : ByteArray := prog_10_method_10_code
def yX8_isLetter : MethodName := ⟨RX8, "isLetter", "(I)Z"⟩
abbrev cX8_go : ByteArray := prog_10_method_11_code
def yX8_go : MethodName := ⟨RX8, "go", "()V"⟩
abbrev cX8_three : ByteArray := prog_10_method_12_code
def yX8_three : MethodName := ⟨RX8, "three", "(III)J"⟩
abbrev cX8_six : ByteArray := prog_10_method_13_code
def yX8_six : MethodName := ⟨RX8, "six", "(IIIIII)J"⟩
abbrev cX8_four : ByteArray := prog_10_method_14_code
def yX8_four : MethodName := ⟨RX8, "four", "(IIII)J"⟩
abbrev cX8_isWord : ByteArray := prog_10_method_15_code
def yX8_isWord : MethodName := ⟨RX8, "isWord", "(J)Z"⟩
abbrev cX8_bad : ByteArray := prog_10_method_16_code
def yX8_bad : MethodName := ⟨RX8, "bad", "(I)Z"⟩
abbrev cX8_init : ByteArray := prog_10_method_17_code
def yX8_init : MethodName := ⟨RX8, "<init>", "()V"⟩
abbrev cX8_told : ByteArray := prog_10_method_18_code
def yX8_told : MethodName := ⟨RX8, "told", "(III)Z"⟩
abbrev cX8_oneOf : ByteArray := prog_10_method_19_code
def yX8_oneOf : MethodName := ⟨RX8, "oneOf", "(I)Z"⟩
abbrev cX8_readTanker : ByteArray := prog_10_method_20_code
def yX8_readTanker : MethodName := ⟨RX8, "readTanker", "()Z"⟩
abbrev cX8_readHold : ByteArray := prog_10_method_21_code
def yX8_readHold : MethodName := ⟨RX8, "readHold", "()Z"⟩
abbrev cX8_readLiquid : ByteArray := prog_10_method_22_code
def yX8_readLiquid : MethodName := ⟨RX8, "readLiquid", "()Z"⟩
abbrev cX8_readBar : ByteArray := prog_10_method_23_code
def yX8_readBar : MethodName := ⟨RX8, "readBar", "()Z"⟩
abbrev cX8_readLast : ByteArray := prog_10_method_24_code
def yX8_readLast : MethodName := ⟨RX8, "readLast", "()Z"⟩
abbrev cX8_readDrop : ByteArray := prog_10_method_25_code
def yX8_readDrop : MethodName := ⟨RX8, "readDrop", "()Z"⟩
abbrev cX8_readLine : ByteArray := prog_10_method_26_code
def yX8_readLine : MethodName := ⟨RX8, "readLine", "(Z)Z"⟩
abbrev cX8_readEnd : ByteArray := prog_10_method_27_code
def yX8_readEnd : MethodName := ⟨RX8, "readEnd", "()Z"⟩
abbrev cX8_text : ByteArray := prog_10_method_28_code
def yX8_text : MethodName := ⟨RX8, "text", "()I"⟩
abbrev cX8_fault : ByteArray := prog_10_method_29_code
def yX8_fault : MethodName := ⟨RX8, "fault", "()I"⟩
abbrev cX8_isHold : ByteArray := prog_10_method_30_code
def yX8_isHold : MethodName := ⟨RX8, "isHold", "(I)Z"⟩
abbrev cX8_isLiquid : ByteArray := prog_10_method_31_code
def yX8_isLiquid : MethodName := ⟨RX8, "isLiquid", "(I)Z"⟩
abbrev cX8_isDrop : ByteArray := prog_10_method_32_code
def yX8_isDrop : MethodName := ⟨RX8, "isDrop", "(I)Z"⟩
abbrev cX8_holds : ByteArray := prog_10_method_33_code
def yX8_holds : MethodName := ⟨RX8, "holds", "(II)I"⟩
abbrev cX8_its : ByteArray := prog_10_method_34_code
def yX8_its : MethodName := ⟨RX8, "its", "(II)I"⟩
abbrev cX8_top : ByteArray := prog_10_method_35_code
def yX8_top : MethodName := ⟨RX8, "top", "(I)I"⟩
abbrev cX8_lastIn : ByteArray := prog_10_method_36_code
def yX8_lastIn : MethodName := ⟨RX8, "lastIn", "(I)I"⟩
abbrev cX8_mayCome : ByteArray := prog_10_method_37_code
def yX8_mayCome : MethodName := ⟨RX8, "mayCome", "(III)Z"⟩
abbrev cX8_loadedOf : ByteArray := prog_10_method_38_code
def yX8_loadedOf : MethodName := ⟨RX8, "loadedOf", "(I)I"⟩
abbrev cX8_having : ByteArray := prog_10_method_39_code
def yX8_having : MethodName := ⟨RX8, "having", "(I)I"⟩
abbrev cX8_laysNow : ByteArray := prog_10_method_40_code
def yX8_laysNow : MethodName := ⟨RX8, "laysNow", "()V"⟩
abbrev cX8_muchBut : ByteArray := prog_10_method_41_code
def yX8_muchBut : MethodName := ⟨RX8, "muchBut", "(II)I"⟩
abbrev cX8_front : ByteArray := prog_10_method_42_code
def yX8_front : MethodName := ⟨RX8, "front", "(I)I"⟩
abbrev cX8_rear : ByteArray := prog_10_method_43_code
def yX8_rear : MethodName := ⟨RX8, "rear", "(I)I"⟩
abbrev cX8_stands : ByteArray := prog_10_method_44_code
def yX8_stands : MethodName := ⟨RX8, "stands", "(I)I"⟩
abbrev cX8_ordersFrom : ByteArray := prog_10_method_45_code
def yX8_ordersFrom : MethodName := ⟨RX8, "ordersFrom", "(III)I"⟩
abbrev cX8_ordersOf : ByteArray := prog_10_method_46_code
def yX8_ordersOf : MethodName := ⟨RX8, "ordersOf", "(I)I"⟩
abbrev cX8_aboardNow : ByteArray := prog_10_method_47_code
def yX8_aboardNow : MethodName := ⟨RX8, "aboardNow", "()I"⟩
abbrev cX8_now : ByteArray := prog_10_method_48_code
def yX8_now : MethodName := ⟨RX8, "now", "(I)I"⟩
abbrev cX8_bars : ByteArray := prog_10_method_49_code
def yX8_bars : MethodName := ⟨RX8, "bars", "()I"⟩
abbrev cX8_compartment : ByteArray := prog_10_method_50_code
def yX8_compartment : MethodName := ⟨RX8, "compartment", "(II)I"⟩
abbrev cX8_drop : ByteArray := prog_10_method_51_code
def yX8_drop : MethodName := ⟨RX8, "drop", "(II)I"⟩
abbrev cX8_may : ByteArray := prog_10_method_52_code
def yX8_may : MethodName := ⟨RX8, "may", "(II)Z"⟩
abbrev cX8_would : ByteArray := prog_10_method_53_code
def yX8_would : MethodName := ⟨RX8, "would", "(III)I"⟩
abbrev cX8_orders : ByteArray := prog_10_method_54_code
def yX8_orders : MethodName := ⟨RX8, "orders", "()I"⟩
abbrev cX8_ordered : ByteArray := prog_10_method_55_code
def yX8_ordered : MethodName := ⟨RX8, "ordered", "(I)I"⟩
abbrev cX8_without : ByteArray := prog_10_method_56_code
def yX8_without : MethodName := ⟨RX8, "without", "(I)I"⟩
abbrev cX8_pours : ByteArray := prog_10_method_57_code
def yX8_pours : MethodName := ⟨RX8, "pours", "(I)I"⟩
abbrev cX8_looks : ByteArray := prog_10_method_58_code
def yX8_looks : MethodName := ⟨RX8, "looks", "(I)V"⟩
abbrev cX8_tries : ByteArray := prog_10_method_59_code
def yX8_tries : MethodName := ⟨RX8, "tries", "(II)V"⟩
abbrev cX8_laysPlan : ByteArray := prog_10_method_60_code
def yX8_laysPlan : MethodName := ⟨RX8, "laysPlan", "(I)V"⟩
abbrev cX8_plan : ByteArray := prog_10_method_61_code
def yX8_plan : MethodName := ⟨RX8, "plan", "(I)I"⟩
abbrev cX8_washes : ByteArray := prog_10_method_62_code
def yX8_washes : MethodName := ⟨RX8, "washes", "()I"⟩
abbrev cX8_snap : ByteArray := prog_10_method_63_code
def yX8_snap : MethodName := ⟨RX8, "snap", "()V"⟩
abbrev cX8_asks : ByteArray := prog_10_method_64_code
def yX8_asks : MethodName := ⟨RX8, "asks", "(II)I"⟩
abbrev cX8_cancel : ByteArray := prog_10_method_65_code
def yX8_cancel : MethodName := ⟨RX8, "cancel", "(I)Z"⟩
abbrev cX8_puts : ByteArray := prog_10_method_66_code
def yX8_puts : MethodName := ⟨RX8, "puts", "(III)V"⟩
abbrev cX8_put : ByteArray := prog_10_method_67_code
def yX8_put : MethodName := ⟨RX8, "put", "(II)I"⟩
abbrev cX8_load : ByteArray := prog_10_method_68_code
def yX8_load : MethodName := ⟨RX8, "load", "()I"⟩
abbrev cX8_goes : ByteArray := prog_10_method_69_code
def yX8_goes : MethodName := ⟨RX8, "goes", "(I)V"⟩
abbrev cX8_unload : ByteArray := prog_10_method_70_code
def yX8_unload : MethodName := ⟨RX8, "unload", "(II)I"⟩
abbrev cX8_empty : ByteArray := prog_10_method_71_code
def yX8_empty : MethodName := ⟨RX8, "empty", "(I)I"⟩
abbrev cX8_wash : ByteArray := prog_10_method_72_code
def yX8_wash : MethodName := ⟨RX8, "wash", "(I)Z"⟩
abbrev cX8_undo : ByteArray := prog_10_method_73_code
def yX8_undo : MethodName := ⟨RX8, "undo", "()I"⟩
def RJx145de : String := "java/io/Serializable"
def TJx145de : u_T := fun k => match k with
  | _ => ("", "", "", false)
def tyJx145de : Nat → FieldType := fun k => match k with
  | _ => .int
theorem nmJx145de : ∀ a, a < 0 → ∀ b, b < 0 → a ≠ b → (TJx145de a).2.1 ≠ (TJx145de b).2.1 := by decide +kernel
theorem tyJx145de_ok : ∀ k, k < 0 → parseFieldDescriptor (TJx145de k).2.2.1 = some (tyJx145de k) := by decide +kernel
def RJx9f9b0 : String := "java/lang/CharSequence"
def TJx9f9b0 : u_T := fun k => match k with
  | _ => ("", "", "", false)
def tyJx9f9b0 : Nat → FieldType := fun k => match k with
  | _ => .int
theorem nmJx9f9b0 : ∀ a, a < 0 → ∀ b, b < 0 → a ≠ b → (TJx9f9b0 a).2.1 ≠ (TJx9f9b0 b).2.1 := by decide +kernel
theorem tyJx9f9b0_ok : ∀ k, k < 0 → parseFieldDescriptor (TJx9f9b0 k).2.2.1 = some (tyJx9f9b0 k) := by decide +kernel
def RJxb160c : String := "java/lang/Comparable"
def TJxb160c : u_T := fun k => match k with
  | _ => ("", "", "", false)
def tyJxb160c : Nat → FieldType := fun k => match k with
  | _ => .int
theorem nmJxb160c : ∀ a, a < 0 → ∀ b, b < 0 → a ≠ b → (TJxb160c a).2.1 ≠ (TJxb160c b).2.1 := by decide +kernel
theorem tyJxb160c_ok : ∀ k, k < 0 → parseFieldDescriptor (TJxb160c k).2.2.1 = some (tyJxb160c k) := by decide +kernel
def RJ13 : String := "java/lang/Long"
def TJ13 : u_T := fun k => match k with
  | _ => ("", "", "", false)
def tyJ13 : Nat → FieldType := fun k => match k with
  | _ => .int
theorem nmJ13 : ∀ a, a < 0 → ∀ b, b < 0 → a ≠ b → (TJ13 a).2.1 ≠ (TJ13 b).2.1 := by decide +kernel
theorem tyJ13_ok : ∀ k, k < 0 → parseFieldDescriptor (TJ13 k).2.2.1 = some (tyJ13 k) := by decide +kernel
abbrev cJ13_bitCount_95d88 : ByteArray := prog_15_method_50_code
def yJ13_bitCount_95d88 : MethodName := ⟨RJ13, "bitCount", "(J)I"⟩
def RJ9 : String := "java/lang/Math"
def TJ9 : u_T := fun k => match k with
  | _ => ("", "", "", false)
def tyJ9 : Nat → FieldType := fun k => match k with
  | _ => .int
theorem nmJ9 : ∀ a, a < 0 → ∀ b, b < 0 → a ≠ b → (TJ9 a).2.1 ≠ (TJ9 b).2.1 := by decide +kernel
theorem tyJ9_ok : ∀ k, k < 0 → parseFieldDescriptor (TJ9 k).2.2.1 = some (tyJ9 k) := by decide +kernel
abbrev cJ9_min_7cf53 : ByteArray := prog_16_method_69_code
def yJ9_min_7cf53 : MethodName := ⟨RJ9, "min", "(II)I"⟩
def RJ0 : String := "java/lang/String"
def TJ0 : u_T := fun k => match k with
  | _ => ("", "", "", false)
def tyJ0 : Nat → FieldType := fun k => match k with
  | _ => .int
theorem nmJ0 : ∀ a, a < 0 → ∀ b, b < 0 → a ≠ b → (TJ0 a).2.1 ≠ (TJ0 b).2.1 := by decide +kernel
theorem tyJ0_ok : ∀ k, k < 0 → parseFieldDescriptor (TJ0 k).2.2.1 = some (tyJ0 k) := by decide +kernel
abbrev cJ0_length_8abf5 : ByteArray := prog_18_method_54_code
def yJ0_length_8abf5 : MethodName := ⟨RJ0, "length", "()I"⟩
abbrev cJ0_charAt_5068e : ByteArray := prog_18_method_56_code
def yJ0_charAt_5068e : MethodName := ⟨RJ0, "charAt", "(I)C"⟩
abbrev cJ0_coder_7d493 : ByteArray := prog_18_method_152_code
def yJ0_coder_7d493 : MethodName := ⟨RJ0, "coder", "()B"⟩
abbrev cJ0_isLatin1_aae02 : ByteArray := prog_18_method_154_code
def yJ0_isLatin1_aae02 : MethodName := ⟨RJ0, "isLatin1", "()Z"⟩
abbrev cJ0_checkIndex_df160 : ByteArray := prog_18_method_155_code
def yJ0_checkIndex_df160 : MethodName := ⟨RJ0, "checkIndex", "(II)V"⟩
def RJ1 : String := "java/lang/StringLatin1"
def TJ1 : u_T := fun k => match k with
  | _ => ("", "", "", false)
def tyJ1 : Nat → FieldType := fun k => match k with
  | _ => .int
theorem nmJ1 : ∀ a, a < 0 → ∀ b, b < 0 → a ≠ b → (TJ1 a).2.1 ≠ (TJ1 b).2.1 := by decide +kernel
theorem tyJ1_ok : ∀ k, k < 0 → parseFieldDescriptor (TJ1 k).2.2.1 = some (tyJ1 k) := by decide +kernel
abbrev cJ1_charAt_3b067 : ByteArray := prog_19_method_2_code
def yJ1_charAt_3b067 : MethodName := ⟨RJ1, "charAt", "([BI)C"⟩
def RJ2 : String := "java/lang/StringUTF16"
def TJ2 : u_T := fun k => match k with
  | _ => ("", "", "", false)
def tyJ2 : Nat → FieldType := fun k => match k with
  | _ => .int
theorem nmJ2 : ∀ a, a < 0 → ∀ b, b < 0 → a ≠ b → (TJ2 a).2.1 ≠ (TJ2 b).2.1 := by decide +kernel
theorem tyJ2_ok : ∀ k, k < 0 → parseFieldDescriptor (TJ2 k).2.2.1 = some (tyJ2 k) := by decide +kernel
abbrev cJ2_getChar_3b067 : ByteArray := prog_20_method_5_code
def yJ2_getChar_3b067 : MethodName := ⟨RJ2, "getChar", "([BI)C"⟩
abbrev cJ2_length_9d52b : ByteArray := prog_20_method_6_code
def yJ2_length_9d52b : MethodName := ⟨RJ2, "length", "([B)I"⟩
abbrev cJ2_charAt_3b067 : ByteArray := prog_20_method_83_code
def yJ2_charAt_3b067 : MethodName := ⟨RJ2, "charAt", "([BI)C"⟩
abbrev cJ2_checkIndex_2214a : ByteArray := prog_20_method_91_code
def yJ2_checkIndex_2214a : MethodName := ⟨RJ2, "checkIndex", "(I[B)V"⟩
def RJ10 : String := "java/lang/System"
def TJ10 : u_T := fun k => match k with
  | _ => ("", "", "", false)
def tyJ10 : Nat → FieldType := fun k => match k with
  | _ => .int
theorem nmJ10 : ∀ a, a < 0 → ∀ b, b < 0 → a ≠ b → (TJ10 a).2.1 ≠ (TJ10 b).2.1 := by decide +kernel
theorem tyJ10_ok : ∀ k, k < 0 → parseFieldDescriptor (TJ10 k).2.2.1 = some (tyJ10 k) := by decide +kernel
def RJxfd54e : String := "java/lang/constant/Constable"
def TJxfd54e : u_T := fun k => match k with
  | _ => ("", "", "", false)
def tyJxfd54e : Nat → FieldType := fun k => match k with
  | _ => .int
theorem nmJxfd54e : ∀ a, a < 0 → ∀ b, b < 0 → a ≠ b → (TJxfd54e a).2.1 ≠ (TJxfd54e b).2.1 := by decide +kernel
theorem tyJxfd54e_ok : ∀ k, k < 0 → parseFieldDescriptor (TJxfd54e k).2.2.1 = some (tyJxfd54e k) := by decide +kernel
def RJx3cf43 : String := "java/lang/constant/ConstantDesc"
def TJx3cf43 : u_T := fun k => match k with
  | _ => ("", "", "", false)
def tyJx3cf43 : Nat → FieldType := fun k => match k with
  | _ => .int
theorem nmJx3cf43 : ∀ a, a < 0 → ∀ b, b < 0 → a ≠ b → (TJx3cf43 a).2.1 ≠ (TJx3cf43 b).2.1 := by decide +kernel
theorem tyJx3cf43_ok : ∀ k, k < 0 → parseFieldDescriptor (TJx3cf43 k).2.2.1 = some (tyJx3cf43 k) := by decide +kernel
def RJ7 : String := "java/util/Arrays"
def TJ7 : u_T := fun k => match k with
  | _ => ("", "", "", false)
def tyJ7 : Nat → FieldType := fun k => match k with
  | _ => .int
theorem nmJ7 : ∀ a, a < 0 → ∀ b, b < 0 → a ≠ b → (TJ7 a).2.1 ≠ (TJ7 b).2.1 := by decide +kernel
theorem tyJ7_ok : ∀ k, k < 0 → parseFieldDescriptor (TJ7 k).2.2.1 = some (tyJ7 k) := by decide +kernel
abbrev cJ7_fill_53178 : ByteArray := prog_25_method_103_code
def yJ7_fill_53178 : MethodName := ⟨RJ7, "fill", "([II)V"⟩
def RJ3 : String := "jdk/internal/util/Preconditions"
def TJ3 : u_T := fun k => match k with
  | _ => ("", "", "", false)
def tyJ3 : Nat → FieldType := fun k => match k with
  | _ => .int
theorem nmJ3 : ∀ a, a < 0 → ∀ b, b < 0 → a ≠ b → (TJ3 a).2.1 ≠ (TJ3 b).2.1 := by decide +kernel
theorem tyJ3_ok : ∀ k, k < 0 → parseFieldDescriptor (TJ3 k).2.2.1 = some (tyJ3 k) := by decide +kernel
abbrev cJ3_checkIndex_8e157 : ByteArray := prog_27_method_11_code
def yJ3_checkIndex_8e157 : MethodName := ⟨RJ3, "checkIndex", "(IILjava/util/function/BiFunction;)I"⟩
def RL : String := "TankerDeskLaw"
abbrev cL_drop : ByteArray := method_3_code
def yL_drop : MethodName := ⟨RL, "drop", "(LTankerDesk;II[J)I"⟩
abbrev cL_law : ByteArray := code
def yL_law : MethodName := ⟨RL, "law", "([I)Z"⟩
theorem inX0 : ∀ w ∈ wsX00, w ∈ lw_tbl := in_pl [243, 245, 247, 249] (by decide +kernel)
theorem inX1 : ∀ w ∈ wsX10, w ∈ lw_tbl := in_pl [288, 290, 292] (by decide +kernel)
theorem inX2 : ∀ w ∈ wsX20, w ∈ lw_tbl := in_pl [307, 309, 311, 313] (by decide +kernel)
theorem inX3 : ∀ w ∈ wsX30, w ∈ lw_tbl := in_pl [348, 350, 352, 354, 356, 358, 360, 362, 364, 366, 368, 370, 372, 374, 376, 378, 380, 382] (by decide +kernel)
theorem inX4 : ∀ w ∈ wsX40, w ∈ lw_tbl := in_pl [121, 123, 125, 127, 129, 131, 133, 135, 137, 139, 141] (by decide +kernel)
theorem inX5 : ∀ w ∈ wsX50, w ∈ lw_tbl := in_pl [264, 266, 268, 270, 272] (by decide +kernel)
theorem inX6 : ∀ w ∈ wsX60, w ∈ lw_tbl := in_pl [196, 198, 200, 202, 204, 206, 208, 210, 212, 214, 216, 218] (by decide +kernel)
theorem inX7 : ∀ w ∈ wsX70, w ∈ lw_tbl := in_pl [419, 421, 423, 425, 427, 429, 431, 433, 435, 437, 439] (by decide +kernel)
theorem inX8 : ∀ w ∈ wsX80, w ∈ lw_tbl := in_pl [973, 975, 977, 979, 981, 983, 985, 987, 989, 991, 993, 995, 997, 999, 1001, 1003, 1005, 1007, 1009, 1011, 1013, 1015, 1017, 1019, 1021, 1023, 1025, 1027] (by decide +kernel)
end
section
theorem dX0_init_0 : decode cX0_init 0 = .ok (.aload_n 0, 1) := by decide +kernel
theorem dX0_init_1 : decode cX0_init 1 = .ok (.invokespecial 3, 3) := by decide +kernel
theorem dX0_init_4 : decode cX0_init 4 = .ok (.aload_n 0, 1) := by decide +kernel
theorem dX0_init_5 : decode cX0_init 5 = .ok (.iconst 5, 1) := by decide +kernel
theorem dX0_init_6 : decode cX0_init 6 = .ok (.newarray .int, 2) := by decide +kernel
theorem dX0_init_8 : decode cX0_init 8 = .ok (.putfield 9, 3) := by decide +kernel
theorem dX0_init_11 : decode cX0_init 11 = .ok (.aload_n 0, 1) := by decide +kernel
theorem dX0_init_12 : decode cX0_init 12 = .ok (.iconst 5, 1) := by decide +kernel
theorem dX0_init_13 : decode cX0_init 13 = .ok (.newarray .int, 2) := by decide +kernel
theorem dX0_init_15 : decode cX0_init 15 = .ok (.putfield 15, 3) := by decide +kernel
theorem dX0_init_18 : decode cX0_init 18 = .ok (.aload_n 0, 1) := by decide +kernel
theorem dX0_init_19 : decode cX0_init 19 = .ok (.iconst 5, 1) := by decide +kernel
theorem dX0_init_20 : decode cX0_init 20 = .ok (.newarray .int, 2) := by decide +kernel
theorem dX0_init_22 : decode cX0_init 22 = .ok (.putfield 18, 3) := by decide +kernel
theorem dX0_init_25 : decode cX0_init 25 = .ok (.aload_n 0, 1) := by decide +kernel
theorem dX0_init_26 : decode cX0_init 26 = .ok (.iconst 5, 1) := by decide +kernel
theorem dX0_init_27 : decode cX0_init 27 = .ok (.newarray .int, 2) := by decide +kernel
theorem dX0_init_29 : decode cX0_init 29 = .ok (.putfield 21, 3) := by decide +kernel
theorem dX0_init_32 : decode cX0_init 32 = .ok (.return_, 1) := by decide +kernel
theorem dX0_copyFrom_0 : decode cX0_copyFrom 0 = .ok (.aload_n 1, 1) := by decide +kernel
theorem dX0_copyFrom_1 : decode cX0_copyFrom 1 = .ok (.getfield 9, 3) := by decide +kernel
theorem dX0_copyFrom_4 : decode cX0_copyFrom 4 = .ok (.iconst 0, 1) := by decide +kernel
theorem dX0_copyFrom_5 : decode cX0_copyFrom 5 = .ok (.aload_n 0, 1) := by decide +kernel
theorem dX0_copyFrom_6 : decode cX0_copyFrom 6 = .ok (.getfield 9, 3) := by decide +kernel
theorem dX0_copyFrom_9 : decode cX0_copyFrom 9 = .ok (.iconst 0, 1) := by decide +kernel
theorem dX0_copyFrom_10 : decode cX0_copyFrom 10 = .ok (.iconst 5, 1) := by decide +kernel
theorem dX0_copyFrom_11 : decode cX0_copyFrom 11 = .ok (.invokestatic 24, 3) := by decide +kernel
theorem dX0_copyFrom_14 : decode cX0_copyFrom 14 = .ok (.aload_n 1, 1) := by decide +kernel
theorem dX0_copyFrom_15 : decode cX0_copyFrom 15 = .ok (.getfield 21, 3) := by decide +kernel
theorem dX0_copyFrom_18 : decode cX0_copyFrom 18 = .ok (.iconst 0, 1) := by decide +kernel
theorem dX0_copyFrom_19 : decode cX0_copyFrom 19 = .ok (.aload_n 0, 1) := by decide +kernel
theorem dX0_copyFrom_20 : decode cX0_copyFrom 20 = .ok (.getfield 21, 3) := by decide +kernel
theorem dX0_copyFrom_23 : decode cX0_copyFrom 23 = .ok (.iconst 0, 1) := by decide +kernel
theorem dX0_copyFrom_24 : decode cX0_copyFrom 24 = .ok (.iconst 5, 1) := by decide +kernel
theorem dX0_copyFrom_25 : decode cX0_copyFrom 25 = .ok (.invokestatic 24, 3) := by decide +kernel
theorem dX0_copyFrom_28 : decode cX0_copyFrom 28 = .ok (.aload_n 1, 1) := by decide +kernel
theorem dX0_copyFrom_29 : decode cX0_copyFrom 29 = .ok (.getfield 15, 3) := by decide +kernel
theorem dX0_copyFrom_32 : decode cX0_copyFrom 32 = .ok (.iconst 0, 1) := by decide +kernel
theorem dX0_copyFrom_33 : decode cX0_copyFrom 33 = .ok (.aload_n 0, 1) := by decide +kernel
theorem dX0_copyFrom_34 : decode cX0_copyFrom 34 = .ok (.getfield 15, 3) := by decide +kernel
theorem dX0_copyFrom_37 : decode cX0_copyFrom 37 = .ok (.iconst 0, 1) := by decide +kernel
theorem dX0_copyFrom_38 : decode cX0_copyFrom 38 = .ok (.iconst 5, 1) := by decide +kernel
theorem dX0_copyFrom_39 : decode cX0_copyFrom 39 = .ok (.invokestatic 24, 3) := by decide +kernel
theorem dX0_copyFrom_42 : decode cX0_copyFrom 42 = .ok (.aload_n 1, 1) := by decide +kernel
theorem dX0_copyFrom_43 : decode cX0_copyFrom 43 = .ok (.getfield 18, 3) := by decide +kernel
theorem dX0_copyFrom_46 : decode cX0_copyFrom 46 = .ok (.iconst 0, 1) := by decide +kernel
theorem dX0_copyFrom_47 : decode cX0_copyFrom 47 = .ok (.aload_n 0, 1) := by decide +kernel
theorem dX0_copyFrom_48 : decode cX0_copyFrom 48 = .ok (.getfield 18, 3) := by decide +kernel
theorem dX0_copyFrom_51 : decode cX0_copyFrom 51 = .ok (.iconst 0, 1) := by decide +kernel
theorem dX0_copyFrom_52 : decode cX0_copyFrom 52 = .ok (.iconst 5, 1) := by decide +kernel
theorem dX0_copyFrom_53 : decode cX0_copyFrom 53 = .ok (.invokestatic 24, 3) := by decide +kernel
theorem dX0_copyFrom_56 : decode cX0_copyFrom 56 = .ok (.return_, 1) := by decide +kernel
theorem dX0_begin_0 : decode cX0_begin 0 = .ok (.aload_n 0, 1) := by decide +kernel
theorem dX0_begin_1 : decode cX0_begin 1 = .ok (.getfield 9, 3) := by decide +kernel
theorem dX0_begin_4 : decode cX0_begin 4 = .ok (.iconst 0, 1) := by decide +kernel
theorem dX0_begin_5 : decode cX0_begin 5 = .ok (.invokestatic 30, 3) := by decide +kernel
theorem dX0_begin_8 : decode cX0_begin 8 = .ok (.aload_n 0, 1) := by decide +kernel
theorem dX0_begin_9 : decode cX0_begin 9 = .ok (.getfield 21, 3) := by decide +kernel
theorem dX0_begin_12 : decode cX0_begin 12 = .ok (.iconst 0, 1) := by decide +kernel
theorem dX0_begin_13 : decode cX0_begin 13 = .ok (.invokestatic 30, 3) := by decide +kernel
theorem dX0_begin_16 : decode cX0_begin 16 = .ok (.aload_n 0, 1) := by decide +kernel
theorem dX0_begin_17 : decode cX0_begin 17 = .ok (.getfield 15, 3) := by decide +kernel
theorem dX0_begin_20 : decode cX0_begin 20 = .ok (.iconst (-1), 1) := by decide +kernel
theorem dX0_begin_21 : decode cX0_begin 21 = .ok (.invokestatic 30, 3) := by decide +kernel
theorem dX0_begin_24 : decode cX0_begin 24 = .ok (.aload_n 1, 1) := by decide +kernel
theorem dX0_begin_25 : decode cX0_begin 25 = .ok (.getfield 36, 3) := by decide +kernel
theorem dX0_begin_28 : decode cX0_begin 28 = .ok (.iconst 0, 1) := by decide +kernel
theorem dX0_begin_29 : decode cX0_begin 29 = .ok (.aload_n 0, 1) := by decide +kernel
theorem dX0_begin_30 : decode cX0_begin 30 = .ok (.getfield 18, 3) := by decide +kernel
theorem dX0_begin_33 : decode cX0_begin 33 = .ok (.iconst 0, 1) := by decide +kernel
theorem dX0_begin_34 : decode cX0_begin 34 = .ok (.iconst 5, 1) := by decide +kernel
theorem dX0_begin_35 : decode cX0_begin 35 = .ok (.invokestatic 24, 3) := by decide +kernel
theorem dX0_begin_38 : decode cX0_begin 38 = .ok (.return_, 1) := by decide +kernel
theorem dX0_lay_0 : decode cX0_lay 0 = .ok (.aload_n 0, 1) := by decide +kernel
theorem dX0_lay_1 : decode cX0_lay 1 = .ok (.getfield 9, 3) := by decide +kernel
theorem dX0_lay_4 : decode cX0_lay 4 = .ok (.iload_n 2, 1) := by decide +kernel
theorem dX0_lay_5 : decode cX0_lay 5 = .ok (.iload 5, 2) := by decide +kernel
theorem dX0_lay_7 : decode cX0_lay 7 = .ok (.iastore, 1) := by decide +kernel
theorem dX0_lay_8 : decode cX0_lay 8 = .ok (.aload_n 0, 1) := by decide +kernel
theorem dX0_lay_9 : decode cX0_lay 9 = .ok (.getfield 21, 3) := by decide +kernel
theorem dX0_lay_12 : decode cX0_lay 12 = .ok (.iload_n 2, 1) := by decide +kernel
theorem dX0_lay_13 : decode cX0_lay 13 = .ok (.iload 5, 2) := by decide +kernel
theorem dX0_lay_15 : decode cX0_lay 15 = .ok (.aload_n 1, 1) := by decide +kernel
theorem dX0_lay_16 : decode cX0_lay 16 = .ok (.getfield 39, 3) := by decide +kernel
theorem dX0_lay_19 : decode cX0_lay 19 = .ok (.iload 4, 2) := by decide +kernel
theorem dX0_lay_21 : decode cX0_lay 21 = .ok (.iaload, 1) := by decide +kernel
theorem dX0_lay_22 : decode cX0_lay 22 = .ok (.imul, 1) := by decide +kernel
theorem dX0_lay_23 : decode cX0_lay 23 = .ok (.iastore, 1) := by decide +kernel
theorem dX0_lay_24 : decode cX0_lay 24 = .ok (.aload_n 0, 1) := by decide +kernel
theorem dX0_lay_25 : decode cX0_lay 25 = .ok (.getfield 15, 3) := by decide +kernel
theorem dX0_lay_28 : decode cX0_lay 28 = .ok (.iload_n 2, 1) := by decide +kernel
theorem dX0_lay_29 : decode cX0_lay 29 = .ok (.iload_n 3, 1) := by decide +kernel
theorem dX0_lay_30 : decode cX0_lay 30 = .ok (.iastore, 1) := by decide +kernel
theorem dX0_lay_31 : decode cX0_lay 31 = .ok (.aload_n 0, 1) := by decide +kernel
theorem dX0_lay_32 : decode cX0_lay 32 = .ok (.getfield 18, 3) := by decide +kernel
theorem dX0_lay_35 : decode cX0_lay 35 = .ok (.iload_n 2, 1) := by decide +kernel
theorem dX0_lay_36 : decode cX0_lay 36 = .ok (.iload 4, 2) := by decide +kernel
theorem dX0_lay_38 : decode cX0_lay 38 = .ok (.iastore, 1) := by decide +kernel
theorem dX0_lay_39 : decode cX0_lay 39 = .ok (.return_, 1) := by decide +kernel
theorem dX0_takeOut_0 : decode cX0_takeOut 0 = .ok (.aload_n 0, 1) := by decide +kernel
theorem dX0_takeOut_1 : decode cX0_takeOut 1 = .ok (.getfield 9, 3) := by decide +kernel
theorem dX0_takeOut_4 : decode cX0_takeOut 4 = .ok (.iload_n 1, 1) := by decide +kernel
theorem dX0_takeOut_5 : decode cX0_takeOut 5 = .ok (.iconst 0, 1) := by decide +kernel
theorem dX0_takeOut_6 : decode cX0_takeOut 6 = .ok (.iastore, 1) := by decide +kernel
theorem dX0_takeOut_7 : decode cX0_takeOut 7 = .ok (.aload_n 0, 1) := by decide +kernel
theorem dX0_takeOut_8 : decode cX0_takeOut 8 = .ok (.getfield 21, 3) := by decide +kernel
theorem dX0_takeOut_11 : decode cX0_takeOut 11 = .ok (.iload_n 1, 1) := by decide +kernel
theorem dX0_takeOut_12 : decode cX0_takeOut 12 = .ok (.iconst 0, 1) := by decide +kernel
theorem dX0_takeOut_13 : decode cX0_takeOut 13 = .ok (.iastore, 1) := by decide +kernel
theorem dX0_takeOut_14 : decode cX0_takeOut 14 = .ok (.aload_n 0, 1) := by decide +kernel
theorem dX0_takeOut_15 : decode cX0_takeOut 15 = .ok (.getfield 15, 3) := by decide +kernel
theorem dX0_takeOut_18 : decode cX0_takeOut 18 = .ok (.iload_n 1, 1) := by decide +kernel
theorem dX0_takeOut_19 : decode cX0_takeOut 19 = .ok (.iconst (-1), 1) := by decide +kernel
theorem dX0_takeOut_20 : decode cX0_takeOut 20 = .ok (.iastore, 1) := by decide +kernel
theorem dX0_takeOut_21 : decode cX0_takeOut 21 = .ok (.return_, 1) := by decide +kernel
theorem dX0_takeOutAll_0 : decode cX0_takeOutAll 0 = .ok (.iconst 0, 1) := by decide +kernel
theorem dX0_takeOutAll_1 : decode cX0_takeOutAll 1 = .ok (.istore_n 2, 1) := by decide +kernel
theorem dX0_takeOutAll_2 : decode cX0_takeOutAll 2 = .ok (.iload_n 2, 1) := by decide +kernel
theorem dX0_takeOutAll_3 : decode cX0_takeOutAll 3 = .ok (.iconst 5, 1) := by decide +kernel
theorem dX0_takeOutAll_4 : decode cX0_takeOutAll 4 = .ok (.if_icmp .ge 22, 3) := by decide +kernel
theorem dX0_takeOutAll_7 : decode cX0_takeOutAll 7 = .ok (.iload_n 1, 1) := by decide +kernel
theorem dX0_takeOutAll_8 : decode cX0_takeOutAll 8 = .ok (.iload_n 2, 1) := by decide +kernel
theorem dX0_takeOutAll_9 : decode cX0_takeOutAll 9 = .ok (.invokestatic 42, 3) := by decide +kernel
theorem dX0_takeOutAll_12 : decode cX0_takeOutAll 12 = .ok (.ifCond .eq 8, 3) := by decide +kernel
theorem dX0_takeOutAll_15 : decode cX0_takeOutAll 15 = .ok (.aload_n 0, 1) := by decide +kernel
theorem dX0_takeOutAll_16 : decode cX0_takeOutAll 16 = .ok (.iload_n 2, 1) := by decide +kernel
theorem dX0_takeOutAll_17 : decode cX0_takeOutAll 17 = .ok (.invokevirtual 46, 3) := by decide +kernel
theorem dX0_takeOutAll_20 : decode cX0_takeOutAll 20 = .ok (.iinc 2 1, 3) := by decide +kernel
theorem dX0_takeOutAll_23 : decode cX0_takeOutAll 23 = .ok (.goto (-21), 3) := by decide +kernel
theorem dX0_takeOutAll_26 : decode cX0_takeOutAll 26 = .ok (.return_, 1) := by decide +kernel
theorem dX0_loaded_0 : decode cX0_loaded 0 = .ok (.iconst 0, 1) := by decide +kernel
theorem dX0_loaded_1 : decode cX0_loaded 1 = .ok (.istore_n 2, 1) := by decide +kernel
theorem dX0_loaded_2 : decode cX0_loaded 2 = .ok (.iconst 0, 1) := by decide +kernel
theorem dX0_loaded_3 : decode cX0_loaded 3 = .ok (.istore_n 3, 1) := by decide +kernel
theorem dX0_loaded_4 : decode cX0_loaded 4 = .ok (.iload_n 3, 1) := by decide +kernel
theorem dX0_loaded_5 : decode cX0_loaded 5 = .ok (.iconst 5, 1) := by decide +kernel
theorem dX0_loaded_6 : decode cX0_loaded 6 = .ok (.if_icmp .ge 28, 3) := by decide +kernel
theorem dX0_loaded_9 : decode cX0_loaded 9 = .ok (.aload_n 0, 1) := by decide +kernel
theorem dX0_loaded_10 : decode cX0_loaded 10 = .ok (.getfield 15, 3) := by decide +kernel
theorem dX0_loaded_13 : decode cX0_loaded 13 = .ok (.iload_n 3, 1) := by decide +kernel
theorem dX0_loaded_14 : decode cX0_loaded 14 = .ok (.iaload, 1) := by decide +kernel
theorem dX0_loaded_15 : decode cX0_loaded 15 = .ok (.iload_n 1, 1) := by decide +kernel
theorem dX0_loaded_16 : decode cX0_loaded 16 = .ok (.if_icmp .ne 12, 3) := by decide +kernel
theorem dX0_loaded_19 : decode cX0_loaded 19 = .ok (.iload_n 2, 1) := by decide +kernel
theorem dX0_loaded_20 : decode cX0_loaded 20 = .ok (.aload_n 0, 1) := by decide +kernel
theorem dX0_loaded_21 : decode cX0_loaded 21 = .ok (.getfield 9, 3) := by decide +kernel
theorem dX0_loaded_24 : decode cX0_loaded 24 = .ok (.iload_n 3, 1) := by decide +kernel
theorem dX0_loaded_25 : decode cX0_loaded 25 = .ok (.iaload, 1) := by decide +kernel
theorem dX0_loaded_26 : decode cX0_loaded 26 = .ok (.iadd, 1) := by decide +kernel
theorem dX0_loaded_27 : decode cX0_loaded 27 = .ok (.istore_n 2, 1) := by decide +kernel
theorem dX0_loaded_28 : decode cX0_loaded 28 = .ok (.iinc 3 1, 3) := by decide +kernel
theorem dX0_loaded_31 : decode cX0_loaded 31 = .ok (.goto (-27), 3) := by decide +kernel
theorem dX0_loaded_34 : decode cX0_loaded 34 = .ok (.iload_n 2, 1) := by decide +kernel
theorem dX0_loaded_35 : decode cX0_loaded 35 = .ok (.ireturn, 1) := by decide +kernel
theorem dX0_partsOf_0 : decode cX0_partsOf 0 = .ok (.iconst 0, 1) := by decide +kernel
theorem dX0_partsOf_1 : decode cX0_partsOf 1 = .ok (.istore_n 2, 1) := by decide +kernel
theorem dX0_partsOf_2 : decode cX0_partsOf 2 = .ok (.iconst 0, 1) := by decide +kernel
theorem dX0_partsOf_3 : decode cX0_partsOf 3 = .ok (.istore_n 3, 1) := by decide +kernel
theorem dX0_partsOf_4 : decode cX0_partsOf 4 = .ok (.iload_n 3, 1) := by decide +kernel
theorem dX0_partsOf_5 : decode cX0_partsOf 5 = .ok (.iconst 5, 1) := by decide +kernel
theorem dX0_partsOf_6 : decode cX0_partsOf 6 = .ok (.if_icmp .ge 25, 3) := by decide +kernel
theorem dX0_partsOf_9 : decode cX0_partsOf 9 = .ok (.aload_n 0, 1) := by decide +kernel
theorem dX0_partsOf_10 : decode cX0_partsOf 10 = .ok (.getfield 15, 3) := by decide +kernel
theorem dX0_partsOf_13 : decode cX0_partsOf 13 = .ok (.iload_n 3, 1) := by decide +kernel
theorem dX0_partsOf_14 : decode cX0_partsOf 14 = .ok (.iaload, 1) := by decide +kernel
theorem dX0_partsOf_15 : decode cX0_partsOf 15 = .ok (.iload_n 1, 1) := by decide +kernel
theorem dX0_partsOf_16 : decode cX0_partsOf 16 = .ok (.if_icmp .ne 9, 3) := by decide +kernel
theorem dX0_partsOf_19 : decode cX0_partsOf 19 = .ok (.iload_n 2, 1) := by decide +kernel
theorem dX0_partsOf_20 : decode cX0_partsOf 20 = .ok (.iconst 1, 1) := by decide +kernel
theorem dX0_partsOf_21 : decode cX0_partsOf 21 = .ok (.iload_n 3, 1) := by decide +kernel
theorem dX0_partsOf_22 : decode cX0_partsOf 22 = .ok (.ishl, 1) := by decide +kernel
theorem dX0_partsOf_23 : decode cX0_partsOf 23 = .ok (.ior, 1) := by decide +kernel
theorem dX0_partsOf_24 : decode cX0_partsOf 24 = .ok (.istore_n 2, 1) := by decide +kernel
theorem dX0_partsOf_25 : decode cX0_partsOf 25 = .ok (.iinc 3 1, 3) := by decide +kernel
theorem dX0_partsOf_28 : decode cX0_partsOf 28 = .ok (.goto (-24), 3) := by decide +kernel
theorem dX0_partsOf_31 : decode cX0_partsOf 31 = .ok (.iload_n 2, 1) := by decide +kernel
theorem dX0_partsOf_32 : decode cX0_partsOf 32 = .ok (.ireturn, 1) := by decide +kernel
theorem dX0_standing_0 : decode cX0_standing 0 = .ok (.aload_n 0, 1) := by decide +kernel
theorem dX0_standing_1 : decode cX0_standing 1 = .ok (.aload_n 1, 1) := by decide +kernel
theorem dX0_standing_2 : decode cX0_standing 2 = .ok (.iload_n 2, 1) := by decide +kernel
theorem dX0_standing_3 : decode cX0_standing 3 = .ok (.invokevirtual 50, 3) := by decide +kernel
theorem dX0_standing_6 : decode cX0_standing 6 = .ok (.ifCond .eq 5, 3) := by decide +kernel
theorem dX0_standing_9 : decode cX0_standing 9 = .ok (.iconst 1, 1) := by decide +kernel
theorem dX0_standing_10 : decode cX0_standing 10 = .ok (.ireturn, 1) := by decide +kernel
theorem dX0_standing_11 : decode cX0_standing 11 = .ok (.aload_n 1, 1) := by decide +kernel
theorem dX0_standing_12 : decode cX0_standing 12 = .ok (.getfield 54, 3) := by decide +kernel
theorem dX0_standing_15 : decode cX0_standing 15 = .ok (.iconst 0, 1) := by decide +kernel
theorem dX0_standing_16 : decode cX0_standing 16 = .ok (.iaload, 1) := by decide +kernel
theorem dX0_standing_17 : decode cX0_standing 17 = .ok (.istore_n 3, 1) := by decide +kernel
theorem dX0_standing_18 : decode cX0_standing 18 = .ok (.aload_n 0, 1) := by decide +kernel
theorem dX0_standing_19 : decode cX0_standing 19 = .ok (.aload_n 1, 1) := by decide +kernel
theorem dX0_standing_20 : decode cX0_standing 20 = .ok (.iload_n 2, 1) := by decide +kernel
theorem dX0_standing_21 : decode cX0_standing 21 = .ok (.invokevirtual 57, 3) := by decide +kernel
theorem dX0_standing_24 : decode cX0_standing 24 = .ok (.istore 4, 2) := by decide +kernel
theorem dX0_standing_26 : decode cX0_standing 26 = .ok (.iload 4, 2) := by decide +kernel
theorem dX0_standing_28 : decode cX0_standing 28 = .ok (.aload_n 1, 1) := by decide +kernel
theorem dX0_standing_29 : decode cX0_standing 29 = .ok (.getfield 54, 3) := by decide +kernel
theorem dX0_standing_32 : decode cX0_standing 32 = .ok (.iconst 4, 1) := by decide +kernel
theorem dX0_standing_33 : decode cX0_standing 33 = .ok (.iaload, 1) := by decide +kernel
theorem dX0_standing_34 : decode cX0_standing 34 = .ok (.iload_n 3, 1) := by decide +kernel
theorem dX0_standing_35 : decode cX0_standing 35 = .ok (.imul, 1) := by decide +kernel
theorem dX0_standing_36 : decode cX0_standing 36 = .ok (.if_icmp .le 5, 3) := by decide +kernel
theorem dX0_standing_39 : decode cX0_standing 39 = .ok (.iconst 2, 1) := by decide +kernel
theorem dX0_standing_40 : decode cX0_standing 40 = .ok (.ireturn, 1) := by decide +kernel
theorem dX0_standing_41 : decode cX0_standing 41 = .ok (.iload 4, 2) := by decide +kernel
theorem dX0_standing_43 : decode cX0_standing 43 = .ok (.aload_n 1, 1) := by decide +kernel
theorem dX0_standing_44 : decode cX0_standing 44 = .ok (.getfield 54, 3) := by decide +kernel
theorem dX0_standing_47 : decode cX0_standing 47 = .ok (.iconst 3, 1) := by decide +kernel
theorem dX0_standing_48 : decode cX0_standing 48 = .ok (.iaload, 1) := by decide +kernel
theorem dX0_standing_49 : decode cX0_standing 49 = .ok (.iload_n 3, 1) := by decide +kernel
theorem dX0_standing_50 : decode cX0_standing 50 = .ok (.imul, 1) := by decide +kernel
theorem dX0_standing_51 : decode cX0_standing 51 = .ok (.if_icmp .ge 5, 3) := by decide +kernel
theorem dX0_standing_54 : decode cX0_standing 54 = .ok (.iconst 3, 1) := by decide +kernel
theorem dX0_standing_55 : decode cX0_standing 55 = .ok (.ireturn, 1) := by decide +kernel
theorem dX0_standing_56 : decode cX0_standing 56 = .ok (.aload_n 0, 1) := by decide +kernel
theorem dX0_standing_57 : decode cX0_standing 57 = .ok (.aload_n 1, 1) := by decide +kernel
theorem dX0_standing_58 : decode cX0_standing 58 = .ok (.iload_n 2, 1) := by decide +kernel
theorem dX0_standing_59 : decode cX0_standing 59 = .ok (.invokevirtual 61, 3) := by decide +kernel
theorem dX0_standing_62 : decode cX0_standing 62 = .ok (.aload_n 1, 1) := by decide +kernel
theorem dX0_standing_63 : decode cX0_standing 63 = .ok (.getfield 54, 3) := by decide +kernel
theorem dX0_standing_66 : decode cX0_standing 66 = .ok (.iconst 5, 1) := by decide +kernel
theorem dX0_standing_67 : decode cX0_standing 67 = .ok (.iaload, 1) := by decide +kernel
theorem dX0_standing_68 : decode cX0_standing 68 = .ok (.iload_n 3, 1) := by decide +kernel
theorem dX0_standing_69 : decode cX0_standing 69 = .ok (.imul, 1) := by decide +kernel
theorem dX0_standing_70 : decode cX0_standing 70 = .ok (.if_icmp .le 7, 3) := by decide +kernel
theorem dX0_standing_73 : decode cX0_standing 73 = .ok (.iconst 4, 1) := by decide +kernel
theorem dX0_standing_74 : decode cX0_standing 74 = .ok (.goto 4, 3) := by decide +kernel
theorem dX0_standing_77 : decode cX0_standing 77 = .ok (.iconst 0, 1) := by decide +kernel
theorem dX0_standing_78 : decode cX0_standing 78 = .ok (.ireturn, 1) := by decide +kernel
theorem dX0_frontLoad_0 : decode cX0_frontLoad 0 = .ok (.aload_n 1, 1) := by decide +kernel
theorem dX0_frontLoad_1 : decode cX0_frontLoad 1 = .ok (.getfield 54, 3) := by decide +kernel
theorem dX0_frontLoad_4 : decode cX0_frontLoad 4 = .ok (.iconst 0, 1) := by decide +kernel
theorem dX0_frontLoad_5 : decode cX0_frontLoad 5 = .ok (.iaload, 1) := by decide +kernel
theorem dX0_frontLoad_6 : decode cX0_frontLoad 6 = .ok (.istore_n 3, 1) := by decide +kernel
theorem dX0_frontLoad_7 : decode cX0_frontLoad 7 = .ok (.aload_n 1, 1) := by decide +kernel
theorem dX0_frontLoad_8 : decode cX0_frontLoad 8 = .ok (.getfield 54, 3) := by decide +kernel
theorem dX0_frontLoad_11 : decode cX0_frontLoad 11 = .ok (.iconst 1, 1) := by decide +kernel
theorem dX0_frontLoad_12 : decode cX0_frontLoad 12 = .ok (.iaload, 1) := by decide +kernel
theorem dX0_frontLoad_13 : decode cX0_frontLoad 13 = .ok (.iload_n 3, 1) := by decide +kernel
theorem dX0_frontLoad_14 : decode cX0_frontLoad 14 = .ok (.imul, 1) := by decide +kernel
theorem dX0_frontLoad_15 : decode cX0_frontLoad 15 = .ok (.istore 4, 2) := by decide +kernel
theorem dX0_frontLoad_17 : decode cX0_frontLoad 17 = .ok (.iconst 0, 1) := by decide +kernel
theorem dX0_frontLoad_18 : decode cX0_frontLoad 18 = .ok (.istore 5, 2) := by decide +kernel
theorem dX0_frontLoad_20 : decode cX0_frontLoad 20 = .ok (.iload 5, 2) := by decide +kernel
theorem dX0_frontLoad_22 : decode cX0_frontLoad 22 = .ok (.aload_n 1, 1) := by decide +kernel
theorem dX0_frontLoad_23 : decode cX0_frontLoad 23 = .ok (.getfield 64, 3) := by decide +kernel
theorem dX0_frontLoad_26 : decode cX0_frontLoad 26 = .ok (.if_icmp .ge 44, 3) := by decide +kernel
theorem dX0_frontLoad_29 : decode cX0_frontLoad 29 = .ok (.iload 4, 2) := by decide +kernel
theorem dX0_frontLoad_31 : decode cX0_frontLoad 31 = .ok (.iload_n 2, 1) := by decide +kernel
theorem dX0_frontLoad_32 : decode cX0_frontLoad 32 = .ok (.iload 5, 2) := by decide +kernel
theorem dX0_frontLoad_34 : decode cX0_frontLoad 34 = .ok (.invokestatic 42, 3) := by decide +kernel
theorem dX0_frontLoad_37 : decode cX0_frontLoad 37 = .ok (.ifCond .eq 7, 3) := by decide +kernel
theorem dX0_frontLoad_40 : decode cX0_frontLoad 40 = .ok (.iconst 0, 1) := by decide +kernel
theorem dX0_frontLoad_41 : decode cX0_frontLoad 41 = .ok (.goto 20, 3) := by decide +kernel
theorem dX0_frontLoad_44 : decode cX0_frontLoad 44 = .ok (.aload_n 0, 1) := by decide +kernel
theorem dX0_frontLoad_45 : decode cX0_frontLoad 45 = .ok (.getfield 21, 3) := by decide +kernel
theorem dX0_frontLoad_48 : decode cX0_frontLoad 48 = .ok (.iload 5, 2) := by decide +kernel
theorem dX0_frontLoad_50 : decode cX0_frontLoad 50 = .ok (.iaload, 1) := by decide +kernel
theorem dX0_frontLoad_51 : decode cX0_frontLoad 51 = .ok (.iload_n 3, 1) := by decide +kernel
theorem dX0_frontLoad_52 : decode cX0_frontLoad 52 = .ok (.aload_n 1, 1) := by decide +kernel
theorem dX0_frontLoad_53 : decode cX0_frontLoad 53 = .ok (.getfield 68, 3) := by decide +kernel
theorem dX0_frontLoad_56 : decode cX0_frontLoad 56 = .ok (.iload 5, 2) := by decide +kernel
theorem dX0_frontLoad_58 : decode cX0_frontLoad 58 = .ok (.iaload, 1) := by decide +kernel
theorem dX0_frontLoad_59 : decode cX0_frontLoad 59 = .ok (.isub, 1) := by decide +kernel
theorem dX0_frontLoad_60 : decode cX0_frontLoad 60 = .ok (.imul, 1) := by decide +kernel
theorem dX0_frontLoad_61 : decode cX0_frontLoad 61 = .ok (.iadd, 1) := by decide +kernel
theorem dX0_frontLoad_62 : decode cX0_frontLoad 62 = .ok (.istore 4, 2) := by decide +kernel
theorem dX0_frontLoad_64 : decode cX0_frontLoad 64 = .ok (.iinc 5 1, 3) := by decide +kernel
theorem dX0_frontLoad_67 : decode cX0_frontLoad 67 = .ok (.goto (-47), 3) := by decide +kernel
theorem dX0_frontLoad_70 : decode cX0_frontLoad 70 = .ok (.iload 4, 2) := by decide +kernel
theorem dX0_frontLoad_72 : decode cX0_frontLoad 72 = .ok (.ireturn, 1) := by decide +kernel
theorem dX0_rearLoad_0 : decode cX0_rearLoad 0 = .ok (.aload_n 1, 1) := by decide +kernel
theorem dX0_rearLoad_1 : decode cX0_rearLoad 1 = .ok (.getfield 54, 3) := by decide +kernel
theorem dX0_rearLoad_4 : decode cX0_rearLoad 4 = .ok (.iconst 2, 1) := by decide +kernel
theorem dX0_rearLoad_5 : decode cX0_rearLoad 5 = .ok (.iaload, 1) := by decide +kernel
theorem dX0_rearLoad_6 : decode cX0_rearLoad 6 = .ok (.aload_n 1, 1) := by decide +kernel
theorem dX0_rearLoad_7 : decode cX0_rearLoad 7 = .ok (.getfield 54, 3) := by decide +kernel
theorem dX0_rearLoad_10 : decode cX0_rearLoad 10 = .ok (.iconst 0, 1) := by decide +kernel
theorem dX0_rearLoad_11 : decode cX0_rearLoad 11 = .ok (.iaload, 1) := by decide +kernel
theorem dX0_rearLoad_12 : decode cX0_rearLoad 12 = .ok (.imul, 1) := by decide +kernel
theorem dX0_rearLoad_13 : decode cX0_rearLoad 13 = .ok (.istore_n 3, 1) := by decide +kernel
theorem dX0_rearLoad_14 : decode cX0_rearLoad 14 = .ok (.iconst 0, 1) := by decide +kernel
theorem dX0_rearLoad_15 : decode cX0_rearLoad 15 = .ok (.istore 4, 2) := by decide +kernel
theorem dX0_rearLoad_17 : decode cX0_rearLoad 17 = .ok (.iload 4, 2) := by decide +kernel
theorem dX0_rearLoad_19 : decode cX0_rearLoad 19 = .ok (.aload_n 1, 1) := by decide +kernel
theorem dX0_rearLoad_20 : decode cX0_rearLoad 20 = .ok (.getfield 64, 3) := by decide +kernel
theorem dX0_rearLoad_23 : decode cX0_rearLoad 23 = .ok (.if_icmp .ge 40, 3) := by decide +kernel
theorem dX0_rearLoad_26 : decode cX0_rearLoad 26 = .ok (.iload_n 3, 1) := by decide +kernel
theorem dX0_rearLoad_27 : decode cX0_rearLoad 27 = .ok (.iload_n 2, 1) := by decide +kernel
theorem dX0_rearLoad_28 : decode cX0_rearLoad 28 = .ok (.iload 4, 2) := by decide +kernel
theorem dX0_rearLoad_30 : decode cX0_rearLoad 30 = .ok (.invokestatic 42, 3) := by decide +kernel
theorem dX0_rearLoad_33 : decode cX0_rearLoad 33 = .ok (.ifCond .eq 7, 3) := by decide +kernel
theorem dX0_rearLoad_36 : decode cX0_rearLoad 36 = .ok (.iconst 0, 1) := by decide +kernel
theorem dX0_rearLoad_37 : decode cX0_rearLoad 37 = .ok (.goto 18, 3) := by decide +kernel
theorem dX0_rearLoad_40 : decode cX0_rearLoad 40 = .ok (.aload_n 0, 1) := by decide +kernel
theorem dX0_rearLoad_41 : decode cX0_rearLoad 41 = .ok (.getfield 21, 3) := by decide +kernel
theorem dX0_rearLoad_44 : decode cX0_rearLoad 44 = .ok (.iload 4, 2) := by decide +kernel
theorem dX0_rearLoad_46 : decode cX0_rearLoad 46 = .ok (.iaload, 1) := by decide +kernel
theorem dX0_rearLoad_47 : decode cX0_rearLoad 47 = .ok (.aload_n 1, 1) := by decide +kernel
theorem dX0_rearLoad_48 : decode cX0_rearLoad 48 = .ok (.getfield 68, 3) := by decide +kernel
theorem dX0_rearLoad_51 : decode cX0_rearLoad 51 = .ok (.iload 4, 2) := by decide +kernel
theorem dX0_rearLoad_53 : decode cX0_rearLoad 53 = .ok (.iaload, 1) := by decide +kernel
theorem dX0_rearLoad_54 : decode cX0_rearLoad 54 = .ok (.imul, 1) := by decide +kernel
theorem dX0_rearLoad_55 : decode cX0_rearLoad 55 = .ok (.iadd, 1) := by decide +kernel
theorem dX0_rearLoad_56 : decode cX0_rearLoad 56 = .ok (.istore_n 3, 1) := by decide +kernel
theorem dX0_rearLoad_57 : decode cX0_rearLoad 57 = .ok (.iinc 4 1, 3) := by decide +kernel
theorem dX0_rearLoad_60 : decode cX0_rearLoad 60 = .ok (.goto (-43), 3) := by decide +kernel
theorem dX0_rearLoad_63 : decode cX0_rearLoad 63 = .ok (.iload_n 3, 1) := by decide +kernel
theorem dX0_rearLoad_64 : decode cX0_rearLoad 64 = .ok (.ireturn, 1) := by decide +kernel
theorem dX0_surges_0 : decode cX0_surges 0 = .ok (.iconst 0, 1) := by decide +kernel
theorem dX0_surges_1 : decode cX0_surges 1 = .ok (.istore_n 3, 1) := by decide +kernel
theorem dX0_surges_2 : decode cX0_surges 2 = .ok (.iload_n 3, 1) := by decide +kernel
theorem dX0_surges_3 : decode cX0_surges 3 = .ok (.aload_n 1, 1) := by decide +kernel
theorem dX0_surges_4 : decode cX0_surges 4 = .ok (.getfield 64, 3) := by decide +kernel
theorem dX0_surges_7 : decode cX0_surges 7 = .ok (.if_icmp .ge 87, 3) := by decide +kernel
theorem dX0_surges_10 : decode cX0_surges 10 = .ok (.aload_n 0, 1) := by decide +kernel
theorem dX0_surges_11 : decode cX0_surges 11 = .ok (.getfield 9, 3) := by decide +kernel
theorem dX0_surges_14 : decode cX0_surges 14 = .ok (.iload_n 3, 1) := by decide +kernel
theorem dX0_surges_15 : decode cX0_surges 15 = .ok (.iaload, 1) := by decide +kernel
theorem dX0_surges_16 : decode cX0_surges 16 = .ok (.bipush 100, 2) := by decide +kernel
theorem dX0_surges_18 : decode cX0_surges 18 = .ok (.imul, 1) := by decide +kernel
theorem dX0_surges_19 : decode cX0_surges 19 = .ok (.istore 4, 2) := by decide +kernel
theorem dX0_surges_21 : decode cX0_surges 21 = .ok (.aload_n 1, 1) := by decide +kernel
theorem dX0_surges_22 : decode cX0_surges 22 = .ok (.getfield 71, 3) := by decide +kernel
theorem dX0_surges_25 : decode cX0_surges 25 = .ok (.iload_n 3, 1) := by decide +kernel
theorem dX0_surges_26 : decode cX0_surges 26 = .ok (.iaload, 1) := by decide +kernel
theorem dX0_surges_27 : decode cX0_surges 27 = .ok (.iconst 1, 1) := by decide +kernel
theorem dX0_surges_28 : decode cX0_surges 28 = .ok (.if_icmp .ne 60, 3) := by decide +kernel
theorem dX0_surges_31 : decode cX0_surges 31 = .ok (.aload_n 0, 1) := by decide +kernel
theorem dX0_surges_32 : decode cX0_surges 32 = .ok (.getfield 9, 3) := by decide +kernel
theorem dX0_surges_35 : decode cX0_surges 35 = .ok (.iload_n 3, 1) := by decide +kernel
theorem dX0_surges_36 : decode cX0_surges 36 = .ok (.iaload, 1) := by decide +kernel
theorem dX0_surges_37 : decode cX0_surges 37 = .ok (.ifCond .le 51, 3) := by decide +kernel
theorem dX0_surges_40 : decode cX0_surges 40 = .ok (.iload_n 2, 1) := by decide +kernel
theorem dX0_surges_41 : decode cX0_surges 41 = .ok (.iload_n 3, 1) := by decide +kernel
theorem dX0_surges_42 : decode cX0_surges 42 = .ok (.invokestatic 42, 3) := by decide +kernel
theorem dX0_surges_45 : decode cX0_surges 45 = .ok (.ifCond .ne 43, 3) := by decide +kernel
theorem dX0_surges_48 : decode cX0_surges 48 = .ok (.iload 4, 2) := by decide +kernel
theorem dX0_surges_50 : decode cX0_surges 50 = .ok (.aload_n 1, 1) := by decide +kernel
theorem dX0_surges_51 : decode cX0_surges 51 = .ok (.getfield 54, 3) := by decide +kernel
theorem dX0_surges_54 : decode cX0_surges 54 = .ok (.bipush 7, 2) := by decide +kernel
theorem dX0_surges_56 : decode cX0_surges 56 = .ok (.iaload, 1) := by decide +kernel
theorem dX0_surges_57 : decode cX0_surges 57 = .ok (.aload_n 1, 1) := by decide +kernel
theorem dX0_surges_58 : decode cX0_surges 58 = .ok (.getfield 74, 3) := by decide +kernel
theorem dX0_surges_61 : decode cX0_surges 61 = .ok (.iload_n 3, 1) := by decide +kernel
theorem dX0_surges_62 : decode cX0_surges 62 = .ok (.iaload, 1) := by decide +kernel
theorem dX0_surges_63 : decode cX0_surges 63 = .ok (.imul, 1) := by decide +kernel
theorem dX0_surges_64 : decode cX0_surges 64 = .ok (.if_icmp .le 24, 3) := by decide +kernel
theorem dX0_surges_67 : decode cX0_surges 67 = .ok (.iload 4, 2) := by decide +kernel
theorem dX0_surges_69 : decode cX0_surges 69 = .ok (.aload_n 1, 1) := by decide +kernel
theorem dX0_surges_70 : decode cX0_surges 70 = .ok (.getfield 54, 3) := by decide +kernel
theorem dX0_surges_73 : decode cX0_surges 73 = .ok (.bipush 8, 2) := by decide +kernel
theorem dX0_surges_75 : decode cX0_surges 75 = .ok (.iaload, 1) := by decide +kernel
theorem dX0_surges_76 : decode cX0_surges 76 = .ok (.aload_n 1, 1) := by decide +kernel
theorem dX0_surges_77 : decode cX0_surges 77 = .ok (.getfield 74, 3) := by decide +kernel
theorem dX0_surges_80 : decode cX0_surges 80 = .ok (.iload_n 3, 1) := by decide +kernel
theorem dX0_surges_81 : decode cX0_surges 81 = .ok (.iaload, 1) := by decide +kernel
theorem dX0_surges_82 : decode cX0_surges 82 = .ok (.imul, 1) := by decide +kernel
theorem dX0_surges_83 : decode cX0_surges 83 = .ok (.if_icmp .ge 5, 3) := by decide +kernel
theorem dX0_surges_86 : decode cX0_surges 86 = .ok (.iconst 1, 1) := by decide +kernel
theorem dX0_surges_87 : decode cX0_surges 87 = .ok (.ireturn, 1) := by decide +kernel
theorem dX0_surges_88 : decode cX0_surges 88 = .ok (.iinc 3 1, 3) := by decide +kernel
theorem dX0_surges_91 : decode cX0_surges 91 = .ok (.goto (-89), 3) := by decide +kernel
theorem dX0_surges_94 : decode cX0_surges 94 = .ok (.iconst 0, 1) := by decide +kernel
theorem dX0_surges_95 : decode cX0_surges 95 = .ok (.ireturn, 1) := by decide +kernel
theorem dX0_isIn_0 : decode cX0_isIn 0 = .ok (.iload_n 0, 1) := by decide +kernel
theorem dX0_isIn_1 : decode cX0_isIn 1 = .ok (.iload_n 1, 1) := by decide +kernel
theorem dX0_isIn_2 : decode cX0_isIn 2 = .ok (.ishr, 1) := by decide +kernel
theorem dX0_isIn_3 : decode cX0_isIn 3 = .ok (.iconst 1, 1) := by decide +kernel
theorem dX0_isIn_4 : decode cX0_isIn 4 = .ok (.iand, 1) := by decide +kernel
theorem dX0_isIn_5 : decode cX0_isIn 5 = .ok (.ifCond .eq 7, 3) := by decide +kernel
theorem dX0_isIn_8 : decode cX0_isIn 8 = .ok (.iconst 1, 1) := by decide +kernel
theorem dX0_isIn_9 : decode cX0_isIn 9 = .ok (.goto 4, 3) := by decide +kernel
theorem dX0_isIn_12 : decode cX0_isIn 12 = .ok (.iconst 0, 1) := by decide +kernel
theorem dX0_isIn_13 : decode cX0_isIn 13 = .ok (.ireturn, 1) := by decide +kernel
theorem dX1_init_0 : decode cX1_init 0 = .ok (.aload_n 0, 1) := by decide +kernel
theorem dX1_init_1 : decode cX1_init 1 = .ok (.invokespecial 3, 3) := by decide +kernel
theorem dX1_init_4 : decode cX1_init 4 = .ok (.aload_n 0, 1) := by decide +kernel
theorem dX1_init_5 : decode cX1_init 5 = .ok (.bipush 10, 2) := by decide +kernel
theorem dX1_init_7 : decode cX1_init 7 = .ok (.anewarray 9, 3) := by decide +kernel
theorem dX1_init_10 : decode cX1_init 10 = .ok (.putfield 11, 3) := by decide +kernel
theorem dX1_init_13 : decode cX1_init 13 = .ok (.iconst 0, 1) := by decide +kernel
theorem dX1_init_14 : decode cX1_init 14 = .ok (.istore_n 1, 1) := by decide +kernel
theorem dX1_init_15 : decode cX1_init 15 = .ok (.iload_n 1, 1) := by decide +kernel
theorem dX1_init_16 : decode cX1_init 16 = .ok (.bipush 10, 2) := by decide +kernel
theorem dX1_init_18 : decode cX1_init 18 = .ok (.if_icmp .ge 22, 3) := by decide +kernel
theorem dX1_init_21 : decode cX1_init 21 = .ok (.aload_n 0, 1) := by decide +kernel
theorem dX1_init_22 : decode cX1_init 22 = .ok (.getfield 11, 3) := by decide +kernel
theorem dX1_init_25 : decode cX1_init 25 = .ok (.iload_n 1, 1) := by decide +kernel
theorem dX1_init_26 : decode cX1_init 26 = .ok (.new 9, 3) := by decide +kernel
theorem dX1_init_29 : decode cX1_init 29 = .ok (.dup, 1) := by decide +kernel
theorem dX1_init_30 : decode cX1_init 30 = .ok (.invokespecial 17, 3) := by decide +kernel
theorem dX1_init_33 : decode cX1_init 33 = .ok (.aastore, 1) := by decide +kernel
theorem dX1_init_34 : decode cX1_init 34 = .ok (.iinc 1 1, 3) := by decide +kernel
theorem dX1_init_37 : decode cX1_init 37 = .ok (.goto (-22), 3) := by decide +kernel
theorem dX1_init_40 : decode cX1_init 40 = .ok (.return_, 1) := by decide +kernel
theorem dX1_forget_0 : decode cX1_forget 0 = .ok (.aload_n 0, 1) := by decide +kernel
theorem dX1_forget_1 : decode cX1_forget 1 = .ok (.iconst 0, 1) := by decide +kernel
theorem dX1_forget_2 : decode cX1_forget 2 = .ok (.putfield 18, 3) := by decide +kernel
theorem dX1_forget_5 : decode cX1_forget 5 = .ok (.return_, 1) := by decide +kernel
theorem dX1_keep_0 : decode cX1_keep 0 = .ok (.aload_n 0, 1) := by decide +kernel
theorem dX1_keep_1 : decode cX1_keep 1 = .ok (.getfield 11, 3) := by decide +kernel
theorem dX1_keep_4 : decode cX1_keep 4 = .ok (.aload_n 0, 1) := by decide +kernel
theorem dX1_keep_5 : decode cX1_keep 5 = .ok (.getfield 22, 3) := by decide +kernel
theorem dX1_keep_8 : decode cX1_keep 8 = .ok (.aaload, 1) := by decide +kernel
theorem dX1_keep_9 : decode cX1_keep 9 = .ok (.aload_n 1, 1) := by decide +kernel
theorem dX1_keep_10 : decode cX1_keep 10 = .ok (.invokevirtual 25, 3) := by decide +kernel
theorem dX1_keep_13 : decode cX1_keep 13 = .ok (.aload_n 0, 1) := by decide +kernel
theorem dX1_keep_14 : decode cX1_keep 14 = .ok (.aload_n 0, 1) := by decide +kernel
theorem dX1_keep_15 : decode cX1_keep 15 = .ok (.getfield 22, 3) := by decide +kernel
theorem dX1_keep_18 : decode cX1_keep 18 = .ok (.iconst 1, 1) := by decide +kernel
theorem dX1_keep_19 : decode cX1_keep 19 = .ok (.iadd, 1) := by decide +kernel
theorem dX1_keep_20 : decode cX1_keep 20 = .ok (.bipush 10, 2) := by decide +kernel
theorem dX1_keep_22 : decode cX1_keep 22 = .ok (.if_icmp .ge 12, 3) := by decide +kernel
theorem dX1_keep_25 : decode cX1_keep 25 = .ok (.aload_n 0, 1) := by decide +kernel
theorem dX1_keep_26 : decode cX1_keep 26 = .ok (.getfield 22, 3) := by decide +kernel
theorem dX1_keep_29 : decode cX1_keep 29 = .ok (.iconst 1, 1) := by decide +kernel
theorem dX1_keep_30 : decode cX1_keep 30 = .ok (.iadd, 1) := by decide +kernel
theorem dX1_keep_31 : decode cX1_keep 31 = .ok (.goto 4, 3) := by decide +kernel
theorem dX1_keep_34 : decode cX1_keep 34 = .ok (.iconst 0, 1) := by decide +kernel
theorem dX1_keep_35 : decode cX1_keep 35 = .ok (.putfield 22, 3) := by decide +kernel
theorem dX1_keep_38 : decode cX1_keep 38 = .ok (.aload_n 0, 1) := by decide +kernel
theorem dX1_keep_39 : decode cX1_keep 39 = .ok (.aload_n 0, 1) := by decide +kernel
theorem dX1_keep_40 : decode cX1_keep 40 = .ok (.getfield 18, 3) := by decide +kernel
theorem dX1_keep_43 : decode cX1_keep 43 = .ok (.iconst 1, 1) := by decide +kernel
theorem dX1_keep_44 : decode cX1_keep 44 = .ok (.iadd, 1) := by decide +kernel
theorem dX1_keep_45 : decode cX1_keep 45 = .ok (.bipush 10, 2) := by decide +kernel
theorem dX1_keep_47 : decode cX1_keep 47 = .ok (.invokestatic 29, 3) := by decide +kernel
theorem dX1_keep_50 : decode cX1_keep 50 = .ok (.putfield 18, 3) := by decide +kernel
theorem dX1_keep_53 : decode cX1_keep 53 = .ok (.return_, 1) := by decide +kernel
theorem dX1_goBack_0 : decode cX1_goBack 0 = .ok (.aload_n 0, 1) := by decide +kernel
theorem dX1_goBack_1 : decode cX1_goBack 1 = .ok (.getfield 18, 3) := by decide +kernel
theorem dX1_goBack_4 : decode cX1_goBack 4 = .ok (.ifCond .ne 5, 3) := by decide +kernel
theorem dX1_goBack_7 : decode cX1_goBack 7 = .ok (.iconst 0, 1) := by decide +kernel
theorem dX1_goBack_8 : decode cX1_goBack 8 = .ok (.ireturn, 1) := by decide +kernel
theorem dX1_goBack_9 : decode cX1_goBack 9 = .ok (.aload_n 0, 1) := by decide +kernel
theorem dX1_goBack_10 : decode cX1_goBack 10 = .ok (.aload_n 0, 1) := by decide +kernel
theorem dX1_goBack_11 : decode cX1_goBack 11 = .ok (.getfield 22, 3) := by decide +kernel
theorem dX1_goBack_14 : decode cX1_goBack 14 = .ok (.ifCond .le 12, 3) := by decide +kernel
theorem dX1_goBack_17 : decode cX1_goBack 17 = .ok (.aload_n 0, 1) := by decide +kernel
theorem dX1_goBack_18 : decode cX1_goBack 18 = .ok (.getfield 22, 3) := by decide +kernel
theorem dX1_goBack_21 : decode cX1_goBack 21 = .ok (.iconst 1, 1) := by decide +kernel
theorem dX1_goBack_22 : decode cX1_goBack 22 = .ok (.isub, 1) := by decide +kernel
theorem dX1_goBack_23 : decode cX1_goBack 23 = .ok (.goto 5, 3) := by decide +kernel
theorem dX1_goBack_26 : decode cX1_goBack 26 = .ok (.bipush 9, 2) := by decide +kernel
theorem dX1_goBack_28 : decode cX1_goBack 28 = .ok (.putfield 22, 3) := by decide +kernel
theorem dX1_goBack_31 : decode cX1_goBack 31 = .ok (.aload_n 0, 1) := by decide +kernel
theorem dX1_goBack_32 : decode cX1_goBack 32 = .ok (.dup, 1) := by decide +kernel
theorem dX1_goBack_33 : decode cX1_goBack 33 = .ok (.getfield 18, 3) := by decide +kernel
theorem dX1_goBack_36 : decode cX1_goBack 36 = .ok (.iconst 1, 1) := by decide +kernel
theorem dX1_goBack_37 : decode cX1_goBack 37 = .ok (.isub, 1) := by decide +kernel
theorem dX1_goBack_38 : decode cX1_goBack 38 = .ok (.putfield 18, 3) := by decide +kernel
theorem dX1_goBack_41 : decode cX1_goBack 41 = .ok (.aload_n 1, 1) := by decide +kernel
theorem dX1_goBack_42 : decode cX1_goBack 42 = .ok (.aload_n 0, 1) := by decide +kernel
theorem dX1_goBack_43 : decode cX1_goBack 43 = .ok (.getfield 11, 3) := by decide +kernel
theorem dX1_goBack_46 : decode cX1_goBack 46 = .ok (.aload_n 0, 1) := by decide +kernel
theorem dX1_goBack_47 : decode cX1_goBack 47 = .ok (.getfield 22, 3) := by decide +kernel
theorem dX1_goBack_50 : decode cX1_goBack 50 = .ok (.aaload, 1) := by decide +kernel
theorem dX1_goBack_51 : decode cX1_goBack 51 = .ok (.invokevirtual 25, 3) := by decide +kernel
theorem dX1_goBack_54 : decode cX1_goBack 54 = .ok (.iconst 1, 1) := by decide +kernel
theorem dX1_goBack_55 : decode cX1_goBack 55 = .ok (.ireturn, 1) := by decide +kernel
theorem dX2_init_0 : decode cX2_init 0 = .ok (.aload_n 0, 1) := by decide +kernel
theorem dX2_init_1 : decode cX2_init 1 = .ok (.invokespecial 3, 3) := by decide +kernel
theorem dX2_init_4 : decode cX2_init 4 = .ok (.aload_n 0, 1) := by decide +kernel
theorem dX2_init_5 : decode cX2_init 5 = .ok (.iconst 5, 1) := by decide +kernel
theorem dX2_init_6 : decode cX2_init 6 = .ok (.newarray .int, 2) := by decide +kernel
theorem dX2_init_8 : decode cX2_init 8 = .ok (.putfield 9, 3) := by decide +kernel
theorem dX2_init_11 : decode cX2_init 11 = .ok (.aload_n 0, 1) := by decide +kernel
theorem dX2_init_12 : decode cX2_init 12 = .ok (.iconst 5, 1) := by decide +kernel
theorem dX2_init_13 : decode cX2_init 13 = .ok (.newarray .int, 2) := by decide +kernel
theorem dX2_init_15 : decode cX2_init 15 = .ok (.putfield 15, 3) := by decide +kernel
theorem dX2_init_18 : decode cX2_init 18 = .ok (.aload_n 0, 1) := by decide +kernel
theorem dX2_init_19 : decode cX2_init 19 = .ok (.bipush 32, 2) := by decide +kernel
theorem dX2_init_21 : decode cX2_init 21 = .ok (.newarray .int, 2) := by decide +kernel
theorem dX2_init_23 : decode cX2_init 23 = .ok (.putfield 18, 3) := by decide +kernel
theorem dX2_init_26 : decode cX2_init 26 = .ok (.return_, 1) := by decide +kernel
theorem dX2_count_0 : decode cX2_count 0 = .ok (.aload_n 0, 1) := by decide +kernel
theorem dX2_count_1 : decode cX2_count 1 = .ok (.aload_n 1, 1) := by decide +kernel
theorem dX2_count_2 : decode cX2_count 2 = .ok (.aload_n 2, 1) := by decide +kernel
theorem dX2_count_3 : decode cX2_count 3 = .ok (.iload_n 3, 1) := by decide +kernel
theorem dX2_count_4 : decode cX2_count 4 = .ok (.invokevirtual 21, 3) := by decide +kernel
theorem dX2_count_7 : decode cX2_count 7 = .ok (.iconst 1, 1) := by decide +kernel
theorem dX2_count_8 : decode cX2_count 8 = .ok (.aload_n 0, 1) := by decide +kernel
theorem dX2_count_9 : decode cX2_count 9 = .ok (.getfield 25, 3) := by decide +kernel
theorem dX2_count_12 : decode cX2_count 12 = .ok (.ishl, 1) := by decide +kernel
theorem dX2_count_13 : decode cX2_count 13 = .ok (.iconst 1, 1) := by decide +kernel
theorem dX2_count_14 : decode cX2_count 14 = .ok (.isub, 1) := by decide +kernel
theorem dX2_count_15 : decode cX2_count 15 = .ok (.istore 4, 2) := by decide +kernel
theorem dX2_count_17 : decode cX2_count 17 = .ok (.iload 4, 2) := by decide +kernel
theorem dX2_count_19 : decode cX2_count 19 = .ok (.istore 5, 2) := by decide +kernel
theorem dX2_count_21 : decode cX2_count 21 = .ok (.iload 5, 2) := by decide +kernel
theorem dX2_count_23 : decode cX2_count 23 = .ok (.ifCond .lt 75, 3) := by decide +kernel
theorem dX2_count_26 : decode cX2_count 26 = .ok (.iload 5, 2) := by decide +kernel
theorem dX2_count_28 : decode cX2_count 28 = .ok (.ifCond .eq 17, 3) := by decide +kernel
theorem dX2_count_31 : decode cX2_count 31 = .ok (.aload_n 2, 1) := by decide +kernel
theorem dX2_count_32 : decode cX2_count 32 = .ok (.aload_n 1, 1) := by decide +kernel
theorem dX2_count_33 : decode cX2_count 33 = .ok (.aload_n 0, 1) := by decide +kernel
theorem dX2_count_34 : decode cX2_count 34 = .ok (.iload 5, 2) := by decide +kernel
theorem dX2_count_36 : decode cX2_count 36 = .ok (.invokevirtual 29, 3) := by decide +kernel
theorem dX2_count_39 : decode cX2_count 39 = .ok (.invokevirtual 33, 3) := by decide +kernel
theorem dX2_count_42 : decode cX2_count 42 = .ok (.ifCond .ne 7, 3) := by decide +kernel
theorem dX2_count_45 : decode cX2_count 45 = .ok (.iconst 1, 1) := by decide +kernel
theorem dX2_count_46 : decode cX2_count 46 = .ok (.goto 4, 3) := by decide +kernel
theorem dX2_count_49 : decode cX2_count 49 = .ok (.iconst 0, 1) := by decide +kernel
theorem dX2_count_50 : decode cX2_count 50 = .ok (.istore 6, 2) := by decide +kernel
theorem dX2_count_52 : decode cX2_count 52 = .ok (.iload 6, 2) := by decide +kernel
theorem dX2_count_54 : decode cX2_count 54 = .ok (.ifCond .ne 14, 3) := by decide +kernel
theorem dX2_count_57 : decode cX2_count 57 = .ok (.aload_n 0, 1) := by decide +kernel
theorem dX2_count_58 : decode cX2_count 58 = .ok (.getfield 18, 3) := by decide +kernel
theorem dX2_count_61 : decode cX2_count 61 = .ok (.iload 5, 2) := by decide +kernel
theorem dX2_count_63 : decode cX2_count 63 = .ok (.iconst 0, 1) := by decide +kernel
theorem dX2_count_64 : decode cX2_count 64 = .ok (.iastore, 1) := by decide +kernel
theorem dX2_count_65 : decode cX2_count 65 = .ok (.goto 27, 3) := by decide +kernel
theorem dX2_count_68 : decode cX2_count 68 = .ok (.aload_n 0, 1) := by decide +kernel
theorem dX2_count_69 : decode cX2_count 69 = .ok (.getfield 18, 3) := by decide +kernel
theorem dX2_count_72 : decode cX2_count 72 = .ok (.iload 5, 2) := by decide +kernel
theorem dX2_count_74 : decode cX2_count 74 = .ok (.iload 5, 2) := by decide +kernel
theorem dX2_count_76 : decode cX2_count 76 = .ok (.iload 4, 2) := by decide +kernel
theorem dX2_count_78 : decode cX2_count 78 = .ok (.if_icmp .ne 7, 3) := by decide +kernel
theorem dX2_count_81 : decode cX2_count 81 = .ok (.iconst 1, 1) := by decide +kernel
theorem dX2_count_82 : decode cX2_count 82 = .ok (.goto 9, 3) := by decide +kernel
theorem dX2_count_85 : decode cX2_count 85 = .ok (.aload_n 0, 1) := by decide +kernel
theorem dX2_count_86 : decode cX2_count 86 = .ok (.iload 5, 2) := by decide +kernel
theorem dX2_count_88 : decode cX2_count 88 = .ok (.invokevirtual 39, 3) := by decide +kernel
theorem dX2_count_91 : decode cX2_count 91 = .ok (.iastore, 1) := by decide +kernel
theorem dX2_count_92 : decode cX2_count 92 = .ok (.iinc 5 (-1), 3) := by decide +kernel
theorem dX2_count_95 : decode cX2_count 95 = .ok (.goto (-74), 3) := by decide +kernel
theorem dX2_count_98 : decode cX2_count 98 = .ok (.aload_n 0, 1) := by decide +kernel
theorem dX2_count_99 : decode cX2_count 99 = .ok (.getfield 18, 3) := by decide +kernel
theorem dX2_count_102 : decode cX2_count 102 = .ok (.iconst 0, 1) := by decide +kernel
theorem dX2_count_103 : decode cX2_count 103 = .ok (.iaload, 1) := by decide +kernel
theorem dX2_count_104 : decode cX2_count 104 = .ok (.ireturn, 1) := by decide +kernel
theorem dX2_dropOfFirst_0 : decode cX2_dropOfFirst 0 = .ok (.iload_n 1, 1) := by decide +kernel
theorem dX2_dropOfFirst_1 : decode cX2_dropOfFirst 1 = .ok (.ifCond .lt 20, 3) := by decide +kernel
theorem dX2_dropOfFirst_4 : decode cX2_dropOfFirst 4 = .ok (.iload_n 1, 1) := by decide +kernel
theorem dX2_dropOfFirst_5 : decode cX2_dropOfFirst 5 = .ok (.aload_n 0, 1) := by decide +kernel
theorem dX2_dropOfFirst_6 : decode cX2_dropOfFirst 6 = .ok (.getfield 25, 3) := by decide +kernel
theorem dX2_dropOfFirst_9 : decode cX2_dropOfFirst 9 = .ok (.if_icmp .ge 12, 3) := by decide +kernel
theorem dX2_dropOfFirst_12 : decode cX2_dropOfFirst 12 = .ok (.aload_n 0, 1) := by decide +kernel
theorem dX2_dropOfFirst_13 : decode cX2_dropOfFirst 13 = .ok (.getfield 18, 3) := by decide +kernel
theorem dX2_dropOfFirst_16 : decode cX2_dropOfFirst 16 = .ok (.iconst 0, 1) := by decide +kernel
theorem dX2_dropOfFirst_17 : decode cX2_dropOfFirst 17 = .ok (.iaload, 1) := by decide +kernel
theorem dX2_dropOfFirst_18 : decode cX2_dropOfFirst 18 = .ok (.ifCond .ne 5, 3) := by decide +kernel
theorem dX2_dropOfFirst_21 : decode cX2_dropOfFirst 21 = .ok (.iconst (-1), 1) := by decide +kernel
theorem dX2_dropOfFirst_22 : decode cX2_dropOfFirst 22 = .ok (.ireturn, 1) := by decide +kernel
theorem dX2_dropOfFirst_23 : decode cX2_dropOfFirst 23 = .ok (.iconst 0, 1) := by decide +kernel
theorem dX2_dropOfFirst_24 : decode cX2_dropOfFirst 24 = .ok (.istore_n 2, 1) := by decide +kernel
theorem dX2_dropOfFirst_25 : decode cX2_dropOfFirst 25 = .ok (.iconst (-1), 1) := by decide +kernel
theorem dX2_dropOfFirst_26 : decode cX2_dropOfFirst 26 = .ok (.istore_n 3, 1) := by decide +kernel
theorem dX2_dropOfFirst_27 : decode cX2_dropOfFirst 27 = .ok (.iconst 0, 1) := by decide +kernel
theorem dX2_dropOfFirst_28 : decode cX2_dropOfFirst 28 = .ok (.istore 4, 2) := by decide +kernel
theorem dX2_dropOfFirst_30 : decode cX2_dropOfFirst 30 = .ok (.iload 4, 2) := by decide +kernel
theorem dX2_dropOfFirst_32 : decode cX2_dropOfFirst 32 = .ok (.iload_n 1, 1) := by decide +kernel
theorem dX2_dropOfFirst_33 : decode cX2_dropOfFirst 33 = .ok (.if_icmp .gt 28, 3) := by decide +kernel
theorem dX2_dropOfFirst_36 : decode cX2_dropOfFirst 36 = .ok (.aload_n 0, 1) := by decide +kernel
theorem dX2_dropOfFirst_37 : decode cX2_dropOfFirst 37 = .ok (.iload_n 2, 1) := by decide +kernel
theorem dX2_dropOfFirst_38 : decode cX2_dropOfFirst 38 = .ok (.invokevirtual 42, 3) := by decide +kernel
theorem dX2_dropOfFirst_41 : decode cX2_dropOfFirst 41 = .ok (.istore_n 3, 1) := by decide +kernel
theorem dX2_dropOfFirst_42 : decode cX2_dropOfFirst 42 = .ok (.iload_n 3, 1) := by decide +kernel
theorem dX2_dropOfFirst_43 : decode cX2_dropOfFirst 43 = .ok (.iconst (-1), 1) := by decide +kernel
theorem dX2_dropOfFirst_44 : decode cX2_dropOfFirst 44 = .ok (.if_icmp .ne 5, 3) := by decide +kernel
theorem dX2_dropOfFirst_47 : decode cX2_dropOfFirst 47 = .ok (.iconst (-1), 1) := by decide +kernel
theorem dX2_dropOfFirst_48 : decode cX2_dropOfFirst 48 = .ok (.ireturn, 1) := by decide +kernel
theorem dX2_dropOfFirst_49 : decode cX2_dropOfFirst 49 = .ok (.iload_n 2, 1) := by decide +kernel
theorem dX2_dropOfFirst_50 : decode cX2_dropOfFirst 50 = .ok (.iconst 1, 1) := by decide +kernel
theorem dX2_dropOfFirst_51 : decode cX2_dropOfFirst 51 = .ok (.iload_n 3, 1) := by decide +kernel
theorem dX2_dropOfFirst_52 : decode cX2_dropOfFirst 52 = .ok (.ishl, 1) := by decide +kernel
theorem dX2_dropOfFirst_53 : decode cX2_dropOfFirst 53 = .ok (.ior, 1) := by decide +kernel
theorem dX2_dropOfFirst_54 : decode cX2_dropOfFirst 54 = .ok (.istore_n 2, 1) := by decide +kernel
theorem dX2_dropOfFirst_55 : decode cX2_dropOfFirst 55 = .ok (.iinc 4 1, 3) := by decide +kernel
theorem dX2_dropOfFirst_58 : decode cX2_dropOfFirst 58 = .ok (.goto (-28), 3) := by decide +kernel
theorem dX2_dropOfFirst_61 : decode cX2_dropOfFirst 61 = .ok (.aload_n 0, 1) := by decide +kernel
theorem dX2_dropOfFirst_62 : decode cX2_dropOfFirst 62 = .ok (.getfield 9, 3) := by decide +kernel
theorem dX2_dropOfFirst_65 : decode cX2_dropOfFirst 65 = .ok (.iload_n 3, 1) := by decide +kernel
theorem dX2_dropOfFirst_66 : decode cX2_dropOfFirst 66 = .ok (.iaload, 1) := by decide +kernel
theorem dX2_dropOfFirst_67 : decode cX2_dropOfFirst 67 = .ok (.ireturn, 1) := by decide +kernel
theorem dX2_collect_0 : decode cX2_collect 0 = .ok (.aload_n 0, 1) := by decide +kernel
theorem dX2_collect_1 : decode cX2_collect 1 = .ok (.iconst 0, 1) := by decide +kernel
theorem dX2_collect_2 : decode cX2_collect 2 = .ok (.putfield 25, 3) := by decide +kernel
theorem dX2_collect_5 : decode cX2_collect 5 = .ok (.iconst 0, 1) := by decide +kernel
theorem dX2_collect_6 : decode cX2_collect 6 = .ok (.istore 4, 2) := by decide +kernel
theorem dX2_collect_8 : decode cX2_collect 8 = .ok (.iload 4, 2) := by decide +kernel
theorem dX2_collect_10 : decode cX2_collect 10 = .ok (.iload_n 3, 1) := by decide +kernel
theorem dX2_collect_11 : decode cX2_collect 11 = .ok (.if_icmp .ge 69, 3) := by decide +kernel
theorem dX2_collect_14 : decode cX2_collect 14 = .ok (.aload_n 0, 1) := by decide +kernel
theorem dX2_collect_15 : decode cX2_collect 15 = .ok (.getfield 25, 3) := by decide +kernel
theorem dX2_collect_18 : decode cX2_collect 18 = .ok (.iconst 5, 1) := by decide +kernel
theorem dX2_collect_19 : decode cX2_collect 19 = .ok (.if_icmp .ge 61, 3) := by decide +kernel
theorem dX2_collect_22 : decode cX2_collect 22 = .ok (.aload_n 2, 1) := by decide +kernel
theorem dX2_collect_23 : decode cX2_collect 23 = .ok (.iload 4, 2) := by decide +kernel
theorem dX2_collect_25 : decode cX2_collect 25 = .ok (.invokevirtual 45, 3) := by decide +kernel
theorem dX2_collect_28 : decode cX2_collect 28 = .ok (.aload_n 1, 1) := by decide +kernel
theorem dX2_collect_29 : decode cX2_collect 29 = .ok (.getfield 48, 3) := by decide +kernel
theorem dX2_collect_32 : decode cX2_collect 32 = .ok (.iload 4, 2) := by decide +kernel
theorem dX2_collect_34 : decode cX2_collect 34 = .ok (.iaload, 1) := by decide +kernel
theorem dX2_collect_35 : decode cX2_collect 35 = .ok (.if_icmp .ne 39, 3) := by decide +kernel
theorem dX2_collect_38 : decode cX2_collect 38 = .ok (.aload_n 0, 1) := by decide +kernel
theorem dX2_collect_39 : decode cX2_collect 39 = .ok (.getfield 9, 3) := by decide +kernel
theorem dX2_collect_42 : decode cX2_collect 42 = .ok (.aload_n 0, 1) := by decide +kernel
theorem dX2_collect_43 : decode cX2_collect 43 = .ok (.getfield 25, 3) := by decide +kernel
theorem dX2_collect_46 : decode cX2_collect 46 = .ok (.iload 4, 2) := by decide +kernel
theorem dX2_collect_48 : decode cX2_collect 48 = .ok (.iastore, 1) := by decide +kernel
theorem dX2_collect_49 : decode cX2_collect 49 = .ok (.aload_n 0, 1) := by decide +kernel
theorem dX2_collect_50 : decode cX2_collect 50 = .ok (.getfield 15, 3) := by decide +kernel
theorem dX2_collect_53 : decode cX2_collect 53 = .ok (.aload_n 0, 1) := by decide +kernel
theorem dX2_collect_54 : decode cX2_collect 54 = .ok (.getfield 25, 3) := by decide +kernel
theorem dX2_collect_57 : decode cX2_collect 57 = .ok (.aload_n 2, 1) := by decide +kernel
theorem dX2_collect_58 : decode cX2_collect 58 = .ok (.iload 4, 2) := by decide +kernel
theorem dX2_collect_60 : decode cX2_collect 60 = .ok (.invokevirtual 53, 3) := by decide +kernel
theorem dX2_collect_63 : decode cX2_collect 63 = .ok (.iastore, 1) := by decide +kernel
theorem dX2_collect_64 : decode cX2_collect 64 = .ok (.aload_n 0, 1) := by decide +kernel
theorem dX2_collect_65 : decode cX2_collect 65 = .ok (.dup, 1) := by decide +kernel
theorem dX2_collect_66 : decode cX2_collect 66 = .ok (.getfield 25, 3) := by decide +kernel
theorem dX2_collect_69 : decode cX2_collect 69 = .ok (.iconst 1, 1) := by decide +kernel
theorem dX2_collect_70 : decode cX2_collect 70 = .ok (.iadd, 1) := by decide +kernel
theorem dX2_collect_71 : decode cX2_collect 71 = .ok (.putfield 25, 3) := by decide +kernel
theorem dX2_collect_74 : decode cX2_collect 74 = .ok (.iinc 4 1, 3) := by decide +kernel
theorem dX2_collect_77 : decode cX2_collect 77 = .ok (.goto (-69), 3) := by decide +kernel
theorem dX2_collect_80 : decode cX2_collect 80 = .ok (.return_, 1) := by decide +kernel
theorem dX2_partsOfAll_0 : decode cX2_partsOfAll 0 = .ok (.iconst 0, 1) := by decide +kernel
theorem dX2_partsOfAll_1 : decode cX2_partsOfAll 1 = .ok (.istore_n 2, 1) := by decide +kernel
theorem dX2_partsOfAll_2 : decode cX2_partsOfAll 2 = .ok (.iconst 0, 1) := by decide +kernel
theorem dX2_partsOfAll_3 : decode cX2_partsOfAll 3 = .ok (.istore_n 3, 1) := by decide +kernel
theorem dX2_partsOfAll_4 : decode cX2_partsOfAll 4 = .ok (.iload_n 3, 1) := by decide +kernel
theorem dX2_partsOfAll_5 : decode cX2_partsOfAll 5 = .ok (.aload_n 0, 1) := by decide +kernel
theorem dX2_partsOfAll_6 : decode cX2_partsOfAll 6 = .ok (.getfield 25, 3) := by decide +kernel
theorem dX2_partsOfAll_9 : decode cX2_partsOfAll 9 = .ok (.if_icmp .ge 26, 3) := by decide +kernel
theorem dX2_partsOfAll_12 : decode cX2_partsOfAll 12 = .ok (.iload_n 1, 1) := by decide +kernel
theorem dX2_partsOfAll_13 : decode cX2_partsOfAll 13 = .ok (.iload_n 3, 1) := by decide +kernel
theorem dX2_partsOfAll_14 : decode cX2_partsOfAll 14 = .ok (.ishr, 1) := by decide +kernel
theorem dX2_partsOfAll_15 : decode cX2_partsOfAll 15 = .ok (.iconst 1, 1) := by decide +kernel
theorem dX2_partsOfAll_16 : decode cX2_partsOfAll 16 = .ok (.iand, 1) := by decide +kernel
theorem dX2_partsOfAll_17 : decode cX2_partsOfAll 17 = .ok (.ifCond .eq 12, 3) := by decide +kernel
theorem dX2_partsOfAll_20 : decode cX2_partsOfAll 20 = .ok (.iload_n 2, 1) := by decide +kernel
theorem dX2_partsOfAll_21 : decode cX2_partsOfAll 21 = .ok (.aload_n 0, 1) := by decide +kernel
theorem dX2_partsOfAll_22 : decode cX2_partsOfAll 22 = .ok (.getfield 15, 3) := by decide +kernel
theorem dX2_partsOfAll_25 : decode cX2_partsOfAll 25 = .ok (.iload_n 3, 1) := by decide +kernel
theorem dX2_partsOfAll_26 : decode cX2_partsOfAll 26 = .ok (.iaload, 1) := by decide +kernel
theorem dX2_partsOfAll_27 : decode cX2_partsOfAll 27 = .ok (.ior, 1) := by decide +kernel
theorem dX2_partsOfAll_28 : decode cX2_partsOfAll 28 = .ok (.istore_n 2, 1) := by decide +kernel
theorem dX2_partsOfAll_29 : decode cX2_partsOfAll 29 = .ok (.iinc 3 1, 3) := by decide +kernel
theorem dX2_partsOfAll_32 : decode cX2_partsOfAll 32 = .ok (.goto (-28), 3) := by decide +kernel
theorem dX2_partsOfAll_35 : decode cX2_partsOfAll 35 = .ok (.iload_n 2, 1) := by decide +kernel
theorem dX2_partsOfAll_36 : decode cX2_partsOfAll 36 = .ok (.ireturn, 1) := by decide +kernel
theorem dX2_waysBehind_0 : decode cX2_waysBehind 0 = .ok (.iconst 0, 1) := by decide +kernel
theorem dX2_waysBehind_1 : decode cX2_waysBehind 1 = .ok (.istore_n 2, 1) := by decide +kernel
theorem dX2_waysBehind_2 : decode cX2_waysBehind 2 = .ok (.iconst 0, 1) := by decide +kernel
theorem dX2_waysBehind_3 : decode cX2_waysBehind 3 = .ok (.istore_n 3, 1) := by decide +kernel
theorem dX2_waysBehind_4 : decode cX2_waysBehind 4 = .ok (.iload_n 3, 1) := by decide +kernel
theorem dX2_waysBehind_5 : decode cX2_waysBehind 5 = .ok (.aload_n 0, 1) := by decide +kernel
theorem dX2_waysBehind_6 : decode cX2_waysBehind 6 = .ok (.getfield 25, 3) := by decide +kernel
theorem dX2_waysBehind_9 : decode cX2_waysBehind 9 = .ok (.if_icmp .ge 30, 3) := by decide +kernel
theorem dX2_waysBehind_12 : decode cX2_waysBehind 12 = .ok (.iload_n 1, 1) := by decide +kernel
theorem dX2_waysBehind_13 : decode cX2_waysBehind 13 = .ok (.iload_n 3, 1) := by decide +kernel
theorem dX2_waysBehind_14 : decode cX2_waysBehind 14 = .ok (.ishr, 1) := by decide +kernel
theorem dX2_waysBehind_15 : decode cX2_waysBehind 15 = .ok (.iconst 1, 1) := by decide +kernel
theorem dX2_waysBehind_16 : decode cX2_waysBehind 16 = .ok (.iand, 1) := by decide +kernel
theorem dX2_waysBehind_17 : decode cX2_waysBehind 17 = .ok (.ifCond .ne 16, 3) := by decide +kernel
theorem dX2_waysBehind_20 : decode cX2_waysBehind 20 = .ok (.iload_n 2, 1) := by decide +kernel
theorem dX2_waysBehind_21 : decode cX2_waysBehind 21 = .ok (.aload_n 0, 1) := by decide +kernel
theorem dX2_waysBehind_22 : decode cX2_waysBehind 22 = .ok (.getfield 18, 3) := by decide +kernel
theorem dX2_waysBehind_25 : decode cX2_waysBehind 25 = .ok (.iload_n 1, 1) := by decide +kernel
theorem dX2_waysBehind_26 : decode cX2_waysBehind 26 = .ok (.iconst 1, 1) := by decide +kernel
theorem dX2_waysBehind_27 : decode cX2_waysBehind 27 = .ok (.iload_n 3, 1) := by decide +kernel
theorem dX2_waysBehind_28 : decode cX2_waysBehind 28 = .ok (.ishl, 1) := by decide +kernel
theorem dX2_waysBehind_29 : decode cX2_waysBehind 29 = .ok (.ior, 1) := by decide +kernel
theorem dX2_waysBehind_30 : decode cX2_waysBehind 30 = .ok (.iaload, 1) := by decide +kernel
theorem dX2_waysBehind_31 : decode cX2_waysBehind 31 = .ok (.iadd, 1) := by decide +kernel
theorem dX2_waysBehind_32 : decode cX2_waysBehind 32 = .ok (.istore_n 2, 1) := by decide +kernel
theorem dX2_waysBehind_33 : decode cX2_waysBehind 33 = .ok (.iinc 3 1, 3) := by decide +kernel
theorem dX2_waysBehind_36 : decode cX2_waysBehind 36 = .ok (.goto (-32), 3) := by decide +kernel
theorem dX2_waysBehind_39 : decode cX2_waysBehind 39 = .ok (.iload_n 2, 1) := by decide +kernel
theorem dX2_waysBehind_40 : decode cX2_waysBehind 40 = .ok (.ireturn, 1) := by decide +kernel
theorem dX2_leastBehind_0 : decode cX2_leastBehind 0 = .ok (.iconst 0, 1) := by decide +kernel
theorem dX2_leastBehind_1 : decode cX2_leastBehind 1 = .ok (.istore_n 2, 1) := by decide +kernel
theorem dX2_leastBehind_2 : decode cX2_leastBehind 2 = .ok (.iload_n 2, 1) := by decide +kernel
theorem dX2_leastBehind_3 : decode cX2_leastBehind 3 = .ok (.aload_n 0, 1) := by decide +kernel
theorem dX2_leastBehind_4 : decode cX2_leastBehind 4 = .ok (.getfield 25, 3) := by decide +kernel
theorem dX2_leastBehind_7 : decode cX2_leastBehind 7 = .ok (.if_icmp .ge 32, 3) := by decide +kernel
theorem dX2_leastBehind_10 : decode cX2_leastBehind 10 = .ok (.iload_n 1, 1) := by decide +kernel
theorem dX2_leastBehind_11 : decode cX2_leastBehind 11 = .ok (.iload_n 2, 1) := by decide +kernel
theorem dX2_leastBehind_12 : decode cX2_leastBehind 12 = .ok (.ishr, 1) := by decide +kernel
theorem dX2_leastBehind_13 : decode cX2_leastBehind 13 = .ok (.iconst 1, 1) := by decide +kernel
theorem dX2_leastBehind_14 : decode cX2_leastBehind 14 = .ok (.iand, 1) := by decide +kernel
theorem dX2_leastBehind_15 : decode cX2_leastBehind 15 = .ok (.ifCond .ne 18, 3) := by decide +kernel
theorem dX2_leastBehind_18 : decode cX2_leastBehind 18 = .ok (.aload_n 0, 1) := by decide +kernel
theorem dX2_leastBehind_19 : decode cX2_leastBehind 19 = .ok (.getfield 18, 3) := by decide +kernel
theorem dX2_leastBehind_22 : decode cX2_leastBehind 22 = .ok (.iload_n 1, 1) := by decide +kernel
theorem dX2_leastBehind_23 : decode cX2_leastBehind 23 = .ok (.iconst 1, 1) := by decide +kernel
theorem dX2_leastBehind_24 : decode cX2_leastBehind 24 = .ok (.iload_n 2, 1) := by decide +kernel
theorem dX2_leastBehind_25 : decode cX2_leastBehind 25 = .ok (.ishl, 1) := by decide +kernel
theorem dX2_leastBehind_26 : decode cX2_leastBehind 26 = .ok (.ior, 1) := by decide +kernel
theorem dX2_leastBehind_27 : decode cX2_leastBehind 27 = .ok (.iaload, 1) := by decide +kernel
theorem dX2_leastBehind_28 : decode cX2_leastBehind 28 = .ok (.ifCond .le 5, 3) := by decide +kernel
theorem dX2_leastBehind_31 : decode cX2_leastBehind 31 = .ok (.iload_n 2, 1) := by decide +kernel
theorem dX2_leastBehind_32 : decode cX2_leastBehind 32 = .ok (.ireturn, 1) := by decide +kernel
theorem dX2_leastBehind_33 : decode cX2_leastBehind 33 = .ok (.iinc 2 1, 3) := by decide +kernel
theorem dX2_leastBehind_36 : decode cX2_leastBehind 36 = .ok (.goto (-34), 3) := by decide +kernel
theorem dX2_leastBehind_39 : decode cX2_leastBehind 39 = .ok (.iconst (-1), 1) := by decide +kernel
theorem dX2_leastBehind_40 : decode cX2_leastBehind 40 = .ok (.ireturn, 1) := by decide +kernel
theorem dX3_init_0 : decode cX3_init 0 = .ok (.aload_n 0, 1) := by decide +kernel
theorem dX3_init_1 : decode cX3_init 1 = .ok (.invokespecial 3, 3) := by decide +kernel
theorem dX3_init_4 : decode cX3_init 4 = .ok (.aload_n 0, 1) := by decide +kernel
theorem dX3_init_5 : decode cX3_init 5 = .ok (.new 9, 3) := by decide +kernel
theorem dX3_init_8 : decode cX3_init 8 = .ok (.dup, 1) := by decide +kernel
theorem dX3_init_9 : decode cX3_init 9 = .ok (.invokespecial 11, 3) := by decide +kernel
theorem dX3_init_12 : decode cX3_init 12 = .ok (.putfield 12, 3) := by decide +kernel
theorem dX3_init_15 : decode cX3_init 15 = .ok (.aload_n 0, 1) := by decide +kernel
theorem dX3_init_16 : decode cX3_init 16 = .ok (.new 18, 3) := by decide +kernel
theorem dX3_init_19 : decode cX3_init 19 = .ok (.dup, 1) := by decide +kernel
theorem dX3_init_20 : decode cX3_init 20 = .ok (.invokespecial 20, 3) := by decide +kernel
theorem dX3_init_23 : decode cX3_init 23 = .ok (.putfield 21, 3) := by decide +kernel
theorem dX3_init_26 : decode cX3_init 26 = .ok (.aload_n 0, 1) := by decide +kernel
theorem dX3_init_27 : decode cX3_init 27 = .ok (.iconst 4, 1) := by decide +kernel
theorem dX3_init_28 : decode cX3_init 28 = .ok (.newarray .int, 2) := by decide +kernel
theorem dX3_init_30 : decode cX3_init 30 = .ok (.putfield 25, 3) := by decide +kernel
theorem dX3_init_33 : decode cX3_init 33 = .ok (.aload_n 0, 1) := by decide +kernel
theorem dX3_init_34 : decode cX3_init 34 = .ok (.iconst 4, 1) := by decide +kernel
theorem dX3_init_35 : decode cX3_init 35 = .ok (.newarray .int, 2) := by decide +kernel
theorem dX3_init_37 : decode cX3_init 37 = .ok (.putfield 29, 3) := by decide +kernel
theorem dX3_init_40 : decode cX3_init 40 = .ok (.aload_n 0, 1) := by decide +kernel
theorem dX3_init_41 : decode cX3_init 41 = .ok (.iconst 4, 1) := by decide +kernel
theorem dX3_init_42 : decode cX3_init 42 = .ok (.newarray .int, 2) := by decide +kernel
theorem dX3_init_44 : decode cX3_init 44 = .ok (.putfield 32, 3) := by decide +kernel
theorem dX3_init_47 : decode cX3_init 47 = .ok (.aload_n 0, 1) := by decide +kernel
theorem dX3_init_48 : decode cX3_init 48 = .ok (.bipush 6, 2) := by decide +kernel
theorem dX3_init_50 : decode cX3_init 50 = .ok (.newarray .int, 2) := by decide +kernel
theorem dX3_init_52 : decode cX3_init 52 = .ok (.putfield 35, 3) := by decide +kernel
theorem dX3_init_55 : decode cX3_init 55 = .ok (.aload_n 0, 1) := by decide +kernel
theorem dX3_init_56 : decode cX3_init 56 = .ok (.iconst 5, 1) := by decide +kernel
theorem dX3_init_57 : decode cX3_init 57 = .ok (.newarray .int, 2) := by decide +kernel
theorem dX3_init_59 : decode cX3_init 59 = .ok (.putfield 38, 3) := by decide +kernel
theorem dX3_init_62 : decode cX3_init 62 = .ok (.aload_n 0, 1) := by decide +kernel
theorem dX3_init_63 : decode cX3_init 63 = .ok (.iconst 5, 1) := by decide +kernel
theorem dX3_init_64 : decode cX3_init 64 = .ok (.newarray .int, 2) := by decide +kernel
theorem dX3_init_66 : decode cX3_init 66 = .ok (.putfield 41, 3) := by decide +kernel
theorem dX3_init_69 : decode cX3_init 69 = .ok (.return_, 1) := by decide +kernel
theorem dX3_findsPlan_0 : decode cX3_findsPlan 0 = .ok (.aload_n 0, 1) := by decide +kernel
theorem dX3_findsPlan_1 : decode cX3_findsPlan 1 = .ok (.aload_n 1, 1) := by decide +kernel
theorem dX3_findsPlan_2 : decode cX3_findsPlan 2 = .ok (.aload_n 2, 1) := by decide +kernel
theorem dX3_findsPlan_3 : decode cX3_findsPlan 3 = .ok (.iconst 0, 1) := by decide +kernel
theorem dX3_findsPlan_4 : decode cX3_findsPlan 4 = .ok (.invokevirtual 44, 3) := by decide +kernel
theorem dX3_findsPlan_7 : decode cX3_findsPlan 7 = .ok (.aload_n 0, 1) := by decide +kernel
theorem dX3_findsPlan_8 : decode cX3_findsPlan 8 = .ok (.iconst 0, 1) := by decide +kernel
theorem dX3_findsPlan_9 : decode cX3_findsPlan 9 = .ok (.invokestatic 48, 3) := by decide +kernel
theorem dX3_findsPlan_12 : decode cX3_findsPlan 12 = .ok (.aload_n 0, 1) := by decide +kernel
theorem dX3_findsPlan_13 : decode cX3_findsPlan 13 = .ok (.getfield 52, 3) := by decide +kernel
theorem dX3_findsPlan_16 : decode cX3_findsPlan 16 = .ok (.ireturn, 1) := by decide +kernel
theorem dX3_fewestWashes_0 : decode cX3_fewestWashes 0 = .ok (.aload_n 0, 1) := by decide +kernel
theorem dX3_fewestWashes_1 : decode cX3_fewestWashes 1 = .ok (.aload_n 1, 1) := by decide +kernel
theorem dX3_fewestWashes_2 : decode cX3_fewestWashes 2 = .ok (.aload_n 2, 1) := by decide +kernel
theorem dX3_fewestWashes_3 : decode cX3_fewestWashes 3 = .ok (.iconst 1, 1) := by decide +kernel
theorem dX3_fewestWashes_4 : decode cX3_fewestWashes 4 = .ok (.invokevirtual 44, 3) := by decide +kernel
theorem dX3_fewestWashes_7 : decode cX3_fewestWashes 7 = .ok (.aload_n 0, 1) := by decide +kernel
theorem dX3_fewestWashes_8 : decode cX3_fewestWashes 8 = .ok (.iconst 0, 1) := by decide +kernel
theorem dX3_fewestWashes_9 : decode cX3_fewestWashes 9 = .ok (.invokestatic 48, 3) := by decide +kernel
theorem dX3_fewestWashes_12 : decode cX3_fewestWashes 12 = .ok (.aload_n 0, 1) := by decide +kernel
theorem dX3_fewestWashes_13 : decode cX3_fewestWashes 13 = .ok (.getfield 52, 3) := by decide +kernel
theorem dX3_fewestWashes_16 : decode cX3_fewestWashes 16 = .ok (.ifCond .eq 10, 3) := by decide +kernel
theorem dX3_fewestWashes_19 : decode cX3_fewestWashes 19 = .ok (.aload_n 0, 1) := by decide +kernel
theorem dX3_fewestWashes_20 : decode cX3_fewestWashes 20 = .ok (.getfield 56, 3) := by decide +kernel
theorem dX3_fewestWashes_23 : decode cX3_fewestWashes 23 = .ok (.goto 4, 3) := by decide +kernel
theorem dX3_fewestWashes_26 : decode cX3_fewestWashes 26 = .ok (.iconst (-1), 1) := by decide +kernel
theorem dX3_fewestWashes_27 : decode cX3_fewestWashes 27 = .ok (.ireturn, 1) := by decide +kernel
theorem dX3_prepare_0 : decode cX3_prepare 0 = .ok (.aload_n 0, 1) := by decide +kernel
theorem dX3_prepare_1 : decode cX3_prepare 1 = .ok (.aload_n 1, 1) := by decide +kernel
theorem dX3_prepare_2 : decode cX3_prepare 2 = .ok (.putfield 60, 3) := by decide +kernel
theorem dX3_prepare_5 : decode cX3_prepare 5 = .ok (.aload_n 0, 1) := by decide +kernel
theorem dX3_prepare_6 : decode cX3_prepare 6 = .ok (.aload_n 2, 1) := by decide +kernel
theorem dX3_prepare_7 : decode cX3_prepare 7 = .ok (.putfield 64, 3) := by decide +kernel
theorem dX3_prepare_10 : decode cX3_prepare 10 = .ok (.aload_n 0, 1) := by decide +kernel
theorem dX3_prepare_11 : decode cX3_prepare 11 = .ok (.iload_n 3, 1) := by decide +kernel
theorem dX3_prepare_12 : decode cX3_prepare 12 = .ok (.putfield 68, 3) := by decide +kernel
theorem dX3_prepare_15 : decode cX3_prepare 15 = .ok (.aload_n 0, 1) := by decide +kernel
theorem dX3_prepare_16 : decode cX3_prepare 16 = .ok (.getfield 21, 3) := by decide +kernel
theorem dX3_prepare_19 : decode cX3_prepare 19 = .ok (.aload_n 0, 1) := by decide +kernel
theorem dX3_prepare_20 : decode cX3_prepare 20 = .ok (.getfield 64, 3) := by decide +kernel
theorem dX3_prepare_23 : decode cX3_prepare 23 = .ok (.getfield 71, 3) := by decide +kernel
theorem dX3_prepare_26 : decode cX3_prepare 26 = .ok (.invokevirtual 76, 3) := by decide +kernel
theorem dX3_prepare_29 : decode cX3_prepare 29 = .ok (.aload_n 0, 1) := by decide +kernel
theorem dX3_prepare_30 : decode cX3_prepare 30 = .ok (.iconst 0, 1) := by decide +kernel
theorem dX3_prepare_31 : decode cX3_prepare 31 = .ok (.putfield 80, 3) := by decide +kernel
theorem dX3_prepare_34 : decode cX3_prepare 34 = .ok (.aload_n 0, 1) := by decide +kernel
theorem dX3_prepare_35 : decode cX3_prepare 35 = .ok (.iconst 0, 1) := by decide +kernel
theorem dX3_prepare_36 : decode cX3_prepare 36 = .ok (.putfield 83, 3) := by decide +kernel
theorem dX3_prepare_39 : decode cX3_prepare 39 = .ok (.aload_n 0, 1) := by decide +kernel
theorem dX3_prepare_40 : decode cX3_prepare 40 = .ok (.iconst 0, 1) := by decide +kernel
theorem dX3_prepare_41 : decode cX3_prepare 41 = .ok (.putfield 52, 3) := by decide +kernel
theorem dX3_prepare_44 : decode cX3_prepare 44 = .ok (.aload_n 0, 1) := by decide +kernel
theorem dX3_prepare_45 : decode cX3_prepare 45 = .ok (.iconst 0, 1) := by decide +kernel
theorem dX3_prepare_46 : decode cX3_prepare 46 = .ok (.putfield 86, 3) := by decide +kernel
theorem dX3_prepare_49 : decode cX3_prepare 49 = .ok (.iconst 0, 1) := by decide +kernel
theorem dX3_prepare_50 : decode cX3_prepare 50 = .ok (.istore 4, 2) := by decide +kernel
theorem dX3_prepare_52 : decode cX3_prepare 52 = .ok (.iload 4, 2) := by decide +kernel
theorem dX3_prepare_54 : decode cX3_prepare 54 = .ok (.aload_n 0, 1) := by decide +kernel
theorem dX3_prepare_55 : decode cX3_prepare 55 = .ok (.getfield 64, 3) := by decide +kernel
theorem dX3_prepare_58 : decode cX3_prepare 58 = .ok (.getfield 89, 3) := by decide +kernel
theorem dX3_prepare_61 : decode cX3_prepare 61 = .ok (.if_icmp .ge 104, 3) := by decide +kernel
theorem dX3_prepare_64 : decode cX3_prepare 64 = .ok (.aload_n 0, 1) := by decide +kernel
theorem dX3_prepare_65 : decode cX3_prepare 65 = .ok (.getfield 86, 3) := by decide +kernel
theorem dX3_prepare_68 : decode cX3_prepare 68 = .ok (.iconst 4, 1) := by decide +kernel
theorem dX3_prepare_69 : decode cX3_prepare 69 = .ok (.if_icmp .ge 96, 3) := by decide +kernel
theorem dX3_prepare_72 : decode cX3_prepare 72 = .ok (.aload_n 0, 1) := by decide +kernel
theorem dX3_prepare_73 : decode cX3_prepare 73 = .ok (.getfield 64, 3) := by decide +kernel
theorem dX3_prepare_76 : decode cX3_prepare 76 = .ok (.aload_n 0, 1) := by decide +kernel
theorem dX3_prepare_77 : decode cX3_prepare 77 = .ok (.getfield 60, 3) := by decide +kernel
theorem dX3_prepare_80 : decode cX3_prepare 80 = .ok (.iload 4, 2) := by decide +kernel
theorem dX3_prepare_82 : decode cX3_prepare 82 = .ok (.invokevirtual 92, 3) := by decide +kernel
theorem dX3_prepare_85 : decode cX3_prepare 85 = .ok (.ifCond .ne 74, 3) := by decide +kernel
theorem dX3_prepare_88 : decode cX3_prepare 88 = .ok (.aload_n 0, 1) := by decide +kernel
theorem dX3_prepare_89 : decode cX3_prepare 89 = .ok (.getfield 25, 3) := by decide +kernel
theorem dX3_prepare_92 : decode cX3_prepare 92 = .ok (.aload_n 0, 1) := by decide +kernel
theorem dX3_prepare_93 : decode cX3_prepare 93 = .ok (.getfield 86, 3) := by decide +kernel
theorem dX3_prepare_96 : decode cX3_prepare 96 = .ok (.iload 4, 2) := by decide +kernel
theorem dX3_prepare_98 : decode cX3_prepare 98 = .ok (.iastore, 1) := by decide +kernel
theorem dX3_prepare_99 : decode cX3_prepare 99 = .ok (.aload_n 0, 1) := by decide +kernel
theorem dX3_prepare_100 : decode cX3_prepare 100 = .ok (.getfield 29, 3) := by decide +kernel
theorem dX3_prepare_103 : decode cX3_prepare 103 = .ok (.aload_n 0, 1) := by decide +kernel
theorem dX3_prepare_104 : decode cX3_prepare 104 = .ok (.getfield 86, 3) := by decide +kernel
theorem dX3_prepare_107 : decode cX3_prepare 107 = .ok (.aload_n 0, 1) := by decide +kernel
theorem dX3_prepare_108 : decode cX3_prepare 108 = .ok (.getfield 60, 3) := by decide +kernel
theorem dX3_prepare_111 : decode cX3_prepare 111 = .ok (.getfield 96, 3) := by decide +kernel
theorem dX3_prepare_114 : decode cX3_prepare 114 = .ok (.iload 4, 2) := by decide +kernel
theorem dX3_prepare_116 : decode cX3_prepare 116 = .ok (.iaload, 1) := by decide +kernel
theorem dX3_prepare_117 : decode cX3_prepare 117 = .ok (.aload_n 0, 1) := by decide +kernel
theorem dX3_prepare_118 : decode cX3_prepare 118 = .ok (.getfield 64, 3) := by decide +kernel
theorem dX3_prepare_121 : decode cX3_prepare 121 = .ok (.getfield 71, 3) := by decide +kernel
theorem dX3_prepare_124 : decode cX3_prepare 124 = .ok (.iload 4, 2) := by decide +kernel
theorem dX3_prepare_126 : decode cX3_prepare 126 = .ok (.invokevirtual 101, 3) := by decide +kernel
theorem dX3_prepare_129 : decode cX3_prepare 129 = .ok (.isub, 1) := by decide +kernel
theorem dX3_prepare_130 : decode cX3_prepare 130 = .ok (.iastore, 1) := by decide +kernel
theorem dX3_prepare_131 : decode cX3_prepare 131 = .ok (.aload_n 0, 1) := by decide +kernel
theorem dX3_prepare_132 : decode cX3_prepare 132 = .ok (.getfield 32, 3) := by decide +kernel
theorem dX3_prepare_135 : decode cX3_prepare 135 = .ok (.aload_n 0, 1) := by decide +kernel
theorem dX3_prepare_136 : decode cX3_prepare 136 = .ok (.getfield 86, 3) := by decide +kernel
theorem dX3_prepare_139 : decode cX3_prepare 139 = .ok (.aload_n 0, 1) := by decide +kernel
theorem dX3_prepare_140 : decode cX3_prepare 140 = .ok (.getfield 29, 3) := by decide +kernel
theorem dX3_prepare_143 : decode cX3_prepare 143 = .ok (.aload_n 0, 1) := by decide +kernel
theorem dX3_prepare_144 : decode cX3_prepare 144 = .ok (.getfield 86, 3) := by decide +kernel
theorem dX3_prepare_147 : decode cX3_prepare 147 = .ok (.iaload, 1) := by decide +kernel
theorem dX3_prepare_148 : decode cX3_prepare 148 = .ok (.iastore, 1) := by decide +kernel
theorem dX3_prepare_149 : decode cX3_prepare 149 = .ok (.aload_n 0, 1) := by decide +kernel
theorem dX3_prepare_150 : decode cX3_prepare 150 = .ok (.dup, 1) := by decide +kernel
theorem dX3_prepare_151 : decode cX3_prepare 151 = .ok (.getfield 86, 3) := by decide +kernel
theorem dX3_prepare_154 : decode cX3_prepare 154 = .ok (.iconst 1, 1) := by decide +kernel
theorem dX3_prepare_155 : decode cX3_prepare 155 = .ok (.iadd, 1) := by decide +kernel
theorem dX3_prepare_156 : decode cX3_prepare 156 = .ok (.putfield 86, 3) := by decide +kernel
theorem dX3_prepare_159 : decode cX3_prepare 159 = .ok (.iinc 4 1, 3) := by decide +kernel
theorem dX3_prepare_162 : decode cX3_prepare 162 = .ok (.goto (-110), 3) := by decide +kernel
theorem dX3_prepare_165 : decode cX3_prepare 165 = .ok (.aload_n 0, 1) := by decide +kernel
theorem dX3_prepare_166 : decode cX3_prepare 166 = .ok (.getfield 35, 3) := by decide +kernel
theorem dX3_prepare_169 : decode cX3_prepare 169 = .ok (.aload_n 0, 1) := by decide +kernel
theorem dX3_prepare_170 : decode cX3_prepare 170 = .ok (.getfield 60, 3) := by decide +kernel
theorem dX3_prepare_173 : decode cX3_prepare 173 = .ok (.getfield 105, 3) := by decide +kernel
theorem dX3_prepare_176 : decode cX3_prepare 176 = .ok (.iconst 0, 1) := by decide +kernel
theorem dX3_prepare_177 : decode cX3_prepare 177 = .ok (.iastore, 1) := by decide +kernel
theorem dX3_prepare_178 : decode cX3_prepare 178 = .ok (.aload_n 0, 1) := by decide +kernel
theorem dX3_prepare_179 : decode cX3_prepare 179 = .ok (.getfield 60, 3) := by decide +kernel
theorem dX3_prepare_182 : decode cX3_prepare 182 = .ok (.getfield 105, 3) := by decide +kernel
theorem dX3_prepare_185 : decode cX3_prepare 185 = .ok (.iconst 1, 1) := by decide +kernel
theorem dX3_prepare_186 : decode cX3_prepare 186 = .ok (.isub, 1) := by decide +kernel
theorem dX3_prepare_187 : decode cX3_prepare 187 = .ok (.istore 4, 2) := by decide +kernel
theorem dX3_prepare_189 : decode cX3_prepare 189 = .ok (.iload 4, 2) := by decide +kernel
theorem dX3_prepare_191 : decode cX3_prepare 191 = .ok (.ifCond .lt 52, 3) := by decide +kernel
theorem dX3_prepare_194 : decode cX3_prepare 194 = .ok (.aload_n 0, 1) := by decide +kernel
theorem dX3_prepare_195 : decode cX3_prepare 195 = .ok (.getfield 35, 3) := by decide +kernel
theorem dX3_prepare_198 : decode cX3_prepare 198 = .ok (.iload 4, 2) := by decide +kernel
theorem dX3_prepare_200 : decode cX3_prepare 200 = .ok (.aload_n 0, 1) := by decide +kernel
theorem dX3_prepare_201 : decode cX3_prepare 201 = .ok (.getfield 35, 3) := by decide +kernel
theorem dX3_prepare_204 : decode cX3_prepare 204 = .ok (.iload 4, 2) := by decide +kernel
theorem dX3_prepare_206 : decode cX3_prepare 206 = .ok (.iconst 1, 1) := by decide +kernel
theorem dX3_prepare_207 : decode cX3_prepare 207 = .ok (.iadd, 1) := by decide +kernel
theorem dX3_prepare_208 : decode cX3_prepare 208 = .ok (.iaload, 1) := by decide +kernel
theorem dX3_prepare_209 : decode cX3_prepare 209 = .ok (.aload_n 0, 1) := by decide +kernel
theorem dX3_prepare_210 : decode cX3_prepare 210 = .ok (.getfield 21, 3) := by decide +kernel
theorem dX3_prepare_213 : decode cX3_prepare 213 = .ok (.getfield 108, 3) := by decide +kernel
theorem dX3_prepare_216 : decode cX3_prepare 216 = .ok (.iload 4, 2) := by decide +kernel
theorem dX3_prepare_218 : decode cX3_prepare 218 = .ok (.iaload, 1) := by decide +kernel
theorem dX3_prepare_219 : decode cX3_prepare 219 = .ok (.ifCond .ne 15, 3) := by decide +kernel
theorem dX3_prepare_222 : decode cX3_prepare 222 = .ok (.aload_n 0, 1) := by decide +kernel
theorem dX3_prepare_223 : decode cX3_prepare 223 = .ok (.getfield 60, 3) := by decide +kernel
theorem dX3_prepare_226 : decode cX3_prepare 226 = .ok (.iload 4, 2) := by decide +kernel
theorem dX3_prepare_228 : decode cX3_prepare 228 = .ok (.invokevirtual 111, 3) := by decide +kernel
theorem dX3_prepare_231 : decode cX3_prepare 231 = .ok (.goto 4, 3) := by decide +kernel
theorem dX3_prepare_234 : decode cX3_prepare 234 = .ok (.iconst 0, 1) := by decide +kernel
theorem dX3_prepare_235 : decode cX3_prepare 235 = .ok (.iadd, 1) := by decide +kernel
theorem dX3_prepare_236 : decode cX3_prepare 236 = .ok (.iastore, 1) := by decide +kernel
theorem dX3_prepare_237 : decode cX3_prepare 237 = .ok (.iinc 4 (-1), 3) := by decide +kernel
theorem dX3_prepare_240 : decode cX3_prepare 240 = .ok (.goto (-51), 3) := by decide +kernel
theorem dX3_prepare_243 : decode cX3_prepare 243 = .ok (.return_, 1) := by decide +kernel
theorem dX3_deal_0 : decode cX3_deal 0 = .ok (.aload_n 0, 1) := by decide +kernel
theorem dX3_deal_1 : decode cX3_deal 1 = .ok (.iload_n 1, 1) := by decide +kernel
theorem dX3_deal_2 : decode cX3_deal 2 = .ok (.invokevirtual 114, 3) := by decide +kernel
theorem dX3_deal_5 : decode cX3_deal 5 = .ok (.ifCond .eq 4, 3) := by decide +kernel
theorem dX3_deal_8 : decode cX3_deal 8 = .ok (.return_, 1) := by decide +kernel
theorem dX3_deal_9 : decode cX3_deal 9 = .ok (.iload_n 1, 1) := by decide +kernel
theorem dX3_deal_10 : decode cX3_deal 10 = .ok (.aload_n 0, 1) := by decide +kernel
theorem dX3_deal_11 : decode cX3_deal 11 = .ok (.getfield 60, 3) := by decide +kernel
theorem dX3_deal_14 : decode cX3_deal 14 = .ok (.getfield 105, 3) := by decide +kernel
theorem dX3_deal_17 : decode cX3_deal 17 = .ok (.if_icmp .lt 8, 3) := by decide +kernel
theorem dX3_deal_20 : decode cX3_deal 20 = .ok (.aload_n 0, 1) := by decide +kernel
theorem dX3_deal_21 : decode cX3_deal 21 = .ok (.invokevirtual 118, 3) := by decide +kernel
theorem dX3_deal_24 : decode cX3_deal 24 = .ok (.return_, 1) := by decide +kernel
theorem dX3_deal_25 : decode cX3_deal 25 = .ok (.aload_n 0, 1) := by decide +kernel
theorem dX3_deal_26 : decode cX3_deal 26 = .ok (.getfield 21, 3) := by decide +kernel
theorem dX3_deal_29 : decode cX3_deal 29 = .ok (.getfield 108, 3) := by decide +kernel
theorem dX3_deal_32 : decode cX3_deal 32 = .ok (.iload_n 1, 1) := by decide +kernel
theorem dX3_deal_33 : decode cX3_deal 33 = .ok (.iaload, 1) := by decide +kernel
theorem dX3_deal_34 : decode cX3_deal 34 = .ok (.ifCond .ne 41, 3) := by decide +kernel
theorem dX3_deal_37 : decode cX3_deal 37 = .ok (.iconst 0, 1) := by decide +kernel
theorem dX3_deal_38 : decode cX3_deal 38 = .ok (.istore_n 2, 1) := by decide +kernel
theorem dX3_deal_39 : decode cX3_deal 39 = .ok (.iload_n 2, 1) := by decide +kernel
theorem dX3_deal_40 : decode cX3_deal 40 = .ok (.aload_n 0, 1) := by decide +kernel
theorem dX3_deal_41 : decode cX3_deal 41 = .ok (.getfield 86, 3) := by decide +kernel
theorem dX3_deal_44 : decode cX3_deal 44 = .ok (.if_icmp .ge 31, 3) := by decide +kernel
theorem dX3_deal_47 : decode cX3_deal 47 = .ok (.aload_n 0, 1) := by decide +kernel
theorem dX3_deal_48 : decode cX3_deal 48 = .ok (.iload_n 1, 1) := by decide +kernel
theorem dX3_deal_49 : decode cX3_deal 49 = .ok (.iload_n 2, 1) := by decide +kernel
theorem dX3_deal_50 : decode cX3_deal 50 = .ok (.invokevirtual 121, 3) := by decide +kernel
theorem dX3_deal_53 : decode cX3_deal 53 = .ok (.ifCond .eq 16, 3) := by decide +kernel
theorem dX3_deal_56 : decode cX3_deal 56 = .ok (.aload_n 0, 1) := by decide +kernel
theorem dX3_deal_57 : decode cX3_deal 57 = .ok (.iload_n 1, 1) := by decide +kernel
theorem dX3_deal_58 : decode cX3_deal 58 = .ok (.iconst 1, 1) := by decide +kernel
theorem dX3_deal_59 : decode cX3_deal 59 = .ok (.iadd, 1) := by decide +kernel
theorem dX3_deal_60 : decode cX3_deal 60 = .ok (.invokestatic 48, 3) := by decide +kernel
theorem dX3_deal_63 : decode cX3_deal 63 = .ok (.aload_n 0, 1) := by decide +kernel
theorem dX3_deal_64 : decode cX3_deal 64 = .ok (.iload_n 1, 1) := by decide +kernel
theorem dX3_deal_65 : decode cX3_deal 65 = .ok (.iload_n 2, 1) := by decide +kernel
theorem dX3_deal_66 : decode cX3_deal 66 = .ok (.invokevirtual 125, 3) := by decide +kernel
theorem dX3_deal_69 : decode cX3_deal 69 = .ok (.iinc 2 1, 3) := by decide +kernel
theorem dX3_deal_72 : decode cX3_deal 72 = .ok (.goto (-33), 3) := by decide +kernel
theorem dX3_deal_75 : decode cX3_deal 75 = .ok (.aload_n 0, 1) := by decide +kernel
theorem dX3_deal_76 : decode cX3_deal 76 = .ok (.iload_n 1, 1) := by decide +kernel
theorem dX3_deal_77 : decode cX3_deal 77 = .ok (.iconst 1, 1) := by decide +kernel
theorem dX3_deal_78 : decode cX3_deal 78 = .ok (.iadd, 1) := by decide +kernel
theorem dX3_deal_79 : decode cX3_deal 79 = .ok (.invokestatic 48, 3) := by decide +kernel
theorem dX3_deal_82 : decode cX3_deal 82 = .ok (.return_, 1) := by decide +kernel
theorem dX3_isHopeless_0 : decode cX3_isHopeless 0 = .ok (.aload_n 0, 1) := by decide +kernel
theorem dX3_isHopeless_1 : decode cX3_isHopeless 1 = .ok (.getfield 68, 3) := by decide +kernel
theorem dX3_isHopeless_4 : decode cX3_isHopeless 4 = .ok (.ifCond .eq 23, 3) := by decide +kernel
theorem dX3_isHopeless_7 : decode cX3_isHopeless 7 = .ok (.aload_n 0, 1) := by decide +kernel
theorem dX3_isHopeless_8 : decode cX3_isHopeless 8 = .ok (.getfield 52, 3) := by decide +kernel
theorem dX3_isHopeless_11 : decode cX3_isHopeless 11 = .ok (.ifCond .eq 16, 3) := by decide +kernel
theorem dX3_isHopeless_14 : decode cX3_isHopeless 14 = .ok (.aload_n 0, 1) := by decide +kernel
theorem dX3_isHopeless_15 : decode cX3_isHopeless 15 = .ok (.getfield 83, 3) := by decide +kernel
theorem dX3_isHopeless_18 : decode cX3_isHopeless 18 = .ok (.aload_n 0, 1) := by decide +kernel
theorem dX3_isHopeless_19 : decode cX3_isHopeless 19 = .ok (.getfield 56, 3) := by decide +kernel
theorem dX3_isHopeless_22 : decode cX3_isHopeless 22 = .ok (.if_icmp .lt 5, 3) := by decide +kernel
theorem dX3_isHopeless_25 : decode cX3_isHopeless 25 = .ok (.iconst 1, 1) := by decide +kernel
theorem dX3_isHopeless_26 : decode cX3_isHopeless 26 = .ok (.ireturn, 1) := by decide +kernel
theorem dX3_isHopeless_27 : decode cX3_isHopeless 27 = .ok (.iconst 0, 1) := by decide +kernel
theorem dX3_isHopeless_28 : decode cX3_isHopeless 28 = .ok (.istore_n 2, 1) := by decide +kernel
theorem dX3_isHopeless_29 : decode cX3_isHopeless 29 = .ok (.iconst 0, 1) := by decide +kernel
theorem dX3_isHopeless_30 : decode cX3_isHopeless 30 = .ok (.istore_n 3, 1) := by decide +kernel
theorem dX3_isHopeless_31 : decode cX3_isHopeless 31 = .ok (.iload_n 3, 1) := by decide +kernel
theorem dX3_isHopeless_32 : decode cX3_isHopeless 32 = .ok (.aload_n 0, 1) := by decide +kernel
theorem dX3_isHopeless_33 : decode cX3_isHopeless 33 = .ok (.getfield 86, 3) := by decide +kernel
theorem dX3_isHopeless_36 : decode cX3_isHopeless 36 = .ok (.if_icmp .ge 40, 3) := by decide +kernel
theorem dX3_isHopeless_39 : decode cX3_isHopeless 39 = .ok (.aload_n 0, 1) := by decide +kernel
theorem dX3_isHopeless_40 : decode cX3_isHopeless 40 = .ok (.getfield 68, 3) := by decide +kernel
theorem dX3_isHopeless_43 : decode cX3_isHopeless 43 = .ok (.ifCond .ne 18, 3) := by decide +kernel
theorem dX3_isHopeless_46 : decode cX3_isHopeless 46 = .ok (.aload_n 0, 1) := by decide +kernel
theorem dX3_isHopeless_47 : decode cX3_isHopeless 47 = .ok (.getfield 32, 3) := by decide +kernel
theorem dX3_isHopeless_50 : decode cX3_isHopeless 50 = .ok (.iload_n 3, 1) := by decide +kernel
theorem dX3_isHopeless_51 : decode cX3_isHopeless 51 = .ok (.iaload, 1) := by decide +kernel
theorem dX3_isHopeless_52 : decode cX3_isHopeless 52 = .ok (.aload_n 0, 1) := by decide +kernel
theorem dX3_isHopeless_53 : decode cX3_isHopeless 53 = .ok (.getfield 29, 3) := by decide +kernel
theorem dX3_isHopeless_56 : decode cX3_isHopeless 56 = .ok (.iload_n 3, 1) := by decide +kernel
theorem dX3_isHopeless_57 : decode cX3_isHopeless 57 = .ok (.iaload, 1) := by decide +kernel
theorem dX3_isHopeless_58 : decode cX3_isHopeless 58 = .ok (.if_icmp .ge 12, 3) := by decide +kernel
theorem dX3_isHopeless_61 : decode cX3_isHopeless 61 = .ok (.iload_n 2, 1) := by decide +kernel
theorem dX3_isHopeless_62 : decode cX3_isHopeless 62 = .ok (.aload_n 0, 1) := by decide +kernel
theorem dX3_isHopeless_63 : decode cX3_isHopeless 63 = .ok (.getfield 32, 3) := by decide +kernel
theorem dX3_isHopeless_66 : decode cX3_isHopeless 66 = .ok (.iload_n 3, 1) := by decide +kernel
theorem dX3_isHopeless_67 : decode cX3_isHopeless 67 = .ok (.iaload, 1) := by decide +kernel
theorem dX3_isHopeless_68 : decode cX3_isHopeless 68 = .ok (.iadd, 1) := by decide +kernel
theorem dX3_isHopeless_69 : decode cX3_isHopeless 69 = .ok (.istore_n 2, 1) := by decide +kernel
theorem dX3_isHopeless_70 : decode cX3_isHopeless 70 = .ok (.iinc 3 1, 3) := by decide +kernel
theorem dX3_isHopeless_73 : decode cX3_isHopeless 73 = .ok (.goto (-42), 3) := by decide +kernel
theorem dX3_isHopeless_76 : decode cX3_isHopeless 76 = .ok (.iload_n 2, 1) := by decide +kernel
theorem dX3_isHopeless_77 : decode cX3_isHopeless 77 = .ok (.aload_n 0, 1) := by decide +kernel
theorem dX3_isHopeless_78 : decode cX3_isHopeless 78 = .ok (.getfield 35, 3) := by decide +kernel
theorem dX3_isHopeless_81 : decode cX3_isHopeless 81 = .ok (.iload_n 1, 1) := by decide +kernel
theorem dX3_isHopeless_82 : decode cX3_isHopeless 82 = .ok (.iaload, 1) := by decide +kernel
theorem dX3_isHopeless_83 : decode cX3_isHopeless 83 = .ok (.if_icmp .le 7, 3) := by decide +kernel
theorem dX3_isHopeless_86 : decode cX3_isHopeless 86 = .ok (.iconst 1, 1) := by decide +kernel
theorem dX3_isHopeless_87 : decode cX3_isHopeless 87 = .ok (.goto 4, 3) := by decide +kernel
theorem dX3_isHopeless_90 : decode cX3_isHopeless 90 = .ok (.iconst 0, 1) := by decide +kernel
theorem dX3_isHopeless_91 : decode cX3_isHopeless 91 = .ok (.ireturn, 1) := by decide +kernel
theorem dX3_gives_0 : decode cX3_gives 0 = .ok (.aload_n 0, 1) := by decide +kernel
theorem dX3_gives_1 : decode cX3_gives 1 = .ok (.getfield 60, 3) := by decide +kernel
theorem dX3_gives_4 : decode cX3_gives 4 = .ok (.iload_n 1, 1) := by decide +kernel
theorem dX3_gives_5 : decode cX3_gives 5 = .ok (.invokevirtual 111, 3) := by decide +kernel
theorem dX3_gives_8 : decode cX3_gives 8 = .ok (.aload_n 0, 1) := by decide +kernel
theorem dX3_gives_9 : decode cX3_gives 9 = .ok (.getfield 32, 3) := by decide +kernel
theorem dX3_gives_12 : decode cX3_gives 12 = .ok (.iload_n 2, 1) := by decide +kernel
theorem dX3_gives_13 : decode cX3_gives 13 = .ok (.iaload, 1) := by decide +kernel
theorem dX3_gives_14 : decode cX3_gives 14 = .ok (.invokestatic 129, 3) := by decide +kernel
theorem dX3_gives_17 : decode cX3_gives 17 = .ok (.istore_n 3, 1) := by decide +kernel
theorem dX3_gives_18 : decode cX3_gives 18 = .ok (.iload_n 3, 1) := by decide +kernel
theorem dX3_gives_19 : decode cX3_gives 19 = .ok (.ifCond .ne 5, 3) := by decide +kernel
theorem dX3_gives_22 : decode cX3_gives 22 = .ok (.iconst 0, 1) := by decide +kernel
theorem dX3_gives_23 : decode cX3_gives 23 = .ok (.ireturn, 1) := by decide +kernel
theorem dX3_gives_24 : decode cX3_gives 24 = .ok (.aload_n 0, 1) := by decide +kernel
theorem dX3_gives_25 : decode cX3_gives 25 = .ok (.getfield 60, 3) := by decide +kernel
theorem dX3_gives_28 : decode cX3_gives 28 = .ok (.getfield 135, 3) := by decide +kernel
theorem dX3_gives_31 : decode cX3_gives 31 = .ok (.aload_n 0, 1) := by decide +kernel
theorem dX3_gives_32 : decode cX3_gives 32 = .ok (.getfield 25, 3) := by decide +kernel
theorem dX3_gives_35 : decode cX3_gives 35 = .ok (.iload_n 2, 1) := by decide +kernel
theorem dX3_gives_36 : decode cX3_gives 36 = .ok (.iaload, 1) := by decide +kernel
theorem dX3_gives_37 : decode cX3_gives 37 = .ok (.iaload, 1) := by decide +kernel
theorem dX3_gives_38 : decode cX3_gives 38 = .ok (.istore 4, 2) := by decide +kernel
theorem dX3_gives_40 : decode cX3_gives 40 = .ok (.aload_n 0, 1) := by decide +kernel
theorem dX3_gives_41 : decode cX3_gives 41 = .ok (.getfield 60, 3) := by decide +kernel
theorem dX3_gives_44 : decode cX3_gives 44 = .ok (.aload_n 0, 1) := by decide +kernel
theorem dX3_gives_45 : decode cX3_gives 45 = .ok (.getfield 21, 3) := by decide +kernel
theorem dX3_gives_48 : decode cX3_gives 48 = .ok (.getfield 138, 3) := by decide +kernel
theorem dX3_gives_51 : decode cX3_gives 51 = .ok (.iload_n 1, 1) := by decide +kernel
theorem dX3_gives_52 : decode cX3_gives 52 = .ok (.iaload, 1) := by decide +kernel
theorem dX3_gives_53 : decode cX3_gives 53 = .ok (.iload 4, 2) := by decide +kernel
theorem dX3_gives_55 : decode cX3_gives 55 = .ok (.invokevirtual 141, 3) := by decide +kernel
theorem dX3_gives_58 : decode cX3_gives 58 = .ok (.istore 5, 2) := by decide +kernel
theorem dX3_gives_60 : decode cX3_gives 60 = .ok (.iload 5, 2) := by decide +kernel
theorem dX3_gives_62 : decode cX3_gives 62 = .ok (.ifCond .eq 12, 3) := by decide +kernel
theorem dX3_gives_65 : decode cX3_gives 65 = .ok (.aload_n 0, 1) := by decide +kernel
theorem dX3_gives_66 : decode cX3_gives 66 = .ok (.getfield 68, 3) := by decide +kernel
theorem dX3_gives_69 : decode cX3_gives 69 = .ok (.ifCond .ne 5, 3) := by decide +kernel
theorem dX3_gives_72 : decode cX3_gives 72 = .ok (.iconst 0, 1) := by decide +kernel
theorem dX3_gives_73 : decode cX3_gives 73 = .ok (.ireturn, 1) := by decide +kernel
theorem dX3_gives_74 : decode cX3_gives 74 = .ok (.aload_n 0, 1) := by decide +kernel
theorem dX3_gives_75 : decode cX3_gives 75 = .ok (.getfield 21, 3) := by decide +kernel
theorem dX3_gives_78 : decode cX3_gives 78 = .ok (.aload_n 0, 1) := by decide +kernel
theorem dX3_gives_79 : decode cX3_gives 79 = .ok (.getfield 60, 3) := by decide +kernel
theorem dX3_gives_82 : decode cX3_gives 82 = .ok (.iload_n 1, 1) := by decide +kernel
theorem dX3_gives_83 : decode cX3_gives 83 = .ok (.aload_n 0, 1) := by decide +kernel
theorem dX3_gives_84 : decode cX3_gives 84 = .ok (.getfield 25, 3) := by decide +kernel
theorem dX3_gives_87 : decode cX3_gives 87 = .ok (.iload_n 2, 1) := by decide +kernel
theorem dX3_gives_88 : decode cX3_gives 88 = .ok (.iaload, 1) := by decide +kernel
theorem dX3_gives_89 : decode cX3_gives 89 = .ok (.iload 4, 2) := by decide +kernel
theorem dX3_gives_91 : decode cX3_gives 91 = .ok (.iload_n 3, 1) := by decide +kernel
theorem dX3_gives_92 : decode cX3_gives 92 = .ok (.invokevirtual 144, 3) := by decide +kernel
theorem dX3_gives_95 : decode cX3_gives 95 = .ok (.aload_n 0, 1) := by decide +kernel
theorem dX3_gives_96 : decode cX3_gives 96 = .ok (.getfield 32, 3) := by decide +kernel
theorem dX3_gives_99 : decode cX3_gives 99 = .ok (.iload_n 2, 1) := by decide +kernel
theorem dX3_gives_100 : decode cX3_gives 100 = .ok (.dup2, 1) := by decide +kernel
theorem dX3_gives_101 : decode cX3_gives 101 = .ok (.iaload, 1) := by decide +kernel
theorem dX3_gives_102 : decode cX3_gives 102 = .ok (.iload_n 3, 1) := by decide +kernel
theorem dX3_gives_103 : decode cX3_gives 103 = .ok (.isub, 1) := by decide +kernel
theorem dX3_gives_104 : decode cX3_gives 104 = .ok (.iastore, 1) := by decide +kernel
theorem dX3_gives_105 : decode cX3_gives 105 = .ok (.aload_n 0, 1) := by decide +kernel
theorem dX3_gives_106 : decode cX3_gives 106 = .ok (.dup, 1) := by decide +kernel
theorem dX3_gives_107 : decode cX3_gives 107 = .ok (.getfield 80, 3) := by decide +kernel
theorem dX3_gives_110 : decode cX3_gives 110 = .ok (.iconst 1, 1) := by decide +kernel
theorem dX3_gives_111 : decode cX3_gives 111 = .ok (.iadd, 1) := by decide +kernel
theorem dX3_gives_112 : decode cX3_gives 112 = .ok (.putfield 80, 3) := by decide +kernel
theorem dX3_gives_115 : decode cX3_gives 115 = .ok (.aload_n 0, 1) := by decide +kernel
theorem dX3_gives_116 : decode cX3_gives 116 = .ok (.dup, 1) := by decide +kernel
theorem dX3_gives_117 : decode cX3_gives 117 = .ok (.getfield 83, 3) := by decide +kernel
theorem dX3_gives_120 : decode cX3_gives 120 = .ok (.iload 5, 2) := by decide +kernel
theorem dX3_gives_122 : decode cX3_gives 122 = .ok (.ifCond .eq 7, 3) := by decide +kernel
theorem dX3_gives_125 : decode cX3_gives 125 = .ok (.iconst 1, 1) := by decide +kernel
theorem dX3_gives_126 : decode cX3_gives 126 = .ok (.goto 4, 3) := by decide +kernel
theorem dX3_gives_129 : decode cX3_gives 129 = .ok (.iconst 0, 1) := by decide +kernel
theorem dX3_gives_130 : decode cX3_gives 130 = .ok (.iadd, 1) := by decide +kernel
theorem dX3_gives_131 : decode cX3_gives 131 = .ok (.putfield 83, 3) := by decide +kernel
theorem dX3_gives_134 : decode cX3_gives 134 = .ok (.iconst 1, 1) := by decide +kernel
theorem dX3_gives_135 : decode cX3_gives 135 = .ok (.ireturn, 1) := by decide +kernel
theorem dX3_takeBack_0 : decode cX3_takeBack 0 = .ok (.aload_n 0, 1) := by decide +kernel
theorem dX3_takeBack_1 : decode cX3_takeBack 1 = .ok (.getfield 64, 3) := by decide +kernel
theorem dX3_takeBack_4 : decode cX3_takeBack 4 = .ok (.getfield 71, 3) := by decide +kernel
theorem dX3_takeBack_7 : decode cX3_takeBack 7 = .ok (.getfield 138, 3) := by decide +kernel
theorem dX3_takeBack_10 : decode cX3_takeBack 10 = .ok (.iload_n 1, 1) := by decide +kernel
theorem dX3_takeBack_11 : decode cX3_takeBack 11 = .ok (.iaload, 1) := by decide +kernel
theorem dX3_takeBack_12 : decode cX3_takeBack 12 = .ok (.istore_n 3, 1) := by decide +kernel
theorem dX3_takeBack_13 : decode cX3_takeBack 13 = .ok (.aload_n 0, 1) := by decide +kernel
theorem dX3_takeBack_14 : decode cX3_takeBack 14 = .ok (.getfield 32, 3) := by decide +kernel
theorem dX3_takeBack_17 : decode cX3_takeBack 17 = .ok (.iload_n 2, 1) := by decide +kernel
theorem dX3_takeBack_18 : decode cX3_takeBack 18 = .ok (.dup2, 1) := by decide +kernel
theorem dX3_takeBack_19 : decode cX3_takeBack 19 = .ok (.iaload, 1) := by decide +kernel
theorem dX3_takeBack_20 : decode cX3_takeBack 20 = .ok (.aload_n 0, 1) := by decide +kernel
theorem dX3_takeBack_21 : decode cX3_takeBack 21 = .ok (.getfield 21, 3) := by decide +kernel
theorem dX3_takeBack_24 : decode cX3_takeBack 24 = .ok (.getfield 108, 3) := by decide +kernel
theorem dX3_takeBack_27 : decode cX3_takeBack 27 = .ok (.iload_n 1, 1) := by decide +kernel
theorem dX3_takeBack_28 : decode cX3_takeBack 28 = .ok (.iaload, 1) := by decide +kernel
theorem dX3_takeBack_29 : decode cX3_takeBack 29 = .ok (.iadd, 1) := by decide +kernel
theorem dX3_takeBack_30 : decode cX3_takeBack 30 = .ok (.iastore, 1) := by decide +kernel
theorem dX3_takeBack_31 : decode cX3_takeBack 31 = .ok (.aload_n 0, 1) := by decide +kernel
theorem dX3_takeBack_32 : decode cX3_takeBack 32 = .ok (.getfield 21, 3) := by decide +kernel
theorem dX3_takeBack_35 : decode cX3_takeBack 35 = .ok (.iload_n 1, 1) := by decide +kernel
theorem dX3_takeBack_36 : decode cX3_takeBack 36 = .ok (.invokevirtual 148, 3) := by decide +kernel
theorem dX3_takeBack_39 : decode cX3_takeBack 39 = .ok (.aload_n 0, 1) := by decide +kernel
theorem dX3_takeBack_40 : decode cX3_takeBack 40 = .ok (.getfield 21, 3) := by decide +kernel
theorem dX3_takeBack_43 : decode cX3_takeBack 43 = .ok (.getfield 138, 3) := by decide +kernel
theorem dX3_takeBack_46 : decode cX3_takeBack 46 = .ok (.iload_n 1, 1) := by decide +kernel
theorem dX3_takeBack_47 : decode cX3_takeBack 47 = .ok (.iload_n 3, 1) := by decide +kernel
theorem dX3_takeBack_48 : decode cX3_takeBack 48 = .ok (.iastore, 1) := by decide +kernel
theorem dX3_takeBack_49 : decode cX3_takeBack 49 = .ok (.aload_n 0, 1) := by decide +kernel
theorem dX3_takeBack_50 : decode cX3_takeBack 50 = .ok (.dup, 1) := by decide +kernel
theorem dX3_takeBack_51 : decode cX3_takeBack 51 = .ok (.getfield 80, 3) := by decide +kernel
theorem dX3_takeBack_54 : decode cX3_takeBack 54 = .ok (.iconst 1, 1) := by decide +kernel
theorem dX3_takeBack_55 : decode cX3_takeBack 55 = .ok (.isub, 1) := by decide +kernel
theorem dX3_takeBack_56 : decode cX3_takeBack 56 = .ok (.putfield 80, 3) := by decide +kernel
theorem dX3_takeBack_59 : decode cX3_takeBack 59 = .ok (.aload_n 0, 1) := by decide +kernel
theorem dX3_takeBack_60 : decode cX3_takeBack 60 = .ok (.dup, 1) := by decide +kernel
theorem dX3_takeBack_61 : decode cX3_takeBack 61 = .ok (.getfield 83, 3) := by decide +kernel
theorem dX3_takeBack_64 : decode cX3_takeBack 64 = .ok (.aload_n 0, 1) := by decide +kernel
theorem dX3_takeBack_65 : decode cX3_takeBack 65 = .ok (.getfield 60, 3) := by decide +kernel
theorem dX3_takeBack_68 : decode cX3_takeBack 68 = .ok (.iload_n 3, 1) := by decide +kernel
theorem dX3_takeBack_69 : decode cX3_takeBack 69 = .ok (.aload_n 0, 1) := by decide +kernel
theorem dX3_takeBack_70 : decode cX3_takeBack 70 = .ok (.getfield 60, 3) := by decide +kernel
theorem dX3_takeBack_73 : decode cX3_takeBack 73 = .ok (.getfield 135, 3) := by decide +kernel
theorem dX3_takeBack_76 : decode cX3_takeBack 76 = .ok (.aload_n 0, 1) := by decide +kernel
theorem dX3_takeBack_77 : decode cX3_takeBack 77 = .ok (.getfield 25, 3) := by decide +kernel
theorem dX3_takeBack_80 : decode cX3_takeBack 80 = .ok (.iload_n 2, 1) := by decide +kernel
theorem dX3_takeBack_81 : decode cX3_takeBack 81 = .ok (.iaload, 1) := by decide +kernel
theorem dX3_takeBack_82 : decode cX3_takeBack 82 = .ok (.iaload, 1) := by decide +kernel
theorem dX3_takeBack_83 : decode cX3_takeBack 83 = .ok (.invokevirtual 141, 3) := by decide +kernel
theorem dX3_takeBack_86 : decode cX3_takeBack 86 = .ok (.ifCond .eq 7, 3) := by decide +kernel
theorem dX3_takeBack_89 : decode cX3_takeBack 89 = .ok (.iconst 1, 1) := by decide +kernel
theorem dX3_takeBack_90 : decode cX3_takeBack 90 = .ok (.goto 4, 3) := by decide +kernel
theorem dX3_takeBack_93 : decode cX3_takeBack 93 = .ok (.iconst 0, 1) := by decide +kernel
theorem dX3_takeBack_94 : decode cX3_takeBack 94 = .ok (.isub, 1) := by decide +kernel
theorem dX3_takeBack_95 : decode cX3_takeBack 95 = .ok (.putfield 83, 3) := by decide +kernel
theorem dX3_takeBack_98 : decode cX3_takeBack 98 = .ok (.return_, 1) := by decide +kernel
theorem dX3_consider_0 : decode cX3_consider 0 = .ok (.iconst 0, 1) := by decide +kernel
theorem dX3_consider_1 : decode cX3_consider 1 = .ok (.istore_n 1, 1) := by decide +kernel
theorem dX3_consider_2 : decode cX3_consider 2 = .ok (.iconst 0, 1) := by decide +kernel
theorem dX3_consider_3 : decode cX3_consider 3 = .ok (.istore_n 2, 1) := by decide +kernel
theorem dX3_consider_4 : decode cX3_consider 4 = .ok (.iload_n 2, 1) := by decide +kernel
theorem dX3_consider_5 : decode cX3_consider 5 = .ok (.aload_n 0, 1) := by decide +kernel
theorem dX3_consider_6 : decode cX3_consider 6 = .ok (.getfield 86, 3) := by decide +kernel
theorem dX3_consider_9 : decode cX3_consider 9 = .ok (.if_icmp .ge 26, 3) := by decide +kernel
theorem dX3_consider_12 : decode cX3_consider 12 = .ok (.iload_n 1, 1) := by decide +kernel
theorem dX3_consider_13 : decode cX3_consider 13 = .ok (.aload_n 0, 1) := by decide +kernel
theorem dX3_consider_14 : decode cX3_consider 14 = .ok (.getfield 32, 3) := by decide +kernel
theorem dX3_consider_17 : decode cX3_consider 17 = .ok (.iload_n 2, 1) := by decide +kernel
theorem dX3_consider_18 : decode cX3_consider 18 = .ok (.iaload, 1) := by decide +kernel
theorem dX3_consider_19 : decode cX3_consider 19 = .ok (.ifCond .ne 7, 3) := by decide +kernel
theorem dX3_consider_22 : decode cX3_consider 22 = .ok (.iconst 1, 1) := by decide +kernel
theorem dX3_consider_23 : decode cX3_consider 23 = .ok (.goto 4, 3) := by decide +kernel
theorem dX3_consider_26 : decode cX3_consider 26 = .ok (.iconst 0, 1) := by decide +kernel
theorem dX3_consider_27 : decode cX3_consider 27 = .ok (.iadd, 1) := by decide +kernel
theorem dX3_consider_28 : decode cX3_consider 28 = .ok (.istore_n 1, 1) := by decide +kernel
theorem dX3_consider_29 : decode cX3_consider 29 = .ok (.iinc 2 1, 3) := by decide +kernel
theorem dX3_consider_32 : decode cX3_consider 32 = .ok (.goto (-28), 3) := by decide +kernel
theorem dX3_consider_35 : decode cX3_consider 35 = .ok (.aload_n 0, 1) := by decide +kernel
theorem dX3_consider_36 : decode cX3_consider 36 = .ok (.iload_n 1, 1) := by decide +kernel
theorem dX3_consider_37 : decode cX3_consider 37 = .ok (.invokevirtual 152, 3) := by decide +kernel
theorem dX3_consider_40 : decode cX3_consider 40 = .ok (.ifCond .eq 73, 3) := by decide +kernel
theorem dX3_consider_43 : decode cX3_consider 43 = .ok (.aload_n 0, 1) := by decide +kernel
theorem dX3_consider_44 : decode cX3_consider 44 = .ok (.getfield 21, 3) := by decide +kernel
theorem dX3_consider_47 : decode cX3_consider 47 = .ok (.aload_n 0, 1) := by decide +kernel
theorem dX3_consider_48 : decode cX3_consider 48 = .ok (.getfield 60, 3) := by decide +kernel
theorem dX3_consider_51 : decode cX3_consider 51 = .ok (.iconst 0, 1) := by decide +kernel
theorem dX3_consider_52 : decode cX3_consider 52 = .ok (.invokevirtual 155, 3) := by decide +kernel
theorem dX3_consider_55 : decode cX3_consider 55 = .ok (.ifCond .ne 58, 3) := by decide +kernel
theorem dX3_consider_58 : decode cX3_consider 58 = .ok (.aload_n 0, 1) := by decide +kernel
theorem dX3_consider_59 : decode cX3_consider 59 = .ok (.getfield 12, 3) := by decide +kernel
theorem dX3_consider_62 : decode cX3_consider 62 = .ok (.aload_n 0, 1) := by decide +kernel
theorem dX3_consider_63 : decode cX3_consider 63 = .ok (.getfield 60, 3) := by decide +kernel
theorem dX3_consider_66 : decode cX3_consider 66 = .ok (.aload_n 0, 1) := by decide +kernel
theorem dX3_consider_67 : decode cX3_consider 67 = .ok (.getfield 21, 3) := by decide +kernel
theorem dX3_consider_70 : decode cX3_consider 70 = .ok (.aload_n 0, 1) := by decide +kernel
theorem dX3_consider_71 : decode cX3_consider 71 = .ok (.getfield 64, 3) := by decide +kernel
theorem dX3_consider_74 : decode cX3_consider 74 = .ok (.getfield 89, 3) := by decide +kernel
theorem dX3_consider_77 : decode cX3_consider 77 = .ok (.invokevirtual 158, 3) := by decide +kernel
theorem dX3_consider_80 : decode cX3_consider 80 = .ok (.ifCond .le 33, 3) := by decide +kernel
theorem dX3_consider_83 : decode cX3_consider 83 = .ok (.aload_n 0, 1) := by decide +kernel
theorem dX3_consider_84 : decode cX3_consider 84 = .ok (.iconst 1, 1) := by decide +kernel
theorem dX3_consider_85 : decode cX3_consider 85 = .ok (.putfield 52, 3) := by decide +kernel
theorem dX3_consider_88 : decode cX3_consider 88 = .ok (.aload_n 0, 1) := by decide +kernel
theorem dX3_consider_89 : decode cX3_consider 89 = .ok (.aload_n 0, 1) := by decide +kernel
theorem dX3_consider_90 : decode cX3_consider 90 = .ok (.getfield 83, 3) := by decide +kernel
theorem dX3_consider_93 : decode cX3_consider 93 = .ok (.putfield 56, 3) := by decide +kernel
theorem dX3_consider_96 : decode cX3_consider 96 = .ok (.aload_n 0, 1) := by decide +kernel
theorem dX3_consider_97 : decode cX3_consider 97 = .ok (.iload_n 1, 1) := by decide +kernel
theorem dX3_consider_98 : decode cX3_consider 98 = .ok (.putfield 162, 3) := by decide +kernel
theorem dX3_consider_101 : decode cX3_consider 101 = .ok (.aload_n 0, 1) := by decide +kernel
theorem dX3_consider_102 : decode cX3_consider 102 = .ok (.aload_n 0, 1) := by decide +kernel
theorem dX3_consider_103 : decode cX3_consider 103 = .ok (.getfield 80, 3) := by decide +kernel
theorem dX3_consider_106 : decode cX3_consider 106 = .ok (.putfield 165, 3) := by decide +kernel
theorem dX3_consider_109 : decode cX3_consider 109 = .ok (.aload_n 0, 1) := by decide +kernel
theorem dX3_consider_110 : decode cX3_consider 110 = .ok (.invokevirtual 168, 3) := by decide +kernel
theorem dX3_consider_113 : decode cX3_consider 113 = .ok (.return_, 1) := by decide +kernel
theorem dX3_isBetter_0 : decode cX3_isBetter 0 = .ok (.aload_n 0, 1) := by decide +kernel
theorem dX3_isBetter_1 : decode cX3_isBetter 1 = .ok (.getfield 52, 3) := by decide +kernel
theorem dX3_isBetter_4 : decode cX3_isBetter 4 = .ok (.ifCond .eq 37, 3) := by decide +kernel
theorem dX3_isBetter_7 : decode cX3_isBetter 7 = .ok (.aload_n 0, 1) := by decide +kernel
theorem dX3_isBetter_8 : decode cX3_isBetter 8 = .ok (.getfield 68, 3) := by decide +kernel
theorem dX3_isBetter_11 : decode cX3_isBetter 11 = .ok (.ifCond .ne 30, 3) := by decide +kernel
theorem dX3_isBetter_14 : decode cX3_isBetter 14 = .ok (.iload_n 1, 1) := by decide +kernel
theorem dX3_isBetter_15 : decode cX3_isBetter 15 = .ok (.aload_n 0, 1) := by decide +kernel
theorem dX3_isBetter_16 : decode cX3_isBetter 16 = .ok (.getfield 162, 3) := by decide +kernel
theorem dX3_isBetter_19 : decode cX3_isBetter 19 = .ok (.if_icmp .gt 22, 3) := by decide +kernel
theorem dX3_isBetter_22 : decode cX3_isBetter 22 = .ok (.iload_n 1, 1) := by decide +kernel
theorem dX3_isBetter_23 : decode cX3_isBetter 23 = .ok (.aload_n 0, 1) := by decide +kernel
theorem dX3_isBetter_24 : decode cX3_isBetter 24 = .ok (.getfield 162, 3) := by decide +kernel
theorem dX3_isBetter_27 : decode cX3_isBetter 27 = .ok (.if_icmp .ne 18, 3) := by decide +kernel
theorem dX3_isBetter_30 : decode cX3_isBetter 30 = .ok (.aload_n 0, 1) := by decide +kernel
theorem dX3_isBetter_31 : decode cX3_isBetter 31 = .ok (.getfield 80, 3) := by decide +kernel
theorem dX3_isBetter_34 : decode cX3_isBetter 34 = .ok (.aload_n 0, 1) := by decide +kernel
theorem dX3_isBetter_35 : decode cX3_isBetter 35 = .ok (.getfield 165, 3) := by decide +kernel
theorem dX3_isBetter_38 : decode cX3_isBetter 38 = .ok (.if_icmp .ge 7, 3) := by decide +kernel
theorem dX3_isBetter_41 : decode cX3_isBetter 41 = .ok (.iconst 1, 1) := by decide +kernel
theorem dX3_isBetter_42 : decode cX3_isBetter 42 = .ok (.goto 4, 3) := by decide +kernel
theorem dX3_isBetter_45 : decode cX3_isBetter 45 = .ok (.iconst 0, 1) := by decide +kernel
theorem dX3_isBetter_46 : decode cX3_isBetter 46 = .ok (.ireturn, 1) := by decide +kernel
theorem dX3_keepDeal_0 : decode cX3_keepDeal 0 = .ok (.iconst 0, 1) := by decide +kernel
theorem dX3_keepDeal_1 : decode cX3_keepDeal 1 = .ok (.istore_n 1, 1) := by decide +kernel
theorem dX3_keepDeal_2 : decode cX3_keepDeal 2 = .ok (.iload_n 1, 1) := by decide +kernel
theorem dX3_keepDeal_3 : decode cX3_keepDeal 3 = .ok (.aload_n 0, 1) := by decide +kernel
theorem dX3_keepDeal_4 : decode cX3_keepDeal 4 = .ok (.getfield 60, 3) := by decide +kernel
theorem dX3_keepDeal_7 : decode cX3_keepDeal 7 = .ok (.getfield 105, 3) := by decide +kernel
theorem dX3_keepDeal_10 : decode cX3_keepDeal 10 = .ok (.if_icmp .ge 88, 3) := by decide +kernel
theorem dX3_keepDeal_13 : decode cX3_keepDeal 13 = .ok (.aload_n 0, 1) := by decide +kernel
theorem dX3_keepDeal_14 : decode cX3_keepDeal 14 = .ok (.getfield 64, 3) := by decide +kernel
theorem dX3_keepDeal_17 : decode cX3_keepDeal 17 = .ok (.getfield 71, 3) := by decide +kernel
theorem dX3_keepDeal_20 : decode cX3_keepDeal 20 = .ok (.getfield 108, 3) := by decide +kernel
theorem dX3_keepDeal_23 : decode cX3_keepDeal 23 = .ok (.iload_n 1, 1) := by decide +kernel
theorem dX3_keepDeal_24 : decode cX3_keepDeal 24 = .ok (.iaload, 1) := by decide +kernel
theorem dX3_keepDeal_25 : decode cX3_keepDeal 25 = .ok (.ifCond .ne 19, 3) := by decide +kernel
theorem dX3_keepDeal_28 : decode cX3_keepDeal 28 = .ok (.aload_n 0, 1) := by decide +kernel
theorem dX3_keepDeal_29 : decode cX3_keepDeal 29 = .ok (.getfield 21, 3) := by decide +kernel
theorem dX3_keepDeal_32 : decode cX3_keepDeal 32 = .ok (.getfield 108, 3) := by decide +kernel
theorem dX3_keepDeal_35 : decode cX3_keepDeal 35 = .ok (.iload_n 1, 1) := by decide +kernel
theorem dX3_keepDeal_36 : decode cX3_keepDeal 36 = .ok (.iaload, 1) := by decide +kernel
theorem dX3_keepDeal_37 : decode cX3_keepDeal 37 = .ok (.ifCond .le 7, 3) := by decide +kernel
theorem dX3_keepDeal_40 : decode cX3_keepDeal 40 = .ok (.iconst 1, 1) := by decide +kernel
theorem dX3_keepDeal_41 : decode cX3_keepDeal 41 = .ok (.goto 4, 3) := by decide +kernel
theorem dX3_keepDeal_44 : decode cX3_keepDeal 44 = .ok (.iconst 0, 1) := by decide +kernel
theorem dX3_keepDeal_45 : decode cX3_keepDeal 45 = .ok (.istore_n 2, 1) := by decide +kernel
theorem dX3_keepDeal_46 : decode cX3_keepDeal 46 = .ok (.aload_n 0, 1) := by decide +kernel
theorem dX3_keepDeal_47 : decode cX3_keepDeal 47 = .ok (.getfield 38, 3) := by decide +kernel
theorem dX3_keepDeal_50 : decode cX3_keepDeal 50 = .ok (.iload_n 1, 1) := by decide +kernel
theorem dX3_keepDeal_51 : decode cX3_keepDeal 51 = .ok (.iload_n 2, 1) := by decide +kernel
theorem dX3_keepDeal_52 : decode cX3_keepDeal 52 = .ok (.ifCond .eq 15, 3) := by decide +kernel
theorem dX3_keepDeal_55 : decode cX3_keepDeal 55 = .ok (.aload_n 0, 1) := by decide +kernel
theorem dX3_keepDeal_56 : decode cX3_keepDeal 56 = .ok (.getfield 21, 3) := by decide +kernel
theorem dX3_keepDeal_59 : decode cX3_keepDeal 59 = .ok (.getfield 171, 3) := by decide +kernel
theorem dX3_keepDeal_62 : decode cX3_keepDeal 62 = .ok (.iload_n 1, 1) := by decide +kernel
theorem dX3_keepDeal_63 : decode cX3_keepDeal 63 = .ok (.iaload, 1) := by decide +kernel
theorem dX3_keepDeal_64 : decode cX3_keepDeal 64 = .ok (.goto 4, 3) := by decide +kernel
theorem dX3_keepDeal_67 : decode cX3_keepDeal 67 = .ok (.iconst (-1), 1) := by decide +kernel
theorem dX3_keepDeal_68 : decode cX3_keepDeal 68 = .ok (.iastore, 1) := by decide +kernel
theorem dX3_keepDeal_69 : decode cX3_keepDeal 69 = .ok (.aload_n 0, 1) := by decide +kernel
theorem dX3_keepDeal_70 : decode cX3_keepDeal 70 = .ok (.getfield 41, 3) := by decide +kernel
theorem dX3_keepDeal_73 : decode cX3_keepDeal 73 = .ok (.iload_n 1, 1) := by decide +kernel
theorem dX3_keepDeal_74 : decode cX3_keepDeal 74 = .ok (.iload_n 2, 1) := by decide +kernel
theorem dX3_keepDeal_75 : decode cX3_keepDeal 75 = .ok (.ifCond .eq 15, 3) := by decide +kernel
theorem dX3_keepDeal_78 : decode cX3_keepDeal 78 = .ok (.aload_n 0, 1) := by decide +kernel
theorem dX3_keepDeal_79 : decode cX3_keepDeal 79 = .ok (.getfield 21, 3) := by decide +kernel
theorem dX3_keepDeal_82 : decode cX3_keepDeal 82 = .ok (.getfield 108, 3) := by decide +kernel
theorem dX3_keepDeal_85 : decode cX3_keepDeal 85 = .ok (.iload_n 1, 1) := by decide +kernel
theorem dX3_keepDeal_86 : decode cX3_keepDeal 86 = .ok (.iaload, 1) := by decide +kernel
theorem dX3_keepDeal_87 : decode cX3_keepDeal 87 = .ok (.goto 4, 3) := by decide +kernel
theorem dX3_keepDeal_90 : decode cX3_keepDeal 90 = .ok (.iconst 0, 1) := by decide +kernel
theorem dX3_keepDeal_91 : decode cX3_keepDeal 91 = .ok (.iastore, 1) := by decide +kernel
theorem dX3_keepDeal_92 : decode cX3_keepDeal 92 = .ok (.iinc 1 1, 3) := by decide +kernel
theorem dX3_keepDeal_95 : decode cX3_keepDeal 95 = .ok (.goto (-93), 3) := by decide +kernel
theorem dX3_keepDeal_98 : decode cX3_keepDeal 98 = .ok (.return_, 1) := by decide +kernel
theorem dX4_init_0 : decode cX4_init 0 = .ok (.aload_n 0, 1) := by decide +kernel
theorem dX4_init_1 : decode cX4_init 1 = .ok (.invokespecial 3, 3) := by decide +kernel
theorem dX4_init_4 : decode cX4_init 4 = .ok (.aload_n 0, 1) := by decide +kernel
theorem dX4_init_5 : decode cX4_init 5 = .ok (.iconst 5, 1) := by decide +kernel
theorem dX4_init_6 : decode cX4_init 6 = .ok (.newarray .int, 2) := by decide +kernel
theorem dX4_init_8 : decode cX4_init 8 = .ok (.putfield 9, 3) := by decide +kernel
theorem dX4_init_11 : decode cX4_init 11 = .ok (.return_, 1) := by decide +kernel
theorem dX4_reads_0 : decode cX4_reads 0 = .ok (.aload_n 0, 1) := by decide +kernel
theorem dX4_reads_1 : decode cX4_reads 1 = .ok (.aload_n 1, 1) := by decide +kernel
theorem dX4_reads_2 : decode cX4_reads 2 = .ok (.putfield 15, 3) := by decide +kernel
theorem dX4_reads_5 : decode cX4_reads 5 = .ok (.aload_n 0, 1) := by decide +kernel
theorem dX4_reads_6 : decode cX4_reads 6 = .ok (.iload_n 2, 1) := by decide +kernel
theorem dX4_reads_7 : decode cX4_reads 7 = .ok (.putfield 19, 3) := by decide +kernel
theorem dX4_reads_10 : decode cX4_reads 10 = .ok (.aload_n 0, 1) := by decide +kernel
theorem dX4_reads_11 : decode cX4_reads 11 = .ok (.iconst 0, 1) := by decide +kernel
theorem dX4_reads_12 : decode cX4_reads 12 = .ok (.putfield 23, 3) := by decide +kernel
theorem dX4_reads_15 : decode cX4_reads 15 = .ok (.aload_n 0, 1) := by decide +kernel
theorem dX4_reads_16 : decode cX4_reads 16 = .ok (.iconst 0, 1) := by decide +kernel
theorem dX4_reads_17 : decode cX4_reads 17 = .ok (.putfield 26, 3) := by decide +kernel
theorem dX4_reads_20 : decode cX4_reads 20 = .ok (.aload_n 0, 1) := by decide +kernel
theorem dX4_reads_21 : decode cX4_reads 21 = .ok (.aload_n 3, 1) := by decide +kernel
theorem dX4_reads_22 : decode cX4_reads 22 = .ok (.putfield 29, 3) := by decide +kernel
theorem dX4_reads_25 : decode cX4_reads 25 = .ok (.aload_n 0, 1) := by decide +kernel
theorem dX4_reads_26 : decode cX4_reads 26 = .ok (.getfield 29, 3) := by decide +kernel
theorem dX4_reads_29 : decode cX4_reads 29 = .ok (.invokevirtual 33, 3) := by decide +kernel
theorem dX4_reads_32 : decode cX4_reads 32 = .ok (.aload_n 0, 1) := by decide +kernel
theorem dX4_reads_33 : decode cX4_reads 33 = .ok (.getfield 9, 3) := by decide +kernel
theorem dX4_reads_36 : decode cX4_reads 36 = .ok (.iconst 0, 1) := by decide +kernel
theorem dX4_reads_37 : decode cX4_reads 37 = .ok (.invokestatic 38, 3) := by decide +kernel
theorem dX4_reads_40 : decode cX4_reads 40 = .ok (.iconst 0, 1) := by decide +kernel
theorem dX4_reads_41 : decode cX4_reads 41 = .ok (.istore 4, 2) := by decide +kernel
theorem dX4_reads_43 : decode cX4_reads 43 = .ok (.iload 4, 2) := by decide +kernel
theorem dX4_reads_45 : decode cX4_reads 45 = .ok (.sipush 740, 3) := by decide +kernel
theorem dX4_reads_48 : decode cX4_reads 48 = .ok (.if_icmp .ge 67, 3) := by decide +kernel
theorem dX4_reads_51 : decode cX4_reads 51 = .ok (.aload_n 0, 1) := by decide +kernel
theorem dX4_reads_52 : decode cX4_reads 52 = .ok (.invokevirtual 44, 3) := by decide +kernel
theorem dX4_reads_55 : decode cX4_reads 55 = .ok (.aload_n 0, 1) := by decide +kernel
theorem dX4_reads_56 : decode cX4_reads 56 = .ok (.getfield 47, 3) := by decide +kernel
theorem dX4_reads_59 : decode cX4_reads 59 = .ok (.iconst 4, 1) := by decide +kernel
theorem dX4_reads_60 : decode cX4_reads 60 = .ok (.if_icmp .ne 5, 3) := by decide +kernel
theorem dX4_reads_63 : decode cX4_reads 63 = .ok (.iconst 1, 1) := by decide +kernel
theorem dX4_reads_64 : decode cX4_reads 64 = .ok (.ireturn, 1) := by decide +kernel
theorem dX4_reads_65 : decode cX4_reads 65 = .ok (.aload_n 0, 1) := by decide +kernel
theorem dX4_reads_66 : decode cX4_reads 66 = .ok (.getfield 26, 3) := by decide +kernel
theorem dX4_reads_69 : decode cX4_reads 69 = .ok (.ifCond .ne 10, 3) := by decide +kernel
theorem dX4_reads_72 : decode cX4_reads 72 = .ok (.aload_n 0, 1) := by decide +kernel
theorem dX4_reads_73 : decode cX4_reads 73 = .ok (.invokevirtual 50, 3) := by decide +kernel
theorem dX4_reads_76 : decode cX4_reads 76 = .ok (.goto 7, 3) := by decide +kernel
theorem dX4_reads_79 : decode cX4_reads 79 = .ok (.aload_n 0, 1) := by decide +kernel
theorem dX4_reads_80 : decode cX4_reads 80 = .ok (.invokevirtual 54, 3) := by decide +kernel
theorem dX4_reads_83 : decode cX4_reads 83 = .ok (.istore 5, 2) := by decide +kernel
theorem dX4_reads_85 : decode cX4_reads 85 = .ok (.iload 5, 2) := by decide +kernel
theorem dX4_reads_87 : decode cX4_reads 87 = .ok (.ifCond .eq 10, 3) := by decide +kernel
theorem dX4_reads_90 : decode cX4_reads 90 = .ok (.aload_n 0, 1) := by decide +kernel
theorem dX4_reads_91 : decode cX4_reads 91 = .ok (.invokevirtual 57, 3) := by decide +kernel
theorem dX4_reads_94 : decode cX4_reads 94 = .ok (.ifCond .ne 5, 3) := by decide +kernel
theorem dX4_reads_97 : decode cX4_reads 97 = .ok (.iconst 0, 1) := by decide +kernel
theorem dX4_reads_98 : decode cX4_reads 98 = .ok (.ireturn, 1) := by decide +kernel
theorem dX4_reads_99 : decode cX4_reads 99 = .ok (.aload_n 0, 1) := by decide +kernel
theorem dX4_reads_100 : decode cX4_reads 100 = .ok (.dup, 1) := by decide +kernel
theorem dX4_reads_101 : decode cX4_reads 101 = .ok (.getfield 26, 3) := by decide +kernel
theorem dX4_reads_104 : decode cX4_reads 104 = .ok (.iconst 1, 1) := by decide +kernel
theorem dX4_reads_105 : decode cX4_reads 105 = .ok (.iadd, 1) := by decide +kernel
theorem dX4_reads_106 : decode cX4_reads 106 = .ok (.putfield 26, 3) := by decide +kernel
theorem dX4_reads_109 : decode cX4_reads 109 = .ok (.iinc 4 1, 3) := by decide +kernel
theorem dX4_reads_112 : decode cX4_reads 112 = .ok (.goto (-69), 3) := by decide +kernel
theorem dX4_reads_115 : decode cX4_reads 115 = .ok (.aload_n 0, 1) := by decide +kernel
theorem dX4_reads_116 : decode cX4_reads 116 = .ok (.iconst 1, 1) := by decide +kernel
theorem dX4_reads_117 : decode cX4_reads 117 = .ok (.invokevirtual 60, 3) := by decide +kernel
theorem dX4_reads_120 : decode cX4_reads 120 = .ok (.ireturn, 1) := by decide +kernel
theorem dX4_refuse_0 : decode cX4_refuse 0 = .ok (.aload_n 0, 1) := by decide +kernel
theorem dX4_refuse_1 : decode cX4_refuse 1 = .ok (.iload_n 1, 1) := by decide +kernel
theorem dX4_refuse_2 : decode cX4_refuse 2 = .ok (.putfield 64, 3) := by decide +kernel
theorem dX4_refuse_5 : decode cX4_refuse 5 = .ok (.aload_n 0, 1) := by decide +kernel
theorem dX4_refuse_6 : decode cX4_refuse 6 = .ok (.aload_n 0, 1) := by decide +kernel
theorem dX4_refuse_7 : decode cX4_refuse 7 = .ok (.getfield 67, 3) := by decide +kernel
theorem dX4_refuse_10 : decode cX4_refuse 10 = .ok (.putfield 70, 3) := by decide +kernel
theorem dX4_refuse_13 : decode cX4_refuse 13 = .ok (.iconst 0, 1) := by decide +kernel
theorem dX4_refuse_14 : decode cX4_refuse 14 = .ok (.ireturn, 1) := by decide +kernel
theorem dX4_readSign_0 : decode cX4_readSign 0 = .ok (.aload_n 0, 1) := by decide +kernel
theorem dX4_readSign_1 : decode cX4_readSign 1 = .ok (.invokevirtual 44, 3) := by decide +kernel
theorem dX4_readSign_4 : decode cX4_readSign 4 = .ok (.aload_n 0, 1) := by decide +kernel
theorem dX4_readSign_5 : decode cX4_readSign 5 = .ok (.getfield 47, 3) := by decide +kernel
theorem dX4_readSign_8 : decode cX4_readSign 8 = .ok (.iconst 3, 1) := by decide +kernel
theorem dX4_readSign_9 : decode cX4_readSign 9 = .ok (.if_icmp .eq 11, 3) := by decide +kernel
theorem dX4_readSign_12 : decode cX4_readSign 12 = .ok (.aload_n 0, 1) := by decide +kernel
theorem dX4_readSign_13 : decode cX4_readSign 13 = .ok (.iconst 1, 1) := by decide +kernel
theorem dX4_readSign_14 : decode cX4_readSign 14 = .ok (.invokevirtual 60, 3) := by decide +kernel
theorem dX4_readSign_17 : decode cX4_readSign 17 = .ok (.ifCond .eq 7, 3) := by decide +kernel
theorem dX4_readSign_20 : decode cX4_readSign 20 = .ok (.iconst 1, 1) := by decide +kernel
theorem dX4_readSign_21 : decode cX4_readSign 21 = .ok (.goto 4, 3) := by decide +kernel
theorem dX4_readSign_24 : decode cX4_readSign 24 = .ok (.iconst 0, 1) := by decide +kernel
theorem dX4_readSign_25 : decode cX4_readSign 25 = .ok (.ireturn, 1) := by decide +kernel
theorem dX4_readTanker_0 : decode cX4_readTanker 0 = .ok (.aload_n 0, 1) := by decide +kernel
theorem dX4_readTanker_1 : decode cX4_readTanker 1 = .ok (.ldc 73, 2) := by decide +kernel
theorem dX4_readTanker_3 : decode cX4_readTanker 3 = .ok (.invokevirtual 75, 3) := by decide +kernel
theorem dX4_readTanker_6 : decode cX4_readTanker 6 = .ok (.ifCond .ne 9, 3) := by decide +kernel
theorem dX4_readTanker_9 : decode cX4_readTanker 9 = .ok (.aload_n 0, 1) := by decide +kernel
theorem dX4_readTanker_10 : decode cX4_readTanker 10 = .ok (.iconst 1, 1) := by decide +kernel
theorem dX4_readTanker_11 : decode cX4_readTanker 11 = .ok (.invokevirtual 60, 3) := by decide +kernel
theorem dX4_readTanker_14 : decode cX4_readTanker 14 = .ok (.ireturn, 1) := by decide +kernel
theorem dX4_readTanker_15 : decode cX4_readTanker 15 = .ok (.iconst 0, 1) := by decide +kernel
theorem dX4_readTanker_16 : decode cX4_readTanker 16 = .ok (.istore_n 1, 1) := by decide +kernel
theorem dX4_readTanker_17 : decode cX4_readTanker 17 = .ok (.iload_n 1, 1) := by decide +kernel
theorem dX4_readTanker_18 : decode cX4_readTanker 18 = .ok (.bipush 9, 2) := by decide +kernel
theorem dX4_readTanker_20 : decode cX4_readTanker 20 = .ok (.if_icmp .ge 62, 3) := by decide +kernel
theorem dX4_readTanker_23 : decode cX4_readTanker 23 = .ok (.iload_n 1, 1) := by decide +kernel
theorem dX4_readTanker_24 : decode cX4_readTanker 24 = .ok (.bipush 8, 2) := by decide +kernel
theorem dX4_readTanker_26 : decode cX4_readTanker 26 = .ok (.if_icmp .ne 16, 3) := by decide +kernel
theorem dX4_readTanker_29 : decode cX4_readTanker 29 = .ok (.aload_n 0, 1) := by decide +kernel
theorem dX4_readTanker_30 : decode cX4_readTanker 30 = .ok (.getfield 29, 3) := by decide +kernel
theorem dX4_readTanker_33 : decode cX4_readTanker 33 = .ok (.getfield 79, 3) := by decide +kernel
theorem dX4_readTanker_36 : decode cX4_readTanker 36 = .ok (.bipush 7, 2) := by decide +kernel
theorem dX4_readTanker_38 : decode cX4_readTanker 38 = .ok (.iaload, 1) := by decide +kernel
theorem dX4_readTanker_39 : decode cX4_readTanker 39 = .ok (.goto 8, 3) := by decide +kernel
theorem dX4_readTanker_42 : decode cX4_readTanker 42 = .ok (.getstatic 82, 3) := by decide +kernel
theorem dX4_readTanker_45 : decode cX4_readTanker 45 = .ok (.iload_n 1, 1) := by decide +kernel
theorem dX4_readTanker_46 : decode cX4_readTanker 46 = .ok (.iaload, 1) := by decide +kernel
theorem dX4_readTanker_47 : decode cX4_readTanker 47 = .ok (.istore_n 2, 1) := by decide +kernel
theorem dX4_readTanker_48 : decode cX4_readTanker 48 = .ok (.aload_n 0, 1) := by decide +kernel
theorem dX4_readTanker_49 : decode cX4_readTanker 49 = .ok (.iload_n 2, 1) := by decide +kernel
theorem dX4_readTanker_50 : decode cX4_readTanker 50 = .ok (.getstatic 85, 3) := by decide +kernel
theorem dX4_readTanker_53 : decode cX4_readTanker 53 = .ok (.iload_n 1, 1) := by decide +kernel
theorem dX4_readTanker_54 : decode cX4_readTanker 54 = .ok (.iaload, 1) := by decide +kernel
theorem dX4_readTanker_55 : decode cX4_readTanker 55 = .ok (.invokevirtual 88, 3) := by decide +kernel
theorem dX4_readTanker_58 : decode cX4_readTanker 58 = .ok (.ifCond .ne 5, 3) := by decide +kernel
theorem dX4_readTanker_61 : decode cX4_readTanker 61 = .ok (.iconst 0, 1) := by decide +kernel
theorem dX4_readTanker_62 : decode cX4_readTanker 62 = .ok (.ireturn, 1) := by decide +kernel
theorem dX4_readTanker_63 : decode cX4_readTanker 63 = .ok (.aload_n 0, 1) := by decide +kernel
theorem dX4_readTanker_64 : decode cX4_readTanker 64 = .ok (.getfield 29, 3) := by decide +kernel
theorem dX4_readTanker_67 : decode cX4_readTanker 67 = .ok (.getfield 79, 3) := by decide +kernel
theorem dX4_readTanker_70 : decode cX4_readTanker 70 = .ok (.iload_n 1, 1) := by decide +kernel
theorem dX4_readTanker_71 : decode cX4_readTanker 71 = .ok (.aload_n 0, 1) := by decide +kernel
theorem dX4_readTanker_72 : decode cX4_readTanker 72 = .ok (.getfield 92, 3) := by decide +kernel
theorem dX4_readTanker_75 : decode cX4_readTanker 75 = .ok (.iastore, 1) := by decide +kernel
theorem dX4_readTanker_76 : decode cX4_readTanker 76 = .ok (.iinc 1 1, 3) := by decide +kernel
theorem dX4_readTanker_79 : decode cX4_readTanker 79 = .ok (.goto (-62), 3) := by decide +kernel
theorem dX4_readTanker_82 : decode cX4_readTanker 82 = .ok (.iconst 1, 1) := by decide +kernel
theorem dX4_readTanker_83 : decode cX4_readTanker 83 = .ok (.ireturn, 1) := by decide +kernel
theorem dX4_readOther_0 : decode cX4_readOther 0 = .ok (.aload_n 0, 1) := by decide +kernel
theorem dX4_readOther_1 : decode cX4_readOther 1 = .ok (.invokevirtual 95, 3) := by decide +kernel
theorem dX4_readOther_4 : decode cX4_readOther 4 = .ok (.istore_n 1, 1) := by decide +kernel
theorem dX4_readOther_5 : decode cX4_readOther 5 = .ok (.iload_n 1, 1) := by decide +kernel
theorem dX4_readOther_6 : decode cX4_readOther 6 = .ok (.iconst (-1), 1) := by decide +kernel
theorem dX4_readOther_7 : decode cX4_readOther 7 = .ok (.if_icmp .ne 9, 3) := by decide +kernel
theorem dX4_readOther_10 : decode cX4_readOther 10 = .ok (.aload_n 0, 1) := by decide +kernel
theorem dX4_readOther_11 : decode cX4_readOther 11 = .ok (.iconst 1, 1) := by decide +kernel
theorem dX4_readOther_12 : decode cX4_readOther 12 = .ok (.invokevirtual 60, 3) := by decide +kernel
theorem dX4_readOther_15 : decode cX4_readOther 15 = .ok (.ireturn, 1) := by decide +kernel
theorem dX4_readOther_16 : decode cX4_readOther 16 = .ok (.aload_n 0, 1) := by decide +kernel
theorem dX4_readOther_17 : decode cX4_readOther 17 = .ok (.getfield 9, 3) := by decide +kernel
theorem dX4_readOther_20 : decode cX4_readOther 20 = .ok (.iload_n 1, 1) := by decide +kernel
theorem dX4_readOther_21 : decode cX4_readOther 21 = .ok (.iaload, 1) := by decide +kernel
theorem dX4_readOther_22 : decode cX4_readOther 22 = .ok (.getstatic 99, 3) := by decide +kernel
theorem dX4_readOther_25 : decode cX4_readOther 25 = .ok (.iload_n 1, 1) := by decide +kernel
theorem dX4_readOther_26 : decode cX4_readOther 26 = .ok (.iaload, 1) := by decide +kernel
theorem dX4_readOther_27 : decode cX4_readOther 27 = .ok (.if_icmp .lt 9, 3) := by decide +kernel
theorem dX4_readOther_30 : decode cX4_readOther 30 = .ok (.aload_n 0, 1) := by decide +kernel
theorem dX4_readOther_31 : decode cX4_readOther 31 = .ok (.iconst 3, 1) := by decide +kernel
theorem dX4_readOther_32 : decode cX4_readOther 32 = .ok (.invokevirtual 60, 3) := by decide +kernel
theorem dX4_readOther_35 : decode cX4_readOther 35 = .ok (.ireturn, 1) := by decide +kernel
theorem dX4_readOther_36 : decode cX4_readOther 36 = .ok (.aload_n 0, 1) := by decide +kernel
theorem dX4_readOther_37 : decode cX4_readOther 37 = .ok (.getfield 9, 3) := by decide +kernel
theorem dX4_readOther_40 : decode cX4_readOther 40 = .ok (.iload_n 1, 1) := by decide +kernel
theorem dX4_readOther_41 : decode cX4_readOther 41 = .ok (.dup2, 1) := by decide +kernel
theorem dX4_readOther_42 : decode cX4_readOther 42 = .ok (.iaload, 1) := by decide +kernel
theorem dX4_readOther_43 : decode cX4_readOther 43 = .ok (.iconst 1, 1) := by decide +kernel
theorem dX4_readOther_44 : decode cX4_readOther 44 = .ok (.iadd, 1) := by decide +kernel
theorem dX4_readOther_45 : decode cX4_readOther 45 = .ok (.iastore, 1) := by decide +kernel
theorem dX4_readOther_46 : decode cX4_readOther 46 = .ok (.iload_n 1, 1) := by decide +kernel
theorem dX4_readOther_47 : decode cX4_readOther 47 = .ok (.tableswitch 49 0 3 #[29, 34, 39, 44], 29) := by decide +kernel
theorem dX4_readOther_76 : decode cX4_readOther 76 = .ok (.aload_n 0, 1) := by decide +kernel
theorem dX4_readOther_77 : decode cX4_readOther 77 = .ok (.invokevirtual 102, 3) := by decide +kernel
theorem dX4_readOther_80 : decode cX4_readOther 80 = .ok (.ireturn, 1) := by decide +kernel
theorem dX4_readOther_81 : decode cX4_readOther 81 = .ok (.aload_n 0, 1) := by decide +kernel
theorem dX4_readOther_82 : decode cX4_readOther 82 = .ok (.invokevirtual 105, 3) := by decide +kernel
theorem dX4_readOther_85 : decode cX4_readOther 85 = .ok (.ireturn, 1) := by decide +kernel
theorem dX4_readOther_86 : decode cX4_readOther 86 = .ok (.aload_n 0, 1) := by decide +kernel
theorem dX4_readOther_87 : decode cX4_readOther 87 = .ok (.invokevirtual 108, 3) := by decide +kernel
theorem dX4_readOther_90 : decode cX4_readOther 90 = .ok (.ireturn, 1) := by decide +kernel
theorem dX4_readOther_91 : decode cX4_readOther 91 = .ok (.aload_n 0, 1) := by decide +kernel
theorem dX4_readOther_92 : decode cX4_readOther 92 = .ok (.invokevirtual 111, 3) := by decide +kernel
theorem dX4_readOther_95 : decode cX4_readOther 95 = .ok (.ireturn, 1) := by decide +kernel
theorem dX4_readOther_96 : decode cX4_readOther 96 = .ok (.aload_n 0, 1) := by decide +kernel
theorem dX4_readOther_97 : decode cX4_readOther 97 = .ok (.invokevirtual 114, 3) := by decide +kernel
theorem dX4_readOther_100 : decode cX4_readOther 100 = .ok (.ireturn, 1) := by decide +kernel
theorem dX4_sortOfWord_0 : decode cX4_sortOfWord 0 = .ok (.aload_n 0, 1) := by decide +kernel
theorem dX4_sortOfWord_1 : decode cX4_sortOfWord 1 = .ok (.ldc 117, 2) := by decide +kernel
theorem dX4_sortOfWord_3 : decode cX4_sortOfWord 3 = .ok (.invokevirtual 75, 3) := by decide +kernel
theorem dX4_sortOfWord_6 : decode cX4_sortOfWord 6 = .ok (.ifCond .eq 5, 3) := by decide +kernel
theorem dX4_sortOfWord_9 : decode cX4_sortOfWord 9 = .ok (.iconst 0, 1) := by decide +kernel
theorem dX4_sortOfWord_10 : decode cX4_sortOfWord 10 = .ok (.ireturn, 1) := by decide +kernel
theorem dX4_sortOfWord_11 : decode cX4_sortOfWord 11 = .ok (.aload_n 0, 1) := by decide +kernel
theorem dX4_sortOfWord_12 : decode cX4_sortOfWord 12 = .ok (.ldc 119, 2) := by decide +kernel
theorem dX4_sortOfWord_14 : decode cX4_sortOfWord 14 = .ok (.invokevirtual 75, 3) := by decide +kernel
theorem dX4_sortOfWord_17 : decode cX4_sortOfWord 17 = .ok (.ifCond .eq 5, 3) := by decide +kernel
theorem dX4_sortOfWord_20 : decode cX4_sortOfWord 20 = .ok (.iconst 1, 1) := by decide +kernel
theorem dX4_sortOfWord_21 : decode cX4_sortOfWord 21 = .ok (.ireturn, 1) := by decide +kernel
theorem dX4_sortOfWord_22 : decode cX4_sortOfWord 22 = .ok (.aload_n 0, 1) := by decide +kernel
theorem dX4_sortOfWord_23 : decode cX4_sortOfWord 23 = .ok (.ldc 121, 2) := by decide +kernel
theorem dX4_sortOfWord_25 : decode cX4_sortOfWord 25 = .ok (.invokevirtual 75, 3) := by decide +kernel
theorem dX4_sortOfWord_28 : decode cX4_sortOfWord 28 = .ok (.ifCond .eq 5, 3) := by decide +kernel
theorem dX4_sortOfWord_31 : decode cX4_sortOfWord 31 = .ok (.iconst 2, 1) := by decide +kernel
theorem dX4_sortOfWord_32 : decode cX4_sortOfWord 32 = .ok (.ireturn, 1) := by decide +kernel
theorem dX4_sortOfWord_33 : decode cX4_sortOfWord 33 = .ok (.aload_n 0, 1) := by decide +kernel
theorem dX4_sortOfWord_34 : decode cX4_sortOfWord 34 = .ok (.ldc 123, 2) := by decide +kernel
theorem dX4_sortOfWord_36 : decode cX4_sortOfWord 36 = .ok (.invokevirtual 75, 3) := by decide +kernel
theorem dX4_sortOfWord_39 : decode cX4_sortOfWord 39 = .ok (.ifCond .eq 5, 3) := by decide +kernel
theorem dX4_sortOfWord_42 : decode cX4_sortOfWord 42 = .ok (.iconst 3, 1) := by decide +kernel
theorem dX4_sortOfWord_43 : decode cX4_sortOfWord 43 = .ok (.ireturn, 1) := by decide +kernel
theorem dX4_sortOfWord_44 : decode cX4_sortOfWord 44 = .ok (.aload_n 0, 1) := by decide +kernel
theorem dX4_sortOfWord_45 : decode cX4_sortOfWord 45 = .ok (.ldc 125, 2) := by decide +kernel
theorem dX4_sortOfWord_47 : decode cX4_sortOfWord 47 = .ok (.invokevirtual 75, 3) := by decide +kernel
theorem dX4_sortOfWord_50 : decode cX4_sortOfWord 50 = .ok (.ifCond .eq 7, 3) := by decide +kernel
theorem dX4_sortOfWord_53 : decode cX4_sortOfWord 53 = .ok (.iconst 4, 1) := by decide +kernel
theorem dX4_sortOfWord_54 : decode cX4_sortOfWord 54 = .ok (.goto 4, 3) := by decide +kernel
theorem dX4_sortOfWord_57 : decode cX4_sortOfWord 57 = .ok (.iconst (-1), 1) := by decide +kernel
theorem dX4_sortOfWord_58 : decode cX4_sortOfWord 58 = .ok (.ireturn, 1) := by decide +kernel
theorem dX4_readCompartment_0 : decode cX4_readCompartment 0 = .ok (.aload_n 0, 1) := by decide +kernel
theorem dX4_readCompartment_1 : decode cX4_readCompartment 1 = .ok (.iconst 1, 1) := by decide +kernel
theorem dX4_readCompartment_2 : decode cX4_readCompartment 2 = .ok (.sipush 999, 3) := by decide +kernel
theorem dX4_readCompartment_5 : decode cX4_readCompartment 5 = .ok (.invokevirtual 88, 3) := by decide +kernel
theorem dX4_readCompartment_8 : decode cX4_readCompartment 8 = .ok (.ifCond .ne 5, 3) := by decide +kernel
theorem dX4_readCompartment_11 : decode cX4_readCompartment 11 = .ok (.iconst 0, 1) := by decide +kernel
theorem dX4_readCompartment_12 : decode cX4_readCompartment 12 = .ok (.ireturn, 1) := by decide +kernel
theorem dX4_readCompartment_13 : decode cX4_readCompartment 13 = .ok (.aload_n 0, 1) := by decide +kernel
theorem dX4_readCompartment_14 : decode cX4_readCompartment 14 = .ok (.getfield 29, 3) := by decide +kernel
theorem dX4_readCompartment_17 : decode cX4_readCompartment 17 = .ok (.getfield 127, 3) := by decide +kernel
theorem dX4_readCompartment_20 : decode cX4_readCompartment 20 = .ok (.aload_n 0, 1) := by decide +kernel
theorem dX4_readCompartment_21 : decode cX4_readCompartment 21 = .ok (.getfield 29, 3) := by decide +kernel
theorem dX4_readCompartment_24 : decode cX4_readCompartment 24 = .ok (.getfield 130, 3) := by decide +kernel
theorem dX4_readCompartment_27 : decode cX4_readCompartment 27 = .ok (.aload_n 0, 1) := by decide +kernel
theorem dX4_readCompartment_28 : decode cX4_readCompartment 28 = .ok (.getfield 92, 3) := by decide +kernel
theorem dX4_readCompartment_31 : decode cX4_readCompartment 31 = .ok (.iastore, 1) := by decide +kernel
theorem dX4_readCompartment_32 : decode cX4_readCompartment 32 = .ok (.aload_n 0, 1) := by decide +kernel
theorem dX4_readCompartment_33 : decode cX4_readCompartment 33 = .ok (.iconst 0, 1) := by decide +kernel
theorem dX4_readCompartment_34 : decode cX4_readCompartment 34 = .ok (.bipush 99, 2) := by decide +kernel
theorem dX4_readCompartment_36 : decode cX4_readCompartment 36 = .ok (.invokevirtual 88, 3) := by decide +kernel
theorem dX4_readCompartment_39 : decode cX4_readCompartment 39 = .ok (.ifCond .ne 5, 3) := by decide +kernel
theorem dX4_readCompartment_42 : decode cX4_readCompartment 42 = .ok (.iconst 0, 1) := by decide +kernel
theorem dX4_readCompartment_43 : decode cX4_readCompartment 43 = .ok (.ireturn, 1) := by decide +kernel
theorem dX4_readCompartment_44 : decode cX4_readCompartment 44 = .ok (.aload_n 0, 1) := by decide +kernel
theorem dX4_readCompartment_45 : decode cX4_readCompartment 45 = .ok (.getfield 29, 3) := by decide +kernel
theorem dX4_readCompartment_48 : decode cX4_readCompartment 48 = .ok (.getfield 133, 3) := by decide +kernel
theorem dX4_readCompartment_51 : decode cX4_readCompartment 51 = .ok (.aload_n 0, 1) := by decide +kernel
theorem dX4_readCompartment_52 : decode cX4_readCompartment 52 = .ok (.getfield 29, 3) := by decide +kernel
theorem dX4_readCompartment_55 : decode cX4_readCompartment 55 = .ok (.getfield 130, 3) := by decide +kernel
theorem dX4_readCompartment_58 : decode cX4_readCompartment 58 = .ok (.aload_n 0, 1) := by decide +kernel
theorem dX4_readCompartment_59 : decode cX4_readCompartment 59 = .ok (.getfield 92, 3) := by decide +kernel
theorem dX4_readCompartment_62 : decode cX4_readCompartment 62 = .ok (.iastore, 1) := by decide +kernel
theorem dX4_readCompartment_63 : decode cX4_readCompartment 63 = .ok (.aload_n 0, 1) := by decide +kernel
theorem dX4_readCompartment_64 : decode cX4_readCompartment 64 = .ok (.invokevirtual 44, 3) := by decide +kernel
theorem dX4_readCompartment_67 : decode cX4_readCompartment 67 = .ok (.aload_n 0, 1) := by decide +kernel
theorem dX4_readCompartment_68 : decode cX4_readCompartment 68 = .ok (.ldc 136, 2) := by decide +kernel
theorem dX4_readCompartment_70 : decode cX4_readCompartment 70 = .ok (.invokevirtual 75, 3) := by decide +kernel
theorem dX4_readCompartment_73 : decode cX4_readCompartment 73 = .ok (.istore_n 1, 1) := by decide +kernel
theorem dX4_readCompartment_74 : decode cX4_readCompartment 74 = .ok (.iload_n 1, 1) := by decide +kernel
theorem dX4_readCompartment_75 : decode cX4_readCompartment 75 = .ok (.ifCond .ne 18, 3) := by decide +kernel
theorem dX4_readCompartment_78 : decode cX4_readCompartment 78 = .ok (.aload_n 0, 1) := by decide +kernel
theorem dX4_readCompartment_79 : decode cX4_readCompartment 79 = .ok (.ldc 138, 2) := by decide +kernel
theorem dX4_readCompartment_81 : decode cX4_readCompartment 81 = .ok (.invokevirtual 75, 3) := by decide +kernel
theorem dX4_readCompartment_84 : decode cX4_readCompartment 84 = .ok (.ifCond .ne 9, 3) := by decide +kernel
theorem dX4_readCompartment_87 : decode cX4_readCompartment 87 = .ok (.aload_n 0, 1) := by decide +kernel
theorem dX4_readCompartment_88 : decode cX4_readCompartment 88 = .ok (.iconst 1, 1) := by decide +kernel
theorem dX4_readCompartment_89 : decode cX4_readCompartment 89 = .ok (.invokevirtual 60, 3) := by decide +kernel
theorem dX4_readCompartment_92 : decode cX4_readCompartment 92 = .ok (.ireturn, 1) := by decide +kernel
theorem dX4_readCompartment_93 : decode cX4_readCompartment 93 = .ok (.aload_n 0, 1) := by decide +kernel
theorem dX4_readCompartment_94 : decode cX4_readCompartment 94 = .ok (.getfield 29, 3) := by decide +kernel
theorem dX4_readCompartment_97 : decode cX4_readCompartment 97 = .ok (.getfield 140, 3) := by decide +kernel
theorem dX4_readCompartment_100 : decode cX4_readCompartment 100 = .ok (.aload_n 0, 1) := by decide +kernel
theorem dX4_readCompartment_101 : decode cX4_readCompartment 101 = .ok (.getfield 29, 3) := by decide +kernel
theorem dX4_readCompartment_104 : decode cX4_readCompartment 104 = .ok (.getfield 130, 3) := by decide +kernel
theorem dX4_readCompartment_107 : decode cX4_readCompartment 107 = .ok (.iload_n 1, 1) := by decide +kernel
theorem dX4_readCompartment_108 : decode cX4_readCompartment 108 = .ok (.ifCond .eq 7, 3) := by decide +kernel
theorem dX4_readCompartment_111 : decode cX4_readCompartment 111 = .ok (.iconst 1, 1) := by decide +kernel
theorem dX4_readCompartment_112 : decode cX4_readCompartment 112 = .ok (.goto 4, 3) := by decide +kernel
theorem dX4_readCompartment_115 : decode cX4_readCompartment 115 = .ok (.iconst 0, 1) := by decide +kernel
theorem dX4_readCompartment_116 : decode cX4_readCompartment 116 = .ok (.iastore, 1) := by decide +kernel
theorem dX4_readCompartment_117 : decode cX4_readCompartment 117 = .ok (.aload_n 0, 1) := by decide +kernel
theorem dX4_readCompartment_118 : decode cX4_readCompartment 118 = .ok (.getfield 29, 3) := by decide +kernel
theorem dX4_readCompartment_121 : decode cX4_readCompartment 121 = .ok (.dup, 1) := by decide +kernel
theorem dX4_readCompartment_122 : decode cX4_readCompartment 122 = .ok (.getfield 130, 3) := by decide +kernel
theorem dX4_readCompartment_125 : decode cX4_readCompartment 125 = .ok (.iconst 1, 1) := by decide +kernel
theorem dX4_readCompartment_126 : decode cX4_readCompartment 126 = .ok (.iadd, 1) := by decide +kernel
theorem dX4_readCompartment_127 : decode cX4_readCompartment 127 = .ok (.putfield 130, 3) := by decide +kernel
theorem dX4_readCompartment_130 : decode cX4_readCompartment 130 = .ok (.iconst 1, 1) := by decide +kernel
theorem dX4_readCompartment_131 : decode cX4_readCompartment 131 = .ok (.ireturn, 1) := by decide +kernel
theorem dX4_readLiquid_0 : decode cX4_readLiquid 0 = .ok (.aload_n 0, 1) := by decide +kernel
theorem dX4_readLiquid_1 : decode cX4_readLiquid 1 = .ok (.iconst 1, 1) := by decide +kernel
theorem dX4_readLiquid_2 : decode cX4_readLiquid 2 = .ok (.bipush 20, 2) := by decide +kernel
theorem dX4_readLiquid_4 : decode cX4_readLiquid 4 = .ok (.invokevirtual 88, 3) := by decide +kernel
theorem dX4_readLiquid_7 : decode cX4_readLiquid 7 = .ok (.ifCond .ne 5, 3) := by decide +kernel
theorem dX4_readLiquid_10 : decode cX4_readLiquid 10 = .ok (.iconst 0, 1) := by decide +kernel
theorem dX4_readLiquid_11 : decode cX4_readLiquid 11 = .ok (.ireturn, 1) := by decide +kernel
theorem dX4_readLiquid_12 : decode cX4_readLiquid 12 = .ok (.aload_n 0, 1) := by decide +kernel
theorem dX4_readLiquid_13 : decode cX4_readLiquid 13 = .ok (.getfield 29, 3) := by decide +kernel
theorem dX4_readLiquid_16 : decode cX4_readLiquid 16 = .ok (.getfield 142, 3) := by decide +kernel
theorem dX4_readLiquid_19 : decode cX4_readLiquid 19 = .ok (.aload_n 0, 1) := by decide +kernel
theorem dX4_readLiquid_20 : decode cX4_readLiquid 20 = .ok (.getfield 29, 3) := by decide +kernel
theorem dX4_readLiquid_23 : decode cX4_readLiquid 23 = .ok (.getfield 145, 3) := by decide +kernel
theorem dX4_readLiquid_26 : decode cX4_readLiquid 26 = .ok (.aload_n 0, 1) := by decide +kernel
theorem dX4_readLiquid_27 : decode cX4_readLiquid 27 = .ok (.getfield 92, 3) := by decide +kernel
theorem dX4_readLiquid_30 : decode cX4_readLiquid 30 = .ok (.iastore, 1) := by decide +kernel
theorem dX4_readLiquid_31 : decode cX4_readLiquid 31 = .ok (.aload_n 0, 1) := by decide +kernel
theorem dX4_readLiquid_32 : decode cX4_readLiquid 32 = .ok (.getfield 29, 3) := by decide +kernel
theorem dX4_readLiquid_35 : decode cX4_readLiquid 35 = .ok (.dup, 1) := by decide +kernel
theorem dX4_readLiquid_36 : decode cX4_readLiquid 36 = .ok (.getfield 145, 3) := by decide +kernel
theorem dX4_readLiquid_39 : decode cX4_readLiquid 39 = .ok (.iconst 1, 1) := by decide +kernel
theorem dX4_readLiquid_40 : decode cX4_readLiquid 40 = .ok (.iadd, 1) := by decide +kernel
theorem dX4_readLiquid_41 : decode cX4_readLiquid 41 = .ok (.putfield 145, 3) := by decide +kernel
theorem dX4_readLiquid_44 : decode cX4_readLiquid 44 = .ok (.iconst 1, 1) := by decide +kernel
theorem dX4_readLiquid_45 : decode cX4_readLiquid 45 = .ok (.ireturn, 1) := by decide +kernel
theorem dX4_readBar_0 : decode cX4_readBar 0 = .ok (.aload_n 0, 1) := by decide +kernel
theorem dX4_readBar_1 : decode cX4_readBar 1 = .ok (.iconst 0, 1) := by decide +kernel
theorem dX4_readBar_2 : decode cX4_readBar 2 = .ok (.aload_n 0, 1) := by decide +kernel
theorem dX4_readBar_3 : decode cX4_readBar 3 = .ok (.getfield 29, 3) := by decide +kernel
theorem dX4_readBar_6 : decode cX4_readBar 6 = .ok (.getfield 145, 3) := by decide +kernel
theorem dX4_readBar_9 : decode cX4_readBar 9 = .ok (.iconst 1, 1) := by decide +kernel
theorem dX4_readBar_10 : decode cX4_readBar 10 = .ok (.isub, 1) := by decide +kernel
theorem dX4_readBar_11 : decode cX4_readBar 11 = .ok (.invokevirtual 88, 3) := by decide +kernel
theorem dX4_readBar_14 : decode cX4_readBar 14 = .ok (.ifCond .ne 5, 3) := by decide +kernel
theorem dX4_readBar_17 : decode cX4_readBar 17 = .ok (.iconst 0, 1) := by decide +kernel
theorem dX4_readBar_18 : decode cX4_readBar 18 = .ok (.ireturn, 1) := by decide +kernel
theorem dX4_readBar_19 : decode cX4_readBar 19 = .ok (.aload_n 0, 1) := by decide +kernel
theorem dX4_readBar_20 : decode cX4_readBar 20 = .ok (.getfield 92, 3) := by decide +kernel
theorem dX4_readBar_23 : decode cX4_readBar 23 = .ok (.istore_n 1, 1) := by decide +kernel
theorem dX4_readBar_24 : decode cX4_readBar 24 = .ok (.aload_n 0, 1) := by decide +kernel
theorem dX4_readBar_25 : decode cX4_readBar 25 = .ok (.iconst 0, 1) := by decide +kernel
theorem dX4_readBar_26 : decode cX4_readBar 26 = .ok (.aload_n 0, 1) := by decide +kernel
theorem dX4_readBar_27 : decode cX4_readBar 27 = .ok (.getfield 29, 3) := by decide +kernel
theorem dX4_readBar_30 : decode cX4_readBar 30 = .ok (.getfield 145, 3) := by decide +kernel
theorem dX4_readBar_33 : decode cX4_readBar 33 = .ok (.iconst 1, 1) := by decide +kernel
theorem dX4_readBar_34 : decode cX4_readBar 34 = .ok (.isub, 1) := by decide +kernel
theorem dX4_readBar_35 : decode cX4_readBar 35 = .ok (.invokevirtual 88, 3) := by decide +kernel
theorem dX4_readBar_38 : decode cX4_readBar 38 = .ok (.ifCond .ne 5, 3) := by decide +kernel
theorem dX4_readBar_41 : decode cX4_readBar 41 = .ok (.iconst 0, 1) := by decide +kernel
theorem dX4_readBar_42 : decode cX4_readBar 42 = .ok (.ireturn, 1) := by decide +kernel
theorem dX4_readBar_43 : decode cX4_readBar 43 = .ok (.aload_n 0, 1) := by decide +kernel
theorem dX4_readBar_44 : decode cX4_readBar 44 = .ok (.getfield 29, 3) := by decide +kernel
theorem dX4_readBar_47 : decode cX4_readBar 47 = .ok (.iload_n 1, 1) := by decide +kernel
theorem dX4_readBar_48 : decode cX4_readBar 48 = .ok (.aload_n 0, 1) := by decide +kernel
theorem dX4_readBar_49 : decode cX4_readBar 49 = .ok (.getfield 92, 3) := by decide +kernel
theorem dX4_readBar_52 : decode cX4_readBar 52 = .ok (.invokevirtual 148, 3) := by decide +kernel
theorem dX4_readBar_55 : decode cX4_readBar 55 = .ok (.iconst 1, 1) := by decide +kernel
theorem dX4_readBar_56 : decode cX4_readBar 56 = .ok (.ireturn, 1) := by decide +kernel
theorem dX4_readLast_0 : decode cX4_readLast 0 = .ok (.aload_n 0, 1) := by decide +kernel
theorem dX4_readLast_1 : decode cX4_readLast 1 = .ok (.iconst 0, 1) := by decide +kernel
theorem dX4_readLast_2 : decode cX4_readLast 2 = .ok (.aload_n 0, 1) := by decide +kernel
theorem dX4_readLast_3 : decode cX4_readLast 3 = .ok (.getfield 29, 3) := by decide +kernel
theorem dX4_readLast_6 : decode cX4_readLast 6 = .ok (.getfield 130, 3) := by decide +kernel
theorem dX4_readLast_9 : decode cX4_readLast 9 = .ok (.iconst 1, 1) := by decide +kernel
theorem dX4_readLast_10 : decode cX4_readLast 10 = .ok (.isub, 1) := by decide +kernel
theorem dX4_readLast_11 : decode cX4_readLast 11 = .ok (.invokevirtual 88, 3) := by decide +kernel
theorem dX4_readLast_14 : decode cX4_readLast 14 = .ok (.ifCond .ne 5, 3) := by decide +kernel
theorem dX4_readLast_17 : decode cX4_readLast 17 = .ok (.iconst 0, 1) := by decide +kernel
theorem dX4_readLast_18 : decode cX4_readLast 18 = .ok (.ireturn, 1) := by decide +kernel
theorem dX4_readLast_19 : decode cX4_readLast 19 = .ok (.aload_n 0, 1) := by decide +kernel
theorem dX4_readLast_20 : decode cX4_readLast 20 = .ok (.getfield 92, 3) := by decide +kernel
theorem dX4_readLast_23 : decode cX4_readLast 23 = .ok (.istore_n 1, 1) := by decide +kernel
theorem dX4_readLast_24 : decode cX4_readLast 24 = .ok (.aload_n 0, 1) := by decide +kernel
theorem dX4_readLast_25 : decode cX4_readLast 25 = .ok (.iconst 0, 1) := by decide +kernel
theorem dX4_readLast_26 : decode cX4_readLast 26 = .ok (.aload_n 0, 1) := by decide +kernel
theorem dX4_readLast_27 : decode cX4_readLast 27 = .ok (.getfield 29, 3) := by decide +kernel
theorem dX4_readLast_30 : decode cX4_readLast 30 = .ok (.getfield 145, 3) := by decide +kernel
theorem dX4_readLast_33 : decode cX4_readLast 33 = .ok (.iconst 1, 1) := by decide +kernel
theorem dX4_readLast_34 : decode cX4_readLast 34 = .ok (.isub, 1) := by decide +kernel
theorem dX4_readLast_35 : decode cX4_readLast 35 = .ok (.invokevirtual 88, 3) := by decide +kernel
theorem dX4_readLast_38 : decode cX4_readLast 38 = .ok (.ifCond .ne 5, 3) := by decide +kernel
theorem dX4_readLast_41 : decode cX4_readLast 41 = .ok (.iconst 0, 1) := by decide +kernel
theorem dX4_readLast_42 : decode cX4_readLast 42 = .ok (.ireturn, 1) := by decide +kernel
theorem dX4_readLast_43 : decode cX4_readLast 43 = .ok (.aload_n 0, 1) := by decide +kernel
theorem dX4_readLast_44 : decode cX4_readLast 44 = .ok (.getfield 29, 3) := by decide +kernel
theorem dX4_readLast_47 : decode cX4_readLast 47 = .ok (.getfield 151, 3) := by decide +kernel
theorem dX4_readLast_50 : decode cX4_readLast 50 = .ok (.iload_n 1, 1) := by decide +kernel
theorem dX4_readLast_51 : decode cX4_readLast 51 = .ok (.aload_n 0, 1) := by decide +kernel
theorem dX4_readLast_52 : decode cX4_readLast 52 = .ok (.getfield 92, 3) := by decide +kernel
theorem dX4_readLast_55 : decode cX4_readLast 55 = .ok (.iastore, 1) := by decide +kernel
theorem dX4_readLast_56 : decode cX4_readLast 56 = .ok (.iconst 1, 1) := by decide +kernel
theorem dX4_readLast_57 : decode cX4_readLast 57 = .ok (.ireturn, 1) := by decide +kernel
theorem dX4_readDrop_0 : decode cX4_readDrop 0 = .ok (.aload_n 0, 1) := by decide +kernel
theorem dX4_readDrop_1 : decode cX4_readDrop 1 = .ok (.iconst 0, 1) := by decide +kernel
theorem dX4_readDrop_2 : decode cX4_readDrop 2 = .ok (.aload_n 0, 1) := by decide +kernel
theorem dX4_readDrop_3 : decode cX4_readDrop 3 = .ok (.getfield 29, 3) := by decide +kernel
theorem dX4_readDrop_6 : decode cX4_readDrop 6 = .ok (.getfield 145, 3) := by decide +kernel
theorem dX4_readDrop_9 : decode cX4_readDrop 9 = .ok (.iconst 1, 1) := by decide +kernel
theorem dX4_readDrop_10 : decode cX4_readDrop 10 = .ok (.isub, 1) := by decide +kernel
theorem dX4_readDrop_11 : decode cX4_readDrop 11 = .ok (.invokevirtual 88, 3) := by decide +kernel
theorem dX4_readDrop_14 : decode cX4_readDrop 14 = .ok (.ifCond .ne 5, 3) := by decide +kernel
theorem dX4_readDrop_17 : decode cX4_readDrop 17 = .ok (.iconst 0, 1) := by decide +kernel
theorem dX4_readDrop_18 : decode cX4_readDrop 18 = .ok (.ireturn, 1) := by decide +kernel
theorem dX4_readDrop_19 : decode cX4_readDrop 19 = .ok (.aload_n 0, 1) := by decide +kernel
theorem dX4_readDrop_20 : decode cX4_readDrop 20 = .ok (.getfield 29, 3) := by decide +kernel
theorem dX4_readDrop_23 : decode cX4_readDrop 23 = .ok (.getfield 153, 3) := by decide +kernel
theorem dX4_readDrop_26 : decode cX4_readDrop 26 = .ok (.aload_n 0, 1) := by decide +kernel
theorem dX4_readDrop_27 : decode cX4_readDrop 27 = .ok (.getfield 29, 3) := by decide +kernel
theorem dX4_readDrop_30 : decode cX4_readDrop 30 = .ok (.getfield 156, 3) := by decide +kernel
theorem dX4_readDrop_33 : decode cX4_readDrop 33 = .ok (.aload_n 0, 1) := by decide +kernel
theorem dX4_readDrop_34 : decode cX4_readDrop 34 = .ok (.getfield 92, 3) := by decide +kernel
theorem dX4_readDrop_37 : decode cX4_readDrop 37 = .ok (.iastore, 1) := by decide +kernel
theorem dX4_readDrop_38 : decode cX4_readDrop 38 = .ok (.aload_n 0, 1) := by decide +kernel
theorem dX4_readDrop_39 : decode cX4_readDrop 39 = .ok (.iconst 1, 1) := by decide +kernel
theorem dX4_readDrop_40 : decode cX4_readDrop 40 = .ok (.sipush 4995, 3) := by decide +kernel
theorem dX4_readDrop_43 : decode cX4_readDrop 43 = .ok (.invokevirtual 88, 3) := by decide +kernel
theorem dX4_readDrop_46 : decode cX4_readDrop 46 = .ok (.ifCond .ne 5, 3) := by decide +kernel
theorem dX4_readDrop_49 : decode cX4_readDrop 49 = .ok (.iconst 0, 1) := by decide +kernel
theorem dX4_readDrop_50 : decode cX4_readDrop 50 = .ok (.ireturn, 1) := by decide +kernel
theorem dX4_readDrop_51 : decode cX4_readDrop 51 = .ok (.aload_n 0, 1) := by decide +kernel
theorem dX4_readDrop_52 : decode cX4_readDrop 52 = .ok (.getfield 29, 3) := by decide +kernel
theorem dX4_readDrop_55 : decode cX4_readDrop 55 = .ok (.getfield 159, 3) := by decide +kernel
theorem dX4_readDrop_58 : decode cX4_readDrop 58 = .ok (.aload_n 0, 1) := by decide +kernel
theorem dX4_readDrop_59 : decode cX4_readDrop 59 = .ok (.getfield 29, 3) := by decide +kernel
theorem dX4_readDrop_62 : decode cX4_readDrop 62 = .ok (.getfield 156, 3) := by decide +kernel
theorem dX4_readDrop_65 : decode cX4_readDrop 65 = .ok (.aload_n 0, 1) := by decide +kernel
theorem dX4_readDrop_66 : decode cX4_readDrop 66 = .ok (.getfield 92, 3) := by decide +kernel
theorem dX4_readDrop_69 : decode cX4_readDrop 69 = .ok (.iastore, 1) := by decide +kernel
theorem dX4_readDrop_70 : decode cX4_readDrop 70 = .ok (.aload_n 0, 1) := by decide +kernel
theorem dX4_readDrop_71 : decode cX4_readDrop 71 = .ok (.getfield 29, 3) := by decide +kernel
theorem dX4_readDrop_74 : decode cX4_readDrop 74 = .ok (.dup, 1) := by decide +kernel
theorem dX4_readDrop_75 : decode cX4_readDrop 75 = .ok (.getfield 156, 3) := by decide +kernel
theorem dX4_readDrop_78 : decode cX4_readDrop 78 = .ok (.iconst 1, 1) := by decide +kernel
theorem dX4_readDrop_79 : decode cX4_readDrop 79 = .ok (.iadd, 1) := by decide +kernel
theorem dX4_readDrop_80 : decode cX4_readDrop 80 = .ok (.putfield 156, 3) := by decide +kernel
theorem dX4_readDrop_83 : decode cX4_readDrop 83 = .ok (.iconst 1, 1) := by decide +kernel
theorem dX4_readDrop_84 : decode cX4_readDrop 84 = .ok (.ireturn, 1) := by decide +kernel
theorem dX4_readNumber_0 : decode cX4_readNumber 0 = .ok (.aload_n 0, 1) := by decide +kernel
theorem dX4_readNumber_1 : decode cX4_readNumber 1 = .ok (.invokevirtual 44, 3) := by decide +kernel
theorem dX4_readNumber_4 : decode cX4_readNumber 4 = .ok (.aload_n 0, 1) := by decide +kernel
theorem dX4_readNumber_5 : decode cX4_readNumber 5 = .ok (.getfield 47, 3) := by decide +kernel
theorem dX4_readNumber_8 : decode cX4_readNumber 8 = .ok (.iconst 2, 1) := by decide +kernel
theorem dX4_readNumber_9 : decode cX4_readNumber 9 = .ok (.if_icmp .eq 9, 3) := by decide +kernel
theorem dX4_readNumber_12 : decode cX4_readNumber 12 = .ok (.aload_n 0, 1) := by decide +kernel
theorem dX4_readNumber_13 : decode cX4_readNumber 13 = .ok (.iconst 1, 1) := by decide +kernel
theorem dX4_readNumber_14 : decode cX4_readNumber 14 = .ok (.invokevirtual 60, 3) := by decide +kernel
theorem dX4_readNumber_17 : decode cX4_readNumber 17 = .ok (.ireturn, 1) := by decide +kernel
theorem dX4_readNumber_18 : decode cX4_readNumber 18 = .ok (.aload_n 0, 1) := by decide +kernel
theorem dX4_readNumber_19 : decode cX4_readNumber 19 = .ok (.getfield 92, 3) := by decide +kernel
theorem dX4_readNumber_22 : decode cX4_readNumber 22 = .ok (.iload_n 1, 1) := by decide +kernel
theorem dX4_readNumber_23 : decode cX4_readNumber 23 = .ok (.if_icmp .lt 11, 3) := by decide +kernel
theorem dX4_readNumber_26 : decode cX4_readNumber 26 = .ok (.aload_n 0, 1) := by decide +kernel
theorem dX4_readNumber_27 : decode cX4_readNumber 27 = .ok (.getfield 92, 3) := by decide +kernel
end
section
theorem dX4_readNumber_30 : decode cX4_readNumber 30 = .ok (.iload_n 2, 1) := by decide +kernel
theorem dX4_readNumber_31 : decode cX4_readNumber 31 = .ok (.if_icmp .le 11, 3) := by decide +kernel
theorem dX4_readNumber_34 : decode cX4_readNumber 34 = .ok (.aload_n 0, 1) := by decide +kernel
theorem dX4_readNumber_35 : decode cX4_readNumber 35 = .ok (.iconst 2, 1) := by decide +kernel
theorem dX4_readNumber_36 : decode cX4_readNumber 36 = .ok (.invokevirtual 60, 3) := by decide +kernel
theorem dX4_readNumber_39 : decode cX4_readNumber 39 = .ok (.ifCond .eq 7, 3) := by decide +kernel
theorem dX4_readNumber_42 : decode cX4_readNumber 42 = .ok (.iconst 1, 1) := by decide +kernel
theorem dX4_readNumber_43 : decode cX4_readNumber 43 = .ok (.goto 4, 3) := by decide +kernel
theorem dX4_readNumber_46 : decode cX4_readNumber 46 = .ok (.iconst 0, 1) := by decide +kernel
theorem dX4_readNumber_47 : decode cX4_readNumber 47 = .ok (.ireturn, 1) := by decide +kernel
theorem dX4_isWord_0 : decode cX4_isWord 0 = .ok (.aload_n 0, 1) := by decide +kernel
theorem dX4_isWord_1 : decode cX4_isWord 1 = .ok (.getfield 47, 3) := by decide +kernel
theorem dX4_isWord_4 : decode cX4_isWord 4 = .ok (.iconst 1, 1) := by decide +kernel
theorem dX4_isWord_5 : decode cX4_isWord 5 = .ok (.if_icmp .ne 19, 3) := by decide +kernel
theorem dX4_isWord_8 : decode cX4_isWord 8 = .ok (.aload_n 0, 1) := by decide +kernel
theorem dX4_isWord_9 : decode cX4_isWord 9 = .ok (.getfield 23, 3) := by decide +kernel
theorem dX4_isWord_12 : decode cX4_isWord 12 = .ok (.aload_n 0, 1) := by decide +kernel
theorem dX4_isWord_13 : decode cX4_isWord 13 = .ok (.getfield 67, 3) := by decide +kernel
theorem dX4_isWord_16 : decode cX4_isWord 16 = .ok (.isub, 1) := by decide +kernel
theorem dX4_isWord_17 : decode cX4_isWord 17 = .ok (.aload_n 1, 1) := by decide +kernel
theorem dX4_isWord_18 : decode cX4_isWord 18 = .ok (.invokevirtual 162, 3) := by decide +kernel
theorem dX4_isWord_21 : decode cX4_isWord 21 = .ok (.if_icmp .eq 5, 3) := by decide +kernel
theorem dX4_isWord_24 : decode cX4_isWord 24 = .ok (.iconst 0, 1) := by decide +kernel
theorem dX4_isWord_25 : decode cX4_isWord 25 = .ok (.ireturn, 1) := by decide +kernel
theorem dX4_isWord_26 : decode cX4_isWord 26 = .ok (.iconst 0, 1) := by decide +kernel
theorem dX4_isWord_27 : decode cX4_isWord 27 = .ok (.istore_n 2, 1) := by decide +kernel
theorem dX4_isWord_28 : decode cX4_isWord 28 = .ok (.iload_n 2, 1) := by decide +kernel
theorem dX4_isWord_29 : decode cX4_isWord 29 = .ok (.aload_n 1, 1) := by decide +kernel
theorem dX4_isWord_30 : decode cX4_isWord 30 = .ok (.invokevirtual 162, 3) := by decide +kernel
theorem dX4_isWord_33 : decode cX4_isWord 33 = .ok (.if_icmp .ge 30, 3) := by decide +kernel
theorem dX4_isWord_36 : decode cX4_isWord 36 = .ok (.aload_n 0, 1) := by decide +kernel
theorem dX4_isWord_37 : decode cX4_isWord 37 = .ok (.getfield 15, 3) := by decide +kernel
theorem dX4_isWord_40 : decode cX4_isWord 40 = .ok (.aload_n 0, 1) := by decide +kernel
theorem dX4_isWord_41 : decode cX4_isWord 41 = .ok (.getfield 67, 3) := by decide +kernel
theorem dX4_isWord_44 : decode cX4_isWord 44 = .ok (.iload_n 2, 1) := by decide +kernel
theorem dX4_isWord_45 : decode cX4_isWord 45 = .ok (.iadd, 1) := by decide +kernel
theorem dX4_isWord_46 : decode cX4_isWord 46 = .ok (.baload, 1) := by decide +kernel
theorem dX4_isWord_47 : decode cX4_isWord 47 = .ok (.aload_n 1, 1) := by decide +kernel
theorem dX4_isWord_48 : decode cX4_isWord 48 = .ok (.iload_n 2, 1) := by decide +kernel
theorem dX4_isWord_49 : decode cX4_isWord 49 = .ok (.invokevirtual 167, 3) := by decide +kernel
theorem dX4_isWord_52 : decode cX4_isWord 52 = .ok (.if_icmp .eq 5, 3) := by decide +kernel
theorem dX4_isWord_55 : decode cX4_isWord 55 = .ok (.iconst 0, 1) := by decide +kernel
theorem dX4_isWord_56 : decode cX4_isWord 56 = .ok (.ireturn, 1) := by decide +kernel
theorem dX4_isWord_57 : decode cX4_isWord 57 = .ok (.iinc 2 1, 3) := by decide +kernel
theorem dX4_isWord_60 : decode cX4_isWord 60 = .ok (.goto (-32), 3) := by decide +kernel
theorem dX4_isWord_63 : decode cX4_isWord 63 = .ok (.iconst 1, 1) := by decide +kernel
theorem dX4_isWord_64 : decode cX4_isWord 64 = .ok (.ireturn, 1) := by decide +kernel
theorem dX4_advance_0 : decode cX4_advance 0 = .ok (.aload_n 0, 1) := by decide +kernel
theorem dX4_advance_1 : decode cX4_advance 1 = .ok (.getfield 23, 3) := by decide +kernel
theorem dX4_advance_4 : decode cX4_advance 4 = .ok (.aload_n 0, 1) := by decide +kernel
theorem dX4_advance_5 : decode cX4_advance 5 = .ok (.getfield 19, 3) := by decide +kernel
theorem dX4_advance_8 : decode cX4_advance 8 = .ok (.if_icmp .ge 44, 3) := by decide +kernel
theorem dX4_advance_11 : decode cX4_advance 11 = .ok (.aload_n 0, 1) := by decide +kernel
theorem dX4_advance_12 : decode cX4_advance 12 = .ok (.getfield 15, 3) := by decide +kernel
theorem dX4_advance_15 : decode cX4_advance 15 = .ok (.aload_n 0, 1) := by decide +kernel
theorem dX4_advance_16 : decode cX4_advance 16 = .ok (.getfield 23, 3) := by decide +kernel
theorem dX4_advance_19 : decode cX4_advance 19 = .ok (.baload, 1) := by decide +kernel
theorem dX4_advance_20 : decode cX4_advance 20 = .ok (.bipush 32, 2) := by decide +kernel
theorem dX4_advance_22 : decode cX4_advance 22 = .ok (.if_icmp .eq 17, 3) := by decide +kernel
theorem dX4_advance_25 : decode cX4_advance 25 = .ok (.aload_n 0, 1) := by decide +kernel
theorem dX4_advance_26 : decode cX4_advance 26 = .ok (.getfield 15, 3) := by decide +kernel
theorem dX4_advance_29 : decode cX4_advance 29 = .ok (.aload_n 0, 1) := by decide +kernel
theorem dX4_advance_30 : decode cX4_advance 30 = .ok (.getfield 23, 3) := by decide +kernel
theorem dX4_advance_33 : decode cX4_advance 33 = .ok (.baload, 1) := by decide +kernel
theorem dX4_advance_34 : decode cX4_advance 34 = .ok (.bipush 10, 2) := by decide +kernel
theorem dX4_advance_36 : decode cX4_advance 36 = .ok (.if_icmp .ne 16, 3) := by decide +kernel
theorem dX4_advance_39 : decode cX4_advance 39 = .ok (.aload_n 0, 1) := by decide +kernel
theorem dX4_advance_40 : decode cX4_advance 40 = .ok (.dup, 1) := by decide +kernel
theorem dX4_advance_41 : decode cX4_advance 41 = .ok (.getfield 23, 3) := by decide +kernel
theorem dX4_advance_44 : decode cX4_advance 44 = .ok (.iconst 1, 1) := by decide +kernel
theorem dX4_advance_45 : decode cX4_advance 45 = .ok (.iadd, 1) := by decide +kernel
theorem dX4_advance_46 : decode cX4_advance 46 = .ok (.putfield 23, 3) := by decide +kernel
theorem dX4_advance_49 : decode cX4_advance 49 = .ok (.goto (-49), 3) := by decide +kernel
theorem dX4_advance_52 : decode cX4_advance 52 = .ok (.aload_n 0, 1) := by decide +kernel
theorem dX4_advance_53 : decode cX4_advance 53 = .ok (.aload_n 0, 1) := by decide +kernel
theorem dX4_advance_54 : decode cX4_advance 54 = .ok (.getfield 23, 3) := by decide +kernel
theorem dX4_advance_57 : decode cX4_advance 57 = .ok (.putfield 67, 3) := by decide +kernel
theorem dX4_advance_60 : decode cX4_advance 60 = .ok (.aload_n 0, 1) := by decide +kernel
theorem dX4_advance_61 : decode cX4_advance 61 = .ok (.getfield 19, 3) := by decide +kernel
theorem dX4_advance_64 : decode cX4_advance 64 = .ok (.sipush 700, 3) := by decide +kernel
theorem dX4_advance_67 : decode cX4_advance 67 = .ok (.if_icmp .le 28, 3) := by decide +kernel
theorem dX4_advance_70 : decode cX4_advance 70 = .ok (.aload_n 0, 1) := by decide +kernel
theorem dX4_advance_71 : decode cX4_advance 71 = .ok (.getfield 23, 3) := by decide +kernel
theorem dX4_advance_74 : decode cX4_advance 74 = .ok (.sipush 700, 3) := by decide +kernel
theorem dX4_advance_77 : decode cX4_advance 77 = .ok (.if_icmp .lt 18, 3) := by decide +kernel
theorem dX4_advance_80 : decode cX4_advance 80 = .ok (.aload_n 0, 1) := by decide +kernel
theorem dX4_advance_81 : decode cX4_advance 81 = .ok (.sipush 700, 3) := by decide +kernel
theorem dX4_advance_84 : decode cX4_advance 84 = .ok (.putfield 67, 3) := by decide +kernel
theorem dX4_advance_87 : decode cX4_advance 87 = .ok (.aload_n 0, 1) := by decide +kernel
theorem dX4_advance_88 : decode cX4_advance 88 = .ok (.iconst 0, 1) := by decide +kernel
theorem dX4_advance_89 : decode cX4_advance 89 = .ok (.putfield 47, 3) := by decide +kernel
theorem dX4_advance_92 : decode cX4_advance 92 = .ok (.goto 58, 3) := by decide +kernel
theorem dX4_advance_95 : decode cX4_advance 95 = .ok (.aload_n 0, 1) := by decide +kernel
theorem dX4_advance_96 : decode cX4_advance 96 = .ok (.getfield 23, 3) := by decide +kernel
theorem dX4_advance_99 : decode cX4_advance 99 = .ok (.aload_n 0, 1) := by decide +kernel
theorem dX4_advance_100 : decode cX4_advance 100 = .ok (.getfield 19, 3) := by decide +kernel
theorem dX4_advance_103 : decode cX4_advance 103 = .ok (.if_icmp .lt 11, 3) := by decide +kernel
theorem dX4_advance_106 : decode cX4_advance 106 = .ok (.aload_n 0, 1) := by decide +kernel
theorem dX4_advance_107 : decode cX4_advance 107 = .ok (.iconst 4, 1) := by decide +kernel
theorem dX4_advance_108 : decode cX4_advance 108 = .ok (.putfield 47, 3) := by decide +kernel
theorem dX4_advance_111 : decode cX4_advance 111 = .ok (.goto 39, 3) := by decide +kernel
theorem dX4_advance_114 : decode cX4_advance 114 = .ok (.aload_n 0, 1) := by decide +kernel
theorem dX4_advance_115 : decode cX4_advance 115 = .ok (.getfield 15, 3) := by decide +kernel
theorem dX4_advance_118 : decode cX4_advance 118 = .ok (.aload_n 0, 1) := by decide +kernel
theorem dX4_advance_119 : decode cX4_advance 119 = .ok (.getfield 23, 3) := by decide +kernel
theorem dX4_advance_122 : decode cX4_advance 122 = .ok (.baload, 1) := by decide +kernel
theorem dX4_advance_123 : decode cX4_advance 123 = .ok (.bipush 59, 2) := by decide +kernel
theorem dX4_advance_125 : decode cX4_advance 125 = .ok (.if_icmp .ne 21, 3) := by decide +kernel
theorem dX4_advance_128 : decode cX4_advance 128 = .ok (.aload_n 0, 1) := by decide +kernel
theorem dX4_advance_129 : decode cX4_advance 129 = .ok (.dup, 1) := by decide +kernel
theorem dX4_advance_130 : decode cX4_advance 130 = .ok (.getfield 23, 3) := by decide +kernel
theorem dX4_advance_133 : decode cX4_advance 133 = .ok (.iconst 1, 1) := by decide +kernel
theorem dX4_advance_134 : decode cX4_advance 134 = .ok (.iadd, 1) := by decide +kernel
theorem dX4_advance_135 : decode cX4_advance 135 = .ok (.putfield 23, 3) := by decide +kernel
theorem dX4_advance_138 : decode cX4_advance 138 = .ok (.aload_n 0, 1) := by decide +kernel
theorem dX4_advance_139 : decode cX4_advance 139 = .ok (.iconst 3, 1) := by decide +kernel
theorem dX4_advance_140 : decode cX4_advance 140 = .ok (.putfield 47, 3) := by decide +kernel
theorem dX4_advance_143 : decode cX4_advance 143 = .ok (.goto 7, 3) := by decide +kernel
theorem dX4_advance_146 : decode cX4_advance 146 = .ok (.aload_n 0, 1) := by decide +kernel
theorem dX4_advance_147 : decode cX4_advance 147 = .ok (.invokevirtual 171, 3) := by decide +kernel
theorem dX4_advance_150 : decode cX4_advance 150 = .ok (.return_, 1) := by decide +kernel
theorem dX4_advanceRun_0 : decode cX4_advanceRun 0 = .ok (.iconst 0, 1) := by decide +kernel
theorem dX4_advanceRun_1 : decode cX4_advanceRun 1 = .ok (.istore_n 1, 1) := by decide +kernel
theorem dX4_advanceRun_2 : decode cX4_advanceRun 2 = .ok (.aload_n 0, 1) := by decide +kernel
theorem dX4_advanceRun_3 : decode cX4_advanceRun 3 = .ok (.iconst 0, 1) := by decide +kernel
theorem dX4_advanceRun_4 : decode cX4_advanceRun 4 = .ok (.putfield 92, 3) := by decide +kernel
theorem dX4_advanceRun_7 : decode cX4_advanceRun 7 = .ok (.aload_n 0, 1) := by decide +kernel
theorem dX4_advanceRun_8 : decode cX4_advanceRun 8 = .ok (.getfield 23, 3) := by decide +kernel
theorem dX4_advanceRun_11 : decode cX4_advanceRun 11 = .ok (.aload_n 0, 1) := by decide +kernel
theorem dX4_advanceRun_12 : decode cX4_advanceRun 12 = .ok (.getfield 19, 3) := by decide +kernel
theorem dX4_advanceRun_15 : decode cX4_advanceRun 15 = .ok (.if_icmp .ge 100, 3) := by decide +kernel
theorem dX4_advanceRun_18 : decode cX4_advanceRun 18 = .ok (.aload_n 0, 1) := by decide +kernel
theorem dX4_advanceRun_19 : decode cX4_advanceRun 19 = .ok (.getfield 15, 3) := by decide +kernel
theorem dX4_advanceRun_22 : decode cX4_advanceRun 22 = .ok (.aload_n 0, 1) := by decide +kernel
theorem dX4_advanceRun_23 : decode cX4_advanceRun 23 = .ok (.getfield 23, 3) := by decide +kernel
theorem dX4_advanceRun_26 : decode cX4_advanceRun 26 = .ok (.baload, 1) := by decide +kernel
theorem dX4_advanceRun_27 : decode cX4_advanceRun 27 = .ok (.invokestatic 174, 3) := by decide +kernel
theorem dX4_advanceRun_30 : decode cX4_advanceRun 30 = .ok (.ifCond .ne 18, 3) := by decide +kernel
theorem dX4_advanceRun_33 : decode cX4_advanceRun 33 = .ok (.aload_n 0, 1) := by decide +kernel
theorem dX4_advanceRun_34 : decode cX4_advanceRun 34 = .ok (.getfield 15, 3) := by decide +kernel
theorem dX4_advanceRun_37 : decode cX4_advanceRun 37 = .ok (.aload_n 0, 1) := by decide +kernel
theorem dX4_advanceRun_38 : decode cX4_advanceRun 38 = .ok (.getfield 23, 3) := by decide +kernel
theorem dX4_advanceRun_41 : decode cX4_advanceRun 41 = .ok (.baload, 1) := by decide +kernel
theorem dX4_advanceRun_42 : decode cX4_advanceRun 42 = .ok (.invokestatic 177, 3) := by decide +kernel
theorem dX4_advanceRun_45 : decode cX4_advanceRun 45 = .ok (.ifCond .eq 70, 3) := by decide +kernel
theorem dX4_advanceRun_48 : decode cX4_advanceRun 48 = .ok (.aload_n 0, 1) := by decide +kernel
theorem dX4_advanceRun_49 : decode cX4_advanceRun 49 = .ok (.getfield 15, 3) := by decide +kernel
theorem dX4_advanceRun_52 : decode cX4_advanceRun 52 = .ok (.aload_n 0, 1) := by decide +kernel
theorem dX4_advanceRun_53 : decode cX4_advanceRun 53 = .ok (.getfield 23, 3) := by decide +kernel
theorem dX4_advanceRun_56 : decode cX4_advanceRun 56 = .ok (.baload, 1) := by decide +kernel
theorem dX4_advanceRun_57 : decode cX4_advanceRun 57 = .ok (.invokestatic 177, 3) := by decide +kernel
theorem dX4_advanceRun_60 : decode cX4_advanceRun 60 = .ok (.ifCond .eq 42, 3) := by decide +kernel
theorem dX4_advanceRun_63 : decode cX4_advanceRun 63 = .ok (.iinc 1 1, 3) := by decide +kernel
theorem dX4_advanceRun_66 : decode cX4_advanceRun 66 = .ok (.aload_n 0, 1) := by decide +kernel
theorem dX4_advanceRun_67 : decode cX4_advanceRun 67 = .ok (.iload_n 1, 1) := by decide +kernel
theorem dX4_advanceRun_68 : decode cX4_advanceRun 68 = .ok (.iconst 4, 1) := by decide +kernel
theorem dX4_advanceRun_69 : decode cX4_advanceRun 69 = .ok (.if_icmp .gt 26, 3) := by decide +kernel
theorem dX4_advanceRun_72 : decode cX4_advanceRun 72 = .ok (.aload_n 0, 1) := by decide +kernel
theorem dX4_advanceRun_73 : decode cX4_advanceRun 73 = .ok (.getfield 92, 3) := by decide +kernel
theorem dX4_advanceRun_76 : decode cX4_advanceRun 76 = .ok (.bipush 10, 2) := by decide +kernel
theorem dX4_advanceRun_78 : decode cX4_advanceRun 78 = .ok (.imul, 1) := by decide +kernel
theorem dX4_advanceRun_79 : decode cX4_advanceRun 79 = .ok (.aload_n 0, 1) := by decide +kernel
theorem dX4_advanceRun_80 : decode cX4_advanceRun 80 = .ok (.getfield 15, 3) := by decide +kernel
theorem dX4_advanceRun_83 : decode cX4_advanceRun 83 = .ok (.aload_n 0, 1) := by decide +kernel
theorem dX4_advanceRun_84 : decode cX4_advanceRun 84 = .ok (.getfield 23, 3) := by decide +kernel
theorem dX4_advanceRun_87 : decode cX4_advanceRun 87 = .ok (.baload, 1) := by decide +kernel
theorem dX4_advanceRun_88 : decode cX4_advanceRun 88 = .ok (.iadd, 1) := by decide +kernel
theorem dX4_advanceRun_89 : decode cX4_advanceRun 89 = .ok (.bipush 48, 2) := by decide +kernel
theorem dX4_advanceRun_91 : decode cX4_advanceRun 91 = .ok (.isub, 1) := by decide +kernel
theorem dX4_advanceRun_92 : decode cX4_advanceRun 92 = .ok (.goto 7, 3) := by decide +kernel
theorem dX4_advanceRun_95 : decode cX4_advanceRun 95 = .ok (.aload_n 0, 1) := by decide +kernel
theorem dX4_advanceRun_96 : decode cX4_advanceRun 96 = .ok (.getfield 92, 3) := by decide +kernel
theorem dX4_advanceRun_99 : decode cX4_advanceRun 99 = .ok (.putfield 92, 3) := by decide +kernel
theorem dX4_advanceRun_102 : decode cX4_advanceRun 102 = .ok (.aload_n 0, 1) := by decide +kernel
theorem dX4_advanceRun_103 : decode cX4_advanceRun 103 = .ok (.dup, 1) := by decide +kernel
theorem dX4_advanceRun_104 : decode cX4_advanceRun 104 = .ok (.getfield 23, 3) := by decide +kernel
theorem dX4_advanceRun_107 : decode cX4_advanceRun 107 = .ok (.iconst 1, 1) := by decide +kernel
theorem dX4_advanceRun_108 : decode cX4_advanceRun 108 = .ok (.iadd, 1) := by decide +kernel
theorem dX4_advanceRun_109 : decode cX4_advanceRun 109 = .ok (.putfield 23, 3) := by decide +kernel
theorem dX4_advanceRun_112 : decode cX4_advanceRun 112 = .ok (.goto (-105), 3) := by decide +kernel
theorem dX4_advanceRun_115 : decode cX4_advanceRun 115 = .ok (.aload_n 0, 1) := by decide +kernel
theorem dX4_advanceRun_116 : decode cX4_advanceRun 116 = .ok (.getfield 23, 3) := by decide +kernel
theorem dX4_advanceRun_119 : decode cX4_advanceRun 119 = .ok (.aload_n 0, 1) := by decide +kernel
theorem dX4_advanceRun_120 : decode cX4_advanceRun 120 = .ok (.getfield 67, 3) := by decide +kernel
theorem dX4_advanceRun_123 : decode cX4_advanceRun 123 = .ok (.isub, 1) := by decide +kernel
theorem dX4_advanceRun_124 : decode cX4_advanceRun 124 = .ok (.istore_n 2, 1) := by decide +kernel
theorem dX4_advanceRun_125 : decode cX4_advanceRun 125 = .ok (.iload_n 2, 1) := by decide +kernel
theorem dX4_advanceRun_126 : decode cX4_advanceRun 126 = .ok (.ifCond .le 15, 3) := by decide +kernel
theorem dX4_advanceRun_129 : decode cX4_advanceRun 129 = .ok (.iload_n 1, 1) := by decide +kernel
theorem dX4_advanceRun_130 : decode cX4_advanceRun 130 = .ok (.ifCond .ne 11, 3) := by decide +kernel
theorem dX4_advanceRun_133 : decode cX4_advanceRun 133 = .ok (.aload_n 0, 1) := by decide +kernel
theorem dX4_advanceRun_134 : decode cX4_advanceRun 134 = .ok (.iconst 1, 1) := by decide +kernel
theorem dX4_advanceRun_135 : decode cX4_advanceRun 135 = .ok (.putfield 47, 3) := by decide +kernel
theorem dX4_advanceRun_138 : decode cX4_advanceRun 138 = .ok (.goto 30, 3) := by decide +kernel
theorem dX4_advanceRun_141 : decode cX4_advanceRun 141 = .ok (.iload_n 2, 1) := by decide +kernel
theorem dX4_advanceRun_142 : decode cX4_advanceRun 142 = .ok (.ifCond .le 21, 3) := by decide +kernel
theorem dX4_advanceRun_145 : decode cX4_advanceRun 145 = .ok (.iload_n 2, 1) := by decide +kernel
theorem dX4_advanceRun_146 : decode cX4_advanceRun 146 = .ok (.iconst 4, 1) := by decide +kernel
theorem dX4_advanceRun_147 : decode cX4_advanceRun 147 = .ok (.if_icmp .gt 16, 3) := by decide +kernel
theorem dX4_advanceRun_150 : decode cX4_advanceRun 150 = .ok (.iload_n 1, 1) := by decide +kernel
theorem dX4_advanceRun_151 : decode cX4_advanceRun 151 = .ok (.iload_n 2, 1) := by decide +kernel
theorem dX4_advanceRun_152 : decode cX4_advanceRun 152 = .ok (.if_icmp .ne 11, 3) := by decide +kernel
theorem dX4_advanceRun_155 : decode cX4_advanceRun 155 = .ok (.aload_n 0, 1) := by decide +kernel
theorem dX4_advanceRun_156 : decode cX4_advanceRun 156 = .ok (.iconst 2, 1) := by decide +kernel
theorem dX4_advanceRun_157 : decode cX4_advanceRun 157 = .ok (.putfield 47, 3) := by decide +kernel
theorem dX4_advanceRun_160 : decode cX4_advanceRun 160 = .ok (.goto 8, 3) := by decide +kernel
theorem dX4_advanceRun_163 : decode cX4_advanceRun 163 = .ok (.aload_n 0, 1) := by decide +kernel
theorem dX4_advanceRun_164 : decode cX4_advanceRun 164 = .ok (.iconst 0, 1) := by decide +kernel
theorem dX4_advanceRun_165 : decode cX4_advanceRun 165 = .ok (.putfield 47, 3) := by decide +kernel
theorem dX4_advanceRun_168 : decode cX4_advanceRun 168 = .ok (.return_, 1) := by decide +kernel
theorem dX4_isLetter_0 : decode cX4_isLetter 0 = .ok (.iload_n 0, 1) := by decide +kernel
theorem dX4_isLetter_1 : decode cX4_isLetter 1 = .ok (.bipush 97, 2) := by decide +kernel
theorem dX4_isLetter_3 : decode cX4_isLetter 3 = .ok (.if_icmp .lt 13, 3) := by decide +kernel
theorem dX4_isLetter_6 : decode cX4_isLetter 6 = .ok (.iload_n 0, 1) := by decide +kernel
theorem dX4_isLetter_7 : decode cX4_isLetter 7 = .ok (.bipush 122, 2) := by decide +kernel
theorem dX4_isLetter_9 : decode cX4_isLetter 9 = .ok (.if_icmp .gt 7, 3) := by decide +kernel
theorem dX4_isLetter_12 : decode cX4_isLetter 12 = .ok (.iconst 1, 1) := by decide +kernel
theorem dX4_isLetter_13 : decode cX4_isLetter 13 = .ok (.goto 4, 3) := by decide +kernel
theorem dX4_isLetter_16 : decode cX4_isLetter 16 = .ok (.iconst 0, 1) := by decide +kernel
theorem dX4_isLetter_17 : decode cX4_isLetter 17 = .ok (.ireturn, 1) := by decide +kernel
theorem dX4_isDigit_0 : decode cX4_isDigit 0 = .ok (.iload_n 0, 1) := by decide +kernel
theorem dX4_isDigit_1 : decode cX4_isDigit 1 = .ok (.bipush 48, 2) := by decide +kernel
theorem dX4_isDigit_3 : decode cX4_isDigit 3 = .ok (.if_icmp .lt 13, 3) := by decide +kernel
theorem dX4_isDigit_6 : decode cX4_isDigit 6 = .ok (.iload_n 0, 1) := by decide +kernel
theorem dX4_isDigit_7 : decode cX4_isDigit 7 = .ok (.bipush 57, 2) := by decide +kernel
theorem dX4_isDigit_9 : decode cX4_isDigit 9 = .ok (.if_icmp .gt 7, 3) := by decide +kernel
theorem dX4_isDigit_12 : decode cX4_isDigit 12 = .ok (.iconst 1, 1) := by decide +kernel
theorem dX4_isDigit_13 : decode cX4_isDigit 13 = .ok (.goto 4, 3) := by decide +kernel
theorem dX4_isDigit_16 : decode cX4_isDigit 16 = .ok (.iconst 0, 1) := by decide +kernel
theorem dX4_isDigit_17 : decode cX4_isDigit 17 = .ok (.ireturn, 1) := by decide +kernel
theorem dX5_init_0 : decode cX5_init 0 = .ok (.aload_n 0, 1) := by decide +kernel
theorem dX5_init_1 : decode cX5_init 1 = .ok (.invokespecial 3, 3) := by decide +kernel
theorem dX5_init_4 : decode cX5_init 4 = .ok (.aload_n 0, 1) := by decide +kernel
theorem dX5_init_5 : decode cX5_init 5 = .ok (.new 9, 3) := by decide +kernel
theorem dX5_init_8 : decode cX5_init 8 = .ok (.dup, 1) := by decide +kernel
theorem dX5_init_9 : decode cX5_init 9 = .ok (.invokespecial 11, 3) := by decide +kernel
theorem dX5_init_12 : decode cX5_init 12 = .ok (.putfield 12, 3) := by decide +kernel
theorem dX5_init_15 : decode cX5_init 15 = .ok (.aload_n 0, 1) := by decide +kernel
theorem dX5_init_16 : decode cX5_init 16 = .ok (.bipush 20, 2) := by decide +kernel
theorem dX5_init_18 : decode cX5_init 18 = .ok (.newarray .int, 2) := by decide +kernel
theorem dX5_init_20 : decode cX5_init 20 = .ok (.putfield 18, 3) := by decide +kernel
theorem dX5_init_23 : decode cX5_init 23 = .ok (.aload_n 0, 1) := by decide +kernel
theorem dX5_init_24 : decode cX5_init 24 = .ok (.bipush 20, 2) := by decide +kernel
theorem dX5_init_26 : decode cX5_init 26 = .ok (.newarray .int, 2) := by decide +kernel
theorem dX5_init_28 : decode cX5_init 28 = .ok (.putfield 22, 3) := by decide +kernel
theorem dX5_init_31 : decode cX5_init 31 = .ok (.return_, 1) := by decide +kernel
theorem dX5_begin_0 : decode cX5_begin 0 = .ok (.aload_n 0, 1) := by decide +kernel
theorem dX5_begin_1 : decode cX5_begin 1 = .ok (.getfield 12, 3) := by decide +kernel
theorem dX5_begin_4 : decode cX5_begin 4 = .ok (.aload_n 1, 1) := by decide +kernel
theorem dX5_begin_5 : decode cX5_begin 5 = .ok (.invokevirtual 25, 3) := by decide +kernel
theorem dX5_begin_8 : decode cX5_begin 8 = .ok (.aload_n 0, 1) := by decide +kernel
theorem dX5_begin_9 : decode cX5_begin 9 = .ok (.iconst 0, 1) := by decide +kernel
theorem dX5_begin_10 : decode cX5_begin 10 = .ok (.putfield 29, 3) := by decide +kernel
theorem dX5_begin_13 : decode cX5_begin 13 = .ok (.iconst 0, 1) := by decide +kernel
theorem dX5_begin_14 : decode cX5_begin 14 = .ok (.istore_n 2, 1) := by decide +kernel
theorem dX5_begin_15 : decode cX5_begin 15 = .ok (.iload_n 2, 1) := by decide +kernel
theorem dX5_begin_16 : decode cX5_begin 16 = .ok (.aload_n 1, 1) := by decide +kernel
theorem dX5_begin_17 : decode cX5_begin 17 = .ok (.getfield 33, 3) := by decide +kernel
theorem dX5_begin_20 : decode cX5_begin 20 = .ok (.if_icmp .ge 13, 3) := by decide +kernel
theorem dX5_begin_23 : decode cX5_begin 23 = .ok (.aload_n 0, 1) := by decide +kernel
theorem dX5_begin_24 : decode cX5_begin 24 = .ok (.invokevirtual 38, 3) := by decide +kernel
theorem dX5_begin_27 : decode cX5_begin 27 = .ok (.iinc 2 1, 3) := by decide +kernel
theorem dX5_begin_30 : decode cX5_begin 30 = .ok (.goto (-15), 3) := by decide +kernel
theorem dX5_begin_33 : decode cX5_begin 33 = .ok (.aload_n 0, 1) := by decide +kernel
theorem dX5_begin_34 : decode cX5_begin 34 = .ok (.iconst 0, 1) := by decide +kernel
theorem dX5_begin_35 : decode cX5_begin 35 = .ok (.putfield 41, 3) := by decide +kernel
theorem dX5_begin_38 : decode cX5_begin 38 = .ok (.return_, 1) := by decide +kernel
theorem dX5_addDrop_0 : decode cX5_addDrop 0 = .ok (.aload_n 0, 1) := by decide +kernel
theorem dX5_addDrop_1 : decode cX5_addDrop 1 = .ok (.getfield 29, 3) := by decide +kernel
theorem dX5_addDrop_4 : decode cX5_addDrop 4 = .ok (.bipush 20, 2) := by decide +kernel
theorem dX5_addDrop_6 : decode cX5_addDrop 6 = .ok (.if_icmp .ge 33, 3) := by decide +kernel
theorem dX5_addDrop_9 : decode cX5_addDrop 9 = .ok (.aload_n 0, 1) := by decide +kernel
theorem dX5_addDrop_10 : decode cX5_addDrop 10 = .ok (.getfield 18, 3) := by decide +kernel
theorem dX5_addDrop_13 : decode cX5_addDrop 13 = .ok (.aload_n 0, 1) := by decide +kernel
theorem dX5_addDrop_14 : decode cX5_addDrop 14 = .ok (.getfield 29, 3) := by decide +kernel
theorem dX5_addDrop_17 : decode cX5_addDrop 17 = .ok (.iconst 0, 1) := by decide +kernel
theorem dX5_addDrop_18 : decode cX5_addDrop 18 = .ok (.iastore, 1) := by decide +kernel
theorem dX5_addDrop_19 : decode cX5_addDrop 19 = .ok (.aload_n 0, 1) := by decide +kernel
theorem dX5_addDrop_20 : decode cX5_addDrop 20 = .ok (.getfield 22, 3) := by decide +kernel
theorem dX5_addDrop_23 : decode cX5_addDrop 23 = .ok (.aload_n 0, 1) := by decide +kernel
theorem dX5_addDrop_24 : decode cX5_addDrop 24 = .ok (.getfield 29, 3) := by decide +kernel
theorem dX5_addDrop_27 : decode cX5_addDrop 27 = .ok (.iconst 0, 1) := by decide +kernel
theorem dX5_addDrop_28 : decode cX5_addDrop 28 = .ok (.iastore, 1) := by decide +kernel
theorem dX5_addDrop_29 : decode cX5_addDrop 29 = .ok (.aload_n 0, 1) := by decide +kernel
theorem dX5_addDrop_30 : decode cX5_addDrop 30 = .ok (.dup, 1) := by decide +kernel
theorem dX5_addDrop_31 : decode cX5_addDrop 31 = .ok (.getfield 29, 3) := by decide +kernel
theorem dX5_addDrop_34 : decode cX5_addDrop 34 = .ok (.iconst 1, 1) := by decide +kernel
theorem dX5_addDrop_35 : decode cX5_addDrop 35 = .ok (.iadd, 1) := by decide +kernel
theorem dX5_addDrop_36 : decode cX5_addDrop 36 = .ok (.putfield 29, 3) := by decide +kernel
theorem dX5_addDrop_39 : decode cX5_addDrop 39 = .ok (.return_, 1) := by decide +kernel
theorem dX5_copyFrom_0 : decode cX5_copyFrom 0 = .ok (.aload_n 0, 1) := by decide +kernel
theorem dX5_copyFrom_1 : decode cX5_copyFrom 1 = .ok (.getfield 12, 3) := by decide +kernel
theorem dX5_copyFrom_4 : decode cX5_copyFrom 4 = .ok (.aload_n 1, 1) := by decide +kernel
theorem dX5_copyFrom_5 : decode cX5_copyFrom 5 = .ok (.getfield 12, 3) := by decide +kernel
theorem dX5_copyFrom_8 : decode cX5_copyFrom 8 = .ok (.invokevirtual 44, 3) := by decide +kernel
theorem dX5_copyFrom_11 : decode cX5_copyFrom 11 = .ok (.aload_n 0, 1) := by decide +kernel
theorem dX5_copyFrom_12 : decode cX5_copyFrom 12 = .ok (.aload_n 1, 1) := by decide +kernel
theorem dX5_copyFrom_13 : decode cX5_copyFrom 13 = .ok (.getfield 29, 3) := by decide +kernel
theorem dX5_copyFrom_16 : decode cX5_copyFrom 16 = .ok (.putfield 29, 3) := by decide +kernel
theorem dX5_copyFrom_19 : decode cX5_copyFrom 19 = .ok (.aload_n 1, 1) := by decide +kernel
theorem dX5_copyFrom_20 : decode cX5_copyFrom 20 = .ok (.getfield 18, 3) := by decide +kernel
theorem dX5_copyFrom_23 : decode cX5_copyFrom 23 = .ok (.iconst 0, 1) := by decide +kernel
theorem dX5_copyFrom_24 : decode cX5_copyFrom 24 = .ok (.aload_n 0, 1) := by decide +kernel
theorem dX5_copyFrom_25 : decode cX5_copyFrom 25 = .ok (.getfield 18, 3) := by decide +kernel
theorem dX5_copyFrom_28 : decode cX5_copyFrom 28 = .ok (.iconst 0, 1) := by decide +kernel
theorem dX5_copyFrom_29 : decode cX5_copyFrom 29 = .ok (.bipush 20, 2) := by decide +kernel
theorem dX5_copyFrom_31 : decode cX5_copyFrom 31 = .ok (.invokestatic 48, 3) := by decide +kernel
theorem dX5_copyFrom_34 : decode cX5_copyFrom 34 = .ok (.aload_n 1, 1) := by decide +kernel
theorem dX5_copyFrom_35 : decode cX5_copyFrom 35 = .ok (.getfield 22, 3) := by decide +kernel
theorem dX5_copyFrom_38 : decode cX5_copyFrom 38 = .ok (.iconst 0, 1) := by decide +kernel
theorem dX5_copyFrom_39 : decode cX5_copyFrom 39 = .ok (.aload_n 0, 1) := by decide +kernel
theorem dX5_copyFrom_40 : decode cX5_copyFrom 40 = .ok (.getfield 22, 3) := by decide +kernel
theorem dX5_copyFrom_43 : decode cX5_copyFrom 43 = .ok (.iconst 0, 1) := by decide +kernel
theorem dX5_copyFrom_44 : decode cX5_copyFrom 44 = .ok (.bipush 20, 2) := by decide +kernel
theorem dX5_copyFrom_46 : decode cX5_copyFrom 46 = .ok (.invokestatic 48, 3) := by decide +kernel
theorem dX5_copyFrom_49 : decode cX5_copyFrom 49 = .ok (.aload_n 0, 1) := by decide +kernel
theorem dX5_copyFrom_50 : decode cX5_copyFrom 50 = .ok (.aload_n 1, 1) := by decide +kernel
theorem dX5_copyFrom_51 : decode cX5_copyFrom 51 = .ok (.getfield 41, 3) := by decide +kernel
theorem dX5_copyFrom_54 : decode cX5_copyFrom 54 = .ok (.putfield 41, 3) := by decide +kernel
theorem dX5_copyFrom_57 : decode cX5_copyFrom 57 = .ok (.return_, 1) := by decide +kernel
theorem dX5_hasDrop_0 : decode cX5_hasDrop 0 = .ok (.iload_n 1, 1) := by decide +kernel
theorem dX5_hasDrop_1 : decode cX5_hasDrop 1 = .ok (.ifCond .lt 15, 3) := by decide +kernel
theorem dX5_hasDrop_4 : decode cX5_hasDrop 4 = .ok (.iload_n 1, 1) := by decide +kernel
theorem dX5_hasDrop_5 : decode cX5_hasDrop 5 = .ok (.aload_n 0, 1) := by decide +kernel
theorem dX5_hasDrop_6 : decode cX5_hasDrop 6 = .ok (.getfield 29, 3) := by decide +kernel
theorem dX5_hasDrop_9 : decode cX5_hasDrop 9 = .ok (.if_icmp .ge 7, 3) := by decide +kernel
theorem dX5_hasDrop_12 : decode cX5_hasDrop 12 = .ok (.iconst 1, 1) := by decide +kernel
theorem dX5_hasDrop_13 : decode cX5_hasDrop 13 = .ok (.goto 4, 3) := by decide +kernel
theorem dX5_hasDrop_16 : decode cX5_hasDrop 16 = .ok (.iconst 0, 1) := by decide +kernel
theorem dX5_hasDrop_17 : decode cX5_hasDrop 17 = .ok (.ireturn, 1) := by decide +kernel
theorem dX5_how_0 : decode cX5_how 0 = .ok (.aload_n 0, 1) := by decide +kernel
theorem dX5_how_1 : decode cX5_how 1 = .ok (.getfield 18, 3) := by decide +kernel
theorem dX5_how_4 : decode cX5_how 4 = .ok (.iload_n 2, 1) := by decide +kernel
theorem dX5_how_5 : decode cX5_how 5 = .ok (.iaload, 1) := by decide +kernel
theorem dX5_how_6 : decode cX5_how 6 = .ok (.ifCond .eq 10, 3) := by decide +kernel
theorem dX5_how_9 : decode cX5_how 9 = .ok (.aload_n 0, 1) := by decide +kernel
theorem dX5_how_10 : decode cX5_how 10 = .ok (.getfield 18, 3) := by decide +kernel
theorem dX5_how_13 : decode cX5_how 13 = .ok (.iload_n 2, 1) := by decide +kernel
theorem dX5_how_14 : decode cX5_how 14 = .ok (.iaload, 1) := by decide +kernel
theorem dX5_how_15 : decode cX5_how 15 = .ok (.ireturn, 1) := by decide +kernel
theorem dX5_how_16 : decode cX5_how 16 = .ok (.aload_n 0, 1) := by decide +kernel
theorem dX5_how_17 : decode cX5_how 17 = .ok (.getfield 12, 3) := by decide +kernel
theorem dX5_how_20 : decode cX5_how 20 = .ok (.iload_n 2, 1) := by decide +kernel
theorem dX5_how_21 : decode cX5_how 21 = .ok (.invokevirtual 54, 3) := by decide +kernel
theorem dX5_how_24 : decode cX5_how 24 = .ok (.aload_n 1, 1) := by decide +kernel
theorem dX5_how_25 : decode cX5_how 25 = .ok (.getfield 58, 3) := by decide +kernel
theorem dX5_how_28 : decode cX5_how 28 = .ok (.iload_n 2, 1) := by decide +kernel
theorem dX5_how_29 : decode cX5_how 29 = .ok (.iaload, 1) := by decide +kernel
theorem dX5_how_30 : decode cX5_how 30 = .ok (.if_icmp .ge 7, 3) := by decide +kernel
theorem dX5_how_33 : decode cX5_how 33 = .ok (.iconst 0, 1) := by decide +kernel
theorem dX5_how_34 : decode cX5_how 34 = .ok (.goto 4, 3) := by decide +kernel
theorem dX5_how_37 : decode cX5_how 37 = .ok (.iconst 1, 1) := by decide +kernel
theorem dX5_how_38 : decode cX5_how 38 = .ok (.ireturn, 1) := by decide +kernel
theorem dX5_shortOf_0 : decode cX5_shortOf 0 = .ok (.aload_n 0, 1) := by decide +kernel
theorem dX5_shortOf_1 : decode cX5_shortOf 1 = .ok (.getfield 18, 3) := by decide +kernel
theorem dX5_shortOf_4 : decode cX5_shortOf 4 = .ok (.iload_n 2, 1) := by decide +kernel
theorem dX5_shortOf_5 : decode cX5_shortOf 5 = .ok (.iaload, 1) := by decide +kernel
theorem dX5_shortOf_6 : decode cX5_shortOf 6 = .ok (.iconst 2, 1) := by decide +kernel
theorem dX5_shortOf_7 : decode cX5_shortOf 7 = .ok (.if_icmp .ne 19, 3) := by decide +kernel
theorem dX5_shortOf_10 : decode cX5_shortOf 10 = .ok (.aload_n 1, 1) := by decide +kernel
theorem dX5_shortOf_11 : decode cX5_shortOf 11 = .ok (.getfield 58, 3) := by decide +kernel
theorem dX5_shortOf_14 : decode cX5_shortOf 14 = .ok (.iload_n 2, 1) := by decide +kernel
theorem dX5_shortOf_15 : decode cX5_shortOf 15 = .ok (.iaload, 1) := by decide +kernel
theorem dX5_shortOf_16 : decode cX5_shortOf 16 = .ok (.aload_n 0, 1) := by decide +kernel
theorem dX5_shortOf_17 : decode cX5_shortOf 17 = .ok (.getfield 22, 3) := by decide +kernel
theorem dX5_shortOf_20 : decode cX5_shortOf 20 = .ok (.iload_n 2, 1) := by decide +kernel
theorem dX5_shortOf_21 : decode cX5_shortOf 21 = .ok (.iaload, 1) := by decide +kernel
theorem dX5_shortOf_22 : decode cX5_shortOf 22 = .ok (.isub, 1) := by decide +kernel
theorem dX5_shortOf_23 : decode cX5_shortOf 23 = .ok (.goto 4, 3) := by decide +kernel
theorem dX5_shortOf_26 : decode cX5_shortOf 26 = .ok (.iconst 0, 1) := by decide +kernel
theorem dX5_shortOf_27 : decode cX5_shortOf 27 = .ok (.ireturn, 1) := by decide +kernel
theorem dX5_waiting_0 : decode cX5_waiting 0 = .ok (.iconst 0, 1) := by decide +kernel
theorem dX5_waiting_1 : decode cX5_waiting 1 = .ok (.istore_n 2, 1) := by decide +kernel
theorem dX5_waiting_2 : decode cX5_waiting 2 = .ok (.iconst 0, 1) := by decide +kernel
theorem dX5_waiting_3 : decode cX5_waiting 3 = .ok (.istore_n 3, 1) := by decide +kernel
theorem dX5_waiting_4 : decode cX5_waiting 4 = .ok (.iload_n 3, 1) := by decide +kernel
theorem dX5_waiting_5 : decode cX5_waiting 5 = .ok (.aload_n 0, 1) := by decide +kernel
theorem dX5_waiting_6 : decode cX5_waiting 6 = .ok (.getfield 29, 3) := by decide +kernel
theorem dX5_waiting_9 : decode cX5_waiting 9 = .ok (.if_icmp .ge 21, 3) := by decide +kernel
theorem dX5_waiting_12 : decode cX5_waiting 12 = .ok (.aload_n 0, 1) := by decide +kernel
theorem dX5_waiting_13 : decode cX5_waiting 13 = .ok (.aload_n 1, 1) := by decide +kernel
theorem dX5_waiting_14 : decode cX5_waiting 14 = .ok (.iload_n 3, 1) := by decide +kernel
theorem dX5_waiting_15 : decode cX5_waiting 15 = .ok (.invokevirtual 61, 3) := by decide +kernel
theorem dX5_waiting_18 : decode cX5_waiting 18 = .ok (.ifCond .ne 6, 3) := by decide +kernel
theorem dX5_waiting_21 : decode cX5_waiting 21 = .ok (.iinc 2 1, 3) := by decide +kernel
theorem dX5_waiting_24 : decode cX5_waiting 24 = .ok (.iinc 3 1, 3) := by decide +kernel
theorem dX5_waiting_27 : decode cX5_waiting 27 = .ok (.goto (-23), 3) := by decide +kernel
theorem dX5_waiting_30 : decode cX5_waiting 30 = .ok (.iload_n 2, 1) := by decide +kernel
theorem dX5_waiting_31 : decode cX5_waiting 31 = .ok (.ireturn, 1) := by decide +kernel
theorem dX6_init_0 : decode cX6_init 0 = .ok (.aload_n 0, 1) := by decide +kernel
theorem dX6_init_1 : decode cX6_init 1 = .ok (.invokespecial 3, 3) := by decide +kernel
theorem dX6_init_4 : decode cX6_init 4 = .ok (.aload_n 0, 1) := by decide +kernel
theorem dX6_init_5 : decode cX6_init 5 = .ok (.bipush 9, 2) := by decide +kernel
theorem dX6_init_7 : decode cX6_init 7 = .ok (.newarray .int, 2) := by decide +kernel
theorem dX6_init_9 : decode cX6_init 9 = .ok (.putfield 9, 3) := by decide +kernel
theorem dX6_init_12 : decode cX6_init 12 = .ok (.aload_n 0, 1) := by decide +kernel
theorem dX6_init_13 : decode cX6_init 13 = .ok (.iconst 5, 1) := by decide +kernel
theorem dX6_init_14 : decode cX6_init 14 = .ok (.newarray .int, 2) := by decide +kernel
theorem dX6_init_16 : decode cX6_init 16 = .ok (.putfield 15, 3) := by decide +kernel
theorem dX6_init_19 : decode cX6_init 19 = .ok (.aload_n 0, 1) := by decide +kernel
theorem dX6_init_20 : decode cX6_init 20 = .ok (.iconst 5, 1) := by decide +kernel
theorem dX6_init_21 : decode cX6_init 21 = .ok (.newarray .int, 2) := by decide +kernel
theorem dX6_init_23 : decode cX6_init 23 = .ok (.putfield 18, 3) := by decide +kernel
theorem dX6_init_26 : decode cX6_init 26 = .ok (.aload_n 0, 1) := by decide +kernel
theorem dX6_init_27 : decode cX6_init 27 = .ok (.iconst 5, 1) := by decide +kernel
theorem dX6_init_28 : decode cX6_init 28 = .ok (.newarray .int, 2) := by decide +kernel
theorem dX6_init_30 : decode cX6_init 30 = .ok (.putfield 21, 3) := by decide +kernel
theorem dX6_init_33 : decode cX6_init 33 = .ok (.aload_n 0, 1) := by decide +kernel
theorem dX6_init_34 : decode cX6_init 34 = .ok (.iconst 5, 1) := by decide +kernel
theorem dX6_init_35 : decode cX6_init 35 = .ok (.newarray .int, 2) := by decide +kernel
theorem dX6_init_37 : decode cX6_init 37 = .ok (.putfield 24, 3) := by decide +kernel
theorem dX6_init_40 : decode cX6_init 40 = .ok (.aload_n 0, 1) := by decide +kernel
theorem dX6_init_41 : decode cX6_init 41 = .ok (.bipush 6, 2) := by decide +kernel
theorem dX6_init_43 : decode cX6_init 43 = .ok (.newarray .int, 2) := by decide +kernel
theorem dX6_init_45 : decode cX6_init 45 = .ok (.putfield 27, 3) := by decide +kernel
theorem dX6_init_48 : decode cX6_init 48 = .ok (.aload_n 0, 1) := by decide +kernel
theorem dX6_init_49 : decode cX6_init 49 = .ok (.bipush 20, 2) := by decide +kernel
theorem dX6_init_51 : decode cX6_init 51 = .ok (.newarray .int, 2) := by decide +kernel
theorem dX6_init_53 : decode cX6_init 53 = .ok (.putfield 30, 3) := by decide +kernel
theorem dX6_init_56 : decode cX6_init 56 = .ok (.aload_n 0, 1) := by decide +kernel
theorem dX6_init_57 : decode cX6_init 57 = .ok (.bipush 20, 2) := by decide +kernel
theorem dX6_init_59 : decode cX6_init 59 = .ok (.newarray .int, 2) := by decide +kernel
theorem dX6_init_61 : decode cX6_init 61 = .ok (.putfield 33, 3) := by decide +kernel
theorem dX6_init_64 : decode cX6_init 64 = .ok (.return_, 1) := by decide +kernel
theorem dX6_clear_0 : decode cX6_clear 0 = .ok (.aload_n 0, 1) := by decide +kernel
theorem dX6_clear_1 : decode cX6_clear 1 = .ok (.getfield 9, 3) := by decide +kernel
theorem dX6_clear_4 : decode cX6_clear 4 = .ok (.iconst 0, 1) := by decide +kernel
theorem dX6_clear_5 : decode cX6_clear 5 = .ok (.invokestatic 36, 3) := by decide +kernel
theorem dX6_clear_8 : decode cX6_clear 8 = .ok (.aload_n 0, 1) := by decide +kernel
theorem dX6_clear_9 : decode cX6_clear 9 = .ok (.getfield 9, 3) := by decide +kernel
theorem dX6_clear_12 : decode cX6_clear 12 = .ok (.iconst 0, 1) := by decide +kernel
theorem dX6_clear_13 : decode cX6_clear 13 = .ok (.iconst 1, 1) := by decide +kernel
theorem dX6_clear_14 : decode cX6_clear 14 = .ok (.iastore, 1) := by decide +kernel
theorem dX6_clear_15 : decode cX6_clear 15 = .ok (.aload_n 0, 1) := by decide +kernel
theorem dX6_clear_16 : decode cX6_clear 16 = .ok (.iconst 0, 1) := by decide +kernel
theorem dX6_clear_17 : decode cX6_clear 17 = .ok (.putfield 42, 3) := by decide +kernel
theorem dX6_clear_20 : decode cX6_clear 20 = .ok (.aload_n 0, 1) := by decide +kernel
theorem dX6_clear_21 : decode cX6_clear 21 = .ok (.getfield 24, 3) := by decide +kernel
theorem dX6_clear_24 : decode cX6_clear 24 = .ok (.iconst (-1), 1) := by decide +kernel
theorem dX6_clear_25 : decode cX6_clear 25 = .ok (.invokestatic 36, 3) := by decide +kernel
theorem dX6_clear_28 : decode cX6_clear 28 = .ok (.aload_n 0, 1) := by decide +kernel
theorem dX6_clear_29 : decode cX6_clear 29 = .ok (.iconst 0, 1) := by decide +kernel
theorem dX6_clear_30 : decode cX6_clear 30 = .ok (.putfield 46, 3) := by decide +kernel
theorem dX6_clear_33 : decode cX6_clear 33 = .ok (.aload_n 0, 1) := by decide +kernel
theorem dX6_clear_34 : decode cX6_clear 34 = .ok (.lconst 0, 1) := by decide +kernel
theorem dX6_clear_35 : decode cX6_clear 35 = .ok (.putfield 49, 3) := by decide +kernel
theorem dX6_clear_38 : decode cX6_clear 38 = .ok (.aload_n 0, 1) := by decide +kernel
theorem dX6_clear_39 : decode cX6_clear 39 = .ok (.iconst 0, 1) := by decide +kernel
theorem dX6_clear_40 : decode cX6_clear 40 = .ok (.putfield 53, 3) := by decide +kernel
theorem dX6_clear_43 : decode cX6_clear 43 = .ok (.return_, 1) := by decide +kernel
theorem dX6_hasCompartment_0 : decode cX6_hasCompartment 0 = .ok (.iload_n 1, 1) := by decide +kernel
theorem dX6_hasCompartment_1 : decode cX6_hasCompartment 1 = .ok (.ifCond .lt 15, 3) := by decide +kernel
theorem dX6_hasCompartment_4 : decode cX6_hasCompartment 4 = .ok (.iload_n 1, 1) := by decide +kernel
theorem dX6_hasCompartment_5 : decode cX6_hasCompartment 5 = .ok (.aload_n 0, 1) := by decide +kernel
theorem dX6_hasCompartment_6 : decode cX6_hasCompartment 6 = .ok (.getfield 42, 3) := by decide +kernel
theorem dX6_hasCompartment_9 : decode cX6_hasCompartment 9 = .ok (.if_icmp .ge 7, 3) := by decide +kernel
theorem dX6_hasCompartment_12 : decode cX6_hasCompartment 12 = .ok (.iconst 1, 1) := by decide +kernel
theorem dX6_hasCompartment_13 : decode cX6_hasCompartment 13 = .ok (.goto 4, 3) := by decide +kernel
theorem dX6_hasCompartment_16 : decode cX6_hasCompartment 16 = .ok (.iconst 0, 1) := by decide +kernel
theorem dX6_hasCompartment_17 : decode cX6_hasCompartment 17 = .ok (.ireturn, 1) := by decide +kernel
theorem dX6_hasLiquid_0 : decode cX6_hasLiquid 0 = .ok (.iload_n 1, 1) := by decide +kernel
theorem dX6_hasLiquid_1 : decode cX6_hasLiquid 1 = .ok (.ifCond .lt 15, 3) := by decide +kernel
theorem dX6_hasLiquid_4 : decode cX6_hasLiquid 4 = .ok (.iload_n 1, 1) := by decide +kernel
theorem dX6_hasLiquid_5 : decode cX6_hasLiquid 5 = .ok (.aload_n 0, 1) := by decide +kernel
theorem dX6_hasLiquid_6 : decode cX6_hasLiquid 6 = .ok (.getfield 46, 3) := by decide +kernel
theorem dX6_hasLiquid_9 : decode cX6_hasLiquid 9 = .ok (.if_icmp .ge 7, 3) := by decide +kernel
theorem dX6_hasLiquid_12 : decode cX6_hasLiquid 12 = .ok (.iconst 1, 1) := by decide +kernel
theorem dX6_hasLiquid_13 : decode cX6_hasLiquid 13 = .ok (.goto 4, 3) := by decide +kernel
theorem dX6_hasLiquid_16 : decode cX6_hasLiquid 16 = .ok (.iconst 0, 1) := by decide +kernel
theorem dX6_hasLiquid_17 : decode cX6_hasLiquid 17 = .ok (.ireturn, 1) := by decide +kernel
theorem dX6_top_0 : decode cX6_top 0 = .ok (.aload_n 0, 1) := by decide +kernel
theorem dX6_top_1 : decode cX6_top 1 = .ok (.getfield 15, 3) := by decide +kernel
theorem dX6_top_4 : decode cX6_top 4 = .ok (.iload_n 1, 1) := by decide +kernel
theorem dX6_top_5 : decode cX6_top 5 = .ok (.iaload, 1) := by decide +kernel
theorem dX6_top_6 : decode cX6_top 6 = .ok (.aload_n 0, 1) := by decide +kernel
theorem dX6_top_7 : decode cX6_top 7 = .ok (.getfield 9, 3) := by decide +kernel
theorem dX6_top_10 : decode cX6_top 10 = .ok (.bipush 6, 2) := by decide +kernel
theorem dX6_top_12 : decode cX6_top 12 = .ok (.iaload, 1) := by decide +kernel
theorem dX6_top_13 : decode cX6_top 13 = .ok (.imul, 1) := by decide +kernel
theorem dX6_top_14 : decode cX6_top 14 = .ok (.bipush 100, 2) := by decide +kernel
theorem dX6_top_16 : decode cX6_top 16 = .ok (.idiv, 1) := by decide +kernel
theorem dX6_top_17 : decode cX6_top 17 = .ok (.ireturn, 1) := by decide +kernel
theorem dX6_bar_0 : decode cX6_bar 0 = .ok (.aload_n 0, 1) := by decide +kernel
theorem dX6_bar_1 : decode cX6_bar 1 = .ok (.dup, 1) := by decide +kernel
theorem dX6_bar_2 : decode cX6_bar 2 = .ok (.getfield 49, 3) := by decide +kernel
theorem dX6_bar_5 : decode cX6_bar 5 = .ok (.lconst 1, 1) := by decide +kernel
theorem dX6_bar_6 : decode cX6_bar 6 = .ok (.iload_n 1, 1) := by decide +kernel
theorem dX6_bar_7 : decode cX6_bar 7 = .ok (.bipush 6, 2) := by decide +kernel
theorem dX6_bar_9 : decode cX6_bar 9 = .ok (.imul, 1) := by decide +kernel
theorem dX6_bar_10 : decode cX6_bar 10 = .ok (.iload_n 2, 1) := by decide +kernel
theorem dX6_bar_11 : decode cX6_bar 11 = .ok (.iadd, 1) := by decide +kernel
theorem dX6_bar_12 : decode cX6_bar 12 = .ok (.lshl, 1) := by decide +kernel
theorem dX6_bar_13 : decode cX6_bar 13 = .ok (.lor, 1) := by decide +kernel
theorem dX6_bar_14 : decode cX6_bar 14 = .ok (.putfield 49, 3) := by decide +kernel
theorem dX6_bar_17 : decode cX6_bar 17 = .ok (.return_, 1) := by decide +kernel
theorem dX6_isBarred_0 : decode cX6_isBarred 0 = .ok (.iload_n 1, 1) := by decide +kernel
theorem dX6_isBarred_1 : decode cX6_isBarred 1 = .ok (.iconst (-1), 1) := by decide +kernel
theorem dX6_isBarred_2 : decode cX6_isBarred 2 = .ok (.if_icmp .eq 25, 3) := by decide +kernel
theorem dX6_isBarred_5 : decode cX6_isBarred 5 = .ok (.aload_n 0, 1) := by decide +kernel
theorem dX6_isBarred_6 : decode cX6_isBarred 6 = .ok (.getfield 49, 3) := by decide +kernel
theorem dX6_isBarred_9 : decode cX6_isBarred 9 = .ok (.iload_n 1, 1) := by decide +kernel
theorem dX6_isBarred_10 : decode cX6_isBarred 10 = .ok (.bipush 6, 2) := by decide +kernel
theorem dX6_isBarred_12 : decode cX6_isBarred 12 = .ok (.imul, 1) := by decide +kernel
theorem dX6_isBarred_13 : decode cX6_isBarred 13 = .ok (.iload_n 2, 1) := by decide +kernel
theorem dX6_isBarred_14 : decode cX6_isBarred 14 = .ok (.iadd, 1) := by decide +kernel
theorem dX6_isBarred_15 : decode cX6_isBarred 15 = .ok (.lshr, 1) := by decide +kernel
theorem dX6_isBarred_16 : decode cX6_isBarred 16 = .ok (.lconst 1, 1) := by decide +kernel
theorem dX6_isBarred_17 : decode cX6_isBarred 17 = .ok (.land, 1) := by decide +kernel
theorem dX6_isBarred_18 : decode cX6_isBarred 18 = .ok (.lconst 0, 1) := by decide +kernel
theorem dX6_isBarred_19 : decode cX6_isBarred 19 = .ok (.lcmp, 1) := by decide +kernel
theorem dX6_isBarred_20 : decode cX6_isBarred 20 = .ok (.ifCond .eq 7, 3) := by decide +kernel
theorem dX6_isBarred_23 : decode cX6_isBarred 23 = .ok (.iconst 1, 1) := by decide +kernel
theorem dX6_isBarred_24 : decode cX6_isBarred 24 = .ok (.goto 4, 3) := by decide +kernel
theorem dX6_isBarred_27 : decode cX6_isBarred 27 = .ok (.iconst 0, 1) := by decide +kernel
theorem dX6_isBarred_28 : decode cX6_isBarred 28 = .ok (.ireturn, 1) := by decide +kernel
theorem dX7_init_0 : decode cX7_init 0 = .ok (.aload_n 0, 1) := by decide +kernel
theorem dX7_init_1 : decode cX7_init 1 = .ok (.invokespecial 3, 3) := by decide +kernel
theorem dX7_init_4 : decode cX7_init 4 = .ok (.aload_n 0, 1) := by decide +kernel
theorem dX7_init_5 : decode cX7_init 5 = .ok (.sipush 740, 3) := by decide +kernel
theorem dX7_init_8 : decode cX7_init 8 = .ok (.newarray .byte, 2) := by decide +kernel
theorem dX7_init_10 : decode cX7_init 10 = .ok (.putfield 9, 3) := by decide +kernel
theorem dX7_init_13 : decode cX7_init 13 = .ok (.aload_n 0, 1) := by decide +kernel
theorem dX7_init_14 : decode cX7_init 14 = .ok (.iconst 0, 1) := by decide +kernel
theorem dX7_init_15 : decode cX7_init 15 = .ok (.putfield 13, 3) := by decide +kernel
theorem dX7_init_18 : decode cX7_init 18 = .ok (.aload_n 0, 1) := by decide +kernel
theorem dX7_init_19 : decode cX7_init 19 = .ok (.iconst 0, 1) := by decide +kernel
theorem dX7_init_20 : decode cX7_init 20 = .ok (.putfield 17, 3) := by decide +kernel
theorem dX7_init_23 : decode cX7_init 23 = .ok (.aload_n 0, 1) := by decide +kernel
theorem dX7_init_24 : decode cX7_init 24 = .ok (.new 20, 3) := by decide +kernel
theorem dX7_init_27 : decode cX7_init 27 = .ok (.dup, 1) := by decide +kernel
theorem dX7_init_28 : decode cX7_init 28 = .ok (.invokespecial 22, 3) := by decide +kernel
theorem dX7_init_31 : decode cX7_init 31 = .ok (.putfield 23, 3) := by decide +kernel
theorem dX7_init_34 : decode cX7_init 34 = .ok (.aload_n 0, 1) := by decide +kernel
theorem dX7_init_35 : decode cX7_init 35 = .ok (.new 27, 3) := by decide +kernel
theorem dX7_init_38 : decode cX7_init 38 = .ok (.dup, 1) := by decide +kernel
theorem dX7_init_39 : decode cX7_init 39 = .ok (.invokespecial 29, 3) := by decide +kernel
theorem dX7_init_42 : decode cX7_init 42 = .ok (.putfield 30, 3) := by decide +kernel
theorem dX7_init_45 : decode cX7_init 45 = .ok (.aload_n 0, 1) := by decide +kernel
theorem dX7_init_46 : decode cX7_init 46 = .ok (.new 27, 3) := by decide +kernel
theorem dX7_init_49 : decode cX7_init 49 = .ok (.dup, 1) := by decide +kernel
theorem dX7_init_50 : decode cX7_init 50 = .ok (.invokespecial 29, 3) := by decide +kernel
theorem dX7_init_53 : decode cX7_init 53 = .ok (.putfield 34, 3) := by decide +kernel
theorem dX7_init_56 : decode cX7_init 56 = .ok (.aload_n 0, 1) := by decide +kernel
theorem dX7_init_57 : decode cX7_init 57 = .ok (.new 37, 3) := by decide +kernel
theorem dX7_init_60 : decode cX7_init 60 = .ok (.dup, 1) := by decide +kernel
theorem dX7_init_61 : decode cX7_init 61 = .ok (.invokespecial 39, 3) := by decide +kernel
theorem dX7_init_64 : decode cX7_init 64 = .ok (.putfield 40, 3) := by decide +kernel
theorem dX7_init_67 : decode cX7_init 67 = .ok (.aload_n 0, 1) := by decide +kernel
theorem dX7_init_68 : decode cX7_init 68 = .ok (.new 44, 3) := by decide +kernel
theorem dX7_init_71 : decode cX7_init 71 = .ok (.dup, 1) := by decide +kernel
theorem dX7_init_72 : decode cX7_init 72 = .ok (.invokespecial 46, 3) := by decide +kernel
theorem dX7_init_75 : decode cX7_init 75 = .ok (.putfield 47, 3) := by decide +kernel
theorem dX7_init_78 : decode cX7_init 78 = .ok (.aload_n 0, 1) := by decide +kernel
theorem dX7_init_79 : decode cX7_init 79 = .ok (.new 51, 3) := by decide +kernel
theorem dX7_init_82 : decode cX7_init 82 = .ok (.dup, 1) := by decide +kernel
theorem dX7_init_83 : decode cX7_init 83 = .ok (.invokespecial 53, 3) := by decide +kernel
theorem dX7_init_86 : decode cX7_init 86 = .ok (.putfield 54, 3) := by decide +kernel
theorem dX7_init_89 : decode cX7_init 89 = .ok (.aload_n 0, 1) := by decide +kernel
theorem dX7_init_90 : decode cX7_init 90 = .ok (.new 58, 3) := by decide +kernel
theorem dX7_init_93 : decode cX7_init 93 = .ok (.dup, 1) := by decide +kernel
theorem dX7_init_94 : decode cX7_init 94 = .ok (.invokespecial 60, 3) := by decide +kernel
theorem dX7_init_97 : decode cX7_init 97 = .ok (.putfield 61, 3) := by decide +kernel
theorem dX7_init_100 : decode cX7_init 100 = .ok (.aload_n 0, 1) := by decide +kernel
theorem dX7_init_101 : decode cX7_init 101 = .ok (.new 65, 3) := by decide +kernel
theorem dX7_init_104 : decode cX7_init 104 = .ok (.dup, 1) := by decide +kernel
theorem dX7_init_105 : decode cX7_init 105 = .ok (.invokespecial 67, 3) := by decide +kernel
theorem dX7_init_108 : decode cX7_init 108 = .ok (.putfield 68, 3) := by decide +kernel
theorem dX7_init_111 : decode cX7_init 111 = .ok (.aload_n 0, 1) := by decide +kernel
theorem dX7_init_112 : decode cX7_init 112 = .ok (.getfield 30, 3) := by decide +kernel
theorem dX7_init_115 : decode cX7_init 115 = .ok (.invokevirtual 72, 3) := by decide +kernel
theorem dX7_init_118 : decode cX7_init 118 = .ok (.aload_n 0, 1) := by decide +kernel
theorem dX7_init_119 : decode cX7_init 119 = .ok (.getfield 40, 3) := by decide +kernel
theorem dX7_init_122 : decode cX7_init 122 = .ok (.aload_n 0, 1) := by decide +kernel
theorem dX7_init_123 : decode cX7_init 123 = .ok (.getfield 30, 3) := by decide +kernel
theorem dX7_init_126 : decode cX7_init 126 = .ok (.invokevirtual 75, 3) := by decide +kernel
theorem dX7_init_129 : decode cX7_init 129 = .ok (.return_, 1) := by decide +kernel
theorem dX7_feed_0 : decode cX7_feed 0 = .ok (.aload_n 0, 1) := by decide +kernel
theorem dX7_feed_1 : decode cX7_feed 1 = .ok (.getfield 13, 3) := by decide +kernel
theorem dX7_feed_4 : decode cX7_feed 4 = .ok (.bipush 20, 2) := by decide +kernel
theorem dX7_feed_6 : decode cX7_feed 6 = .ok (.iadd, 1) := by decide +kernel
theorem dX7_feed_7 : decode cX7_feed 7 = .ok (.sipush 740, 3) := by decide +kernel
theorem dX7_feed_10 : decode cX7_feed 10 = .ok (.if_icmp .le 5, 3) := by decide +kernel
theorem dX7_feed_13 : decode cX7_feed 13 = .ok (.iconst (-1), 1) := by decide +kernel
theorem dX7_feed_14 : decode cX7_feed 14 = .ok (.ireturn, 1) := by decide +kernel
theorem dX7_feed_15 : decode cX7_feed 15 = .ok (.aload_n 0, 1) := by decide +kernel
theorem dX7_feed_16 : decode cX7_feed 16 = .ok (.iload_n 1, 1) := by decide +kernel
theorem dX7_feed_17 : decode cX7_feed 17 = .ok (.invokevirtual 79, 3) := by decide +kernel
theorem dX7_feed_20 : decode cX7_feed 20 = .ok (.aload_n 0, 1) := by decide +kernel
theorem dX7_feed_21 : decode cX7_feed 21 = .ok (.iload_n 2, 1) := by decide +kernel
theorem dX7_feed_22 : decode cX7_feed 22 = .ok (.invokevirtual 79, 3) := by decide +kernel
theorem dX7_feed_25 : decode cX7_feed 25 = .ok (.aload_n 0, 1) := by decide +kernel
theorem dX7_feed_26 : decode cX7_feed 26 = .ok (.iload_n 3, 1) := by decide +kernel
theorem dX7_feed_27 : decode cX7_feed 27 = .ok (.invokevirtual 79, 3) := by decide +kernel
theorem dX7_feed_30 : decode cX7_feed 30 = .ok (.aload_n 0, 1) := by decide +kernel
theorem dX7_feed_31 : decode cX7_feed 31 = .ok (.iload 4, 2) := by decide +kernel
theorem dX7_feed_33 : decode cX7_feed 33 = .ok (.invokevirtual 79, 3) := by decide +kernel
theorem dX7_feed_36 : decode cX7_feed 36 = .ok (.aload_n 0, 1) := by decide +kernel
theorem dX7_feed_37 : decode cX7_feed 37 = .ok (.iload 5, 2) := by decide +kernel
theorem dX7_feed_39 : decode cX7_feed 39 = .ok (.invokevirtual 79, 3) := by decide +kernel
theorem dX7_feed_42 : decode cX7_feed 42 = .ok (.aload_n 0, 1) := by decide +kernel
theorem dX7_feed_43 : decode cX7_feed 43 = .ok (.getfield 13, 3) := by decide +kernel
theorem dX7_feed_46 : decode cX7_feed 46 = .ok (.ireturn, 1) := by decide +kernel
theorem dX7_end_0 : decode cX7_end 0 = .ok (.iload_n 1, 1) := by decide +kernel
theorem dX7_end_1 : decode cX7_end 1 = .ok (.ifCond .lt 11, 3) := by decide +kernel
theorem dX7_end_4 : decode cX7_end 4 = .ok (.iload_n 1, 1) := by decide +kernel
theorem dX7_end_5 : decode cX7_end 5 = .ok (.aload_n 0, 1) := by decide +kernel
theorem dX7_end_6 : decode cX7_end 6 = .ok (.getfield 13, 3) := by decide +kernel
theorem dX7_end_9 : decode cX7_end 9 = .ok (.if_icmp .le 5, 3) := by decide +kernel
theorem dX7_end_12 : decode cX7_end 12 = .ok (.iconst 0, 1) := by decide +kernel
theorem dX7_end_13 : decode cX7_end 13 = .ok (.ireturn, 1) := by decide +kernel
theorem dX7_end_14 : decode cX7_end 14 = .ok (.aload_n 0, 1) := by decide +kernel
theorem dX7_end_15 : decode cX7_end 15 = .ok (.iload_n 1, 1) := by decide +kernel
theorem dX7_end_16 : decode cX7_end 16 = .ok (.putfield 13, 3) := by decide +kernel
theorem dX7_end_19 : decode cX7_end 19 = .ok (.iconst 1, 1) := by decide +kernel
theorem dX7_end_20 : decode cX7_end 20 = .ok (.ireturn, 1) := by decide +kernel
theorem dX7_text_0 : decode cX7_text 0 = .ok (.aload_n 0, 1) := by decide +kernel
theorem dX7_text_1 : decode cX7_text 1 = .ok (.getfield 23, 3) := by decide +kernel
theorem dX7_text_4 : decode cX7_text 4 = .ok (.aload_n 0, 1) := by decide +kernel
theorem dX7_text_5 : decode cX7_text 5 = .ok (.getfield 9, 3) := by decide +kernel
theorem dX7_text_8 : decode cX7_text 8 = .ok (.aload_n 0, 1) := by decide +kernel
theorem dX7_text_9 : decode cX7_text 9 = .ok (.getfield 13, 3) := by decide +kernel
theorem dX7_text_12 : decode cX7_text 12 = .ok (.aload_n 0, 1) := by decide +kernel
theorem dX7_text_13 : decode cX7_text 13 = .ok (.getfield 34, 3) := by decide +kernel
theorem dX7_text_16 : decode cX7_text 16 = .ok (.invokevirtual 83, 3) := by decide +kernel
theorem dX7_text_19 : decode cX7_text 19 = .ok (.istore_n 1, 1) := by decide +kernel
theorem dX7_text_20 : decode cX7_text 20 = .ok (.aload_n 0, 1) := by decide +kernel
theorem dX7_text_21 : decode cX7_text 21 = .ok (.iconst 0, 1) := by decide +kernel
theorem dX7_text_22 : decode cX7_text 22 = .ok (.putfield 13, 3) := by decide +kernel
theorem dX7_text_25 : decode cX7_text 25 = .ok (.aload_n 0, 1) := by decide +kernel
theorem dX7_text_26 : decode cX7_text 26 = .ok (.iload_n 1, 1) := by decide +kernel
theorem dX7_text_27 : decode cX7_text 27 = .ok (.ifCond .eq 7, 3) := by decide +kernel
theorem dX7_text_30 : decode cX7_text 30 = .ok (.iconst 0, 1) := by decide +kernel
theorem dX7_text_31 : decode cX7_text 31 = .ok (.goto 10, 3) := by decide +kernel
theorem dX7_text_34 : decode cX7_text 34 = .ok (.aload_n 0, 1) := by decide +kernel
theorem dX7_text_35 : decode cX7_text 35 = .ok (.getfield 23, 3) := by decide +kernel
theorem dX7_text_38 : decode cX7_text 38 = .ok (.getfield 87, 3) := by decide +kernel
theorem dX7_text_41 : decode cX7_text 41 = .ok (.putfield 17, 3) := by decide +kernel
theorem dX7_text_44 : decode cX7_text 44 = .ok (.iload_n 1, 1) := by decide +kernel
theorem dX7_text_45 : decode cX7_text 45 = .ok (.ifCond .ne 13, 3) := by decide +kernel
theorem dX7_text_48 : decode cX7_text 48 = .ok (.iconst (-1), 1) := by decide +kernel
theorem dX7_text_49 : decode cX7_text 49 = .ok (.aload_n 0, 1) := by decide +kernel
theorem dX7_text_50 : decode cX7_text 50 = .ok (.getfield 23, 3) := by decide +kernel
theorem dX7_text_53 : decode cX7_text 53 = .ok (.getfield 90, 3) := by decide +kernel
theorem dX7_text_56 : decode cX7_text 56 = .ok (.isub, 1) := by decide +kernel
theorem dX7_text_57 : decode cX7_text 57 = .ok (.ireturn, 1) := by decide +kernel
theorem dX7_text_58 : decode cX7_text 58 = .ok (.aload_n 0, 1) := by decide +kernel
theorem dX7_text_59 : decode cX7_text 59 = .ok (.getfield 30, 3) := by decide +kernel
theorem dX7_text_62 : decode cX7_text 62 = .ok (.astore_n 2, 1) := by decide +kernel
theorem dX7_text_63 : decode cX7_text 63 = .ok (.aload_n 0, 1) := by decide +kernel
theorem dX7_text_64 : decode cX7_text 64 = .ok (.aload_n 0, 1) := by decide +kernel
theorem dX7_text_65 : decode cX7_text 65 = .ok (.getfield 34, 3) := by decide +kernel
theorem dX7_text_68 : decode cX7_text 68 = .ok (.putfield 30, 3) := by decide +kernel
theorem dX7_text_71 : decode cX7_text 71 = .ok (.aload_n 0, 1) := by decide +kernel
theorem dX7_text_72 : decode cX7_text 72 = .ok (.aload_n 2, 1) := by decide +kernel
theorem dX7_text_73 : decode cX7_text 73 = .ok (.putfield 34, 3) := by decide +kernel
theorem dX7_text_76 : decode cX7_text 76 = .ok (.aload_n 0, 1) := by decide +kernel
theorem dX7_text_77 : decode cX7_text 77 = .ok (.getfield 40, 3) := by decide +kernel
theorem dX7_text_80 : decode cX7_text 80 = .ok (.aload_n 0, 1) := by decide +kernel
theorem dX7_text_81 : decode cX7_text 81 = .ok (.getfield 30, 3) := by decide +kernel
theorem dX7_text_84 : decode cX7_text 84 = .ok (.invokevirtual 75, 3) := by decide +kernel
theorem dX7_text_87 : decode cX7_text 87 = .ok (.aload_n 0, 1) := by decide +kernel
theorem dX7_text_88 : decode cX7_text 88 = .ok (.getfield 47, 3) := by decide +kernel
theorem dX7_text_91 : decode cX7_text 91 = .ok (.invokevirtual 93, 3) := by decide +kernel
theorem dX7_text_94 : decode cX7_text 94 = .ok (.aload_n 0, 1) := by decide +kernel
theorem dX7_text_95 : decode cX7_text 95 = .ok (.getfield 23, 3) := by decide +kernel
theorem dX7_text_98 : decode cX7_text 98 = .ok (.getfield 96, 3) := by decide +kernel
theorem dX7_text_101 : decode cX7_text 101 = .ok (.ireturn, 1) := by decide +kernel
theorem dX7_fault_0 : decode cX7_fault 0 = .ok (.aload_n 0, 1) := by decide +kernel
theorem dX7_fault_1 : decode cX7_fault 1 = .ok (.getfield 17, 3) := by decide +kernel
theorem dX7_fault_4 : decode cX7_fault 4 = .ok (.ireturn, 1) := by decide +kernel
theorem dX7_now_0 : decode cX7_now 0 = .ok (.iload_n 1, 1) := by decide +kernel
theorem dX7_now_1 : decode cX7_now 1 = .ok (.tableswitch 159 0 9 #[55, 63, 71, 79, 90, 106, 122, 138, 146, 154], 55) := by decide +kernel
theorem dX7_now_56 : decode cX7_now 56 = .ok (.aload_n 0, 1) := by decide +kernel
theorem dX7_now_57 : decode cX7_now 57 = .ok (.getfield 30, 3) := by decide +kernel
theorem dX7_now_60 : decode cX7_now 60 = .ok (.getfield 99, 3) := by decide +kernel
theorem dX7_now_63 : decode cX7_now 63 = .ok (.ireturn, 1) := by decide +kernel
theorem dX7_now_64 : decode cX7_now 64 = .ok (.aload_n 0, 1) := by decide +kernel
theorem dX7_now_65 : decode cX7_now 65 = .ok (.getfield 30, 3) := by decide +kernel
theorem dX7_now_68 : decode cX7_now 68 = .ok (.getfield 102, 3) := by decide +kernel
theorem dX7_now_71 : decode cX7_now 71 = .ok (.ireturn, 1) := by decide +kernel
theorem dX7_now_72 : decode cX7_now 72 = .ok (.aload_n 0, 1) := by decide +kernel
theorem dX7_now_73 : decode cX7_now 73 = .ok (.getfield 40, 3) := by decide +kernel
theorem dX7_now_76 : decode cX7_now 76 = .ok (.getfield 105, 3) := by decide +kernel
theorem dX7_now_79 : decode cX7_now 79 = .ok (.ireturn, 1) := by decide +kernel
theorem dX7_now_80 : decode cX7_now 80 = .ok (.aload_n 0, 1) := by decide +kernel
theorem dX7_now_81 : decode cX7_now 81 = .ok (.getfield 30, 3) := by decide +kernel
theorem dX7_now_84 : decode cX7_now 84 = .ok (.getfield 108, 3) := by decide +kernel
theorem dX7_now_87 : decode cX7_now 87 = .ok (.invokestatic 112, 3) := by decide +kernel
theorem dX7_now_90 : decode cX7_now 90 = .ok (.ireturn, 1) := by decide +kernel
theorem dX7_now_91 : decode cX7_now 91 = .ok (.aload_n 0, 1) := by decide +kernel
theorem dX7_now_92 : decode cX7_now 92 = .ok (.getfield 40, 3) := by decide +kernel
theorem dX7_now_95 : decode cX7_now 95 = .ok (.getfield 118, 3) := by decide +kernel
theorem dX7_now_98 : decode cX7_now 98 = .ok (.aload_n 0, 1) := by decide +kernel
theorem dX7_now_99 : decode cX7_now 99 = .ok (.getfield 30, 3) := by decide +kernel
theorem dX7_now_102 : decode cX7_now 102 = .ok (.iconst 0, 1) := by decide +kernel
theorem dX7_now_103 : decode cX7_now 103 = .ok (.invokevirtual 121, 3) := by decide +kernel
theorem dX7_now_106 : decode cX7_now 106 = .ok (.ireturn, 1) := by decide +kernel
theorem dX7_now_107 : decode cX7_now 107 = .ok (.aload_n 0, 1) := by decide +kernel
theorem dX7_now_108 : decode cX7_now 108 = .ok (.getfield 40, 3) := by decide +kernel
theorem dX7_now_111 : decode cX7_now 111 = .ok (.getfield 118, 3) := by decide +kernel
theorem dX7_now_114 : decode cX7_now 114 = .ok (.aload_n 0, 1) := by decide +kernel
theorem dX7_now_115 : decode cX7_now 115 = .ok (.getfield 30, 3) := by decide +kernel
theorem dX7_now_118 : decode cX7_now 118 = .ok (.iconst 0, 1) := by decide +kernel
theorem dX7_now_119 : decode cX7_now 119 = .ok (.invokevirtual 125, 3) := by decide +kernel
theorem dX7_now_122 : decode cX7_now 122 = .ok (.ireturn, 1) := by decide +kernel
theorem dX7_now_123 : decode cX7_now 123 = .ok (.aload_n 0, 1) := by decide +kernel
theorem dX7_now_124 : decode cX7_now 124 = .ok (.getfield 40, 3) := by decide +kernel
theorem dX7_now_127 : decode cX7_now 127 = .ok (.getfield 118, 3) := by decide +kernel
theorem dX7_now_130 : decode cX7_now 130 = .ok (.aload_n 0, 1) := by decide +kernel
theorem dX7_now_131 : decode cX7_now 131 = .ok (.getfield 30, 3) := by decide +kernel
theorem dX7_now_134 : decode cX7_now 134 = .ok (.iconst 0, 1) := by decide +kernel
theorem dX7_now_135 : decode cX7_now 135 = .ok (.invokevirtual 128, 3) := by decide +kernel
theorem dX7_now_138 : decode cX7_now 138 = .ok (.ireturn, 1) := by decide +kernel
theorem dX7_now_139 : decode cX7_now 139 = .ok (.aload_n 0, 1) := by decide +kernel
theorem dX7_now_140 : decode cX7_now 140 = .ok (.getfield 40, 3) := by decide +kernel
theorem dX7_now_143 : decode cX7_now 143 = .ok (.getfield 131, 3) := by decide +kernel
theorem dX7_now_146 : decode cX7_now 146 = .ok (.ireturn, 1) := by decide +kernel
theorem dX7_now_147 : decode cX7_now 147 = .ok (.aload_n 0, 1) := by decide +kernel
theorem dX7_now_148 : decode cX7_now 148 = .ok (.getfield 47, 3) := by decide +kernel
theorem dX7_now_151 : decode cX7_now 151 = .ok (.getfield 134, 3) := by decide +kernel
theorem dX7_now_154 : decode cX7_now 154 = .ok (.ireturn, 1) := by decide +kernel
theorem dX7_now_155 : decode cX7_now 155 = .ok (.aload_n 0, 1) := by decide +kernel
theorem dX7_now_156 : decode cX7_now 156 = .ok (.getfield 13, 3) := by decide +kernel
theorem dX7_now_159 : decode cX7_now 159 = .ok (.ireturn, 1) := by decide +kernel
theorem dX7_now_160 : decode cX7_now 160 = .ok (.ldc 137, 2) := by decide +kernel
theorem dX7_now_162 : decode cX7_now 162 = .ok (.ireturn, 1) := by decide +kernel
theorem dX7_compartment_0 : decode cX7_compartment 0 = .ok (.aload_n 0, 1) := by decide +kernel
theorem dX7_compartment_1 : decode cX7_compartment 1 = .ok (.getfield 30, 3) := by decide +kernel
theorem dX7_compartment_4 : decode cX7_compartment 4 = .ok (.iload_n 1, 1) := by decide +kernel
theorem dX7_compartment_5 : decode cX7_compartment 5 = .ok (.invokevirtual 138, 3) := by decide +kernel
theorem dX7_compartment_8 : decode cX7_compartment 8 = .ok (.ifCond .ne 5, 3) := by decide +kernel
theorem dX7_compartment_11 : decode cX7_compartment 11 = .ok (.iconst (-1), 1) := by decide +kernel
theorem dX7_compartment_12 : decode cX7_compartment 12 = .ok (.ireturn, 1) := by decide +kernel
theorem dX7_compartment_13 : decode cX7_compartment 13 = .ok (.iload_n 2, 1) := by decide +kernel
theorem dX7_compartment_14 : decode cX7_compartment 14 = .ok (.tableswitch 120 0 6 #[42, 52, 62, 72, 81, 94, 107], 42) := by decide +kernel
theorem dX7_compartment_56 : decode cX7_compartment 56 = .ok (.aload_n 0, 1) := by decide +kernel
theorem dX7_compartment_57 : decode cX7_compartment 57 = .ok (.getfield 30, 3) := by decide +kernel
theorem dX7_compartment_60 : decode cX7_compartment 60 = .ok (.getfield 142, 3) := by decide +kernel
theorem dX7_compartment_63 : decode cX7_compartment 63 = .ok (.iload_n 1, 1) := by decide +kernel
theorem dX7_compartment_64 : decode cX7_compartment 64 = .ok (.iaload, 1) := by decide +kernel
theorem dX7_compartment_65 : decode cX7_compartment 65 = .ok (.ireturn, 1) := by decide +kernel
theorem dX7_compartment_66 : decode cX7_compartment 66 = .ok (.aload_n 0, 1) := by decide +kernel
theorem dX7_compartment_67 : decode cX7_compartment 67 = .ok (.getfield 30, 3) := by decide +kernel
theorem dX7_compartment_70 : decode cX7_compartment 70 = .ok (.getfield 146, 3) := by decide +kernel
theorem dX7_compartment_73 : decode cX7_compartment 73 = .ok (.iload_n 1, 1) := by decide +kernel
theorem dX7_compartment_74 : decode cX7_compartment 74 = .ok (.iaload, 1) := by decide +kernel
theorem dX7_compartment_75 : decode cX7_compartment 75 = .ok (.ireturn, 1) := by decide +kernel
theorem dX7_compartment_76 : decode cX7_compartment 76 = .ok (.aload_n 0, 1) := by decide +kernel
theorem dX7_compartment_77 : decode cX7_compartment 77 = .ok (.getfield 30, 3) := by decide +kernel
theorem dX7_compartment_80 : decode cX7_compartment 80 = .ok (.getfield 149, 3) := by decide +kernel
theorem dX7_compartment_83 : decode cX7_compartment 83 = .ok (.iload_n 1, 1) := by decide +kernel
theorem dX7_compartment_84 : decode cX7_compartment 84 = .ok (.iaload, 1) := by decide +kernel
theorem dX7_compartment_85 : decode cX7_compartment 85 = .ok (.ireturn, 1) := by decide +kernel
theorem dX7_compartment_86 : decode cX7_compartment 86 = .ok (.aload_n 0, 1) := by decide +kernel
theorem dX7_compartment_87 : decode cX7_compartment 87 = .ok (.getfield 30, 3) := by decide +kernel
theorem dX7_compartment_90 : decode cX7_compartment 90 = .ok (.iload_n 1, 1) := by decide +kernel
theorem dX7_compartment_91 : decode cX7_compartment 91 = .ok (.invokevirtual 152, 3) := by decide +kernel
theorem dX7_compartment_94 : decode cX7_compartment 94 = .ok (.ireturn, 1) := by decide +kernel
theorem dX7_compartment_95 : decode cX7_compartment 95 = .ok (.aload_n 0, 1) := by decide +kernel
theorem dX7_compartment_96 : decode cX7_compartment 96 = .ok (.getfield 40, 3) := by decide +kernel
theorem dX7_compartment_99 : decode cX7_compartment 99 = .ok (.getfield 118, 3) := by decide +kernel
theorem dX7_compartment_102 : decode cX7_compartment 102 = .ok (.getfield 156, 3) := by decide +kernel
theorem dX7_compartment_105 : decode cX7_compartment 105 = .ok (.iload_n 1, 1) := by decide +kernel
theorem dX7_compartment_106 : decode cX7_compartment 106 = .ok (.iaload, 1) := by decide +kernel
theorem dX7_compartment_107 : decode cX7_compartment 107 = .ok (.ireturn, 1) := by decide +kernel
theorem dX7_compartment_108 : decode cX7_compartment 108 = .ok (.aload_n 0, 1) := by decide +kernel
theorem dX7_compartment_109 : decode cX7_compartment 109 = .ok (.getfield 40, 3) := by decide +kernel
theorem dX7_compartment_112 : decode cX7_compartment 112 = .ok (.getfield 118, 3) := by decide +kernel
theorem dX7_compartment_115 : decode cX7_compartment 115 = .ok (.getfield 159, 3) := by decide +kernel
theorem dX7_compartment_118 : decode cX7_compartment 118 = .ok (.iload_n 1, 1) := by decide +kernel
theorem dX7_compartment_119 : decode cX7_compartment 119 = .ok (.iaload, 1) := by decide +kernel
theorem dX7_compartment_120 : decode cX7_compartment 120 = .ok (.ireturn, 1) := by decide +kernel
theorem dX7_compartment_121 : decode cX7_compartment 121 = .ok (.aload_n 0, 1) := by decide +kernel
theorem dX7_compartment_122 : decode cX7_compartment 122 = .ok (.getfield 40, 3) := by decide +kernel
theorem dX7_compartment_125 : decode cX7_compartment 125 = .ok (.getfield 118, 3) := by decide +kernel
theorem dX7_compartment_128 : decode cX7_compartment 128 = .ok (.getfield 162, 3) := by decide +kernel
theorem dX7_compartment_131 : decode cX7_compartment 131 = .ok (.iload_n 1, 1) := by decide +kernel
theorem dX7_compartment_132 : decode cX7_compartment 132 = .ok (.iaload, 1) := by decide +kernel
theorem dX7_compartment_133 : decode cX7_compartment 133 = .ok (.ireturn, 1) := by decide +kernel
theorem dX7_compartment_134 : decode cX7_compartment 134 = .ok (.iconst (-1), 1) := by decide +kernel
theorem dX7_compartment_135 : decode cX7_compartment 135 = .ok (.ireturn, 1) := by decide +kernel
theorem dX7_drop_0 : decode cX7_drop 0 = .ok (.aload_n 0, 1) := by decide +kernel
theorem dX7_drop_1 : decode cX7_drop 1 = .ok (.getfield 40, 3) := by decide +kernel
theorem dX7_drop_4 : decode cX7_drop 4 = .ok (.iload_n 1, 1) := by decide +kernel
theorem dX7_drop_5 : decode cX7_drop 5 = .ok (.invokevirtual 165, 3) := by decide +kernel
theorem dX7_drop_8 : decode cX7_drop 8 = .ok (.ifCond .eq 12, 3) := by decide +kernel
theorem dX7_drop_11 : decode cX7_drop 11 = .ok (.iload_n 2, 1) := by decide +kernel
theorem dX7_drop_12 : decode cX7_drop 12 = .ok (.ifCond .lt 8, 3) := by decide +kernel
theorem dX7_drop_15 : decode cX7_drop 15 = .ok (.iload_n 2, 1) := by decide +kernel
theorem dX7_drop_16 : decode cX7_drop 16 = .ok (.iconst 5, 1) := by decide +kernel
theorem dX7_drop_17 : decode cX7_drop 17 = .ok (.if_icmp .le 11, 3) := by decide +kernel
theorem dX7_drop_20 : decode cX7_drop 20 = .ok (.new 168, 3) := by decide +kernel
theorem dX7_drop_23 : decode cX7_drop 23 = .ok (.dup, 1) := by decide +kernel
theorem dX7_drop_24 : decode cX7_drop 24 = .ok (.invokespecial 170, 3) := by decide +kernel
theorem dX7_drop_27 : decode cX7_drop 27 = .ok (.athrow, 1) := by decide +kernel
theorem dX7_drop_28 : decode cX7_drop 28 = .ok (.iload_n 2, 1) := by decide +kernel
theorem dX7_drop_29 : decode cX7_drop 29 = .ok (.tableswitch 90 0 4 #[35, 45, 55, 67, 80], 35) := by decide +kernel
theorem dX7_drop_64 : decode cX7_drop 64 = .ok (.aload_n 0, 1) := by decide +kernel
theorem dX7_drop_65 : decode cX7_drop 65 = .ok (.getfield 30, 3) := by decide +kernel
theorem dX7_drop_68 : decode cX7_drop 68 = .ok (.getfield 171, 3) := by decide +kernel
theorem dX7_drop_71 : decode cX7_drop 71 = .ok (.iload_n 1, 1) := by decide +kernel
theorem dX7_drop_72 : decode cX7_drop 72 = .ok (.iaload, 1) := by decide +kernel
theorem dX7_drop_73 : decode cX7_drop 73 = .ok (.ireturn, 1) := by decide +kernel
theorem dX7_drop_74 : decode cX7_drop 74 = .ok (.aload_n 0, 1) := by decide +kernel
theorem dX7_drop_75 : decode cX7_drop 75 = .ok (.getfield 30, 3) := by decide +kernel
theorem dX7_drop_78 : decode cX7_drop 78 = .ok (.getfield 174, 3) := by decide +kernel
theorem dX7_drop_81 : decode cX7_drop 81 = .ok (.iload_n 1, 1) := by decide +kernel
theorem dX7_drop_82 : decode cX7_drop 82 = .ok (.iaload, 1) := by decide +kernel
theorem dX7_drop_83 : decode cX7_drop 83 = .ok (.ireturn, 1) := by decide +kernel
theorem dX7_drop_84 : decode cX7_drop 84 = .ok (.aload_n 0, 1) := by decide +kernel
theorem dX7_drop_85 : decode cX7_drop 85 = .ok (.getfield 40, 3) := by decide +kernel
theorem dX7_drop_88 : decode cX7_drop 88 = .ok (.getfield 118, 3) := by decide +kernel
theorem dX7_drop_91 : decode cX7_drop 91 = .ok (.iload_n 1, 1) := by decide +kernel
theorem dX7_drop_92 : decode cX7_drop 92 = .ok (.invokevirtual 177, 3) := by decide +kernel
theorem dX7_drop_95 : decode cX7_drop 95 = .ok (.ireturn, 1) := by decide +kernel
theorem dX7_drop_96 : decode cX7_drop 96 = .ok (.aload_n 0, 1) := by decide +kernel
theorem dX7_drop_97 : decode cX7_drop 97 = .ok (.getfield 40, 3) := by decide +kernel
theorem dX7_drop_100 : decode cX7_drop 100 = .ok (.aload_n 0, 1) := by decide +kernel
theorem dX7_drop_101 : decode cX7_drop 101 = .ok (.getfield 30, 3) := by decide +kernel
theorem dX7_drop_104 : decode cX7_drop 104 = .ok (.iload_n 1, 1) := by decide +kernel
theorem dX7_drop_105 : decode cX7_drop 105 = .ok (.invokevirtual 180, 3) := by decide +kernel
theorem dX7_drop_108 : decode cX7_drop 108 = .ok (.ireturn, 1) := by decide +kernel
theorem dX7_drop_109 : decode cX7_drop 109 = .ok (.aload_n 0, 1) := by decide +kernel
theorem dX7_drop_110 : decode cX7_drop 110 = .ok (.getfield 40, 3) := by decide +kernel
theorem dX7_drop_113 : decode cX7_drop 113 = .ok (.getfield 183, 3) := by decide +kernel
theorem dX7_drop_116 : decode cX7_drop 116 = .ok (.iload_n 1, 1) := by decide +kernel
theorem dX7_drop_117 : decode cX7_drop 117 = .ok (.iaload, 1) := by decide +kernel
theorem dX7_drop_118 : decode cX7_drop 118 = .ok (.ireturn, 1) := by decide +kernel
theorem dX7_drop_119 : decode cX7_drop 119 = .ok (.aload_n 0, 1) := by decide +kernel
theorem dX7_drop_120 : decode cX7_drop 120 = .ok (.getfield 40, 3) := by decide +kernel
theorem dX7_drop_123 : decode cX7_drop 123 = .ok (.aload_n 0, 1) := by decide +kernel
theorem dX7_drop_124 : decode cX7_drop 124 = .ok (.getfield 30, 3) := by decide +kernel
theorem dX7_drop_127 : decode cX7_drop 127 = .ok (.iload_n 1, 1) := by decide +kernel
theorem dX7_drop_128 : decode cX7_drop 128 = .ok (.invokevirtual 186, 3) := by decide +kernel
theorem dX7_drop_131 : decode cX7_drop 131 = .ok (.ireturn, 1) := by decide +kernel
theorem dX7_may_0 : decode cX7_may 0 = .ok (.aload_n 0, 1) := by decide +kernel
theorem dX7_may_1 : decode cX7_may 1 = .ok (.getfield 30, 3) := by decide +kernel
theorem dX7_may_4 : decode cX7_may 4 = .ok (.iload_n 1, 1) := by decide +kernel
theorem dX7_may_5 : decode cX7_may 5 = .ok (.invokevirtual 138, 3) := by decide +kernel
theorem dX7_may_8 : decode cX7_may 8 = .ok (.ifCond .eq 41, 3) := by decide +kernel
theorem dX7_may_11 : decode cX7_may 11 = .ok (.aload_n 0, 1) := by decide +kernel
theorem dX7_may_12 : decode cX7_may 12 = .ok (.getfield 30, 3) := by decide +kernel
theorem dX7_may_15 : decode cX7_may 15 = .ok (.iload_n 2, 1) := by decide +kernel
theorem dX7_may_16 : decode cX7_may 16 = .ok (.invokevirtual 189, 3) := by decide +kernel
theorem dX7_may_19 : decode cX7_may 19 = .ok (.ifCond .eq 30, 3) := by decide +kernel
theorem dX7_may_22 : decode cX7_may 22 = .ok (.aload_n 0, 1) := by decide +kernel
theorem dX7_may_23 : decode cX7_may 23 = .ok (.getfield 30, 3) := by decide +kernel
theorem dX7_may_26 : decode cX7_may 26 = .ok (.aload_n 0, 1) := by decide +kernel
theorem dX7_may_27 : decode cX7_may 27 = .ok (.getfield 40, 3) := by decide +kernel
theorem dX7_may_30 : decode cX7_may 30 = .ok (.getfield 118, 3) := by decide +kernel
theorem dX7_may_33 : decode cX7_may 33 = .ok (.getfield 162, 3) := by decide +kernel
theorem dX7_may_36 : decode cX7_may 36 = .ok (.iload_n 1, 1) := by decide +kernel
theorem dX7_may_37 : decode cX7_may 37 = .ok (.iaload, 1) := by decide +kernel
theorem dX7_may_38 : decode cX7_may 38 = .ok (.iload_n 2, 1) := by decide +kernel
theorem dX7_may_39 : decode cX7_may 39 = .ok (.invokevirtual 192, 3) := by decide +kernel
theorem dX7_may_42 : decode cX7_may 42 = .ok (.ifCond .ne 7, 3) := by decide +kernel
theorem dX7_may_45 : decode cX7_may 45 = .ok (.iconst 1, 1) := by decide +kernel
theorem dX7_may_46 : decode cX7_may 46 = .ok (.goto 4, 3) := by decide +kernel
theorem dX7_may_49 : decode cX7_may 49 = .ok (.iconst 0, 1) := by decide +kernel
theorem dX7_may_50 : decode cX7_may 50 = .ok (.ireturn, 1) := by decide +kernel
theorem dX7_would_0 : decode cX7_would 0 = .ok (.aload_n 0, 1) := by decide +kernel
theorem dX7_would_1 : decode cX7_would 1 = .ok (.getfield 30, 3) := by decide +kernel
theorem dX7_would_4 : decode cX7_would 4 = .ok (.iload_n 1, 1) := by decide +kernel
theorem dX7_would_5 : decode cX7_would 5 = .ok (.invokevirtual 138, 3) := by decide +kernel
theorem dX7_would_8 : decode cX7_would 8 = .ok (.ifCond .eq 31, 3) := by decide +kernel
theorem dX7_would_11 : decode cX7_would 11 = .ok (.aload_n 0, 1) := by decide +kernel
theorem dX7_would_12 : decode cX7_would 12 = .ok (.getfield 30, 3) := by decide +kernel
theorem dX7_would_15 : decode cX7_would 15 = .ok (.iload_n 2, 1) := by decide +kernel
theorem dX7_would_16 : decode cX7_would 16 = .ok (.invokevirtual 189, 3) := by decide +kernel
theorem dX7_would_19 : decode cX7_would 19 = .ok (.ifCond .eq 20, 3) := by decide +kernel
theorem dX7_would_22 : decode cX7_would 22 = .ok (.iload_n 3, 1) := by decide +kernel
theorem dX7_would_23 : decode cX7_would 23 = .ok (.ifCond .lt 16, 3) := by decide +kernel
theorem dX7_would_26 : decode cX7_would 26 = .ok (.iload_n 3, 1) := by decide +kernel
theorem dX7_would_27 : decode cX7_would 27 = .ok (.aload_n 0, 1) := by decide +kernel
theorem dX7_would_28 : decode cX7_would 28 = .ok (.getfield 30, 3) := by decide +kernel
theorem dX7_would_31 : decode cX7_would 31 = .ok (.getfield 142, 3) := by decide +kernel
theorem dX7_would_34 : decode cX7_would 34 = .ok (.iload_n 1, 1) := by decide +kernel
theorem dX7_would_35 : decode cX7_would 35 = .ok (.iaload, 1) := by decide +kernel
theorem dX7_would_36 : decode cX7_would 36 = .ok (.if_icmp .le 5, 3) := by decide +kernel
theorem dX7_would_39 : decode cX7_would 39 = .ok (.iconst (-1), 1) := by decide +kernel
theorem dX7_would_40 : decode cX7_would 40 = .ok (.ireturn, 1) := by decide +kernel
theorem dX7_would_41 : decode cX7_would 41 = .ok (.aload_n 0, 1) := by decide +kernel
theorem dX7_would_42 : decode cX7_would 42 = .ok (.getfield 54, 3) := by decide +kernel
theorem dX7_would_45 : decode cX7_would 45 = .ok (.aload_n 0, 1) := by decide +kernel
theorem dX7_would_46 : decode cX7_would 46 = .ok (.getfield 40, 3) := by decide +kernel
theorem dX7_would_49 : decode cX7_would 49 = .ok (.getfield 118, 3) := by decide +kernel
theorem dX7_would_52 : decode cX7_would 52 = .ok (.invokevirtual 196, 3) := by decide +kernel
theorem dX7_would_55 : decode cX7_would 55 = .ok (.aload_n 0, 1) := by decide +kernel
theorem dX7_would_56 : decode cX7_would 56 = .ok (.getfield 54, 3) := by decide +kernel
theorem dX7_would_59 : decode cX7_would 59 = .ok (.aload_n 0, 1) := by decide +kernel
theorem dX7_would_60 : decode cX7_would 60 = .ok (.getfield 30, 3) := by decide +kernel
theorem dX7_would_63 : decode cX7_would 63 = .ok (.iload_n 1, 1) := by decide +kernel
theorem dX7_would_64 : decode cX7_would 64 = .ok (.iconst (-1), 1) := by decide +kernel
theorem dX7_would_65 : decode cX7_would 65 = .ok (.iload_n 2, 1) := by decide +kernel
theorem dX7_would_66 : decode cX7_would 66 = .ok (.iload_n 3, 1) := by decide +kernel
theorem dX7_would_67 : decode cX7_would 67 = .ok (.invokevirtual 200, 3) := by decide +kernel
theorem dX7_would_70 : decode cX7_would 70 = .ok (.aload_n 0, 1) := by decide +kernel
theorem dX7_would_71 : decode cX7_would 71 = .ok (.getfield 54, 3) := by decide +kernel
theorem dX7_would_74 : decode cX7_would 74 = .ok (.aload_n 0, 1) := by decide +kernel
theorem dX7_would_75 : decode cX7_would 75 = .ok (.getfield 30, 3) := by decide +kernel
theorem dX7_would_78 : decode cX7_would 78 = .ok (.iconst 0, 1) := by decide +kernel
theorem dX7_would_79 : decode cX7_would 79 = .ok (.invokevirtual 128, 3) := by decide +kernel
theorem dX7_would_82 : decode cX7_would 82 = .ok (.ireturn, 1) := by decide +kernel
theorem dX7_orders_0 : decode cX7_orders 0 = .ok (.aload_n 0, 1) := by decide +kernel
theorem dX7_orders_1 : decode cX7_orders 1 = .ok (.getfield 61, 3) := by decide +kernel
theorem dX7_orders_4 : decode cX7_orders 4 = .ok (.aload_n 0, 1) := by decide +kernel
theorem dX7_orders_5 : decode cX7_orders 5 = .ok (.getfield 30, 3) := by decide +kernel
theorem dX7_orders_8 : decode cX7_orders 8 = .ok (.aload_n 0, 1) := by decide +kernel
theorem dX7_orders_9 : decode cX7_orders 9 = .ok (.getfield 40, 3) := by decide +kernel
theorem dX7_orders_12 : decode cX7_orders 12 = .ok (.getfield 118, 3) := by decide +kernel
theorem dX7_orders_15 : decode cX7_orders 15 = .ok (.aload_n 0, 1) := by decide +kernel
theorem dX7_orders_16 : decode cX7_orders 16 = .ok (.getfield 40, 3) := by decide +kernel
theorem dX7_orders_19 : decode cX7_orders 19 = .ok (.getfield 105, 3) := by decide +kernel
theorem dX7_orders_22 : decode cX7_orders 22 = .ok (.invokevirtual 204, 3) := by decide +kernel
theorem dX7_orders_25 : decode cX7_orders 25 = .ok (.ireturn, 1) := by decide +kernel
theorem dX7_ordered_0 : decode cX7_ordered 0 = .ok (.aload_n 0, 1) := by decide +kernel
theorem dX7_ordered_1 : decode cX7_ordered 1 = .ok (.getfield 61, 3) := by decide +kernel
theorem dX7_ordered_4 : decode cX7_ordered 4 = .ok (.aload_n 0, 1) := by decide +kernel
theorem dX7_ordered_5 : decode cX7_ordered 5 = .ok (.getfield 30, 3) := by decide +kernel
theorem dX7_ordered_8 : decode cX7_ordered 8 = .ok (.aload_n 0, 1) := by decide +kernel
theorem dX7_ordered_9 : decode cX7_ordered 9 = .ok (.getfield 40, 3) := by decide +kernel
theorem dX7_ordered_12 : decode cX7_ordered 12 = .ok (.getfield 118, 3) := by decide +kernel
theorem dX7_ordered_15 : decode cX7_ordered 15 = .ok (.aload_n 0, 1) := by decide +kernel
theorem dX7_ordered_16 : decode cX7_ordered 16 = .ok (.getfield 40, 3) := by decide +kernel
theorem dX7_ordered_19 : decode cX7_ordered 19 = .ok (.getfield 105, 3) := by decide +kernel
theorem dX7_ordered_22 : decode cX7_ordered 22 = .ok (.invokevirtual 204, 3) := by decide +kernel
theorem dX7_ordered_25 : decode cX7_ordered 25 = .ok (.pop, 1) := by decide +kernel
theorem dX7_ordered_26 : decode cX7_ordered 26 = .ok (.aload_n 0, 1) := by decide +kernel
theorem dX7_ordered_27 : decode cX7_ordered 27 = .ok (.getfield 61, 3) := by decide +kernel
theorem dX7_ordered_30 : decode cX7_ordered 30 = .ok (.iload_n 1, 1) := by decide +kernel
theorem dX7_ordered_31 : decode cX7_ordered 31 = .ok (.invokevirtual 208, 3) := by decide +kernel
theorem dX7_ordered_34 : decode cX7_ordered 34 = .ok (.ireturn, 1) := by decide +kernel
theorem dX7_without_0 : decode cX7_without 0 = .ok (.aload_n 0, 1) := by decide +kernel
theorem dX7_without_1 : decode cX7_without 1 = .ok (.iload_n 1, 1) := by decide +kernel
theorem dX7_without_2 : decode cX7_without 2 = .ok (.iconst 1, 1) := by decide +kernel
theorem dX7_without_3 : decode cX7_without 3 = .ok (.invokevirtual 211, 3) := by decide +kernel
theorem dX7_without_6 : decode cX7_without 6 = .ok (.ifCond .ne 5, 3) := by decide +kernel
theorem dX7_without_9 : decode cX7_without 9 = .ok (.iconst (-1), 1) := by decide +kernel
theorem dX7_without_10 : decode cX7_without 10 = .ok (.ireturn, 1) := by decide +kernel
theorem dX7_without_11 : decode cX7_without 11 = .ok (.aload_n 0, 1) := by decide +kernel
theorem dX7_without_12 : decode cX7_without 12 = .ok (.getfield 40, 3) := by decide +kernel
theorem dX7_without_15 : decode cX7_without 15 = .ok (.getfield 118, 3) := by decide +kernel
theorem dX7_without_18 : decode cX7_without 18 = .ok (.aload_n 0, 1) := by decide +kernel
theorem dX7_without_19 : decode cX7_without 19 = .ok (.getfield 30, 3) := by decide +kernel
theorem dX7_without_22 : decode cX7_without 22 = .ok (.aload_n 0, 1) := by decide +kernel
theorem dX7_without_23 : decode cX7_without 23 = .ok (.getfield 40, 3) := by decide +kernel
theorem dX7_without_26 : decode cX7_without 26 = .ok (.getfield 118, 3) := by decide +kernel
theorem dX7_without_29 : decode cX7_without 29 = .ok (.iload_n 1, 1) := by decide +kernel
theorem dX7_without_30 : decode cX7_without 30 = .ok (.invokevirtual 214, 3) := by decide +kernel
theorem dX7_without_33 : decode cX7_without 33 = .ok (.invokevirtual 128, 3) := by decide +kernel
theorem dX7_without_36 : decode cX7_without 36 = .ok (.ireturn, 1) := by decide +kernel
theorem dX7_plan_0 : decode cX7_plan 0 = .ok (.aload_n 0, 1) := by decide +kernel
theorem dX7_plan_1 : decode cX7_plan 1 = .ok (.getfield 68, 3) := by decide +kernel
theorem dX7_plan_4 : decode cX7_plan 4 = .ok (.aload_n 0, 1) := by decide +kernel
theorem dX7_plan_5 : decode cX7_plan 5 = .ok (.getfield 30, 3) := by decide +kernel
theorem dX7_plan_8 : decode cX7_plan 8 = .ok (.aload_n 0, 1) := by decide +kernel
theorem dX7_plan_9 : decode cX7_plan 9 = .ok (.getfield 40, 3) := by decide +kernel
theorem dX7_plan_12 : decode cX7_plan 12 = .ok (.invokevirtual 217, 3) := by decide +kernel
theorem dX7_plan_15 : decode cX7_plan 15 = .ok (.ifCond .ne 6, 3) := by decide +kernel
theorem dX7_plan_18 : decode cX7_plan 18 = .ok (.bipush (-2), 2) := by decide +kernel
theorem dX7_plan_20 : decode cX7_plan 20 = .ok (.ireturn, 1) := by decide +kernel
theorem dX7_plan_21 : decode cX7_plan 21 = .ok (.iload_n 1, 1) := by decide +kernel
theorem dX7_plan_22 : decode cX7_plan 22 = .ok (.ifCond .ne 11, 3) := by decide +kernel
theorem dX7_plan_25 : decode cX7_plan 25 = .ok (.aload_n 0, 1) := by decide +kernel
theorem dX7_plan_26 : decode cX7_plan 26 = .ok (.getfield 68, 3) := by decide +kernel
theorem dX7_plan_29 : decode cX7_plan 29 = .ok (.getfield 221, 3) := by decide +kernel
theorem dX7_plan_32 : decode cX7_plan 32 = .ok (.ireturn, 1) := by decide +kernel
theorem dX7_plan_33 : decode cX7_plan 33 = .ok (.iload_n 1, 1) := by decide +kernel
theorem dX7_plan_34 : decode cX7_plan 34 = .ok (.iconst 1, 1) := by decide +kernel
theorem dX7_plan_35 : decode cX7_plan 35 = .ok (.if_icmp .ne 11, 3) := by decide +kernel
theorem dX7_plan_38 : decode cX7_plan 38 = .ok (.aload_n 0, 1) := by decide +kernel
theorem dX7_plan_39 : decode cX7_plan 39 = .ok (.getfield 68, 3) := by decide +kernel
theorem dX7_plan_42 : decode cX7_plan 42 = .ok (.getfield 224, 3) := by decide +kernel
theorem dX7_plan_45 : decode cX7_plan 45 = .ok (.ireturn, 1) := by decide +kernel
theorem dX7_plan_46 : decode cX7_plan 46 = .ok (.iload_n 1, 1) := by decide +kernel
theorem dX7_plan_47 : decode cX7_plan 47 = .ok (.bipush 10, 2) := by decide +kernel
theorem dX7_plan_49 : decode cX7_plan 49 = .ok (.if_icmp .lt 30, 3) := by decide +kernel
theorem dX7_plan_52 : decode cX7_plan 52 = .ok (.aload_n 0, 1) := by decide +kernel
theorem dX7_plan_53 : decode cX7_plan 53 = .ok (.getfield 30, 3) := by decide +kernel
theorem dX7_plan_56 : decode cX7_plan 56 = .ok (.iload_n 1, 1) := by decide +kernel
theorem dX7_plan_57 : decode cX7_plan 57 = .ok (.bipush 10, 2) := by decide +kernel
theorem dX7_plan_59 : decode cX7_plan 59 = .ok (.isub, 1) := by decide +kernel
theorem dX7_plan_60 : decode cX7_plan 60 = .ok (.invokevirtual 138, 3) := by decide +kernel
theorem dX7_plan_63 : decode cX7_plan 63 = .ok (.ifCond .eq 16, 3) := by decide +kernel
theorem dX7_plan_66 : decode cX7_plan 66 = .ok (.aload_n 0, 1) := by decide +kernel
theorem dX7_plan_67 : decode cX7_plan 67 = .ok (.getfield 68, 3) := by decide +kernel
theorem dX7_plan_70 : decode cX7_plan 70 = .ok (.getfield 227, 3) := by decide +kernel
theorem dX7_plan_73 : decode cX7_plan 73 = .ok (.iload_n 1, 1) := by decide +kernel
theorem dX7_plan_74 : decode cX7_plan 74 = .ok (.bipush 10, 2) := by decide +kernel
theorem dX7_plan_76 : decode cX7_plan 76 = .ok (.isub, 1) := by decide +kernel
theorem dX7_plan_77 : decode cX7_plan 77 = .ok (.iaload, 1) := by decide +kernel
theorem dX7_plan_78 : decode cX7_plan 78 = .ok (.ireturn, 1) := by decide +kernel
theorem dX7_plan_79 : decode cX7_plan 79 = .ok (.iload_n 1, 1) := by decide +kernel
theorem dX7_plan_80 : decode cX7_plan 80 = .ok (.bipush 20, 2) := by decide +kernel
theorem dX7_plan_82 : decode cX7_plan 82 = .ok (.if_icmp .lt 30, 3) := by decide +kernel
theorem dX7_plan_85 : decode cX7_plan 85 = .ok (.aload_n 0, 1) := by decide +kernel
theorem dX7_plan_86 : decode cX7_plan 86 = .ok (.getfield 30, 3) := by decide +kernel
theorem dX7_plan_89 : decode cX7_plan 89 = .ok (.iload_n 1, 1) := by decide +kernel
theorem dX7_plan_90 : decode cX7_plan 90 = .ok (.bipush 20, 2) := by decide +kernel
theorem dX7_plan_92 : decode cX7_plan 92 = .ok (.isub, 1) := by decide +kernel
theorem dX7_plan_93 : decode cX7_plan 93 = .ok (.invokevirtual 138, 3) := by decide +kernel
theorem dX7_plan_96 : decode cX7_plan 96 = .ok (.ifCond .eq 16, 3) := by decide +kernel
theorem dX7_plan_99 : decode cX7_plan 99 = .ok (.aload_n 0, 1) := by decide +kernel
theorem dX7_plan_100 : decode cX7_plan 100 = .ok (.getfield 68, 3) := by decide +kernel
theorem dX7_plan_103 : decode cX7_plan 103 = .ok (.getfield 230, 3) := by decide +kernel
theorem dX7_plan_106 : decode cX7_plan 106 = .ok (.iload_n 1, 1) := by decide +kernel
theorem dX7_plan_107 : decode cX7_plan 107 = .ok (.bipush 20, 2) := by decide +kernel
theorem dX7_plan_109 : decode cX7_plan 109 = .ok (.isub, 1) := by decide +kernel
theorem dX7_plan_110 : decode cX7_plan 110 = .ok (.iaload, 1) := by decide +kernel
theorem dX7_plan_111 : decode cX7_plan 111 = .ok (.ireturn, 1) := by decide +kernel
theorem dX7_plan_112 : decode cX7_plan 112 = .ok (.iconst (-1), 1) := by decide +kernel
theorem dX7_plan_113 : decode cX7_plan 113 = .ok (.ireturn, 1) := by decide +kernel
theorem dX7_washes_0 : decode cX7_washes 0 = .ok (.aload_n 0, 1) := by decide +kernel
theorem dX7_washes_1 : decode cX7_washes 1 = .ok (.getfield 68, 3) := by decide +kernel
theorem dX7_washes_4 : decode cX7_washes 4 = .ok (.aload_n 0, 1) := by decide +kernel
theorem dX7_washes_5 : decode cX7_washes 5 = .ok (.getfield 30, 3) := by decide +kernel
theorem dX7_washes_8 : decode cX7_washes 8 = .ok (.aload_n 0, 1) := by decide +kernel
theorem dX7_washes_9 : decode cX7_washes 9 = .ok (.getfield 40, 3) := by decide +kernel
theorem dX7_washes_12 : decode cX7_washes 12 = .ok (.invokevirtual 233, 3) := by decide +kernel
theorem dX7_washes_15 : decode cX7_washes 15 = .ok (.istore_n 1, 1) := by decide +kernel
theorem dX7_washes_16 : decode cX7_washes 16 = .ok (.iload_n 1, 1) := by decide +kernel
theorem dX7_washes_17 : decode cX7_washes 17 = .ok (.iconst (-1), 1) := by decide +kernel
theorem dX7_washes_18 : decode cX7_washes 18 = .ok (.if_icmp .ne 8, 3) := by decide +kernel
theorem dX7_washes_21 : decode cX7_washes 21 = .ok (.bipush (-2), 2) := by decide +kernel
theorem dX7_washes_23 : decode cX7_washes 23 = .ok (.goto 4, 3) := by decide +kernel
theorem dX7_washes_26 : decode cX7_washes 26 = .ok (.iload_n 1, 1) := by decide +kernel
theorem dX7_washes_27 : decode cX7_washes 27 = .ok (.ireturn, 1) := by decide +kernel
theorem dX7_asks_0 : decode cX7_asks 0 = .ok (.aload_n 0, 1) := by decide +kernel
theorem dX7_asks_1 : decode cX7_asks 1 = .ok (.getfield 30, 3) := by decide +kernel
theorem dX7_asks_4 : decode cX7_asks 4 = .ok (.iload_n 1, 1) := by decide +kernel
theorem dX7_asks_5 : decode cX7_asks 5 = .ok (.invokevirtual 189, 3) := by decide +kernel
theorem dX7_asks_8 : decode cX7_asks 8 = .ok (.ifCond .eq 15, 3) := by decide +kernel
theorem dX7_asks_11 : decode cX7_asks 11 = .ok (.iload_n 2, 1) := by decide +kernel
theorem dX7_asks_12 : decode cX7_asks 12 = .ok (.iconst 1, 1) := by decide +kernel
theorem dX7_asks_13 : decode cX7_asks 13 = .ok (.if_icmp .lt 10, 3) := by decide +kernel
theorem dX7_asks_16 : decode cX7_asks 16 = .ok (.iload_n 2, 1) := by decide +kernel
theorem dX7_asks_17 : decode cX7_asks 17 = .ok (.sipush 4995, 3) := by decide +kernel
theorem dX7_asks_20 : decode cX7_asks 20 = .ok (.if_icmp .le 5, 3) := by decide +kernel
theorem dX7_asks_23 : decode cX7_asks 23 = .ok (.iconst (-1), 1) := by decide +kernel
theorem dX7_asks_24 : decode cX7_asks 24 = .ok (.ireturn, 1) := by decide +kernel
theorem dX7_asks_25 : decode cX7_asks 25 = .ok (.aload_n 0, 1) := by decide +kernel
theorem dX7_asks_26 : decode cX7_asks 26 = .ok (.getfield 40, 3) := by decide +kernel
theorem dX7_asks_29 : decode cX7_asks 29 = .ok (.aload_n 0, 1) := by decide +kernel
theorem dX7_asks_30 : decode cX7_asks 30 = .ok (.getfield 30, 3) := by decide +kernel
theorem dX7_asks_33 : decode cX7_asks 33 = .ok (.invokevirtual 237, 3) := by decide +kernel
theorem dX7_asks_36 : decode cX7_asks 36 = .ok (.iconst 4, 1) := by decide +kernel
theorem dX7_asks_37 : decode cX7_asks 37 = .ok (.if_icmp .lt 6, 3) := by decide +kernel
theorem dX7_asks_40 : decode cX7_asks 40 = .ok (.bipush (-2), 2) := by decide +kernel
theorem dX7_asks_42 : decode cX7_asks 42 = .ok (.ireturn, 1) := by decide +kernel
theorem dX7_asks_43 : decode cX7_asks 43 = .ok (.aload_n 0, 1) := by decide +kernel
theorem dX7_asks_44 : decode cX7_asks 44 = .ok (.getfield 40, 3) := by decide +kernel
theorem dX7_asks_47 : decode cX7_asks 47 = .ok (.getfield 105, 3) := by decide +kernel
theorem dX7_asks_50 : decode cX7_asks 50 = .ok (.bipush 20, 2) := by decide +kernel
theorem dX7_asks_52 : decode cX7_asks 52 = .ok (.if_icmp .lt 6, 3) := by decide +kernel
theorem dX7_asks_55 : decode cX7_asks 55 = .ok (.bipush (-3), 2) := by decide +kernel
theorem dX7_asks_57 : decode cX7_asks 57 = .ok (.ireturn, 1) := by decide +kernel
theorem dX7_asks_58 : decode cX7_asks 58 = .ok (.aload_n 0, 1) := by decide +kernel
theorem dX7_asks_59 : decode cX7_asks 59 = .ok (.getfield 47, 3) := by decide +kernel
theorem dX7_asks_62 : decode cX7_asks 62 = .ok (.aload_n 0, 1) := by decide +kernel
theorem dX7_asks_63 : decode cX7_asks 63 = .ok (.getfield 40, 3) := by decide +kernel
theorem dX7_asks_66 : decode cX7_asks 66 = .ok (.invokevirtual 241, 3) := by decide +kernel
theorem dX7_asks_69 : decode cX7_asks 69 = .ok (.aload_n 0, 1) := by decide +kernel
theorem dX7_asks_70 : decode cX7_asks 70 = .ok (.getfield 40, 3) := by decide +kernel
theorem dX7_asks_73 : decode cX7_asks 73 = .ok (.getfield 105, 3) := by decide +kernel
theorem dX7_asks_76 : decode cX7_asks 76 = .ok (.istore_n 3, 1) := by decide +kernel
theorem dX7_asks_77 : decode cX7_asks 77 = .ok (.aload_n 0, 1) := by decide +kernel
theorem dX7_asks_78 : decode cX7_asks 78 = .ok (.getfield 30, 3) := by decide +kernel
theorem dX7_asks_81 : decode cX7_asks 81 = .ok (.getfield 171, 3) := by decide +kernel
theorem dX7_asks_84 : decode cX7_asks 84 = .ok (.iload_n 3, 1) := by decide +kernel
theorem dX7_asks_85 : decode cX7_asks 85 = .ok (.iload_n 1, 1) := by decide +kernel
theorem dX7_asks_86 : decode cX7_asks 86 = .ok (.iastore, 1) := by decide +kernel
theorem dX7_asks_87 : decode cX7_asks 87 = .ok (.aload_n 0, 1) := by decide +kernel
theorem dX7_asks_88 : decode cX7_asks 88 = .ok (.getfield 30, 3) := by decide +kernel
theorem dX7_asks_91 : decode cX7_asks 91 = .ok (.getfield 174, 3) := by decide +kernel
theorem dX7_asks_94 : decode cX7_asks 94 = .ok (.iload_n 3, 1) := by decide +kernel
theorem dX7_asks_95 : decode cX7_asks 95 = .ok (.iload_n 2, 1) := by decide +kernel
theorem dX7_asks_96 : decode cX7_asks 96 = .ok (.iastore, 1) := by decide +kernel
theorem dX7_asks_97 : decode cX7_asks 97 = .ok (.aload_n 0, 1) := by decide +kernel
theorem dX7_asks_98 : decode cX7_asks 98 = .ok (.getfield 40, 3) := by decide +kernel
theorem dX7_asks_101 : decode cX7_asks 101 = .ok (.invokevirtual 245, 3) := by decide +kernel
theorem dX7_asks_104 : decode cX7_asks 104 = .ok (.iload_n 3, 1) := by decide +kernel
theorem dX7_asks_105 : decode cX7_asks 105 = .ok (.ireturn, 1) := by decide +kernel
theorem dX7_cancel_0 : decode cX7_cancel 0 = .ok (.aload_n 0, 1) := by decide +kernel
theorem dX7_cancel_1 : decode cX7_cancel 1 = .ok (.iload_n 1, 1) := by decide +kernel
theorem dX7_cancel_2 : decode cX7_cancel 2 = .ok (.iconst 0, 1) := by decide +kernel
theorem dX7_cancel_3 : decode cX7_cancel 3 = .ok (.invokevirtual 211, 3) := by decide +kernel
theorem dX7_cancel_6 : decode cX7_cancel 6 = .ok (.ifCond .eq 17, 3) := by decide +kernel
theorem dX7_cancel_9 : decode cX7_cancel 9 = .ok (.aload_n 0, 1) := by decide +kernel
theorem dX7_cancel_10 : decode cX7_cancel 10 = .ok (.getfield 40, 3) := by decide +kernel
theorem dX7_cancel_13 : decode cX7_cancel 13 = .ok (.getfield 118, 3) := by decide +kernel
theorem dX7_cancel_16 : decode cX7_cancel 16 = .ok (.iload_n 1, 1) := by decide +kernel
theorem dX7_cancel_17 : decode cX7_cancel 17 = .ok (.invokevirtual 177, 3) := by decide +kernel
theorem dX7_cancel_20 : decode cX7_cancel 20 = .ok (.ifCond .le 5, 3) := by decide +kernel
theorem dX7_cancel_23 : decode cX7_cancel 23 = .ok (.iconst 0, 1) := by decide +kernel
theorem dX7_cancel_24 : decode cX7_cancel 24 = .ok (.ireturn, 1) := by decide +kernel
theorem dX7_cancel_25 : decode cX7_cancel 25 = .ok (.aload_n 0, 1) := by decide +kernel
theorem dX7_cancel_26 : decode cX7_cancel 26 = .ok (.getfield 47, 3) := by decide +kernel
theorem dX7_cancel_29 : decode cX7_cancel 29 = .ok (.aload_n 0, 1) := by decide +kernel
theorem dX7_cancel_30 : decode cX7_cancel 30 = .ok (.getfield 40, 3) := by decide +kernel
theorem dX7_cancel_33 : decode cX7_cancel 33 = .ok (.invokevirtual 241, 3) := by decide +kernel
theorem dX7_cancel_36 : decode cX7_cancel 36 = .ok (.aload_n 0, 1) := by decide +kernel
theorem dX7_cancel_37 : decode cX7_cancel 37 = .ok (.getfield 40, 3) := by decide +kernel
theorem dX7_cancel_40 : decode cX7_cancel 40 = .ok (.getfield 248, 3) := by decide +kernel
theorem dX7_cancel_43 : decode cX7_cancel 43 = .ok (.iload_n 1, 1) := by decide +kernel
theorem dX7_cancel_44 : decode cX7_cancel 44 = .ok (.iconst 3, 1) := by decide +kernel
theorem dX7_cancel_45 : decode cX7_cancel 45 = .ok (.iastore, 1) := by decide +kernel
theorem dX7_cancel_46 : decode cX7_cancel 46 = .ok (.iconst 1, 1) := by decide +kernel
theorem dX7_cancel_47 : decode cX7_cancel 47 = .ok (.ireturn, 1) := by decide +kernel
theorem dX7_put_0 : decode cX7_put 0 = .ok (.aload_n 0, 1) := by decide +kernel
theorem dX7_put_1 : decode cX7_put 1 = .ok (.getfield 30, 3) := by decide +kernel
theorem dX7_put_4 : decode cX7_put 4 = .ok (.iload_n 1, 1) := by decide +kernel
theorem dX7_put_5 : decode cX7_put 5 = .ok (.invokevirtual 138, 3) := by decide +kernel
theorem dX7_put_8 : decode cX7_put 8 = .ok (.ifCond .eq 12, 3) := by decide +kernel
theorem dX7_put_11 : decode cX7_put 11 = .ok (.aload_n 0, 1) := by decide +kernel
theorem dX7_put_12 : decode cX7_put 12 = .ok (.iload_n 2, 1) := by decide +kernel
theorem dX7_put_13 : decode cX7_put 13 = .ok (.iconst 0, 1) := by decide +kernel
theorem dX7_put_14 : decode cX7_put 14 = .ok (.invokevirtual 211, 3) := by decide +kernel
theorem dX7_put_17 : decode cX7_put 17 = .ok (.ifCond .ne 5, 3) := by decide +kernel
theorem dX7_put_20 : decode cX7_put 20 = .ok (.iconst (-1), 1) := by decide +kernel
theorem dX7_put_21 : decode cX7_put 21 = .ok (.ireturn, 1) := by decide +kernel
theorem dX7_put_22 : decode cX7_put 22 = .ok (.aload_n 0, 1) := by decide +kernel
theorem dX7_put_23 : decode cX7_put 23 = .ok (.getfield 40, 3) := by decide +kernel
theorem dX7_put_26 : decode cX7_put 26 = .ok (.getfield 118, 3) := by decide +kernel
theorem dX7_put_29 : decode cX7_put 29 = .ok (.getfield 156, 3) := by decide +kernel
theorem dX7_put_32 : decode cX7_put 32 = .ok (.iload_n 1, 1) := by decide +kernel
theorem dX7_put_33 : decode cX7_put 33 = .ok (.iaload, 1) := by decide +kernel
theorem dX7_put_34 : decode cX7_put 34 = .ok (.ifCond .le 6, 3) := by decide +kernel
theorem dX7_put_37 : decode cX7_put 37 = .ok (.bipush (-2), 2) := by decide +kernel
theorem dX7_put_39 : decode cX7_put 39 = .ok (.ireturn, 1) := by decide +kernel
theorem dX7_put_40 : decode cX7_put 40 = .ok (.aload_n 0, 1) := by decide +kernel
theorem dX7_put_41 : decode cX7_put 41 = .ok (.getfield 30, 3) := by decide +kernel
theorem dX7_put_44 : decode cX7_put 44 = .ok (.getfield 171, 3) := by decide +kernel
theorem dX7_put_47 : decode cX7_put 47 = .ok (.iload_n 2, 1) := by decide +kernel
theorem dX7_put_48 : decode cX7_put 48 = .ok (.iaload, 1) := by decide +kernel
theorem dX7_put_49 : decode cX7_put 49 = .ok (.istore_n 3, 1) := by decide +kernel
theorem dX7_put_50 : decode cX7_put 50 = .ok (.aload_n 0, 1) := by decide +kernel
theorem dX7_put_51 : decode cX7_put 51 = .ok (.getfield 30, 3) := by decide +kernel
theorem dX7_put_54 : decode cX7_put 54 = .ok (.aload_n 0, 1) := by decide +kernel
theorem dX7_put_55 : decode cX7_put 55 = .ok (.getfield 40, 3) := by decide +kernel
theorem dX7_put_58 : decode cX7_put 58 = .ok (.getfield 118, 3) := by decide +kernel
theorem dX7_put_61 : decode cX7_put 61 = .ok (.getfield 162, 3) := by decide +kernel
theorem dX7_put_64 : decode cX7_put 64 = .ok (.iload_n 1, 1) := by decide +kernel
theorem dX7_put_65 : decode cX7_put 65 = .ok (.iaload, 1) := by decide +kernel
theorem dX7_put_66 : decode cX7_put 66 = .ok (.iload_n 3, 1) := by decide +kernel
theorem dX7_put_67 : decode cX7_put 67 = .ok (.invokevirtual 192, 3) := by decide +kernel
theorem dX7_put_70 : decode cX7_put 70 = .ok (.ifCond .eq 6, 3) := by decide +kernel
theorem dX7_put_73 : decode cX7_put 73 = .ok (.bipush (-3), 2) := by decide +kernel
theorem dX7_put_75 : decode cX7_put 75 = .ok (.ireturn, 1) := by decide +kernel
theorem dX7_put_76 : decode cX7_put 76 = .ok (.aload_n 0, 1) := by decide +kernel
theorem dX7_put_77 : decode cX7_put 77 = .ok (.getfield 30, 3) := by decide +kernel
theorem dX7_put_80 : decode cX7_put 80 = .ok (.iload_n 1, 1) := by decide +kernel
theorem dX7_put_81 : decode cX7_put 81 = .ok (.invokevirtual 152, 3) := by decide +kernel
theorem dX7_put_84 : decode cX7_put 84 = .ok (.istore 4, 2) := by decide +kernel
theorem dX7_put_86 : decode cX7_put 86 = .ok (.iload 4, 2) := by decide +kernel
theorem dX7_put_88 : decode cX7_put 88 = .ok (.ifCond .ne 6, 3) := by decide +kernel
theorem dX7_put_91 : decode cX7_put 91 = .ok (.bipush (-4), 2) := by decide +kernel
theorem dX7_put_93 : decode cX7_put 93 = .ok (.ireturn, 1) := by decide +kernel
theorem dX7_put_94 : decode cX7_put 94 = .ok (.aload_n 0, 1) := by decide +kernel
theorem dX7_put_95 : decode cX7_put 95 = .ok (.getfield 47, 3) := by decide +kernel
theorem dX7_put_98 : decode cX7_put 98 = .ok (.aload_n 0, 1) := by decide +kernel
theorem dX7_put_99 : decode cX7_put 99 = .ok (.getfield 40, 3) := by decide +kernel
theorem dX7_put_102 : decode cX7_put 102 = .ok (.invokevirtual 241, 3) := by decide +kernel
theorem dX7_put_105 : decode cX7_put 105 = .ok (.iload 4, 2) := by decide +kernel
theorem dX7_put_107 : decode cX7_put 107 = .ok (.aload_n 0, 1) := by decide +kernel
theorem dX7_put_108 : decode cX7_put 108 = .ok (.getfield 30, 3) := by decide +kernel
theorem dX7_put_111 : decode cX7_put 111 = .ok (.getfield 174, 3) := by decide +kernel
theorem dX7_put_114 : decode cX7_put 114 = .ok (.iload_n 2, 1) := by decide +kernel
theorem dX7_put_115 : decode cX7_put 115 = .ok (.iaload, 1) := by decide +kernel
theorem dX7_put_116 : decode cX7_put 116 = .ok (.aload_n 0, 1) := by decide +kernel
theorem dX7_put_117 : decode cX7_put 117 = .ok (.getfield 40, 3) := by decide +kernel
theorem dX7_put_120 : decode cX7_put 120 = .ok (.getfield 118, 3) := by decide +kernel
theorem dX7_put_123 : decode cX7_put 123 = .ok (.iload_n 2, 1) := by decide +kernel
theorem dX7_put_124 : decode cX7_put 124 = .ok (.invokevirtual 177, 3) := by decide +kernel
theorem dX7_put_127 : decode cX7_put 127 = .ok (.isub, 1) := by decide +kernel
theorem dX7_put_128 : decode cX7_put 128 = .ok (.invokestatic 251, 3) := by decide +kernel
theorem dX7_put_131 : decode cX7_put 131 = .ok (.istore 5, 2) := by decide +kernel
theorem dX7_put_133 : decode cX7_put 133 = .ok (.aload_n 0, 1) := by decide +kernel
theorem dX7_put_134 : decode cX7_put 134 = .ok (.getfield 40, 3) := by decide +kernel
theorem dX7_put_137 : decode cX7_put 137 = .ok (.getfield 118, 3) := by decide +kernel
theorem dX7_put_140 : decode cX7_put 140 = .ok (.aload_n 0, 1) := by decide +kernel
theorem dX7_put_141 : decode cX7_put 141 = .ok (.getfield 30, 3) := by decide +kernel
theorem dX7_put_144 : decode cX7_put 144 = .ok (.iload_n 1, 1) := by decide +kernel
theorem dX7_put_145 : decode cX7_put 145 = .ok (.iload_n 2, 1) := by decide +kernel
theorem dX7_put_146 : decode cX7_put 146 = .ok (.iload_n 3, 1) := by decide +kernel
theorem dX7_put_147 : decode cX7_put 147 = .ok (.iload 5, 2) := by decide +kernel
theorem dX7_put_149 : decode cX7_put 149 = .ok (.invokevirtual 200, 3) := by decide +kernel
theorem dX7_put_152 : decode cX7_put 152 = .ok (.iload 5, 2) := by decide +kernel
theorem dX7_put_154 : decode cX7_put 154 = .ok (.ireturn, 1) := by decide +kernel
theorem dX7_load_0 : decode cX7_load 0 = .ok (.aload_n 0, 1) := by decide +kernel
theorem dX7_load_1 : decode cX7_load 1 = .ok (.getfield 68, 3) := by decide +kernel
theorem dX7_load_4 : decode cX7_load 4 = .ok (.aload_n 0, 1) := by decide +kernel
theorem dX7_load_5 : decode cX7_load 5 = .ok (.getfield 30, 3) := by decide +kernel
theorem dX7_load_8 : decode cX7_load 8 = .ok (.aload_n 0, 1) := by decide +kernel
theorem dX7_load_9 : decode cX7_load 9 = .ok (.getfield 40, 3) := by decide +kernel
theorem dX7_load_12 : decode cX7_load 12 = .ok (.invokevirtual 217, 3) := by decide +kernel
theorem dX7_load_15 : decode cX7_load 15 = .ok (.ifCond .ne 6, 3) := by decide +kernel
theorem dX7_load_18 : decode cX7_load 18 = .ok (.bipush (-2), 2) := by decide +kernel
theorem dX7_load_20 : decode cX7_load 20 = .ok (.ireturn, 1) := by decide +kernel
theorem dX7_load_21 : decode cX7_load 21 = .ok (.aload_n 0, 1) := by decide +kernel
theorem dX7_load_22 : decode cX7_load 22 = .ok (.getfield 68, 3) := by decide +kernel
theorem dX7_load_25 : decode cX7_load 25 = .ok (.getfield 221, 3) := by decide +kernel
theorem dX7_load_28 : decode cX7_load 28 = .ok (.ifCond .ne 5, 3) := by decide +kernel
theorem dX7_load_31 : decode cX7_load 31 = .ok (.iconst (-1), 1) := by decide +kernel
theorem dX7_load_32 : decode cX7_load 32 = .ok (.ireturn, 1) := by decide +kernel
theorem dX7_load_33 : decode cX7_load 33 = .ok (.aload_n 0, 1) := by decide +kernel
theorem dX7_load_34 : decode cX7_load 34 = .ok (.getfield 47, 3) := by decide +kernel
theorem dX7_load_37 : decode cX7_load 37 = .ok (.aload_n 0, 1) := by decide +kernel
theorem dX7_load_38 : decode cX7_load 38 = .ok (.getfield 40, 3) := by decide +kernel
theorem dX7_load_41 : decode cX7_load 41 = .ok (.invokevirtual 241, 3) := by decide +kernel
theorem dX7_load_44 : decode cX7_load 44 = .ok (.iconst 0, 1) := by decide +kernel
theorem dX7_load_45 : decode cX7_load 45 = .ok (.istore_n 1, 1) := by decide +kernel
theorem dX7_load_46 : decode cX7_load 46 = .ok (.iload_n 1, 1) := by decide +kernel
theorem dX7_load_47 : decode cX7_load 47 = .ok (.aload_n 0, 1) := by decide +kernel
theorem dX7_load_48 : decode cX7_load 48 = .ok (.getfield 30, 3) := by decide +kernel
theorem dX7_load_51 : decode cX7_load 51 = .ok (.getfield 99, 3) := by decide +kernel
theorem dX7_load_54 : decode cX7_load 54 = .ok (.if_icmp .ge 64, 3) := by decide +kernel
theorem dX7_load_57 : decode cX7_load 57 = .ok (.aload_n 0, 1) := by decide +kernel
theorem dX7_load_58 : decode cX7_load 58 = .ok (.getfield 68, 3) := by decide +kernel
theorem dX7_load_61 : decode cX7_load 61 = .ok (.getfield 227, 3) := by decide +kernel
theorem dX7_load_64 : decode cX7_load 64 = .ok (.iload_n 1, 1) := by decide +kernel
theorem dX7_load_65 : decode cX7_load 65 = .ok (.iaload, 1) := by decide +kernel
theorem dX7_load_66 : decode cX7_load 66 = .ok (.istore_n 2, 1) := by decide +kernel
theorem dX7_load_67 : decode cX7_load 67 = .ok (.aload_n 0, 1) := by decide +kernel
theorem dX7_load_68 : decode cX7_load 68 = .ok (.getfield 40, 3) := by decide +kernel
theorem dX7_load_71 : decode cX7_load 71 = .ok (.iload_n 2, 1) := by decide +kernel
theorem dX7_load_72 : decode cX7_load 72 = .ok (.invokevirtual 165, 3) := by decide +kernel
theorem dX7_load_75 : decode cX7_load 75 = .ok (.ifCond .eq 37, 3) := by decide +kernel
theorem dX7_load_78 : decode cX7_load 78 = .ok (.aload_n 0, 1) := by decide +kernel
theorem dX7_load_79 : decode cX7_load 79 = .ok (.getfield 40, 3) := by decide +kernel
theorem dX7_load_82 : decode cX7_load 82 = .ok (.getfield 118, 3) := by decide +kernel
theorem dX7_load_85 : decode cX7_load 85 = .ok (.aload_n 0, 1) := by decide +kernel
theorem dX7_load_86 : decode cX7_load 86 = .ok (.getfield 30, 3) := by decide +kernel
theorem dX7_load_89 : decode cX7_load 89 = .ok (.iload_n 1, 1) := by decide +kernel
theorem dX7_load_90 : decode cX7_load 90 = .ok (.iload_n 2, 1) := by decide +kernel
theorem dX7_load_91 : decode cX7_load 91 = .ok (.aload_n 0, 1) := by decide +kernel
theorem dX7_load_92 : decode cX7_load 92 = .ok (.getfield 30, 3) := by decide +kernel
theorem dX7_load_95 : decode cX7_load 95 = .ok (.getfield 171, 3) := by decide +kernel
theorem dX7_load_98 : decode cX7_load 98 = .ok (.iload_n 2, 1) := by decide +kernel
theorem dX7_load_99 : decode cX7_load 99 = .ok (.iaload, 1) := by decide +kernel
theorem dX7_load_100 : decode cX7_load 100 = .ok (.aload_n 0, 1) := by decide +kernel
theorem dX7_load_101 : decode cX7_load 101 = .ok (.getfield 68, 3) := by decide +kernel
theorem dX7_load_104 : decode cX7_load 104 = .ok (.getfield 230, 3) := by decide +kernel
theorem dX7_load_107 : decode cX7_load 107 = .ok (.iload_n 1, 1) := by decide +kernel
theorem dX7_load_108 : decode cX7_load 108 = .ok (.iaload, 1) := by decide +kernel
theorem dX7_load_109 : decode cX7_load 109 = .ok (.invokevirtual 200, 3) := by decide +kernel
theorem dX7_load_112 : decode cX7_load 112 = .ok (.iinc 1 1, 3) := by decide +kernel
theorem dX7_load_115 : decode cX7_load 115 = .ok (.goto (-69), 3) := by decide +kernel
theorem dX7_load_118 : decode cX7_load 118 = .ok (.aload_n 0, 1) := by decide +kernel
theorem dX7_load_119 : decode cX7_load 119 = .ok (.getfield 68, 3) := by decide +kernel
theorem dX7_load_122 : decode cX7_load 122 = .ok (.getfield 221, 3) := by decide +kernel
theorem dX7_load_125 : decode cX7_load 125 = .ok (.ireturn, 1) := by decide +kernel
theorem dX7_unload_0 : decode cX7_unload 0 = .ok (.aload_n 0, 1) := by decide +kernel
theorem dX7_unload_1 : decode cX7_unload 1 = .ok (.iload_n 1, 1) := by decide +kernel
theorem dX7_unload_2 : decode cX7_unload 2 = .ok (.iconst 1, 1) := by decide +kernel
theorem dX7_unload_3 : decode cX7_unload 3 = .ok (.invokevirtual 211, 3) := by decide +kernel
theorem dX7_unload_6 : decode cX7_unload 6 = .ok (.ifCond .eq 22, 3) := by decide +kernel
theorem dX7_unload_9 : decode cX7_unload 9 = .ok (.iload_n 2, 1) := by decide +kernel
theorem dX7_unload_10 : decode cX7_unload 10 = .ok (.ifCond .lt 18, 3) := by decide +kernel
theorem dX7_unload_13 : decode cX7_unload 13 = .ok (.iload_n 2, 1) := by decide +kernel
theorem dX7_unload_14 : decode cX7_unload 14 = .ok (.aload_n 0, 1) := by decide +kernel
theorem dX7_unload_15 : decode cX7_unload 15 = .ok (.getfield 40, 3) := by decide +kernel
theorem dX7_unload_18 : decode cX7_unload 18 = .ok (.getfield 118, 3) := by decide +kernel
theorem dX7_unload_21 : decode cX7_unload 21 = .ok (.iload_n 1, 1) := by decide +kernel
theorem dX7_unload_22 : decode cX7_unload 22 = .ok (.invokevirtual 177, 3) := by decide +kernel
theorem dX7_unload_25 : decode cX7_unload 25 = .ok (.if_icmp .le 5, 3) := by decide +kernel
theorem dX7_unload_28 : decode cX7_unload 28 = .ok (.iconst (-1), 1) := by decide +kernel
theorem dX7_unload_29 : decode cX7_unload 29 = .ok (.ireturn, 1) := by decide +kernel
theorem dX7_unload_30 : decode cX7_unload 30 = .ok (.aload_n 0, 1) := by decide +kernel
theorem dX7_unload_31 : decode cX7_unload 31 = .ok (.getfield 40, 3) := by decide +kernel
theorem dX7_unload_34 : decode cX7_unload 34 = .ok (.getfield 118, 3) := by decide +kernel
theorem dX7_unload_37 : decode cX7_unload 37 = .ok (.iload_n 1, 1) := by decide +kernel
theorem dX7_unload_38 : decode cX7_unload 38 = .ok (.invokevirtual 214, 3) := by decide +kernel
theorem dX7_unload_41 : decode cX7_unload 41 = .ok (.istore_n 3, 1) := by decide +kernel
theorem dX7_unload_42 : decode cX7_unload 42 = .ok (.aload_n 0, 1) := by decide +kernel
theorem dX7_unload_43 : decode cX7_unload 43 = .ok (.getfield 40, 3) := by decide +kernel
theorem dX7_unload_46 : decode cX7_unload 46 = .ok (.getfield 118, 3) := by decide +kernel
theorem dX7_unload_49 : decode cX7_unload 49 = .ok (.aload_n 0, 1) := by decide +kernel
theorem dX7_unload_50 : decode cX7_unload 50 = .ok (.getfield 30, 3) := by decide +kernel
theorem dX7_unload_53 : decode cX7_unload 53 = .ok (.iload_n 3, 1) := by decide +kernel
theorem dX7_unload_54 : decode cX7_unload 54 = .ok (.invokevirtual 128, 3) := by decide +kernel
theorem dX7_unload_57 : decode cX7_unload 57 = .ok (.ifCond .eq 6, 3) := by decide +kernel
theorem dX7_unload_60 : decode cX7_unload 60 = .ok (.bipush (-2), 2) := by decide +kernel
theorem dX7_unload_62 : decode cX7_unload 62 = .ok (.ireturn, 1) := by decide +kernel
theorem dX7_unload_63 : decode cX7_unload 63 = .ok (.aload_n 0, 1) := by decide +kernel
theorem dX7_unload_64 : decode cX7_unload 64 = .ok (.getfield 47, 3) := by decide +kernel
theorem dX7_unload_67 : decode cX7_unload 67 = .ok (.aload_n 0, 1) := by decide +kernel
theorem dX7_unload_68 : decode cX7_unload 68 = .ok (.getfield 40, 3) := by decide +kernel
theorem dX7_unload_71 : decode cX7_unload 71 = .ok (.invokevirtual 241, 3) := by decide +kernel
theorem dX7_unload_74 : decode cX7_unload 74 = .ok (.aload_n 0, 1) := by decide +kernel
theorem dX7_unload_75 : decode cX7_unload 75 = .ok (.getfield 40, 3) := by decide +kernel
theorem dX7_unload_78 : decode cX7_unload 78 = .ok (.getfield 118, 3) := by decide +kernel
theorem dX7_unload_81 : decode cX7_unload 81 = .ok (.iload_n 3, 1) := by decide +kernel
theorem dX7_unload_82 : decode cX7_unload 82 = .ok (.invokevirtual 257, 3) := by decide +kernel
theorem dX7_unload_85 : decode cX7_unload 85 = .ok (.aload_n 0, 1) := by decide +kernel
theorem dX7_unload_86 : decode cX7_unload 86 = .ok (.getfield 40, 3) := by decide +kernel
theorem dX7_unload_89 : decode cX7_unload 89 = .ok (.getfield 248, 3) := by decide +kernel
theorem dX7_unload_92 : decode cX7_unload 92 = .ok (.iload_n 1, 1) := by decide +kernel
theorem dX7_unload_93 : decode cX7_unload 93 = .ok (.iconst 2, 1) := by decide +kernel
theorem dX7_unload_94 : decode cX7_unload 94 = .ok (.iastore, 1) := by decide +kernel
theorem dX7_unload_95 : decode cX7_unload 95 = .ok (.aload_n 0, 1) := by decide +kernel
theorem dX7_unload_96 : decode cX7_unload 96 = .ok (.getfield 40, 3) := by decide +kernel
theorem dX7_unload_99 : decode cX7_unload 99 = .ok (.getfield 183, 3) := by decide +kernel
theorem dX7_unload_102 : decode cX7_unload 102 = .ok (.iload_n 1, 1) := by decide +kernel
theorem dX7_unload_103 : decode cX7_unload 103 = .ok (.iload_n 2, 1) := by decide +kernel
theorem dX7_unload_104 : decode cX7_unload 104 = .ok (.iastore, 1) := by decide +kernel
theorem dX7_unload_105 : decode cX7_unload 105 = .ok (.aload_n 0, 1) := by decide +kernel
theorem dX7_unload_106 : decode cX7_unload 106 = .ok (.getfield 40, 3) := by decide +kernel
theorem dX7_unload_109 : decode cX7_unload 109 = .ok (.aload_n 0, 1) := by decide +kernel
theorem dX7_unload_110 : decode cX7_unload 110 = .ok (.getfield 30, 3) := by decide +kernel
theorem dX7_unload_113 : decode cX7_unload 113 = .ok (.iload_n 1, 1) := by decide +kernel
theorem dX7_unload_114 : decode cX7_unload 114 = .ok (.invokevirtual 186, 3) := by decide +kernel
theorem dX7_unload_117 : decode cX7_unload 117 = .ok (.ireturn, 1) := by decide +kernel
theorem dX7_empty_0 : decode cX7_empty 0 = .ok (.aload_n 0, 1) := by decide +kernel
theorem dX7_empty_1 : decode cX7_empty 1 = .ok (.getfield 30, 3) := by decide +kernel
theorem dX7_empty_4 : decode cX7_empty 4 = .ok (.iload_n 1, 1) := by decide +kernel
theorem dX7_empty_5 : decode cX7_empty 5 = .ok (.invokevirtual 138, 3) := by decide +kernel
theorem dX7_empty_8 : decode cX7_empty 8 = .ok (.ifCond .eq 18, 3) := by decide +kernel
theorem dX7_empty_11 : decode cX7_empty 11 = .ok (.aload_n 0, 1) := by decide +kernel
theorem dX7_empty_12 : decode cX7_empty 12 = .ok (.getfield 40, 3) := by decide +kernel
theorem dX7_empty_15 : decode cX7_empty 15 = .ok (.getfield 118, 3) := by decide +kernel
theorem dX7_empty_18 : decode cX7_empty 18 = .ok (.getfield 156, 3) := by decide +kernel
theorem dX7_empty_21 : decode cX7_empty 21 = .ok (.iload_n 1, 1) := by decide +kernel
theorem dX7_empty_22 : decode cX7_empty 22 = .ok (.iaload, 1) := by decide +kernel
theorem dX7_empty_23 : decode cX7_empty 23 = .ok (.ifCond .ne 5, 3) := by decide +kernel
theorem dX7_empty_26 : decode cX7_empty 26 = .ok (.iconst (-1), 1) := by decide +kernel
theorem dX7_empty_27 : decode cX7_empty 27 = .ok (.ireturn, 1) := by decide +kernel
theorem dX7_empty_28 : decode cX7_empty 28 = .ok (.aload_n 0, 1) := by decide +kernel
theorem dX7_empty_29 : decode cX7_empty 29 = .ok (.aload_n 0, 1) := by decide +kernel
theorem dX7_empty_30 : decode cX7_empty 30 = .ok (.getfield 40, 3) := by decide +kernel
theorem dX7_empty_33 : decode cX7_empty 33 = .ok (.getfield 118, 3) := by decide +kernel
theorem dX7_empty_36 : decode cX7_empty 36 = .ok (.getfield 159, 3) := by decide +kernel
theorem dX7_empty_39 : decode cX7_empty 39 = .ok (.iload_n 1, 1) := by decide +kernel
theorem dX7_empty_40 : decode cX7_empty 40 = .ok (.iaload, 1) := by decide +kernel
theorem dX7_empty_41 : decode cX7_empty 41 = .ok (.iconst 1, 1) := by decide +kernel
theorem dX7_empty_42 : decode cX7_empty 42 = .ok (.invokevirtual 211, 3) := by decide +kernel
theorem dX7_empty_45 : decode cX7_empty 45 = .ok (.ifCond .eq 21, 3) := by decide +kernel
theorem dX7_empty_48 : decode cX7_empty 48 = .ok (.aload_n 0, 1) := by decide +kernel
theorem dX7_empty_49 : decode cX7_empty 49 = .ok (.getfield 40, 3) := by decide +kernel
theorem dX7_empty_52 : decode cX7_empty 52 = .ok (.aload_n 0, 1) := by decide +kernel
theorem dX7_empty_53 : decode cX7_empty 53 = .ok (.getfield 30, 3) := by decide +kernel
theorem dX7_empty_56 : decode cX7_empty 56 = .ok (.invokevirtual 237, 3) := by decide +kernel
theorem dX7_empty_59 : decode cX7_empty 59 = .ok (.iconst 4, 1) := by decide +kernel
theorem dX7_empty_60 : decode cX7_empty 60 = .ok (.if_icmp .lt 6, 3) := by decide +kernel
theorem dX7_empty_63 : decode cX7_empty 63 = .ok (.bipush (-2), 2) := by decide +kernel
theorem dX7_empty_65 : decode cX7_empty 65 = .ok (.ireturn, 1) := by decide +kernel
theorem dX7_empty_66 : decode cX7_empty 66 = .ok (.aload_n 0, 1) := by decide +kernel
theorem dX7_empty_67 : decode cX7_empty 67 = .ok (.getfield 47, 3) := by decide +kernel
theorem dX7_empty_70 : decode cX7_empty 70 = .ok (.aload_n 0, 1) := by decide +kernel
theorem dX7_empty_71 : decode cX7_empty 71 = .ok (.getfield 40, 3) := by decide +kernel
theorem dX7_empty_74 : decode cX7_empty 74 = .ok (.invokevirtual 241, 3) := by decide +kernel
theorem dX7_empty_77 : decode cX7_empty 77 = .ok (.aload_n 0, 1) := by decide +kernel
theorem dX7_empty_78 : decode cX7_empty 78 = .ok (.getfield 40, 3) := by decide +kernel
theorem dX7_empty_81 : decode cX7_empty 81 = .ok (.getfield 118, 3) := by decide +kernel
theorem dX7_empty_84 : decode cX7_empty 84 = .ok (.getfield 156, 3) := by decide +kernel
theorem dX7_empty_87 : decode cX7_empty 87 = .ok (.iload_n 1, 1) := by decide +kernel
theorem dX7_empty_88 : decode cX7_empty 88 = .ok (.iaload, 1) := by decide +kernel
theorem dX7_empty_89 : decode cX7_empty 89 = .ok (.istore_n 2, 1) := by decide +kernel
theorem dX7_empty_90 : decode cX7_empty 90 = .ok (.aload_n 0, 1) := by decide +kernel
theorem dX7_empty_91 : decode cX7_empty 91 = .ok (.getfield 40, 3) := by decide +kernel
theorem dX7_empty_94 : decode cX7_empty 94 = .ok (.getfield 118, 3) := by decide +kernel
theorem dX7_empty_97 : decode cX7_empty 97 = .ok (.iload_n 1, 1) := by decide +kernel
theorem dX7_empty_98 : decode cX7_empty 98 = .ok (.invokevirtual 260, 3) := by decide +kernel
theorem dX7_empty_101 : decode cX7_empty 101 = .ok (.iload_n 2, 1) := by decide +kernel
theorem dX7_empty_102 : decode cX7_empty 102 = .ok (.ireturn, 1) := by decide +kernel
theorem dX7_wash_0 : decode cX7_wash 0 = .ok (.aload_n 0, 1) := by decide +kernel
theorem dX7_wash_1 : decode cX7_wash 1 = .ok (.getfield 30, 3) := by decide +kernel
theorem dX7_wash_4 : decode cX7_wash 4 = .ok (.iload_n 1, 1) := by decide +kernel
theorem dX7_wash_5 : decode cX7_wash 5 = .ok (.invokevirtual 138, 3) := by decide +kernel
theorem dX7_wash_8 : decode cX7_wash 8 = .ok (.ifCond .eq 34, 3) := by decide +kernel
theorem dX7_wash_11 : decode cX7_wash 11 = .ok (.aload_n 0, 1) := by decide +kernel
theorem dX7_wash_12 : decode cX7_wash 12 = .ok (.getfield 40, 3) := by decide +kernel
theorem dX7_wash_15 : decode cX7_wash 15 = .ok (.getfield 118, 3) := by decide +kernel
theorem dX7_wash_18 : decode cX7_wash 18 = .ok (.getfield 156, 3) := by decide +kernel
theorem dX7_wash_21 : decode cX7_wash 21 = .ok (.iload_n 1, 1) := by decide +kernel
theorem dX7_wash_22 : decode cX7_wash 22 = .ok (.iaload, 1) := by decide +kernel
theorem dX7_wash_23 : decode cX7_wash 23 = .ok (.ifCond .gt 19, 3) := by decide +kernel
theorem dX7_wash_26 : decode cX7_wash 26 = .ok (.aload_n 0, 1) := by decide +kernel
theorem dX7_wash_27 : decode cX7_wash 27 = .ok (.getfield 40, 3) := by decide +kernel
theorem dX7_wash_30 : decode cX7_wash 30 = .ok (.getfield 118, 3) := by decide +kernel
theorem dX7_wash_33 : decode cX7_wash 33 = .ok (.getfield 162, 3) := by decide +kernel
theorem dX7_wash_36 : decode cX7_wash 36 = .ok (.iload_n 1, 1) := by decide +kernel
theorem dX7_wash_37 : decode cX7_wash 37 = .ok (.iaload, 1) := by decide +kernel
theorem dX7_wash_38 : decode cX7_wash 38 = .ok (.iconst (-1), 1) := by decide +kernel
theorem dX7_wash_39 : decode cX7_wash 39 = .ok (.if_icmp .ne 5, 3) := by decide +kernel
theorem dX7_wash_42 : decode cX7_wash 42 = .ok (.iconst 0, 1) := by decide +kernel
theorem dX7_wash_43 : decode cX7_wash 43 = .ok (.ireturn, 1) := by decide +kernel
theorem dX7_wash_44 : decode cX7_wash 44 = .ok (.aload_n 0, 1) := by decide +kernel
theorem dX7_wash_45 : decode cX7_wash 45 = .ok (.getfield 47, 3) := by decide +kernel
theorem dX7_wash_48 : decode cX7_wash 48 = .ok (.aload_n 0, 1) := by decide +kernel
theorem dX7_wash_49 : decode cX7_wash 49 = .ok (.getfield 40, 3) := by decide +kernel
theorem dX7_wash_52 : decode cX7_wash 52 = .ok (.invokevirtual 241, 3) := by decide +kernel
theorem dX7_wash_55 : decode cX7_wash 55 = .ok (.aload_n 0, 1) := by decide +kernel
theorem dX7_wash_56 : decode cX7_wash 56 = .ok (.getfield 40, 3) := by decide +kernel
theorem dX7_wash_59 : decode cX7_wash 59 = .ok (.getfield 118, 3) := by decide +kernel
theorem dX7_wash_62 : decode cX7_wash 62 = .ok (.getfield 162, 3) := by decide +kernel
theorem dX7_wash_65 : decode cX7_wash 65 = .ok (.iload_n 1, 1) := by decide +kernel
theorem dX7_wash_66 : decode cX7_wash 66 = .ok (.iconst (-1), 1) := by decide +kernel
theorem dX7_wash_67 : decode cX7_wash 67 = .ok (.iastore, 1) := by decide +kernel
theorem dX7_wash_68 : decode cX7_wash 68 = .ok (.aload_n 0, 1) := by decide +kernel
theorem dX7_wash_69 : decode cX7_wash 69 = .ok (.getfield 40, 3) := by decide +kernel
theorem dX7_wash_72 : decode cX7_wash 72 = .ok (.dup, 1) := by decide +kernel
theorem dX7_wash_73 : decode cX7_wash 73 = .ok (.getfield 131, 3) := by decide +kernel
theorem dX7_wash_76 : decode cX7_wash 76 = .ok (.iconst 1, 1) := by decide +kernel
theorem dX7_wash_77 : decode cX7_wash 77 = .ok (.iadd, 1) := by decide +kernel
theorem dX7_wash_78 : decode cX7_wash 78 = .ok (.putfield 131, 3) := by decide +kernel
theorem dX7_wash_81 : decode cX7_wash 81 = .ok (.iconst 1, 1) := by decide +kernel
theorem dX7_wash_82 : decode cX7_wash 82 = .ok (.ireturn, 1) := by decide +kernel
theorem dX7_undo_0 : decode cX7_undo 0 = .ok (.aload_n 0, 1) := by decide +kernel
theorem dX7_undo_1 : decode cX7_undo 1 = .ok (.getfield 47, 3) := by decide +kernel
theorem dX7_undo_4 : decode cX7_undo 4 = .ok (.aload_n 0, 1) := by decide +kernel
theorem dX7_undo_5 : decode cX7_undo 5 = .ok (.getfield 40, 3) := by decide +kernel
theorem dX7_undo_8 : decode cX7_undo 8 = .ok (.invokevirtual 263, 3) := by decide +kernel
theorem dX7_undo_11 : decode cX7_undo 11 = .ok (.ifCond .eq 13, 3) := by decide +kernel
theorem dX7_undo_14 : decode cX7_undo 14 = .ok (.aload_n 0, 1) := by decide +kernel
theorem dX7_undo_15 : decode cX7_undo 15 = .ok (.getfield 47, 3) := by decide +kernel
theorem dX7_undo_18 : decode cX7_undo 18 = .ok (.getfield 134, 3) := by decide +kernel
theorem dX7_undo_21 : decode cX7_undo 21 = .ok (.goto 4, 3) := by decide +kernel
theorem dX7_undo_24 : decode cX7_undo 24 = .ok (.iconst (-1), 1) := by decide +kernel
theorem dX7_undo_25 : decode cX7_undo 25 = .ok (.ireturn, 1) := by decide +kernel
theorem dX7_tapeNumber_0 : decode cX7_tapeNumber 0 = .ok (.bipush 24, 2) := by decide +kernel
theorem dX7_tapeNumber_2 : decode cX7_tapeNumber 2 = .ok (.istore_n 2, 1) := by decide +kernel
theorem dX7_tapeNumber_3 : decode cX7_tapeNumber 3 = .ok (.iload_n 2, 1) := by decide +kernel
theorem dX7_tapeNumber_4 : decode cX7_tapeNumber 4 = .ok (.ifCond .lt 42, 3) := by decide +kernel
theorem dX7_tapeNumber_7 : decode cX7_tapeNumber 7 = .ok (.aload_n 0, 1) := by decide +kernel
theorem dX7_tapeNumber_8 : decode cX7_tapeNumber 8 = .ok (.getfield 13, 3) := by decide +kernel
theorem dX7_tapeNumber_11 : decode cX7_tapeNumber 11 = .ok (.sipush 740, 3) := by decide +kernel
theorem dX7_tapeNumber_14 : decode cX7_tapeNumber 14 = .ok (.if_icmp .ge 26, 3) := by decide +kernel
theorem dX7_tapeNumber_17 : decode cX7_tapeNumber 17 = .ok (.aload_n 0, 1) := by decide +kernel
theorem dX7_tapeNumber_18 : decode cX7_tapeNumber 18 = .ok (.getfield 9, 3) := by decide +kernel
theorem dX7_tapeNumber_21 : decode cX7_tapeNumber 21 = .ok (.aload_n 0, 1) := by decide +kernel
theorem dX7_tapeNumber_22 : decode cX7_tapeNumber 22 = .ok (.getfield 13, 3) := by decide +kernel
theorem dX7_tapeNumber_25 : decode cX7_tapeNumber 25 = .ok (.iload_n 1, 1) := by decide +kernel
theorem dX7_tapeNumber_26 : decode cX7_tapeNumber 26 = .ok (.iload_n 2, 1) := by decide +kernel
theorem dX7_tapeNumber_27 : decode cX7_tapeNumber 27 = .ok (.ishr, 1) := by decide +kernel
theorem dX7_tapeNumber_28 : decode cX7_tapeNumber 28 = .ok (.i2b, 1) := by decide +kernel
theorem dX7_tapeNumber_29 : decode cX7_tapeNumber 29 = .ok (.bastore, 1) := by decide +kernel
theorem dX7_tapeNumber_30 : decode cX7_tapeNumber 30 = .ok (.aload_n 0, 1) := by decide +kernel
theorem dX7_tapeNumber_31 : decode cX7_tapeNumber 31 = .ok (.dup, 1) := by decide +kernel
theorem dX7_tapeNumber_32 : decode cX7_tapeNumber 32 = .ok (.getfield 13, 3) := by decide +kernel
theorem dX7_tapeNumber_35 : decode cX7_tapeNumber 35 = .ok (.iconst 1, 1) := by decide +kernel
theorem dX7_tapeNumber_36 : decode cX7_tapeNumber 36 = .ok (.iadd, 1) := by decide +kernel
theorem dX7_tapeNumber_37 : decode cX7_tapeNumber 37 = .ok (.putfield 13, 3) := by decide +kernel
theorem dX7_tapeNumber_40 : decode cX7_tapeNumber 40 = .ok (.iinc 2 (-8), 3) := by decide +kernel
theorem dX7_tapeNumber_43 : decode cX7_tapeNumber 43 = .ok (.goto (-40), 3) := by decide +kernel
theorem dX7_tapeNumber_46 : decode cX7_tapeNumber 46 = .ok (.return_, 1) := by decide +kernel
theorem dX7_isSo_0 : decode cX7_isSo 0 = .ok (.aload_n 0, 1) := by decide +kernel
theorem dX7_isSo_1 : decode cX7_isSo 1 = .ok (.getfield 40, 3) := by decide +kernel
theorem dX7_isSo_4 : decode cX7_isSo 4 = .ok (.iload_n 1, 1) := by decide +kernel
theorem dX7_isSo_5 : decode cX7_isSo 5 = .ok (.invokevirtual 165, 3) := by decide +kernel
theorem dX7_isSo_8 : decode cX7_isSo 8 = .ok (.ifCond .eq 23, 3) := by decide +kernel
theorem dX7_isSo_11 : decode cX7_isSo 11 = .ok (.aload_n 0, 1) := by decide +kernel
theorem dX7_isSo_12 : decode cX7_isSo 12 = .ok (.getfield 40, 3) := by decide +kernel
theorem dX7_isSo_15 : decode cX7_isSo 15 = .ok (.aload_n 0, 1) := by decide +kernel
theorem dX7_isSo_16 : decode cX7_isSo 16 = .ok (.getfield 30, 3) := by decide +kernel
theorem dX7_isSo_19 : decode cX7_isSo 19 = .ok (.iload_n 1, 1) := by decide +kernel
theorem dX7_isSo_20 : decode cX7_isSo 20 = .ok (.invokevirtual 180, 3) := by decide +kernel
theorem dX7_isSo_23 : decode cX7_isSo 23 = .ok (.iload_n 2, 1) := by decide +kernel
theorem dX7_isSo_24 : decode cX7_isSo 24 = .ok (.if_icmp .ne 7, 3) := by decide +kernel
theorem dX7_isSo_27 : decode cX7_isSo 27 = .ok (.iconst 1, 1) := by decide +kernel
theorem dX7_isSo_28 : decode cX7_isSo 28 = .ok (.goto 4, 3) := by decide +kernel
theorem dX7_isSo_31 : decode cX7_isSo 31 = .ok (.iconst 0, 1) := by decide +kernel
theorem dX7_isSo_32 : decode cX7_isSo 32 = .ok (.ireturn, 1) := by decide +kernel
theorem dX8_thrown_0 : decode cX8_thrown 0 = .ok (.aload_n 0, 1) := by decide +kernel
theorem dX8_thrown_1 : decode cX8_thrown 1 = .ok (.getfield 1, 3) := by decide +kernel
theorem dX8_thrown_4 : decode cX8_thrown 4 = .ok (.ireturn, 1) := by decide +kernel
theorem dX8_refuse_0 : decode cX8_refuse 0 = .ok (.aload_n 0, 1) := by decide +kernel
theorem dX8_refuse_1 : decode cX8_refuse 1 = .ok (.iconst 1, 1) := by decide +kernel
theorem dX8_refuse_2 : decode cX8_refuse 2 = .ok (.putfield 1, 3) := by decide +kernel
theorem dX8_refuse_5 : decode cX8_refuse 5 = .ok (.iconst 0, 1) := by decide +kernel
theorem dX8_refuse_6 : decode cX8_refuse 6 = .ok (.ireturn, 1) := by decide +kernel
theorem dX8_isIn_0 : decode cX8_isIn 0 = .ok (.iload_n 0, 1) := by decide +kernel
theorem dX8_isIn_1 : decode cX8_isIn 1 = .ok (.iload_n 1, 1) := by decide +kernel
theorem dX8_isIn_2 : decode cX8_isIn 2 = .ok (.if_icmp .lt 12, 3) := by decide +kernel
theorem dX8_isIn_5 : decode cX8_isIn 5 = .ok (.iload_n 0, 1) := by decide +kernel
theorem dX8_isIn_6 : decode cX8_isIn 6 = .ok (.iload_n 2, 1) := by decide +kernel
theorem dX8_isIn_7 : decode cX8_isIn 7 = .ok (.if_icmp .gt 7, 3) := by decide +kernel
theorem dX8_isIn_10 : decode cX8_isIn 10 = .ok (.iconst 1, 1) := by decide +kernel
theorem dX8_isIn_11 : decode cX8_isIn 11 = .ok (.goto 4, 3) := by decide +kernel
theorem dX8_isIn_14 : decode cX8_isIn 14 = .ok (.iconst 0, 1) := by decide +kernel
theorem dX8_isIn_15 : decode cX8_isIn 15 = .ok (.ireturn, 1) := by decide +kernel
theorem dX8_has_0 : decode cX8_has 0 = .ok (.iload_n 0, 1) := by decide +kernel
theorem dX8_has_1 : decode cX8_has 1 = .ok (.iload_n 1, 1) := by decide +kernel
theorem dX8_has_2 : decode cX8_has 2 = .ok (.ishr, 1) := by decide +kernel
theorem dX8_has_3 : decode cX8_has 3 = .ok (.iconst 1, 1) := by decide +kernel
theorem dX8_has_4 : decode cX8_has 4 = .ok (.iand, 1) := by decide +kernel
theorem dX8_has_5 : decode cX8_has 5 = .ok (.iconst 1, 1) := by decide +kernel
theorem dX8_has_6 : decode cX8_has 6 = .ok (.if_icmp .ne 7, 3) := by decide +kernel
theorem dX8_has_9 : decode cX8_has 9 = .ok (.iconst 1, 1) := by decide +kernel
theorem dX8_has_10 : decode cX8_has 10 = .ok (.goto 4, 3) := by decide +kernel
theorem dX8_has_13 : decode cX8_has 13 = .ok (.iconst 0, 1) := by decide +kernel
theorem dX8_has_14 : decode cX8_has 14 = .ok (.ireturn, 1) := by decide +kernel
theorem dX8_lays_0 : decode cX8_lays 0 = .ok (.bipush 24, 2) := by decide +kernel
theorem dX8_lays_2 : decode cX8_lays 2 = .ok (.istore_n 2, 1) := by decide +kernel
theorem dX8_lays_3 : decode cX8_lays 3 = .ok (.iload_n 2, 1) := by decide +kernel
theorem dX8_lays_4 : decode cX8_lays 4 = .ok (.ifCond .lt 35, 3) := by decide +kernel
theorem dX8_lays_7 : decode cX8_lays 7 = .ok (.aload_n 0, 1) := by decide +kernel
theorem dX8_lays_8 : decode cX8_lays 8 = .ok (.getfield 7, 3) := by decide +kernel
theorem dX8_lays_11 : decode cX8_lays 11 = .ok (.aload_n 0, 1) := by decide +kernel
theorem dX8_lays_12 : decode cX8_lays 12 = .ok (.getfield 11, 3) := by decide +kernel
theorem dX8_lays_15 : decode cX8_lays 15 = .ok (.iload_n 1, 1) := by decide +kernel
theorem dX8_lays_16 : decode cX8_lays 16 = .ok (.iload_n 2, 1) := by decide +kernel
theorem dX8_lays_17 : decode cX8_lays 17 = .ok (.iushr, 1) := by decide +kernel
theorem dX8_lays_18 : decode cX8_lays 18 = .ok (.sipush 255, 3) := by decide +kernel
theorem dX8_lays_21 : decode cX8_lays 21 = .ok (.iand, 1) := by decide +kernel
theorem dX8_lays_22 : decode cX8_lays 22 = .ok (.iastore, 1) := by decide +kernel
theorem dX8_lays_23 : decode cX8_lays 23 = .ok (.aload_n 0, 1) := by decide +kernel
theorem dX8_lays_24 : decode cX8_lays 24 = .ok (.dup, 1) := by decide +kernel
theorem dX8_lays_25 : decode cX8_lays 25 = .ok (.getfield 11, 3) := by decide +kernel
theorem dX8_lays_28 : decode cX8_lays 28 = .ok (.iconst 1, 1) := by decide +kernel
theorem dX8_lays_29 : decode cX8_lays 29 = .ok (.iadd, 1) := by decide +kernel
theorem dX8_lays_30 : decode cX8_lays 30 = .ok (.putfield 11, 3) := by decide +kernel
theorem dX8_lays_33 : decode cX8_lays 33 = .ok (.iinc 2 (-8), 3) := by decide +kernel
theorem dX8_lays_36 : decode cX8_lays 36 = .ok (.goto (-33), 3) := by decide +kernel
theorem dX8_lays_39 : decode cX8_lays 39 = .ok (.return_, 1) := by decide +kernel
theorem dX8_feed_0 : decode cX8_feed 0 = .ok (.aload_n 0, 1) := by decide +kernel
theorem dX8_feed_1 : decode cX8_feed 1 = .ok (.iconst 0, 1) := by decide +kernel
theorem dX8_feed_2 : decode cX8_feed 2 = .ok (.putfield 1, 3) := by decide +kernel
theorem dX8_feed_5 : decode cX8_feed 5 = .ok (.aload_n 0, 1) := by decide +kernel
theorem dX8_feed_6 : decode cX8_feed 6 = .ok (.getfield 11, 3) := by decide +kernel
theorem dX8_feed_9 : decode cX8_feed 9 = .ok (.bipush 20, 2) := by decide +kernel
theorem dX8_feed_11 : decode cX8_feed 11 = .ok (.iadd, 1) := by decide +kernel
theorem dX8_feed_12 : decode cX8_feed 12 = .ok (.sipush 740, 3) := by decide +kernel
theorem dX8_feed_15 : decode cX8_feed 15 = .ok (.if_icmp .le 5, 3) := by decide +kernel
theorem dX8_feed_18 : decode cX8_feed 18 = .ok (.iconst (-1), 1) := by decide +kernel
theorem dX8_feed_19 : decode cX8_feed 19 = .ok (.ireturn, 1) := by decide +kernel
theorem dX8_feed_20 : decode cX8_feed 20 = .ok (.aload_n 0, 1) := by decide +kernel
theorem dX8_feed_21 : decode cX8_feed 21 = .ok (.iload_n 1, 1) := by decide +kernel
theorem dX8_feed_22 : decode cX8_feed 22 = .ok (.invokevirtual 14, 3) := by decide +kernel
theorem dX8_feed_25 : decode cX8_feed 25 = .ok (.aload_n 0, 1) := by decide +kernel
theorem dX8_feed_26 : decode cX8_feed 26 = .ok (.iload_n 2, 1) := by decide +kernel
theorem dX8_feed_27 : decode cX8_feed 27 = .ok (.invokevirtual 14, 3) := by decide +kernel
theorem dX8_feed_30 : decode cX8_feed 30 = .ok (.aload_n 0, 1) := by decide +kernel
theorem dX8_feed_31 : decode cX8_feed 31 = .ok (.iload_n 3, 1) := by decide +kernel
theorem dX8_feed_32 : decode cX8_feed 32 = .ok (.invokevirtual 14, 3) := by decide +kernel
theorem dX8_feed_35 : decode cX8_feed 35 = .ok (.aload_n 0, 1) := by decide +kernel
theorem dX8_feed_36 : decode cX8_feed 36 = .ok (.iload 4, 2) := by decide +kernel
theorem dX8_feed_38 : decode cX8_feed 38 = .ok (.invokevirtual 14, 3) := by decide +kernel
theorem dX8_feed_41 : decode cX8_feed 41 = .ok (.aload_n 0, 1) := by decide +kernel
theorem dX8_feed_42 : decode cX8_feed 42 = .ok (.iload 5, 2) := by decide +kernel
theorem dX8_feed_44 : decode cX8_feed 44 = .ok (.invokevirtual 14, 3) := by decide +kernel
theorem dX8_feed_47 : decode cX8_feed 47 = .ok (.aload_n 0, 1) := by decide +kernel
theorem dX8_feed_48 : decode cX8_feed 48 = .ok (.getfield 11, 3) := by decide +kernel
theorem dX8_feed_51 : decode cX8_feed 51 = .ok (.ireturn, 1) := by decide +kernel
theorem dX8_end_0 : decode cX8_end 0 = .ok (.aload_n 0, 1) := by decide +kernel
theorem dX8_end_1 : decode cX8_end 1 = .ok (.iconst 0, 1) := by decide +kernel
theorem dX8_end_2 : decode cX8_end 2 = .ok (.putfield 1, 3) := by decide +kernel
theorem dX8_end_5 : decode cX8_end 5 = .ok (.iload_n 1, 1) := by decide +kernel
theorem dX8_end_6 : decode cX8_end 6 = .ok (.ifCond .lt 11, 3) := by decide +kernel
theorem dX8_end_9 : decode cX8_end 9 = .ok (.iload_n 1, 1) := by decide +kernel
theorem dX8_end_10 : decode cX8_end 10 = .ok (.aload_n 0, 1) := by decide +kernel
theorem dX8_end_11 : decode cX8_end 11 = .ok (.getfield 11, 3) := by decide +kernel
theorem dX8_end_14 : decode cX8_end 14 = .ok (.if_icmp .le 5, 3) := by decide +kernel
theorem dX8_end_17 : decode cX8_end 17 = .ok (.iconst 0, 1) := by decide +kernel
theorem dX8_end_18 : decode cX8_end 18 = .ok (.ireturn, 1) := by decide +kernel
theorem dX8_end_19 : decode cX8_end 19 = .ok (.aload_n 0, 1) := by decide +kernel
theorem dX8_end_20 : decode cX8_end 20 = .ok (.iload_n 1, 1) := by decide +kernel
theorem dX8_end_21 : decode cX8_end 21 = .ok (.putfield 11, 3) := by decide +kernel
theorem dX8_end_24 : decode cX8_end 24 = .ok (.iconst 1, 1) := by decide +kernel
theorem dX8_end_25 : decode cX8_end 25 = .ok (.ireturn, 1) := by decide +kernel
theorem dX8_tapeAt_0 : decode cX8_tapeAt 0 = .ok (.iload_n 1, 1) := by decide +kernel
theorem dX8_tapeAt_1 : decode cX8_tapeAt 1 = .ok (.aload_n 0, 1) := by decide +kernel
theorem dX8_tapeAt_2 : decode cX8_tapeAt 2 = .ok (.getfield 18, 3) := by decide +kernel
theorem dX8_tapeAt_5 : decode cX8_tapeAt 5 = .ok (.if_icmp .ge 12, 3) := by decide +kernel
theorem dX8_tapeAt_8 : decode cX8_tapeAt 8 = .ok (.aload_n 0, 1) := by decide +kernel
theorem dX8_tapeAt_9 : decode cX8_tapeAt 9 = .ok (.getfield 7, 3) := by decide +kernel
theorem dX8_tapeAt_12 : decode cX8_tapeAt 12 = .ok (.iload_n 1, 1) := by decide +kernel
theorem dX8_tapeAt_13 : decode cX8_tapeAt 13 = .ok (.iaload, 1) := by decide +kernel
theorem dX8_tapeAt_14 : decode cX8_tapeAt 14 = .ok (.goto 4, 3) := by decide +kernel
theorem dX8_tapeAt_17 : decode cX8_tapeAt 17 = .ok (.iconst 0, 1) := by decide +kernel
theorem dX8_tapeAt_18 : decode cX8_tapeAt 18 = .ok (.ireturn, 1) := by decide +kernel
theorem dX8_isDigit_0 : decode cX8_isDigit 0 = .ok (.iload_n 0, 1) := by decide +kernel
theorem dX8_isDigit_1 : decode cX8_isDigit 1 = .ok (.bipush 48, 2) := by decide +kernel
theorem dX8_isDigit_3 : decode cX8_isDigit 3 = .ok (.if_icmp .lt 13, 3) := by decide +kernel
theorem dX8_isDigit_6 : decode cX8_isDigit 6 = .ok (.iload_n 0, 1) := by decide +kernel
theorem dX8_isDigit_7 : decode cX8_isDigit 7 = .ok (.bipush 57, 2) := by decide +kernel
theorem dX8_isDigit_9 : decode cX8_isDigit 9 = .ok (.if_icmp .gt 7, 3) := by decide +kernel
theorem dX8_isDigit_12 : decode cX8_isDigit 12 = .ok (.iconst 1, 1) := by decide +kernel
theorem dX8_isDigit_13 : decode cX8_isDigit 13 = .ok (.goto 4, 3) := by decide +kernel
theorem dX8_isDigit_16 : decode cX8_isDigit 16 = .ok (.iconst 0, 1) := by decide +kernel
theorem dX8_isDigit_17 : decode cX8_isDigit 17 = .ok (.ireturn, 1) := by decide +kernel
theorem dX8_isLetter_0 : decode cX8_isLetter 0 = .ok (.iload_n 0, 1) := by decide +kernel
theorem dX8_isLetter_1 : decode cX8_isLetter 1 = .ok (.bipush 97, 2) := by decide +kernel
theorem dX8_isLetter_3 : decode cX8_isLetter 3 = .ok (.if_icmp .lt 13, 3) := by decide +kernel
theorem dX8_isLetter_6 : decode cX8_isLetter 6 = .ok (.iload_n 0, 1) := by decide +kernel
theorem dX8_isLetter_7 : decode cX8_isLetter 7 = .ok (.bipush 122, 2) := by decide +kernel
theorem dX8_isLetter_9 : decode cX8_isLetter 9 = .ok (.if_icmp .gt 7, 3) := by decide +kernel
theorem dX8_isLetter_12 : decode cX8_isLetter 12 = .ok (.iconst 1, 1) := by decide +kernel
theorem dX8_isLetter_13 : decode cX8_isLetter 13 = .ok (.goto 4, 3) := by decide +kernel
theorem dX8_isLetter_16 : decode cX8_isLetter 16 = .ok (.iconst 0, 1) := by decide +kernel
theorem dX8_isLetter_17 : decode cX8_isLetter 17 = .ok (.ireturn, 1) := by decide +kernel
theorem dX8_go_0 : decode cX8_go 0 = .ok (.aload_n 0, 1) := by decide +kernel
theorem dX8_go_1 : decode cX8_go 1 = .ok (.getfield 21, 3) := by decide +kernel
theorem dX8_go_4 : decode cX8_go 4 = .ok (.aload_n 0, 1) := by decide +kernel
theorem dX8_go_5 : decode cX8_go 5 = .ok (.getfield 18, 3) := by decide +kernel
theorem dX8_go_8 : decode cX8_go 8 = .ok (.if_icmp .ge 44, 3) := by decide +kernel
theorem dX8_go_11 : decode cX8_go 11 = .ok (.aload_n 0, 1) := by decide +kernel
theorem dX8_go_12 : decode cX8_go 12 = .ok (.getfield 7, 3) := by decide +kernel
theorem dX8_go_15 : decode cX8_go 15 = .ok (.aload_n 0, 1) := by decide +kernel
theorem dX8_go_16 : decode cX8_go 16 = .ok (.getfield 21, 3) := by decide +kernel
theorem dX8_go_19 : decode cX8_go 19 = .ok (.iaload, 1) := by decide +kernel
theorem dX8_go_20 : decode cX8_go 20 = .ok (.bipush 32, 2) := by decide +kernel
theorem dX8_go_22 : decode cX8_go 22 = .ok (.if_icmp .eq 17, 3) := by decide +kernel
theorem dX8_go_25 : decode cX8_go 25 = .ok (.aload_n 0, 1) := by decide +kernel
theorem dX8_go_26 : decode cX8_go 26 = .ok (.getfield 7, 3) := by decide +kernel
theorem dX8_go_29 : decode cX8_go 29 = .ok (.aload_n 0, 1) := by decide +kernel
theorem dX8_go_30 : decode cX8_go 30 = .ok (.getfield 21, 3) := by decide +kernel
theorem dX8_go_33 : decode cX8_go 33 = .ok (.iaload, 1) := by decide +kernel
theorem dX8_go_34 : decode cX8_go 34 = .ok (.bipush 10, 2) := by decide +kernel
theorem dX8_go_36 : decode cX8_go 36 = .ok (.if_icmp .ne 16, 3) := by decide +kernel
theorem dX8_go_39 : decode cX8_go 39 = .ok (.aload_n 0, 1) := by decide +kernel
theorem dX8_go_40 : decode cX8_go 40 = .ok (.dup, 1) := by decide +kernel
theorem dX8_go_41 : decode cX8_go 41 = .ok (.getfield 21, 3) := by decide +kernel
theorem dX8_go_44 : decode cX8_go 44 = .ok (.iconst 1, 1) := by decide +kernel
theorem dX8_go_45 : decode cX8_go 45 = .ok (.iadd, 1) := by decide +kernel
theorem dX8_go_46 : decode cX8_go 46 = .ok (.putfield 21, 3) := by decide +kernel
theorem dX8_go_49 : decode cX8_go 49 = .ok (.goto (-49), 3) := by decide +kernel
theorem dX8_go_52 : decode cX8_go 52 = .ok (.aload_n 0, 1) := by decide +kernel
theorem dX8_go_53 : decode cX8_go 53 = .ok (.aload_n 0, 1) := by decide +kernel
theorem dX8_go_54 : decode cX8_go 54 = .ok (.getfield 21, 3) := by decide +kernel
theorem dX8_go_57 : decode cX8_go 57 = .ok (.putfield 24, 3) := by decide +kernel
theorem dX8_go_60 : decode cX8_go 60 = .ok (.aload_n 0, 1) := by decide +kernel
theorem dX8_go_61 : decode cX8_go 61 = .ok (.getfield 18, 3) := by decide +kernel
theorem dX8_go_64 : decode cX8_go 64 = .ok (.sipush 700, 3) := by decide +kernel
theorem dX8_go_67 : decode cX8_go 67 = .ok (.if_icmp .le 26, 3) := by decide +kernel
theorem dX8_go_70 : decode cX8_go 70 = .ok (.aload_n 0, 1) := by decide +kernel
theorem dX8_go_71 : decode cX8_go 71 = .ok (.getfield 24, 3) := by decide +kernel
theorem dX8_go_74 : decode cX8_go 74 = .ok (.sipush 700, 3) := by decide +kernel
theorem dX8_go_77 : decode cX8_go 77 = .ok (.if_icmp .lt 16, 3) := by decide +kernel
theorem dX8_go_80 : decode cX8_go 80 = .ok (.aload_n 0, 1) := by decide +kernel
theorem dX8_go_81 : decode cX8_go 81 = .ok (.sipush 700, 3) := by decide +kernel
theorem dX8_go_84 : decode cX8_go 84 = .ok (.putfield 24, 3) := by decide +kernel
theorem dX8_go_87 : decode cX8_go 87 = .ok (.aload_n 0, 1) := by decide +kernel
theorem dX8_go_88 : decode cX8_go 88 = .ok (.iconst 1, 1) := by decide +kernel
theorem dX8_go_89 : decode cX8_go 89 = .ok (.putfield 27, 3) := by decide +kernel
theorem dX8_go_92 : decode cX8_go 92 = .ok (.return_, 1) := by decide +kernel
theorem dX8_go_93 : decode cX8_go 93 = .ok (.aload_n 0, 1) := by decide +kernel
theorem dX8_go_94 : decode cX8_go 94 = .ok (.getfield 21, 3) := by decide +kernel
theorem dX8_go_97 : decode cX8_go 97 = .ok (.aload_n 0, 1) := by decide +kernel
theorem dX8_go_98 : decode cX8_go 98 = .ok (.getfield 18, 3) := by decide +kernel
theorem dX8_go_101 : decode cX8_go 101 = .ok (.if_icmp .lt 9, 3) := by decide +kernel
theorem dX8_go_104 : decode cX8_go 104 = .ok (.aload_n 0, 1) := by decide +kernel
theorem dX8_go_105 : decode cX8_go 105 = .ok (.iconst 0, 1) := by decide +kernel
theorem dX8_go_106 : decode cX8_go 106 = .ok (.putfield 27, 3) := by decide +kernel
theorem dX8_go_109 : decode cX8_go 109 = .ok (.return_, 1) := by decide +kernel
theorem dX8_go_110 : decode cX8_go 110 = .ok (.aload_n 0, 1) := by decide +kernel
theorem dX8_go_111 : decode cX8_go 111 = .ok (.getfield 7, 3) := by decide +kernel
theorem dX8_go_114 : decode cX8_go 114 = .ok (.aload_n 0, 1) := by decide +kernel
theorem dX8_go_115 : decode cX8_go 115 = .ok (.getfield 21, 3) := by decide +kernel
theorem dX8_go_118 : decode cX8_go 118 = .ok (.iaload, 1) := by decide +kernel
theorem dX8_go_119 : decode cX8_go 119 = .ok (.istore_n 1, 1) := by decide +kernel
theorem dX8_go_120 : decode cX8_go 120 = .ok (.iload_n 1, 1) := by decide +kernel
theorem dX8_go_121 : decode cX8_go 121 = .ok (.invokestatic 30, 3) := by decide +kernel
theorem dX8_go_124 : decode cX8_go 124 = .ok (.ifCond .ne 36, 3) := by decide +kernel
theorem dX8_go_127 : decode cX8_go 127 = .ok (.iload_n 1, 1) := by decide +kernel
theorem dX8_go_128 : decode cX8_go 128 = .ok (.invokestatic 34, 3) := by decide +kernel
theorem dX8_go_131 : decode cX8_go 131 = .ok (.ifCond .ne 29, 3) := by decide +kernel
theorem dX8_go_134 : decode cX8_go 134 = .ok (.aload_n 0, 1) := by decide +kernel
theorem dX8_go_135 : decode cX8_go 135 = .ok (.iload_n 1, 1) := by decide +kernel
theorem dX8_go_136 : decode cX8_go 136 = .ok (.bipush 59, 2) := by decide +kernel
theorem dX8_go_138 : decode cX8_go 138 = .ok (.if_icmp .ne 7, 3) := by decide +kernel
theorem dX8_go_141 : decode cX8_go 141 = .ok (.iconst 4, 1) := by decide +kernel
theorem dX8_go_142 : decode cX8_go 142 = .ok (.goto 4, 3) := by decide +kernel
theorem dX8_go_145 : decode cX8_go 145 = .ok (.iconst 1, 1) := by decide +kernel
theorem dX8_go_146 : decode cX8_go 146 = .ok (.putfield 27, 3) := by decide +kernel
theorem dX8_go_149 : decode cX8_go 149 = .ok (.aload_n 0, 1) := by decide +kernel
theorem dX8_go_150 : decode cX8_go 150 = .ok (.dup, 1) := by decide +kernel
theorem dX8_go_151 : decode cX8_go 151 = .ok (.getfield 21, 3) := by decide +kernel
theorem dX8_go_154 : decode cX8_go 154 = .ok (.iconst 1, 1) := by decide +kernel
theorem dX8_go_155 : decode cX8_go 155 = .ok (.iadd, 1) := by decide +kernel
theorem dX8_go_156 : decode cX8_go 156 = .ok (.putfield 21, 3) := by decide +kernel
theorem dX8_go_159 : decode cX8_go 159 = .ok (.return_, 1) := by decide +kernel
theorem dX8_go_160 : decode cX8_go 160 = .ok (.iload_n 1, 1) := by decide +kernel
theorem dX8_go_161 : decode cX8_go 161 = .ok (.invokestatic 30, 3) := by decide +kernel
theorem dX8_go_164 : decode cX8_go 164 = .ok (.istore_n 2, 1) := by decide +kernel
theorem dX8_go_165 : decode cX8_go 165 = .ok (.iconst 1, 1) := by decide +kernel
theorem dX8_go_166 : decode cX8_go 166 = .ok (.istore_n 3, 1) := by decide +kernel
theorem dX8_go_167 : decode cX8_go 167 = .ok (.aload_n 0, 1) := by decide +kernel
theorem dX8_go_168 : decode cX8_go 168 = .ok (.lconst 0, 1) := by decide +kernel
theorem dX8_go_169 : decode cX8_go 169 = .ok (.putfield 37, 3) := by decide +kernel
theorem dX8_go_172 : decode cX8_go 172 = .ok (.aload_n 0, 1) := by decide +kernel
theorem dX8_go_173 : decode cX8_go 173 = .ok (.iconst 0, 1) := by decide +kernel
theorem dX8_go_174 : decode cX8_go 174 = .ok (.putfield 41, 3) := by decide +kernel
theorem dX8_go_177 : decode cX8_go 177 = .ok (.aload_n 0, 1) := by decide +kernel
theorem dX8_go_178 : decode cX8_go 178 = .ok (.aload_n 0, 1) := by decide +kernel
theorem dX8_go_179 : decode cX8_go 179 = .ok (.getfield 21, 3) := by decide +kernel
theorem dX8_go_182 : decode cX8_go 182 = .ok (.invokevirtual 44, 3) := by decide +kernel
theorem dX8_go_185 : decode cX8_go 185 = .ok (.invokestatic 30, 3) := by decide +kernel
theorem dX8_go_188 : decode cX8_go 188 = .ok (.ifCond .ne 17, 3) := by decide +kernel
theorem dX8_go_191 : decode cX8_go 191 = .ok (.aload_n 0, 1) := by decide +kernel
theorem dX8_go_192 : decode cX8_go 192 = .ok (.aload_n 0, 1) := by decide +kernel
theorem dX8_go_193 : decode cX8_go 193 = .ok (.getfield 21, 3) := by decide +kernel
theorem dX8_go_196 : decode cX8_go 196 = .ok (.invokevirtual 44, 3) := by decide +kernel
theorem dX8_go_199 : decode cX8_go 199 = .ok (.invokestatic 34, 3) := by decide +kernel
theorem dX8_go_202 : decode cX8_go 202 = .ok (.ifCond .eq 110, 3) := by decide +kernel
theorem dX8_go_205 : decode cX8_go 205 = .ok (.aload_n 0, 1) := by decide +kernel
theorem dX8_go_206 : decode cX8_go 206 = .ok (.getfield 7, 3) := by decide +kernel
theorem dX8_go_209 : decode cX8_go 209 = .ok (.aload_n 0, 1) := by decide +kernel
theorem dX8_go_210 : decode cX8_go 210 = .ok (.getfield 21, 3) := by decide +kernel
theorem dX8_go_213 : decode cX8_go 213 = .ok (.iaload, 1) := by decide +kernel
theorem dX8_go_214 : decode cX8_go 214 = .ok (.istore 4, 2) := by decide +kernel
end
section
theorem dX8_go_216 : decode cX8_go 216 = .ok (.iload_n 3, 1) := by decide +kernel
theorem dX8_go_217 : decode cX8_go 217 = .ok (.ifCond .eq 16, 3) := by decide +kernel
theorem dX8_go_220 : decode cX8_go 220 = .ok (.iload 4, 2) := by decide +kernel
theorem dX8_go_222 : decode cX8_go 222 = .ok (.invokestatic 30, 3) := by decide +kernel
theorem dX8_go_225 : decode cX8_go 225 = .ok (.iload_n 2, 1) := by decide +kernel
theorem dX8_go_226 : decode cX8_go 226 = .ok (.if_icmp .ne 7, 3) := by decide +kernel
theorem dX8_go_229 : decode cX8_go 229 = .ok (.iconst 1, 1) := by decide +kernel
theorem dX8_go_230 : decode cX8_go 230 = .ok (.goto 4, 3) := by decide +kernel
theorem dX8_go_233 : decode cX8_go 233 = .ok (.iconst 0, 1) := by decide +kernel
theorem dX8_go_234 : decode cX8_go 234 = .ok (.istore_n 3, 1) := by decide +kernel
theorem dX8_go_235 : decode cX8_go 235 = .ok (.aload_n 0, 1) := by decide +kernel
theorem dX8_go_236 : decode cX8_go 236 = .ok (.getfield 21, 3) := by decide +kernel
theorem dX8_go_239 : decode cX8_go 239 = .ok (.aload_n 0, 1) := by decide +kernel
theorem dX8_go_240 : decode cX8_go 240 = .ok (.getfield 24, 3) := by decide +kernel
theorem dX8_go_243 : decode cX8_go 243 = .ok (.isub, 1) := by decide +kernel
theorem dX8_go_244 : decode cX8_go 244 = .ok (.bipush 12, 2) := by decide +kernel
theorem dX8_go_246 : decode cX8_go 246 = .ok (.if_icmp .ge 23, 3) := by decide +kernel
theorem dX8_go_249 : decode cX8_go 249 = .ok (.aload_n 0, 1) := by decide +kernel
theorem dX8_go_250 : decode cX8_go 250 = .ok (.ldc2_w 48, 3) := by decide +kernel
theorem dX8_go_253 : decode cX8_go 253 = .ok (.aload_n 0, 1) := by decide +kernel
theorem dX8_go_254 : decode cX8_go 254 = .ok (.getfield 37, 3) := by decide +kernel
theorem dX8_go_257 : decode cX8_go 257 = .ok (.lmul, 1) := by decide +kernel
theorem dX8_go_258 : decode cX8_go 258 = .ok (.iload 4, 2) := by decide +kernel
theorem dX8_go_260 : decode cX8_go 260 = .ok (.i2l, 1) := by decide +kernel
theorem dX8_go_261 : decode cX8_go 261 = .ok (.ladd, 1) := by decide +kernel
theorem dX8_go_262 : decode cX8_go 262 = .ok (.ldc2_w 50, 3) := by decide +kernel
theorem dX8_go_265 : decode cX8_go 265 = .ok (.lsub, 1) := by decide +kernel
theorem dX8_go_266 : decode cX8_go 266 = .ok (.putfield 37, 3) := by decide +kernel
theorem dX8_go_269 : decode cX8_go 269 = .ok (.aload_n 0, 1) := by decide +kernel
theorem dX8_go_270 : decode cX8_go 270 = .ok (.getfield 21, 3) := by decide +kernel
theorem dX8_go_273 : decode cX8_go 273 = .ok (.aload_n 0, 1) := by decide +kernel
theorem dX8_go_274 : decode cX8_go 274 = .ok (.getfield 24, 3) := by decide +kernel
theorem dX8_go_277 : decode cX8_go 277 = .ok (.isub, 1) := by decide +kernel
theorem dX8_go_278 : decode cX8_go 278 = .ok (.iconst 4, 1) := by decide +kernel
theorem dX8_go_279 : decode cX8_go 279 = .ok (.if_icmp .ge 20, 3) := by decide +kernel
theorem dX8_go_282 : decode cX8_go 282 = .ok (.aload_n 0, 1) := by decide +kernel
theorem dX8_go_283 : decode cX8_go 283 = .ok (.bipush 10, 2) := by decide +kernel
theorem dX8_go_285 : decode cX8_go 285 = .ok (.aload_n 0, 1) := by decide +kernel
theorem dX8_go_286 : decode cX8_go 286 = .ok (.getfield 41, 3) := by decide +kernel
theorem dX8_go_289 : decode cX8_go 289 = .ok (.imul, 1) := by decide +kernel
theorem dX8_go_290 : decode cX8_go 290 = .ok (.iload 4, 2) := by decide +kernel
theorem dX8_go_292 : decode cX8_go 292 = .ok (.iadd, 1) := by decide +kernel
theorem dX8_go_293 : decode cX8_go 293 = .ok (.bipush 48, 2) := by decide +kernel
theorem dX8_go_295 : decode cX8_go 295 = .ok (.isub, 1) := by decide +kernel
theorem dX8_go_296 : decode cX8_go 296 = .ok (.putfield 41, 3) := by decide +kernel
theorem dX8_go_299 : decode cX8_go 299 = .ok (.aload_n 0, 1) := by decide +kernel
theorem dX8_go_300 : decode cX8_go 300 = .ok (.dup, 1) := by decide +kernel
theorem dX8_go_301 : decode cX8_go 301 = .ok (.getfield 21, 3) := by decide +kernel
theorem dX8_go_304 : decode cX8_go 304 = .ok (.iconst 1, 1) := by decide +kernel
theorem dX8_go_305 : decode cX8_go 305 = .ok (.iadd, 1) := by decide +kernel
theorem dX8_go_306 : decode cX8_go 306 = .ok (.putfield 21, 3) := by decide +kernel
theorem dX8_go_309 : decode cX8_go 309 = .ok (.goto (-132), 3) := by decide +kernel
theorem dX8_go_312 : decode cX8_go 312 = .ok (.aload_n 0, 1) := by decide +kernel
theorem dX8_go_313 : decode cX8_go 313 = .ok (.iload_n 3, 1) := by decide +kernel
theorem dX8_go_314 : decode cX8_go 314 = .ok (.ifCond .eq 20, 3) := by decide +kernel
theorem dX8_go_317 : decode cX8_go 317 = .ok (.iload_n 2, 1) := by decide +kernel
theorem dX8_go_318 : decode cX8_go 318 = .ok (.ifCond .ne 20, 3) := by decide +kernel
theorem dX8_go_321 : decode cX8_go 321 = .ok (.aload_n 0, 1) := by decide +kernel
theorem dX8_go_322 : decode cX8_go 322 = .ok (.getfield 21, 3) := by decide +kernel
theorem dX8_go_325 : decode cX8_go 325 = .ok (.aload_n 0, 1) := by decide +kernel
theorem dX8_go_326 : decode cX8_go 326 = .ok (.getfield 24, 3) := by decide +kernel
theorem dX8_go_329 : decode cX8_go 329 = .ok (.isub, 1) := by decide +kernel
theorem dX8_go_330 : decode cX8_go 330 = .ok (.iconst 4, 1) := by decide +kernel
theorem dX8_go_331 : decode cX8_go 331 = .ok (.if_icmp .le 7, 3) := by decide +kernel
theorem dX8_go_334 : decode cX8_go 334 = .ok (.iconst 1, 1) := by decide +kernel
theorem dX8_go_335 : decode cX8_go 335 = .ok (.goto 12, 3) := by decide +kernel
theorem dX8_go_338 : decode cX8_go 338 = .ok (.iload_n 2, 1) := by decide +kernel
theorem dX8_go_339 : decode cX8_go 339 = .ok (.ifCond .eq 7, 3) := by decide +kernel
theorem dX8_go_342 : decode cX8_go 342 = .ok (.iconst 2, 1) := by decide +kernel
theorem dX8_go_343 : decode cX8_go 343 = .ok (.goto 4, 3) := by decide +kernel
theorem dX8_go_346 : decode cX8_go 346 = .ok (.iconst 3, 1) := by decide +kernel
theorem dX8_go_347 : decode cX8_go 347 = .ok (.putfield 27, 3) := by decide +kernel
theorem dX8_go_350 : decode cX8_go 350 = .ok (.return_, 1) := by decide +kernel
theorem dX8_three_0 : decode cX8_three 0 = .ok (.ldc2_w 48, 3) := by decide +kernel
theorem dX8_three_3 : decode cX8_three 3 = .ok (.ldc2_w 48, 3) := by decide +kernel
theorem dX8_three_6 : decode cX8_three 6 = .ok (.iload_n 0, 1) := by decide +kernel
theorem dX8_three_7 : decode cX8_three 7 = .ok (.i2l, 1) := by decide +kernel
theorem dX8_three_8 : decode cX8_three 8 = .ok (.ldc2_w 50, 3) := by decide +kernel
theorem dX8_three_11 : decode cX8_three 11 = .ok (.lsub, 1) := by decide +kernel
theorem dX8_three_12 : decode cX8_three 12 = .ok (.lmul, 1) := by decide +kernel
theorem dX8_three_13 : decode cX8_three 13 = .ok (.iload_n 1, 1) := by decide +kernel
theorem dX8_three_14 : decode cX8_three 14 = .ok (.i2l, 1) := by decide +kernel
theorem dX8_three_15 : decode cX8_three 15 = .ok (.ladd, 1) := by decide +kernel
theorem dX8_three_16 : decode cX8_three 16 = .ok (.ldc2_w 50, 3) := by decide +kernel
theorem dX8_three_19 : decode cX8_three 19 = .ok (.lsub, 1) := by decide +kernel
theorem dX8_three_20 : decode cX8_three 20 = .ok (.lmul, 1) := by decide +kernel
theorem dX8_three_21 : decode cX8_three 21 = .ok (.iload_n 2, 1) := by decide +kernel
theorem dX8_three_22 : decode cX8_three 22 = .ok (.i2l, 1) := by decide +kernel
theorem dX8_three_23 : decode cX8_three 23 = .ok (.ladd, 1) := by decide +kernel
theorem dX8_three_24 : decode cX8_three 24 = .ok (.ldc2_w 50, 3) := by decide +kernel
theorem dX8_three_27 : decode cX8_three 27 = .ok (.lsub, 1) := by decide +kernel
theorem dX8_three_28 : decode cX8_three 28 = .ok (.lreturn, 1) := by decide +kernel
theorem dX8_six_0 : decode cX8_six 0 = .ok (.ldc2_w 52, 3) := by decide +kernel
theorem dX8_six_3 : decode cX8_six 3 = .ok (.iload_n 0, 1) := by decide +kernel
theorem dX8_six_4 : decode cX8_six 4 = .ok (.iload_n 1, 1) := by decide +kernel
theorem dX8_six_5 : decode cX8_six 5 = .ok (.iload_n 2, 1) := by decide +kernel
theorem dX8_six_6 : decode cX8_six 6 = .ok (.invokestatic 54, 3) := by decide +kernel
theorem dX8_six_9 : decode cX8_six 9 = .ok (.lmul, 1) := by decide +kernel
theorem dX8_six_10 : decode cX8_six 10 = .ok (.iload_n 3, 1) := by decide +kernel
theorem dX8_six_11 : decode cX8_six 11 = .ok (.iload 4, 2) := by decide +kernel
theorem dX8_six_13 : decode cX8_six 13 = .ok (.iload 5, 2) := by decide +kernel
theorem dX8_six_15 : decode cX8_six 15 = .ok (.invokestatic 54, 3) := by decide +kernel
theorem dX8_six_18 : decode cX8_six 18 = .ok (.ladd, 1) := by decide +kernel
theorem dX8_six_19 : decode cX8_six 19 = .ok (.lreturn, 1) := by decide +kernel
theorem dX8_four_0 : decode cX8_four 0 = .ok (.ldc2_w 48, 3) := by decide +kernel
theorem dX8_four_3 : decode cX8_four 3 = .ok (.iload_n 0, 1) := by decide +kernel
theorem dX8_four_4 : decode cX8_four 4 = .ok (.iload_n 1, 1) := by decide +kernel
theorem dX8_four_5 : decode cX8_four 5 = .ok (.iload_n 2, 1) := by decide +kernel
theorem dX8_four_6 : decode cX8_four 6 = .ok (.invokestatic 54, 3) := by decide +kernel
theorem dX8_four_9 : decode cX8_four 9 = .ok (.lmul, 1) := by decide +kernel
theorem dX8_four_10 : decode cX8_four 10 = .ok (.iload_n 3, 1) := by decide +kernel
theorem dX8_four_11 : decode cX8_four 11 = .ok (.i2l, 1) := by decide +kernel
theorem dX8_four_12 : decode cX8_four 12 = .ok (.ladd, 1) := by decide +kernel
theorem dX8_four_13 : decode cX8_four 13 = .ok (.ldc2_w 50, 3) := by decide +kernel
theorem dX8_four_16 : decode cX8_four 16 = .ok (.lsub, 1) := by decide +kernel
theorem dX8_four_17 : decode cX8_four 17 = .ok (.lreturn, 1) := by decide +kernel
theorem dX8_isWord_0 : decode cX8_isWord 0 = .ok (.aload_n 0, 1) := by decide +kernel
theorem dX8_isWord_1 : decode cX8_isWord 1 = .ok (.getfield 27, 3) := by decide +kernel
theorem dX8_isWord_4 : decode cX8_isWord 4 = .ok (.iconst 2, 1) := by decide +kernel
theorem dX8_isWord_5 : decode cX8_isWord 5 = .ok (.if_icmp .ne 16, 3) := by decide +kernel
theorem dX8_isWord_8 : decode cX8_isWord 8 = .ok (.aload_n 0, 1) := by decide +kernel
theorem dX8_isWord_9 : decode cX8_isWord 9 = .ok (.getfield 37, 3) := by decide +kernel
theorem dX8_isWord_12 : decode cX8_isWord 12 = .ok (.lload_n 1, 1) := by decide +kernel
theorem dX8_isWord_13 : decode cX8_isWord 13 = .ok (.lcmp, 1) := by decide +kernel
theorem dX8_isWord_14 : decode cX8_isWord 14 = .ok (.ifCond .ne 7, 3) := by decide +kernel
theorem dX8_isWord_17 : decode cX8_isWord 17 = .ok (.iconst 1, 1) := by decide +kernel
theorem dX8_isWord_18 : decode cX8_isWord 18 = .ok (.goto 4, 3) := by decide +kernel
theorem dX8_isWord_21 : decode cX8_isWord 21 = .ok (.iconst 0, 1) := by decide +kernel
theorem dX8_isWord_22 : decode cX8_isWord 22 = .ok (.ireturn, 1) := by decide +kernel
theorem dX8_bad_0 : decode cX8_bad 0 = .ok (.aload_n 0, 1) := by decide +kernel
theorem dX8_bad_1 : decode cX8_bad 1 = .ok (.aload_n 0, 1) := by decide +kernel
theorem dX8_bad_2 : decode cX8_bad 2 = .ok (.getfield 27, 3) := by decide +kernel
theorem dX8_bad_5 : decode cX8_bad 5 = .ok (.iconst 1, 1) := by decide +kernel
theorem dX8_bad_6 : decode cX8_bad 6 = .ok (.if_icmp .ne 7, 3) := by decide +kernel
theorem dX8_bad_9 : decode cX8_bad 9 = .ok (.iconst 1, 1) := by decide +kernel
theorem dX8_bad_10 : decode cX8_bad 10 = .ok (.goto 4, 3) := by decide +kernel
theorem dX8_bad_13 : decode cX8_bad 13 = .ok (.iload_n 1, 1) := by decide +kernel
theorem dX8_bad_14 : decode cX8_bad 14 = .ok (.putfield 58, 3) := by decide +kernel
theorem dX8_bad_17 : decode cX8_bad 17 = .ok (.aload_n 0, 1) := by decide +kernel
theorem dX8_bad_18 : decode cX8_bad 18 = .ok (.aload_n 0, 1) := by decide +kernel
theorem dX8_bad_19 : decode cX8_bad 19 = .ok (.getfield 24, 3) := by decide +kernel
theorem dX8_bad_22 : decode cX8_bad 22 = .ok (.putfield 61, 3) := by decide +kernel
theorem dX8_bad_25 : decode cX8_bad 25 = .ok (.iconst 0, 1) := by decide +kernel
theorem dX8_bad_26 : decode cX8_bad 26 = .ok (.ireturn, 1) := by decide +kernel
theorem dX8_init_0 : decode cX8_init 0 = .ok (.aload_n 0, 1) := by decide +kernel
theorem dX8_init_1 : decode cX8_init 1 = .ok (.invokespecial 64, 3) := by decide +kernel
theorem dX8_init_4 : decode cX8_init 4 = .ok (.aload_n 0, 1) := by decide +kernel
theorem dX8_init_5 : decode cX8_init 5 = .ok (.sipush 740, 3) := by decide +kernel
theorem dX8_init_8 : decode cX8_init 8 = .ok (.newarray .int, 2) := by decide +kernel
theorem dX8_init_10 : decode cX8_init 10 = .ok (.putfield 7, 3) := by decide +kernel
theorem dX8_init_13 : decode cX8_init 13 = .ok (.aload_n 0, 1) := by decide +kernel
theorem dX8_init_14 : decode cX8_init 14 = .ok (.sipush 157, 3) := by decide +kernel
theorem dX8_init_17 : decode cX8_init 17 = .ok (.newarray .int, 2) := by decide +kernel
theorem dX8_init_19 : decode cX8_init 19 = .ok (.putfield 70, 3) := by decide +kernel
theorem dX8_init_22 : decode cX8_init 22 = .ok (.aload_n 0, 1) := by decide +kernel
theorem dX8_init_23 : decode cX8_init 23 = .ok (.sipush 157, 3) := by decide +kernel
theorem dX8_init_26 : decode cX8_init 26 = .ok (.newarray .int, 2) := by decide +kernel
theorem dX8_init_28 : decode cX8_init 28 = .ok (.putfield 73, 3) := by decide +kernel
theorem dX8_init_31 : decode cX8_init 31 = .ok (.aload_n 0, 1) := by decide +kernel
theorem dX8_init_32 : decode cX8_init 32 = .ok (.sipush 1570, 3) := by decide +kernel
theorem dX8_init_35 : decode cX8_init 35 = .ok (.newarray .int, 2) := by decide +kernel
theorem dX8_init_37 : decode cX8_init 37 = .ok (.putfield 76, 3) := by decide +kernel
theorem dX8_init_40 : decode cX8_init 40 = .ok (.aload_n 0, 1) := by decide +kernel
theorem dX8_init_41 : decode cX8_init 41 = .ok (.iconst 5, 1) := by decide +kernel
theorem dX8_init_42 : decode cX8_init 42 = .ok (.newarray .int, 2) := by decide +kernel
theorem dX8_init_44 : decode cX8_init 44 = .ok (.putfield 79, 3) := by decide +kernel
theorem dX8_init_47 : decode cX8_init 47 = .ok (.aload_n 0, 1) := by decide +kernel
theorem dX8_init_48 : decode cX8_init 48 = .ok (.iconst 5, 1) := by decide +kernel
theorem dX8_init_49 : decode cX8_init 49 = .ok (.newarray .int, 2) := by decide +kernel
theorem dX8_init_51 : decode cX8_init 51 = .ok (.putfield 82, 3) := by decide +kernel
theorem dX8_init_54 : decode cX8_init 54 = .ok (.aload_n 0, 1) := by decide +kernel
theorem dX8_init_55 : decode cX8_init 55 = .ok (.iconst 5, 1) := by decide +kernel
theorem dX8_init_56 : decode cX8_init 56 = .ok (.newarray .int, 2) := by decide +kernel
theorem dX8_init_58 : decode cX8_init 58 = .ok (.putfield 85, 3) := by decide +kernel
theorem dX8_init_61 : decode cX8_init 61 = .ok (.aload_n 0, 1) := by decide +kernel
theorem dX8_init_62 : decode cX8_init 62 = .ok (.iconst 5, 1) := by decide +kernel
theorem dX8_init_63 : decode cX8_init 63 = .ok (.newarray .int, 2) := by decide +kernel
theorem dX8_init_65 : decode cX8_init 65 = .ok (.putfield 88, 3) := by decide +kernel
theorem dX8_init_68 : decode cX8_init 68 = .ok (.aload_n 0, 1) := by decide +kernel
theorem dX8_init_69 : decode cX8_init 69 = .ok (.iconst 5, 1) := by decide +kernel
theorem dX8_init_70 : decode cX8_init 70 = .ok (.newarray .int, 2) := by decide +kernel
theorem dX8_init_72 : decode cX8_init 72 = .ok (.putfield 91, 3) := by decide +kernel
theorem dX8_init_75 : decode cX8_init 75 = .ok (.aload_n 0, 1) := by decide +kernel
theorem dX8_init_76 : decode cX8_init 76 = .ok (.iconst 5, 1) := by decide +kernel
theorem dX8_init_77 : decode cX8_init 77 = .ok (.newarray .int, 2) := by decide +kernel
theorem dX8_init_79 : decode cX8_init 79 = .ok (.putfield 94, 3) := by decide +kernel
theorem dX8_init_82 : decode cX8_init 82 = .ok (.aload_n 0, 1) := by decide +kernel
theorem dX8_init_83 : decode cX8_init 83 = .ok (.iconst 5, 1) := by decide +kernel
theorem dX8_init_84 : decode cX8_init 84 = .ok (.newarray .int, 2) := by decide +kernel
theorem dX8_init_86 : decode cX8_init 86 = .ok (.putfield 97, 3) := by decide +kernel
theorem dX8_init_89 : decode cX8_init 89 = .ok (.aload_n 0, 1) := by decide +kernel
theorem dX8_init_90 : decode cX8_init 90 = .ok (.iconst 5, 1) := by decide +kernel
theorem dX8_init_91 : decode cX8_init 91 = .ok (.newarray .int, 2) := by decide +kernel
theorem dX8_init_93 : decode cX8_init 93 = .ok (.putfield 100, 3) := by decide +kernel
theorem dX8_init_96 : decode cX8_init 96 = .ok (.aload_n 0, 1) := by decide +kernel
theorem dX8_init_97 : decode cX8_init 97 = .ok (.iconst 5, 1) := by decide +kernel
theorem dX8_init_98 : decode cX8_init 98 = .ok (.newarray .int, 2) := by decide +kernel
theorem dX8_init_100 : decode cX8_init 100 = .ok (.putfield 103, 3) := by decide +kernel
theorem dX8_init_103 : decode cX8_init 103 = .ok (.aload_n 0, 1) := by decide +kernel
theorem dX8_init_104 : decode cX8_init 104 = .ok (.getfield 70, 3) := by decide +kernel
theorem dX8_init_107 : decode cX8_init 107 = .ok (.iconst 0, 1) := by decide +kernel
theorem dX8_init_108 : decode cX8_init 108 = .ok (.iconst 1, 1) := by decide +kernel
theorem dX8_init_109 : decode cX8_init 109 = .ok (.iastore, 1) := by decide +kernel
theorem dX8_init_110 : decode cX8_init 110 = .ok (.return_, 1) := by decide +kernel
theorem dX8_told_0 : decode cX8_told 0 = .ok (.aload_n 0, 1) := by decide +kernel
theorem dX8_told_1 : decode cX8_told 1 = .ok (.getfield 27, 3) := by decide +kernel
theorem dX8_told_4 : decode cX8_told 4 = .ok (.iconst 3, 1) := by decide +kernel
theorem dX8_told_5 : decode cX8_told 5 = .ok (.if_icmp .eq 9, 3) := by decide +kernel
theorem dX8_told_8 : decode cX8_told 8 = .ok (.aload_n 0, 1) := by decide +kernel
theorem dX8_told_9 : decode cX8_told 9 = .ok (.iconst 1, 1) := by decide +kernel
theorem dX8_told_10 : decode cX8_told 10 = .ok (.invokevirtual 106, 3) := by decide +kernel
theorem dX8_told_13 : decode cX8_told 13 = .ok (.ireturn, 1) := by decide +kernel
theorem dX8_told_14 : decode cX8_told 14 = .ok (.aload_n 0, 1) := by decide +kernel
theorem dX8_told_15 : decode cX8_told 15 = .ok (.getfield 41, 3) := by decide +kernel
theorem dX8_told_18 : decode cX8_told 18 = .ok (.iload_n 2, 1) := by decide +kernel
theorem dX8_told_19 : decode cX8_told 19 = .ok (.iload_n 3, 1) := by decide +kernel
theorem dX8_told_20 : decode cX8_told 20 = .ok (.invokestatic 109, 3) := by decide +kernel
theorem dX8_told_23 : decode cX8_told 23 = .ok (.ifCond .ne 9, 3) := by decide +kernel
theorem dX8_told_26 : decode cX8_told 26 = .ok (.aload_n 0, 1) := by decide +kernel
theorem dX8_told_27 : decode cX8_told 27 = .ok (.iconst 2, 1) := by decide +kernel
theorem dX8_told_28 : decode cX8_told 28 = .ok (.invokevirtual 106, 3) := by decide +kernel
theorem dX8_told_31 : decode cX8_told 31 = .ok (.ireturn, 1) := by decide +kernel
theorem dX8_told_32 : decode cX8_told 32 = .ok (.aload_n 0, 1) := by decide +kernel
theorem dX8_told_33 : decode cX8_told 33 = .ok (.getfield 73, 3) := by decide +kernel
theorem dX8_told_36 : decode cX8_told 36 = .ok (.iload_n 1, 1) := by decide +kernel
theorem dX8_told_37 : decode cX8_told 37 = .ok (.aload_n 0, 1) := by decide +kernel
theorem dX8_told_38 : decode cX8_told 38 = .ok (.getfield 41, 3) := by decide +kernel
theorem dX8_told_41 : decode cX8_told 41 = .ok (.iastore, 1) := by decide +kernel
theorem dX8_told_42 : decode cX8_told 42 = .ok (.aload_n 0, 1) := by decide +kernel
theorem dX8_told_43 : decode cX8_told 43 = .ok (.invokevirtual 113, 3) := by decide +kernel
theorem dX8_told_46 : decode cX8_told 46 = .ok (.iconst 1, 1) := by decide +kernel
theorem dX8_told_47 : decode cX8_told 47 = .ok (.ireturn, 1) := by decide +kernel
theorem dX8_oneOf_0 : decode cX8_oneOf 0 = .ok (.aload_n 0, 1) := by decide +kernel
theorem dX8_oneOf_1 : decode cX8_oneOf 1 = .ok (.getfield 27, 3) := by decide +kernel
theorem dX8_oneOf_4 : decode cX8_oneOf 4 = .ok (.iconst 3, 1) := by decide +kernel
theorem dX8_oneOf_5 : decode cX8_oneOf 5 = .ok (.if_icmp .eq 9, 3) := by decide +kernel
theorem dX8_oneOf_8 : decode cX8_oneOf 8 = .ok (.aload_n 0, 1) := by decide +kernel
theorem dX8_oneOf_9 : decode cX8_oneOf 9 = .ok (.iconst 1, 1) := by decide +kernel
theorem dX8_oneOf_10 : decode cX8_oneOf 10 = .ok (.invokevirtual 106, 3) := by decide +kernel
theorem dX8_oneOf_13 : decode cX8_oneOf 13 = .ok (.ireturn, 1) := by decide +kernel
theorem dX8_oneOf_14 : decode cX8_oneOf 14 = .ok (.aload_n 0, 1) := by decide +kernel
theorem dX8_oneOf_15 : decode cX8_oneOf 15 = .ok (.getfield 41, 3) := by decide +kernel
theorem dX8_oneOf_18 : decode cX8_oneOf 18 = .ok (.iload_n 1, 1) := by decide +kernel
theorem dX8_oneOf_19 : decode cX8_oneOf 19 = .ok (.if_icmp .lt 9, 3) := by decide +kernel
theorem dX8_oneOf_22 : decode cX8_oneOf 22 = .ok (.aload_n 0, 1) := by decide +kernel
theorem dX8_oneOf_23 : decode cX8_oneOf 23 = .ok (.iconst 2, 1) := by decide +kernel
theorem dX8_oneOf_24 : decode cX8_oneOf 24 = .ok (.invokevirtual 106, 3) := by decide +kernel
theorem dX8_oneOf_27 : decode cX8_oneOf 27 = .ok (.ireturn, 1) := by decide +kernel
theorem dX8_oneOf_28 : decode cX8_oneOf 28 = .ok (.aload_n 0, 1) := by decide +kernel
theorem dX8_oneOf_29 : decode cX8_oneOf 29 = .ok (.aload_n 0, 1) := by decide +kernel
theorem dX8_oneOf_30 : decode cX8_oneOf 30 = .ok (.getfield 41, 3) := by decide +kernel
theorem dX8_oneOf_33 : decode cX8_oneOf 33 = .ok (.putfield 116, 3) := by decide +kernel
theorem dX8_oneOf_36 : decode cX8_oneOf 36 = .ok (.aload_n 0, 1) := by decide +kernel
theorem dX8_oneOf_37 : decode cX8_oneOf 37 = .ok (.invokevirtual 113, 3) := by decide +kernel
theorem dX8_oneOf_40 : decode cX8_oneOf 40 = .ok (.iconst 1, 1) := by decide +kernel
theorem dX8_oneOf_41 : decode cX8_oneOf 41 = .ok (.ireturn, 1) := by decide +kernel
theorem dX8_readTanker_0 : decode cX8_readTanker 0 = .ok (.aload_n 0, 1) := by decide +kernel
theorem dX8_readTanker_1 : decode cX8_readTanker 1 = .ok (.bipush 116, 2) := by decide +kernel
theorem dX8_readTanker_3 : decode cX8_readTanker 3 = .ok (.bipush 97, 2) := by decide +kernel
theorem dX8_readTanker_5 : decode cX8_readTanker 5 = .ok (.bipush 110, 2) := by decide +kernel
theorem dX8_readTanker_7 : decode cX8_readTanker 7 = .ok (.bipush 107, 2) := by decide +kernel
theorem dX8_readTanker_9 : decode cX8_readTanker 9 = .ok (.bipush 101, 2) := by decide +kernel
theorem dX8_readTanker_11 : decode cX8_readTanker 11 = .ok (.bipush 114, 2) := by decide +kernel
theorem dX8_readTanker_13 : decode cX8_readTanker 13 = .ok (.invokestatic 119, 3) := by decide +kernel
theorem dX8_readTanker_16 : decode cX8_readTanker 16 = .ok (.invokevirtual 123, 3) := by decide +kernel
theorem dX8_readTanker_19 : decode cX8_readTanker 19 = .ok (.ifCond .ne 9, 3) := by decide +kernel
theorem dX8_readTanker_22 : decode cX8_readTanker 22 = .ok (.aload_n 0, 1) := by decide +kernel
theorem dX8_readTanker_23 : decode cX8_readTanker 23 = .ok (.iconst 1, 1) := by decide +kernel
theorem dX8_readTanker_24 : decode cX8_readTanker 24 = .ok (.invokevirtual 106, 3) := by decide +kernel
theorem dX8_readTanker_27 : decode cX8_readTanker 27 = .ok (.ireturn, 1) := by decide +kernel
theorem dX8_readTanker_28 : decode cX8_readTanker 28 = .ok (.aload_n 0, 1) := by decide +kernel
theorem dX8_readTanker_29 : decode cX8_readTanker 29 = .ok (.invokevirtual 113, 3) := by decide +kernel
theorem dX8_readTanker_32 : decode cX8_readTanker 32 = .ok (.aload_n 0, 1) := by decide +kernel
theorem dX8_readTanker_33 : decode cX8_readTanker 33 = .ok (.iconst 0, 1) := by decide +kernel
theorem dX8_readTanker_34 : decode cX8_readTanker 34 = .ok (.iconst 1, 1) := by decide +kernel
theorem dX8_readTanker_35 : decode cX8_readTanker 35 = .ok (.bipush 99, 2) := by decide +kernel
theorem dX8_readTanker_37 : decode cX8_readTanker 37 = .ok (.invokevirtual 127, 3) := by decide +kernel
theorem dX8_readTanker_40 : decode cX8_readTanker 40 = .ok (.ifCond .ne 5, 3) := by decide +kernel
theorem dX8_readTanker_43 : decode cX8_readTanker 43 = .ok (.iconst 0, 1) := by decide +kernel
theorem dX8_readTanker_44 : decode cX8_readTanker 44 = .ok (.ireturn, 1) := by decide +kernel
theorem dX8_readTanker_45 : decode cX8_readTanker 45 = .ok (.iconst 1, 1) := by decide +kernel
theorem dX8_readTanker_46 : decode cX8_readTanker 46 = .ok (.istore_n 1, 1) := by decide +kernel
theorem dX8_readTanker_47 : decode cX8_readTanker 47 = .ok (.iload_n 1, 1) := by decide +kernel
theorem dX8_readTanker_48 : decode cX8_readTanker 48 = .ok (.iconst 5, 1) := by decide +kernel
theorem dX8_readTanker_49 : decode cX8_readTanker 49 = .ok (.if_icmp .gt 23, 3) := by decide +kernel
theorem dX8_readTanker_52 : decode cX8_readTanker 52 = .ok (.aload_n 0, 1) := by decide +kernel
theorem dX8_readTanker_53 : decode cX8_readTanker 53 = .ok (.iload_n 1, 1) := by decide +kernel
theorem dX8_readTanker_54 : decode cX8_readTanker 54 = .ok (.iconst 0, 1) := by decide +kernel
theorem dX8_readTanker_55 : decode cX8_readTanker 55 = .ok (.sipush 9999, 3) := by decide +kernel
theorem dX8_readTanker_58 : decode cX8_readTanker 58 = .ok (.invokevirtual 127, 3) := by decide +kernel
theorem dX8_readTanker_61 : decode cX8_readTanker 61 = .ok (.ifCond .ne 5, 3) := by decide +kernel
theorem dX8_readTanker_64 : decode cX8_readTanker 64 = .ok (.iconst 0, 1) := by decide +kernel
theorem dX8_readTanker_65 : decode cX8_readTanker 65 = .ok (.ireturn, 1) := by decide +kernel
theorem dX8_readTanker_66 : decode cX8_readTanker 66 = .ok (.iinc 1 1, 3) := by decide +kernel
theorem dX8_readTanker_69 : decode cX8_readTanker 69 = .ok (.goto (-22), 3) := by decide +kernel
theorem dX8_readTanker_72 : decode cX8_readTanker 72 = .ok (.aload_n 0, 1) := by decide +kernel
theorem dX8_readTanker_73 : decode cX8_readTanker 73 = .ok (.bipush 6, 2) := by decide +kernel
theorem dX8_readTanker_75 : decode cX8_readTanker 75 = .ok (.iconst 1, 1) := by decide +kernel
theorem dX8_readTanker_76 : decode cX8_readTanker 76 = .ok (.bipush 100, 2) := by decide +kernel
theorem dX8_readTanker_78 : decode cX8_readTanker 78 = .ok (.invokevirtual 127, 3) := by decide +kernel
theorem dX8_readTanker_81 : decode cX8_readTanker 81 = .ok (.ifCond .eq 37, 3) := by decide +kernel
theorem dX8_readTanker_84 : decode cX8_readTanker 84 = .ok (.aload_n 0, 1) := by decide +kernel
theorem dX8_readTanker_85 : decode cX8_readTanker 85 = .ok (.bipush 7, 2) := by decide +kernel
theorem dX8_readTanker_87 : decode cX8_readTanker 87 = .ok (.iconst 0, 1) := by decide +kernel
theorem dX8_readTanker_88 : decode cX8_readTanker 88 = .ok (.bipush 100, 2) := by decide +kernel
theorem dX8_readTanker_90 : decode cX8_readTanker 90 = .ok (.invokevirtual 127, 3) := by decide +kernel
theorem dX8_readTanker_93 : decode cX8_readTanker 93 = .ok (.ifCond .eq 25, 3) := by decide +kernel
theorem dX8_readTanker_96 : decode cX8_readTanker 96 = .ok (.aload_n 0, 1) := by decide +kernel
theorem dX8_readTanker_97 : decode cX8_readTanker 97 = .ok (.bipush 8, 2) := by decide +kernel
theorem dX8_readTanker_99 : decode cX8_readTanker 99 = .ok (.aload_n 0, 1) := by decide +kernel
theorem dX8_readTanker_100 : decode cX8_readTanker 100 = .ok (.getfield 73, 3) := by decide +kernel
theorem dX8_readTanker_103 : decode cX8_readTanker 103 = .ok (.bipush 7, 2) := by decide +kernel
theorem dX8_readTanker_105 : decode cX8_readTanker 105 = .ok (.iaload, 1) := by decide +kernel
theorem dX8_readTanker_106 : decode cX8_readTanker 106 = .ok (.bipush 100, 2) := by decide +kernel
theorem dX8_readTanker_108 : decode cX8_readTanker 108 = .ok (.invokevirtual 127, 3) := by decide +kernel
theorem dX8_readTanker_111 : decode cX8_readTanker 111 = .ok (.ifCond .eq 7, 3) := by decide +kernel
theorem dX8_readTanker_114 : decode cX8_readTanker 114 = .ok (.iconst 1, 1) := by decide +kernel
theorem dX8_readTanker_115 : decode cX8_readTanker 115 = .ok (.goto 4, 3) := by decide +kernel
theorem dX8_readTanker_118 : decode cX8_readTanker 118 = .ok (.iconst 0, 1) := by decide +kernel
theorem dX8_readTanker_119 : decode cX8_readTanker 119 = .ok (.ireturn, 1) := by decide +kernel
theorem dX8_readHold_0 : decode cX8_readHold 0 = .ok (.aload_n 0, 1) := by decide +kernel
theorem dX8_readHold_1 : decode cX8_readHold 1 = .ok (.getfield 73, 3) := by decide +kernel
theorem dX8_readHold_4 : decode cX8_readHold 4 = .ok (.bipush 9, 2) := by decide +kernel
theorem dX8_readHold_6 : decode cX8_readHold 6 = .ok (.iaload, 1) := by decide +kernel
theorem dX8_readHold_7 : decode cX8_readHold 7 = .ok (.iconst 5, 1) := by decide +kernel
theorem dX8_readHold_8 : decode cX8_readHold 8 = .ok (.if_icmp .ne 9, 3) := by decide +kernel
theorem dX8_readHold_11 : decode cX8_readHold 11 = .ok (.aload_n 0, 1) := by decide +kernel
theorem dX8_readHold_12 : decode cX8_readHold 12 = .ok (.iconst 3, 1) := by decide +kernel
theorem dX8_readHold_13 : decode cX8_readHold 13 = .ok (.invokevirtual 106, 3) := by decide +kernel
theorem dX8_readHold_16 : decode cX8_readHold 16 = .ok (.ireturn, 1) := by decide +kernel
theorem dX8_readHold_17 : decode cX8_readHold 17 = .ok (.aload_n 0, 1) := by decide +kernel
theorem dX8_readHold_18 : decode cX8_readHold 18 = .ok (.invokevirtual 113, 3) := by decide +kernel
theorem dX8_readHold_21 : decode cX8_readHold 21 = .ok (.bipush 27, 2) := by decide +kernel
theorem dX8_readHold_23 : decode cX8_readHold 23 = .ok (.bipush 6, 2) := by decide +kernel
theorem dX8_readHold_25 : decode cX8_readHold 25 = .ok (.aload_n 0, 1) := by decide +kernel
theorem dX8_readHold_26 : decode cX8_readHold 26 = .ok (.getfield 73, 3) := by decide +kernel
theorem dX8_readHold_29 : decode cX8_readHold 29 = .ok (.bipush 9, 2) := by decide +kernel
theorem dX8_readHold_31 : decode cX8_readHold 31 = .ok (.iaload, 1) := by decide +kernel
theorem dX8_readHold_32 : decode cX8_readHold 32 = .ok (.imul, 1) := by decide +kernel
theorem dX8_readHold_33 : decode cX8_readHold 33 = .ok (.iadd, 1) := by decide +kernel
theorem dX8_readHold_34 : decode cX8_readHold 34 = .ok (.istore_n 1, 1) := by decide +kernel
theorem dX8_readHold_35 : decode cX8_readHold 35 = .ok (.aload_n 0, 1) := by decide +kernel
theorem dX8_readHold_36 : decode cX8_readHold 36 = .ok (.iload_n 1, 1) := by decide +kernel
theorem dX8_readHold_37 : decode cX8_readHold 37 = .ok (.iconst 0, 1) := by decide +kernel
theorem dX8_readHold_38 : decode cX8_readHold 38 = .ok (.iadd, 1) := by decide +kernel
theorem dX8_readHold_39 : decode cX8_readHold 39 = .ok (.iconst 1, 1) := by decide +kernel
theorem dX8_readHold_40 : decode cX8_readHold 40 = .ok (.sipush 999, 3) := by decide +kernel
theorem dX8_readHold_43 : decode cX8_readHold 43 = .ok (.invokevirtual 127, 3) := by decide +kernel
theorem dX8_readHold_46 : decode cX8_readHold 46 = .ok (.ifCond .eq 16, 3) := by decide +kernel
theorem dX8_readHold_49 : decode cX8_readHold 49 = .ok (.aload_n 0, 1) := by decide +kernel
theorem dX8_readHold_50 : decode cX8_readHold 50 = .ok (.iload_n 1, 1) := by decide +kernel
theorem dX8_readHold_51 : decode cX8_readHold 51 = .ok (.iconst 1, 1) := by decide +kernel
theorem dX8_readHold_52 : decode cX8_readHold 52 = .ok (.iadd, 1) := by decide +kernel
theorem dX8_readHold_53 : decode cX8_readHold 53 = .ok (.iconst 0, 1) := by decide +kernel
theorem dX8_readHold_54 : decode cX8_readHold 54 = .ok (.bipush 99, 2) := by decide +kernel
theorem dX8_readHold_56 : decode cX8_readHold 56 = .ok (.invokevirtual 127, 3) := by decide +kernel
theorem dX8_readHold_59 : decode cX8_readHold 59 = .ok (.ifCond .ne 5, 3) := by decide +kernel
theorem dX8_readHold_62 : decode cX8_readHold 62 = .ok (.iconst 0, 1) := by decide +kernel
theorem dX8_readHold_63 : decode cX8_readHold 63 = .ok (.ireturn, 1) := by decide +kernel
theorem dX8_readHold_64 : decode cX8_readHold 64 = .ok (.aload_n 0, 1) := by decide +kernel
theorem dX8_readHold_65 : decode cX8_readHold 65 = .ok (.bipush 111, 2) := by decide +kernel
theorem dX8_readHold_67 : decode cX8_readHold 67 = .ok (.bipush 112, 2) := by decide +kernel
theorem dX8_readHold_69 : decode cX8_readHold 69 = .ok (.bipush 101, 2) := by decide +kernel
theorem dX8_readHold_71 : decode cX8_readHold 71 = .ok (.bipush 110, 2) := by decide +kernel
theorem dX8_readHold_73 : decode cX8_readHold 73 = .ok (.invokestatic 130, 3) := by decide +kernel
theorem dX8_readHold_76 : decode cX8_readHold 76 = .ok (.invokevirtual 123, 3) := by decide +kernel
theorem dX8_readHold_79 : decode cX8_readHold 79 = .ok (.istore_n 2, 1) := by decide +kernel
theorem dX8_readHold_80 : decode cX8_readHold 80 = .ok (.iload_n 2, 1) := by decide +kernel
theorem dX8_readHold_81 : decode cX8_readHold 81 = .ok (.ifCond .ne 39, 3) := by decide +kernel
theorem dX8_readHold_84 : decode cX8_readHold 84 = .ok (.aload_n 0, 1) := by decide +kernel
theorem dX8_readHold_85 : decode cX8_readHold 85 = .ok (.ldc2_w 48, 3) := by decide +kernel
theorem dX8_readHold_88 : decode cX8_readHold 88 = .ok (.bipush 98, 2) := by decide +kernel
theorem dX8_readHold_90 : decode cX8_readHold 90 = .ok (.bipush 97, 2) := by decide +kernel
theorem dX8_readHold_92 : decode cX8_readHold 92 = .ok (.bipush 102, 2) := by decide +kernel
theorem dX8_readHold_94 : decode cX8_readHold 94 = .ok (.bipush 102, 2) := by decide +kernel
theorem dX8_readHold_96 : decode cX8_readHold 96 = .ok (.bipush 108, 2) := by decide +kernel
theorem dX8_readHold_98 : decode cX8_readHold 98 = .ok (.bipush 101, 2) := by decide +kernel
theorem dX8_readHold_100 : decode cX8_readHold 100 = .ok (.invokestatic 119, 3) := by decide +kernel
theorem dX8_readHold_103 : decode cX8_readHold 103 = .ok (.lmul, 1) := by decide +kernel
theorem dX8_readHold_104 : decode cX8_readHold 104 = .ok (.ldc2_w 134, 3) := by decide +kernel
theorem dX8_readHold_107 : decode cX8_readHold 107 = .ok (.ladd, 1) := by decide +kernel
theorem dX8_readHold_108 : decode cX8_readHold 108 = .ok (.invokevirtual 123, 3) := by decide +kernel
theorem dX8_readHold_111 : decode cX8_readHold 111 = .ok (.ifCond .ne 9, 3) := by decide +kernel
theorem dX8_readHold_114 : decode cX8_readHold 114 = .ok (.aload_n 0, 1) := by decide +kernel
theorem dX8_readHold_115 : decode cX8_readHold 115 = .ok (.iconst 1, 1) := by decide +kernel
theorem dX8_readHold_116 : decode cX8_readHold 116 = .ok (.invokevirtual 106, 3) := by decide +kernel
theorem dX8_readHold_119 : decode cX8_readHold 119 = .ok (.ireturn, 1) := by decide +kernel
theorem dX8_readHold_120 : decode cX8_readHold 120 = .ok (.aload_n 0, 1) := by decide +kernel
theorem dX8_readHold_121 : decode cX8_readHold 121 = .ok (.getfield 73, 3) := by decide +kernel
theorem dX8_readHold_124 : decode cX8_readHold 124 = .ok (.iload_n 1, 1) := by decide +kernel
theorem dX8_readHold_125 : decode cX8_readHold 125 = .ok (.iconst 2, 1) := by decide +kernel
theorem dX8_readHold_126 : decode cX8_readHold 126 = .ok (.iadd, 1) := by decide +kernel
theorem dX8_readHold_127 : decode cX8_readHold 127 = .ok (.iload_n 2, 1) := by decide +kernel
theorem dX8_readHold_128 : decode cX8_readHold 128 = .ok (.ifCond .eq 7, 3) := by decide +kernel
theorem dX8_readHold_131 : decode cX8_readHold 131 = .ok (.iconst 1, 1) := by decide +kernel
theorem dX8_readHold_132 : decode cX8_readHold 132 = .ok (.goto 4, 3) := by decide +kernel
theorem dX8_readHold_135 : decode cX8_readHold 135 = .ok (.iconst 0, 1) := by decide +kernel
theorem dX8_readHold_136 : decode cX8_readHold 136 = .ok (.iastore, 1) := by decide +kernel
theorem dX8_readHold_137 : decode cX8_readHold 137 = .ok (.aload_n 0, 1) := by decide +kernel
theorem dX8_readHold_138 : decode cX8_readHold 138 = .ok (.invokevirtual 113, 3) := by decide +kernel
theorem dX8_readHold_141 : decode cX8_readHold 141 = .ok (.aload_n 0, 1) := by decide +kernel
theorem dX8_readHold_142 : decode cX8_readHold 142 = .ok (.getfield 73, 3) := by decide +kernel
theorem dX8_readHold_145 : decode cX8_readHold 145 = .ok (.bipush 9, 2) := by decide +kernel
theorem dX8_readHold_147 : decode cX8_readHold 147 = .ok (.dup2, 1) := by decide +kernel
theorem dX8_readHold_148 : decode cX8_readHold 148 = .ok (.iaload, 1) := by decide +kernel
theorem dX8_readHold_149 : decode cX8_readHold 149 = .ok (.iconst 1, 1) := by decide +kernel
theorem dX8_readHold_150 : decode cX8_readHold 150 = .ok (.iadd, 1) := by decide +kernel
theorem dX8_readHold_151 : decode cX8_readHold 151 = .ok (.iastore, 1) := by decide +kernel
theorem dX8_readHold_152 : decode cX8_readHold 152 = .ok (.iconst 1, 1) := by decide +kernel
theorem dX8_readHold_153 : decode cX8_readHold 153 = .ok (.ireturn, 1) := by decide +kernel
theorem dX8_readLiquid_0 : decode cX8_readLiquid 0 = .ok (.aload_n 0, 1) := by decide +kernel
theorem dX8_readLiquid_1 : decode cX8_readLiquid 1 = .ok (.getfield 73, 3) := by decide +kernel
theorem dX8_readLiquid_4 : decode cX8_readLiquid 4 = .ok (.bipush 10, 2) := by decide +kernel
theorem dX8_readLiquid_6 : decode cX8_readLiquid 6 = .ok (.iaload, 1) := by decide +kernel
theorem dX8_readLiquid_7 : decode cX8_readLiquid 7 = .ok (.bipush 6, 2) := by decide +kernel
theorem dX8_readLiquid_9 : decode cX8_readLiquid 9 = .ok (.if_icmp .ne 9, 3) := by decide +kernel
theorem dX8_readLiquid_12 : decode cX8_readLiquid 12 = .ok (.aload_n 0, 1) := by decide +kernel
theorem dX8_readLiquid_13 : decode cX8_readLiquid 13 = .ok (.iconst 3, 1) := by decide +kernel
theorem dX8_readLiquid_14 : decode cX8_readLiquid 14 = .ok (.invokevirtual 106, 3) := by decide +kernel
theorem dX8_readLiquid_17 : decode cX8_readLiquid 17 = .ok (.ireturn, 1) := by decide +kernel
theorem dX8_readLiquid_18 : decode cX8_readLiquid 18 = .ok (.aload_n 0, 1) := by decide +kernel
theorem dX8_readLiquid_19 : decode cX8_readLiquid 19 = .ok (.invokevirtual 113, 3) := by decide +kernel
theorem dX8_readLiquid_22 : decode cX8_readLiquid 22 = .ok (.aload_n 0, 1) := by decide +kernel
theorem dX8_readLiquid_23 : decode cX8_readLiquid 23 = .ok (.bipush 15, 2) := by decide +kernel
theorem dX8_readLiquid_25 : decode cX8_readLiquid 25 = .ok (.aload_n 0, 1) := by decide +kernel
theorem dX8_readLiquid_26 : decode cX8_readLiquid 26 = .ok (.getfield 73, 3) := by decide +kernel
theorem dX8_readLiquid_29 : decode cX8_readLiquid 29 = .ok (.bipush 10, 2) := by decide +kernel
theorem dX8_readLiquid_31 : decode cX8_readLiquid 31 = .ok (.iaload, 1) := by decide +kernel
theorem dX8_readLiquid_32 : decode cX8_readLiquid 32 = .ok (.iadd, 1) := by decide +kernel
theorem dX8_readLiquid_33 : decode cX8_readLiquid 33 = .ok (.iconst 1, 1) := by decide +kernel
theorem dX8_readLiquid_34 : decode cX8_readLiquid 34 = .ok (.bipush 20, 2) := by decide +kernel
theorem dX8_readLiquid_36 : decode cX8_readLiquid 36 = .ok (.invokevirtual 127, 3) := by decide +kernel
theorem dX8_readLiquid_39 : decode cX8_readLiquid 39 = .ok (.ifCond .ne 5, 3) := by decide +kernel
theorem dX8_readLiquid_42 : decode cX8_readLiquid 42 = .ok (.iconst 0, 1) := by decide +kernel
theorem dX8_readLiquid_43 : decode cX8_readLiquid 43 = .ok (.ireturn, 1) := by decide +kernel
theorem dX8_readLiquid_44 : decode cX8_readLiquid 44 = .ok (.aload_n 0, 1) := by decide +kernel
theorem dX8_readLiquid_45 : decode cX8_readLiquid 45 = .ok (.getfield 73, 3) := by decide +kernel
theorem dX8_readLiquid_48 : decode cX8_readLiquid 48 = .ok (.bipush 10, 2) := by decide +kernel
theorem dX8_readLiquid_50 : decode cX8_readLiquid 50 = .ok (.dup2, 1) := by decide +kernel
theorem dX8_readLiquid_51 : decode cX8_readLiquid 51 = .ok (.iaload, 1) := by decide +kernel
theorem dX8_readLiquid_52 : decode cX8_readLiquid 52 = .ok (.iconst 1, 1) := by decide +kernel
theorem dX8_readLiquid_53 : decode cX8_readLiquid 53 = .ok (.iadd, 1) := by decide +kernel
theorem dX8_readLiquid_54 : decode cX8_readLiquid 54 = .ok (.iastore, 1) := by decide +kernel
theorem dX8_readLiquid_55 : decode cX8_readLiquid 55 = .ok (.iconst 1, 1) := by decide +kernel
theorem dX8_readLiquid_56 : decode cX8_readLiquid 56 = .ok (.ireturn, 1) := by decide +kernel
theorem dX8_readBar_0 : decode cX8_readBar 0 = .ok (.aload_n 0, 1) := by decide +kernel
theorem dX8_readBar_1 : decode cX8_readBar 1 = .ok (.getfield 73, 3) := by decide +kernel
theorem dX8_readBar_4 : decode cX8_readBar 4 = .ok (.bipush 11, 2) := by decide +kernel
theorem dX8_readBar_6 : decode cX8_readBar 6 = .ok (.iaload, 1) := by decide +kernel
theorem dX8_readBar_7 : decode cX8_readBar 7 = .ok (.bipush 36, 2) := by decide +kernel
theorem dX8_readBar_9 : decode cX8_readBar 9 = .ok (.if_icmp .ne 9, 3) := by decide +kernel
theorem dX8_readBar_12 : decode cX8_readBar 12 = .ok (.aload_n 0, 1) := by decide +kernel
theorem dX8_readBar_13 : decode cX8_readBar 13 = .ok (.iconst 3, 1) := by decide +kernel
theorem dX8_readBar_14 : decode cX8_readBar 14 = .ok (.invokevirtual 106, 3) := by decide +kernel
theorem dX8_readBar_17 : decode cX8_readBar 17 = .ok (.ireturn, 1) := by decide +kernel
theorem dX8_readBar_18 : decode cX8_readBar 18 = .ok (.aload_n 0, 1) := by decide +kernel
theorem dX8_readBar_19 : decode cX8_readBar 19 = .ok (.invokevirtual 113, 3) := by decide +kernel
theorem dX8_readBar_22 : decode cX8_readBar 22 = .ok (.aload_n 0, 1) := by decide +kernel
theorem dX8_readBar_23 : decode cX8_readBar 23 = .ok (.aload_n 0, 1) := by decide +kernel
theorem dX8_readBar_24 : decode cX8_readBar 24 = .ok (.getfield 73, 3) := by decide +kernel
theorem dX8_readBar_27 : decode cX8_readBar 27 = .ok (.bipush 10, 2) := by decide +kernel
theorem dX8_readBar_29 : decode cX8_readBar 29 = .ok (.iaload, 1) := by decide +kernel
theorem dX8_readBar_30 : decode cX8_readBar 30 = .ok (.invokevirtual 136, 3) := by decide +kernel
theorem dX8_readBar_33 : decode cX8_readBar 33 = .ok (.ifCond .ne 5, 3) := by decide +kernel
theorem dX8_readBar_36 : decode cX8_readBar 36 = .ok (.iconst 0, 1) := by decide +kernel
theorem dX8_readBar_37 : decode cX8_readBar 37 = .ok (.ireturn, 1) := by decide +kernel
theorem dX8_readBar_38 : decode cX8_readBar 38 = .ok (.aload_n 0, 1) := by decide +kernel
theorem dX8_readBar_39 : decode cX8_readBar 39 = .ok (.getfield 116, 3) := by decide +kernel
theorem dX8_readBar_42 : decode cX8_readBar 42 = .ok (.istore_n 1, 1) := by decide +kernel
theorem dX8_readBar_43 : decode cX8_readBar 43 = .ok (.aload_n 0, 1) := by decide +kernel
theorem dX8_readBar_44 : decode cX8_readBar 44 = .ok (.aload_n 0, 1) := by decide +kernel
theorem dX8_readBar_45 : decode cX8_readBar 45 = .ok (.getfield 73, 3) := by decide +kernel
theorem dX8_readBar_48 : decode cX8_readBar 48 = .ok (.bipush 10, 2) := by decide +kernel
theorem dX8_readBar_50 : decode cX8_readBar 50 = .ok (.iaload, 1) := by decide +kernel
theorem dX8_readBar_51 : decode cX8_readBar 51 = .ok (.invokevirtual 136, 3) := by decide +kernel
theorem dX8_readBar_54 : decode cX8_readBar 54 = .ok (.ifCond .ne 5, 3) := by decide +kernel
theorem dX8_readBar_57 : decode cX8_readBar 57 = .ok (.iconst 0, 1) := by decide +kernel
theorem dX8_readBar_58 : decode cX8_readBar 58 = .ok (.ireturn, 1) := by decide +kernel
theorem dX8_readBar_59 : decode cX8_readBar 59 = .ok (.aload_n 0, 1) := by decide +kernel
theorem dX8_readBar_60 : decode cX8_readBar 60 = .ok (.getfield 73, 3) := by decide +kernel
theorem dX8_readBar_63 : decode cX8_readBar 63 = .ok (.bipush 21, 2) := by decide +kernel
theorem dX8_readBar_65 : decode cX8_readBar 65 = .ok (.iload_n 1, 1) := by decide +kernel
theorem dX8_readBar_66 : decode cX8_readBar 66 = .ok (.iadd, 1) := by decide +kernel
theorem dX8_readBar_67 : decode cX8_readBar 67 = .ok (.dup2, 1) := by decide +kernel
theorem dX8_readBar_68 : decode cX8_readBar 68 = .ok (.iaload, 1) := by decide +kernel
theorem dX8_readBar_69 : decode cX8_readBar 69 = .ok (.iconst 1, 1) := by decide +kernel
theorem dX8_readBar_70 : decode cX8_readBar 70 = .ok (.aload_n 0, 1) := by decide +kernel
theorem dX8_readBar_71 : decode cX8_readBar 71 = .ok (.getfield 116, 3) := by decide +kernel
theorem dX8_readBar_74 : decode cX8_readBar 74 = .ok (.ishl, 1) := by decide +kernel
theorem dX8_readBar_75 : decode cX8_readBar 75 = .ok (.ior, 1) := by decide +kernel
theorem dX8_readBar_76 : decode cX8_readBar 76 = .ok (.iastore, 1) := by decide +kernel
theorem dX8_readBar_77 : decode cX8_readBar 77 = .ok (.aload_n 0, 1) := by decide +kernel
theorem dX8_readBar_78 : decode cX8_readBar 78 = .ok (.getfield 73, 3) := by decide +kernel
theorem dX8_readBar_81 : decode cX8_readBar 81 = .ok (.bipush 11, 2) := by decide +kernel
theorem dX8_readBar_83 : decode cX8_readBar 83 = .ok (.dup2, 1) := by decide +kernel
theorem dX8_readBar_84 : decode cX8_readBar 84 = .ok (.iaload, 1) := by decide +kernel
theorem dX8_readBar_85 : decode cX8_readBar 85 = .ok (.iconst 1, 1) := by decide +kernel
theorem dX8_readBar_86 : decode cX8_readBar 86 = .ok (.iadd, 1) := by decide +kernel
theorem dX8_readBar_87 : decode cX8_readBar 87 = .ok (.iastore, 1) := by decide +kernel
theorem dX8_readBar_88 : decode cX8_readBar 88 = .ok (.iconst 1, 1) := by decide +kernel
theorem dX8_readBar_89 : decode cX8_readBar 89 = .ok (.ireturn, 1) := by decide +kernel
theorem dX8_readLast_0 : decode cX8_readLast 0 = .ok (.aload_n 0, 1) := by decide +kernel
theorem dX8_readLast_1 : decode cX8_readLast 1 = .ok (.getfield 73, 3) := by decide +kernel
theorem dX8_readLast_4 : decode cX8_readLast 4 = .ok (.bipush 12, 2) := by decide +kernel
theorem dX8_readLast_6 : decode cX8_readLast 6 = .ok (.iaload, 1) := by decide +kernel
theorem dX8_readLast_7 : decode cX8_readLast 7 = .ok (.bipush 20, 2) := by decide +kernel
theorem dX8_readLast_9 : decode cX8_readLast 9 = .ok (.if_icmp .ne 9, 3) := by decide +kernel
theorem dX8_readLast_12 : decode cX8_readLast 12 = .ok (.aload_n 0, 1) := by decide +kernel
theorem dX8_readLast_13 : decode cX8_readLast 13 = .ok (.iconst 3, 1) := by decide +kernel
theorem dX8_readLast_14 : decode cX8_readLast 14 = .ok (.invokevirtual 106, 3) := by decide +kernel
theorem dX8_readLast_17 : decode cX8_readLast 17 = .ok (.ireturn, 1) := by decide +kernel
theorem dX8_readLast_18 : decode cX8_readLast 18 = .ok (.aload_n 0, 1) := by decide +kernel
theorem dX8_readLast_19 : decode cX8_readLast 19 = .ok (.invokevirtual 113, 3) := by decide +kernel
theorem dX8_readLast_22 : decode cX8_readLast 22 = .ok (.aload_n 0, 1) := by decide +kernel
theorem dX8_readLast_23 : decode cX8_readLast 23 = .ok (.aload_n 0, 1) := by decide +kernel
theorem dX8_readLast_24 : decode cX8_readLast 24 = .ok (.getfield 73, 3) := by decide +kernel
theorem dX8_readLast_27 : decode cX8_readLast 27 = .ok (.bipush 9, 2) := by decide +kernel
theorem dX8_readLast_29 : decode cX8_readLast 29 = .ok (.iaload, 1) := by decide +kernel
theorem dX8_readLast_30 : decode cX8_readLast 30 = .ok (.invokevirtual 136, 3) := by decide +kernel
theorem dX8_readLast_33 : decode cX8_readLast 33 = .ok (.ifCond .ne 5, 3) := by decide +kernel
theorem dX8_readLast_36 : decode cX8_readLast 36 = .ok (.iconst 0, 1) := by decide +kernel
theorem dX8_readLast_37 : decode cX8_readLast 37 = .ok (.ireturn, 1) := by decide +kernel
theorem dX8_readLast_38 : decode cX8_readLast 38 = .ok (.aload_n 0, 1) := by decide +kernel
theorem dX8_readLast_39 : decode cX8_readLast 39 = .ok (.getfield 116, 3) := by decide +kernel
theorem dX8_readLast_42 : decode cX8_readLast 42 = .ok (.istore_n 1, 1) := by decide +kernel
theorem dX8_readLast_43 : decode cX8_readLast 43 = .ok (.aload_n 0, 1) := by decide +kernel
theorem dX8_readLast_44 : decode cX8_readLast 44 = .ok (.aload_n 0, 1) := by decide +kernel
theorem dX8_readLast_45 : decode cX8_readLast 45 = .ok (.getfield 73, 3) := by decide +kernel
theorem dX8_readLast_48 : decode cX8_readLast 48 = .ok (.bipush 10, 2) := by decide +kernel
theorem dX8_readLast_50 : decode cX8_readLast 50 = .ok (.iaload, 1) := by decide +kernel
theorem dX8_readLast_51 : decode cX8_readLast 51 = .ok (.invokevirtual 136, 3) := by decide +kernel
theorem dX8_readLast_54 : decode cX8_readLast 54 = .ok (.ifCond .ne 5, 3) := by decide +kernel
theorem dX8_readLast_57 : decode cX8_readLast 57 = .ok (.iconst 0, 1) := by decide +kernel
theorem dX8_readLast_58 : decode cX8_readLast 58 = .ok (.ireturn, 1) := by decide +kernel
theorem dX8_readLast_59 : decode cX8_readLast 59 = .ok (.aload_n 0, 1) := by decide +kernel
theorem dX8_readLast_60 : decode cX8_readLast 60 = .ok (.getfield 73, 3) := by decide +kernel
theorem dX8_readLast_63 : decode cX8_readLast 63 = .ok (.bipush 27, 2) := by decide +kernel
theorem dX8_readLast_65 : decode cX8_readLast 65 = .ok (.bipush 6, 2) := by decide +kernel
theorem dX8_readLast_67 : decode cX8_readLast 67 = .ok (.iload_n 1, 1) := by decide +kernel
theorem dX8_readLast_68 : decode cX8_readLast 68 = .ok (.imul, 1) := by decide +kernel
theorem dX8_readLast_69 : decode cX8_readLast 69 = .ok (.iadd, 1) := by decide +kernel
theorem dX8_readLast_70 : decode cX8_readLast 70 = .ok (.iconst 5, 1) := by decide +kernel
theorem dX8_readLast_71 : decode cX8_readLast 71 = .ok (.iadd, 1) := by decide +kernel
theorem dX8_readLast_72 : decode cX8_readLast 72 = .ok (.aload_n 0, 1) := by decide +kernel
theorem dX8_readLast_73 : decode cX8_readLast 73 = .ok (.getfield 116, 3) := by decide +kernel
theorem dX8_readLast_76 : decode cX8_readLast 76 = .ok (.iconst 1, 1) := by decide +kernel
theorem dX8_readLast_77 : decode cX8_readLast 77 = .ok (.iadd, 1) := by decide +kernel
theorem dX8_readLast_78 : decode cX8_readLast 78 = .ok (.iastore, 1) := by decide +kernel
theorem dX8_readLast_79 : decode cX8_readLast 79 = .ok (.aload_n 0, 1) := by decide +kernel
theorem dX8_readLast_80 : decode cX8_readLast 80 = .ok (.getfield 73, 3) := by decide +kernel
theorem dX8_readLast_83 : decode cX8_readLast 83 = .ok (.bipush 12, 2) := by decide +kernel
theorem dX8_readLast_85 : decode cX8_readLast 85 = .ok (.dup2, 1) := by decide +kernel
theorem dX8_readLast_86 : decode cX8_readLast 86 = .ok (.iaload, 1) := by decide +kernel
theorem dX8_readLast_87 : decode cX8_readLast 87 = .ok (.iconst 1, 1) := by decide +kernel
theorem dX8_readLast_88 : decode cX8_readLast 88 = .ok (.iadd, 1) := by decide +kernel
theorem dX8_readLast_89 : decode cX8_readLast 89 = .ok (.iastore, 1) := by decide +kernel
theorem dX8_readLast_90 : decode cX8_readLast 90 = .ok (.iconst 1, 1) := by decide +kernel
theorem dX8_readLast_91 : decode cX8_readLast 91 = .ok (.ireturn, 1) := by decide +kernel
theorem dX8_readDrop_0 : decode cX8_readDrop 0 = .ok (.aload_n 0, 1) := by decide +kernel
theorem dX8_readDrop_1 : decode cX8_readDrop 1 = .ok (.getfield 73, 3) := by decide +kernel
theorem dX8_readDrop_4 : decode cX8_readDrop 4 = .ok (.bipush 13, 2) := by decide +kernel
theorem dX8_readDrop_6 : decode cX8_readDrop 6 = .ok (.iaload, 1) := by decide +kernel
theorem dX8_readDrop_7 : decode cX8_readDrop 7 = .ok (.iconst 4, 1) := by decide +kernel
theorem dX8_readDrop_8 : decode cX8_readDrop 8 = .ok (.if_icmp .ne 9, 3) := by decide +kernel
theorem dX8_readDrop_11 : decode cX8_readDrop 11 = .ok (.aload_n 0, 1) := by decide +kernel
theorem dX8_readDrop_12 : decode cX8_readDrop 12 = .ok (.iconst 3, 1) := by decide +kernel
theorem dX8_readDrop_13 : decode cX8_readDrop 13 = .ok (.invokevirtual 106, 3) := by decide +kernel
theorem dX8_readDrop_16 : decode cX8_readDrop 16 = .ok (.ireturn, 1) := by decide +kernel
theorem dX8_readDrop_17 : decode cX8_readDrop 17 = .ok (.aload_n 0, 1) := by decide +kernel
theorem dX8_readDrop_18 : decode cX8_readDrop 18 = .ok (.invokevirtual 113, 3) := by decide +kernel
theorem dX8_readDrop_21 : decode cX8_readDrop 21 = .ok (.bipush 57, 2) := by decide +kernel
theorem dX8_readDrop_23 : decode cX8_readDrop 23 = .ok (.iconst 5, 1) := by decide +kernel
theorem dX8_readDrop_24 : decode cX8_readDrop 24 = .ok (.aload_n 0, 1) := by decide +kernel
theorem dX8_readDrop_25 : decode cX8_readDrop 25 = .ok (.getfield 73, 3) := by decide +kernel
theorem dX8_readDrop_28 : decode cX8_readDrop 28 = .ok (.bipush 13, 2) := by decide +kernel
theorem dX8_readDrop_30 : decode cX8_readDrop 30 = .ok (.iaload, 1) := by decide +kernel
theorem dX8_readDrop_31 : decode cX8_readDrop 31 = .ok (.imul, 1) := by decide +kernel
theorem dX8_readDrop_32 : decode cX8_readDrop 32 = .ok (.iadd, 1) := by decide +kernel
theorem dX8_readDrop_33 : decode cX8_readDrop 33 = .ok (.istore_n 1, 1) := by decide +kernel
theorem dX8_readDrop_34 : decode cX8_readDrop 34 = .ok (.aload_n 0, 1) := by decide +kernel
theorem dX8_readDrop_35 : decode cX8_readDrop 35 = .ok (.aload_n 0, 1) := by decide +kernel
theorem dX8_readDrop_36 : decode cX8_readDrop 36 = .ok (.getfield 73, 3) := by decide +kernel
theorem dX8_readDrop_39 : decode cX8_readDrop 39 = .ok (.bipush 10, 2) := by decide +kernel
theorem dX8_readDrop_41 : decode cX8_readDrop 41 = .ok (.iaload, 1) := by decide +kernel
theorem dX8_readDrop_42 : decode cX8_readDrop 42 = .ok (.invokevirtual 136, 3) := by decide +kernel
theorem dX8_readDrop_45 : decode cX8_readDrop 45 = .ok (.ifCond .ne 5, 3) := by decide +kernel
theorem dX8_readDrop_48 : decode cX8_readDrop 48 = .ok (.iconst 0, 1) := by decide +kernel
theorem dX8_readDrop_49 : decode cX8_readDrop 49 = .ok (.ireturn, 1) := by decide +kernel
theorem dX8_readDrop_50 : decode cX8_readDrop 50 = .ok (.aload_n 0, 1) := by decide +kernel
theorem dX8_readDrop_51 : decode cX8_readDrop 51 = .ok (.getfield 73, 3) := by decide +kernel
theorem dX8_readDrop_54 : decode cX8_readDrop 54 = .ok (.iload_n 1, 1) := by decide +kernel
theorem dX8_readDrop_55 : decode cX8_readDrop 55 = .ok (.iconst 0, 1) := by decide +kernel
theorem dX8_readDrop_56 : decode cX8_readDrop 56 = .ok (.iadd, 1) := by decide +kernel
theorem dX8_readDrop_57 : decode cX8_readDrop 57 = .ok (.aload_n 0, 1) := by decide +kernel
theorem dX8_readDrop_58 : decode cX8_readDrop 58 = .ok (.getfield 116, 3) := by decide +kernel
theorem dX8_readDrop_61 : decode cX8_readDrop 61 = .ok (.iastore, 1) := by decide +kernel
theorem dX8_readDrop_62 : decode cX8_readDrop 62 = .ok (.aload_n 0, 1) := by decide +kernel
theorem dX8_readDrop_63 : decode cX8_readDrop 63 = .ok (.iload_n 1, 1) := by decide +kernel
theorem dX8_readDrop_64 : decode cX8_readDrop 64 = .ok (.iconst 1, 1) := by decide +kernel
theorem dX8_readDrop_65 : decode cX8_readDrop 65 = .ok (.iadd, 1) := by decide +kernel
theorem dX8_readDrop_66 : decode cX8_readDrop 66 = .ok (.iconst 1, 1) := by decide +kernel
theorem dX8_readDrop_67 : decode cX8_readDrop 67 = .ok (.sipush 4995, 3) := by decide +kernel
theorem dX8_readDrop_70 : decode cX8_readDrop 70 = .ok (.invokevirtual 127, 3) := by decide +kernel
theorem dX8_readDrop_73 : decode cX8_readDrop 73 = .ok (.ifCond .ne 5, 3) := by decide +kernel
theorem dX8_readDrop_76 : decode cX8_readDrop 76 = .ok (.iconst 0, 1) := by decide +kernel
theorem dX8_readDrop_77 : decode cX8_readDrop 77 = .ok (.ireturn, 1) := by decide +kernel
theorem dX8_readDrop_78 : decode cX8_readDrop 78 = .ok (.aload_n 0, 1) := by decide +kernel
theorem dX8_readDrop_79 : decode cX8_readDrop 79 = .ok (.getfield 73, 3) := by decide +kernel
theorem dX8_readDrop_82 : decode cX8_readDrop 82 = .ok (.bipush 13, 2) := by decide +kernel
theorem dX8_readDrop_84 : decode cX8_readDrop 84 = .ok (.dup2, 1) := by decide +kernel
theorem dX8_readDrop_85 : decode cX8_readDrop 85 = .ok (.iaload, 1) := by decide +kernel
theorem dX8_readDrop_86 : decode cX8_readDrop 86 = .ok (.iconst 1, 1) := by decide +kernel
theorem dX8_readDrop_87 : decode cX8_readDrop 87 = .ok (.iadd, 1) := by decide +kernel
theorem dX8_readDrop_88 : decode cX8_readDrop 88 = .ok (.iastore, 1) := by decide +kernel
theorem dX8_readDrop_89 : decode cX8_readDrop 89 = .ok (.iconst 1, 1) := by decide +kernel
theorem dX8_readDrop_90 : decode cX8_readDrop 90 = .ok (.ireturn, 1) := by decide +kernel
theorem dX8_readLine_0 : decode cX8_readLine 0 = .ok (.iload_n 1, 1) := by decide +kernel
theorem dX8_readLine_1 : decode cX8_readLine 1 = .ok (.ifCond .eq 8, 3) := by decide +kernel
theorem dX8_readLine_4 : decode cX8_readLine 4 = .ok (.aload_n 0, 1) := by decide +kernel
theorem dX8_readLine_5 : decode cX8_readLine 5 = .ok (.invokevirtual 139, 3) := by decide +kernel
theorem dX8_readLine_8 : decode cX8_readLine 8 = .ok (.ireturn, 1) := by decide +kernel
theorem dX8_readLine_9 : decode cX8_readLine 9 = .ok (.aload_n 0, 1) := by decide +kernel
theorem dX8_readLine_10 : decode cX8_readLine 10 = .ok (.ldc2_w 143, 3) := by decide +kernel
theorem dX8_readLine_13 : decode cX8_readLine 13 = .ok (.bipush 99, 2) := by decide +kernel
theorem dX8_readLine_15 : decode cX8_readLine 15 = .ok (.bipush 111, 2) := by decide +kernel
theorem dX8_readLine_17 : decode cX8_readLine 17 = .ok (.bipush 109, 2) := by decide +kernel
theorem dX8_readLine_19 : decode cX8_readLine 19 = .ok (.bipush 112, 2) := by decide +kernel
theorem dX8_readLine_21 : decode cX8_readLine 21 = .ok (.bipush 97, 2) := by decide +kernel
theorem dX8_readLine_23 : decode cX8_readLine 23 = .ok (.bipush 114, 2) := by decide +kernel
theorem dX8_readLine_25 : decode cX8_readLine 25 = .ok (.invokestatic 119, 3) := by decide +kernel
theorem dX8_readLine_28 : decode cX8_readLine 28 = .ok (.lmul, 1) := by decide +kernel
theorem dX8_readLine_29 : decode cX8_readLine 29 = .ok (.ldc2_w 145, 3) := by decide +kernel
theorem dX8_readLine_32 : decode cX8_readLine 32 = .ok (.bipush 116, 2) := by decide +kernel
theorem dX8_readLine_34 : decode cX8_readLine 34 = .ok (.bipush 109, 2) := by decide +kernel
theorem dX8_readLine_36 : decode cX8_readLine 36 = .ok (.bipush 101, 2) := by decide +kernel
theorem dX8_readLine_38 : decode cX8_readLine 38 = .ok (.invokestatic 54, 3) := by decide +kernel
theorem dX8_readLine_41 : decode cX8_readLine 41 = .ok (.lmul, 1) := by decide +kernel
theorem dX8_readLine_42 : decode cX8_readLine 42 = .ok (.ladd, 1) := by decide +kernel
theorem dX8_readLine_43 : decode cX8_readLine 43 = .ok (.ldc2_w 147, 3) := by decide +kernel
theorem dX8_readLine_46 : decode cX8_readLine 46 = .ok (.ladd, 1) := by decide +kernel
theorem dX8_readLine_47 : decode cX8_readLine 47 = .ok (.ldc2_w 149, 3) := by decide +kernel
theorem dX8_readLine_50 : decode cX8_readLine 50 = .ok (.ladd, 1) := by decide +kernel
theorem dX8_readLine_51 : decode cX8_readLine 51 = .ok (.invokevirtual 123, 3) := by decide +kernel
theorem dX8_readLine_54 : decode cX8_readLine 54 = .ok (.ifCond .eq 8, 3) := by decide +kernel
theorem dX8_readLine_57 : decode cX8_readLine 57 = .ok (.aload_n 0, 1) := by decide +kernel
theorem dX8_readLine_58 : decode cX8_readLine 58 = .ok (.invokevirtual 151, 3) := by decide +kernel
theorem dX8_readLine_61 : decode cX8_readLine 61 = .ok (.ireturn, 1) := by decide +kernel
theorem dX8_readLine_62 : decode cX8_readLine 62 = .ok (.aload_n 0, 1) := by decide +kernel
theorem dX8_readLine_63 : decode cX8_readLine 63 = .ok (.bipush 108, 2) := by decide +kernel
theorem dX8_readLine_65 : decode cX8_readLine 65 = .ok (.bipush 105, 2) := by decide +kernel
theorem dX8_readLine_67 : decode cX8_readLine 67 = .ok (.bipush 113, 2) := by decide +kernel
theorem dX8_readLine_69 : decode cX8_readLine 69 = .ok (.bipush 117, 2) := by decide +kernel
theorem dX8_readLine_71 : decode cX8_readLine 71 = .ok (.bipush 105, 2) := by decide +kernel
theorem dX8_readLine_73 : decode cX8_readLine 73 = .ok (.bipush 100, 2) := by decide +kernel
theorem dX8_readLine_75 : decode cX8_readLine 75 = .ok (.invokestatic 119, 3) := by decide +kernel
theorem dX8_readLine_78 : decode cX8_readLine 78 = .ok (.invokevirtual 123, 3) := by decide +kernel
theorem dX8_readLine_81 : decode cX8_readLine 81 = .ok (.ifCond .eq 8, 3) := by decide +kernel
theorem dX8_readLine_84 : decode cX8_readLine 84 = .ok (.aload_n 0, 1) := by decide +kernel
theorem dX8_readLine_85 : decode cX8_readLine 85 = .ok (.invokevirtual 154, 3) := by decide +kernel
theorem dX8_readLine_88 : decode cX8_readLine 88 = .ok (.ireturn, 1) := by decide +kernel
theorem dX8_readLine_89 : decode cX8_readLine 89 = .ok (.aload_n 0, 1) := by decide +kernel
theorem dX8_readLine_90 : decode cX8_readLine 90 = .ok (.bipush 98, 2) := by decide +kernel
theorem dX8_readLine_92 : decode cX8_readLine 92 = .ok (.bipush 97, 2) := by decide +kernel
theorem dX8_readLine_94 : decode cX8_readLine 94 = .ok (.bipush 114, 2) := by decide +kernel
theorem dX8_readLine_96 : decode cX8_readLine 96 = .ok (.invokestatic 54, 3) := by decide +kernel
theorem dX8_readLine_99 : decode cX8_readLine 99 = .ok (.invokevirtual 123, 3) := by decide +kernel
theorem dX8_readLine_102 : decode cX8_readLine 102 = .ok (.ifCond .eq 8, 3) := by decide +kernel
theorem dX8_readLine_105 : decode cX8_readLine 105 = .ok (.aload_n 0, 1) := by decide +kernel
theorem dX8_readLine_106 : decode cX8_readLine 106 = .ok (.invokevirtual 157, 3) := by decide +kernel
theorem dX8_readLine_109 : decode cX8_readLine 109 = .ok (.ireturn, 1) := by decide +kernel
theorem dX8_readLine_110 : decode cX8_readLine 110 = .ok (.aload_n 0, 1) := by decide +kernel
theorem dX8_readLine_111 : decode cX8_readLine 111 = .ok (.bipush 108, 2) := by decide +kernel
theorem dX8_readLine_113 : decode cX8_readLine 113 = .ok (.bipush 97, 2) := by decide +kernel
theorem dX8_readLine_115 : decode cX8_readLine 115 = .ok (.bipush 115, 2) := by decide +kernel
theorem dX8_readLine_117 : decode cX8_readLine 117 = .ok (.bipush 116, 2) := by decide +kernel
theorem dX8_readLine_119 : decode cX8_readLine 119 = .ok (.invokestatic 130, 3) := by decide +kernel
theorem dX8_readLine_122 : decode cX8_readLine 122 = .ok (.invokevirtual 123, 3) := by decide +kernel
theorem dX8_readLine_125 : decode cX8_readLine 125 = .ok (.ifCond .eq 8, 3) := by decide +kernel
theorem dX8_readLine_128 : decode cX8_readLine 128 = .ok (.aload_n 0, 1) := by decide +kernel
theorem dX8_readLine_129 : decode cX8_readLine 129 = .ok (.invokevirtual 160, 3) := by decide +kernel
theorem dX8_readLine_132 : decode cX8_readLine 132 = .ok (.ireturn, 1) := by decide +kernel
theorem dX8_readLine_133 : decode cX8_readLine 133 = .ok (.aload_n 0, 1) := by decide +kernel
theorem dX8_readLine_134 : decode cX8_readLine 134 = .ok (.bipush 100, 2) := by decide +kernel
theorem dX8_readLine_136 : decode cX8_readLine 136 = .ok (.bipush 114, 2) := by decide +kernel
theorem dX8_readLine_138 : decode cX8_readLine 138 = .ok (.bipush 111, 2) := by decide +kernel
theorem dX8_readLine_140 : decode cX8_readLine 140 = .ok (.bipush 112, 2) := by decide +kernel
theorem dX8_readLine_142 : decode cX8_readLine 142 = .ok (.invokestatic 130, 3) := by decide +kernel
theorem dX8_readLine_145 : decode cX8_readLine 145 = .ok (.invokevirtual 123, 3) := by decide +kernel
theorem dX8_readLine_148 : decode cX8_readLine 148 = .ok (.ifCond .eq 10, 3) := by decide +kernel
theorem dX8_readLine_151 : decode cX8_readLine 151 = .ok (.aload_n 0, 1) := by decide +kernel
theorem dX8_readLine_152 : decode cX8_readLine 152 = .ok (.invokevirtual 163, 3) := by decide +kernel
theorem dX8_readLine_155 : decode cX8_readLine 155 = .ok (.goto 8, 3) := by decide +kernel
theorem dX8_readLine_158 : decode cX8_readLine 158 = .ok (.aload_n 0, 1) := by decide +kernel
theorem dX8_readLine_159 : decode cX8_readLine 159 = .ok (.iconst 1, 1) := by decide +kernel
theorem dX8_readLine_160 : decode cX8_readLine 160 = .ok (.invokevirtual 106, 3) := by decide +kernel
theorem dX8_readLine_163 : decode cX8_readLine 163 = .ok (.ireturn, 1) := by decide +kernel
theorem dX8_readEnd_0 : decode cX8_readEnd 0 = .ok (.aload_n 0, 1) := by decide +kernel
theorem dX8_readEnd_1 : decode cX8_readEnd 1 = .ok (.getfield 27, 3) := by decide +kernel
theorem dX8_readEnd_4 : decode cX8_readEnd 4 = .ok (.iconst 4, 1) := by decide +kernel
theorem dX8_readEnd_5 : decode cX8_readEnd 5 = .ok (.if_icmp .eq 9, 3) := by decide +kernel
theorem dX8_readEnd_8 : decode cX8_readEnd 8 = .ok (.aload_n 0, 1) := by decide +kernel
theorem dX8_readEnd_9 : decode cX8_readEnd 9 = .ok (.iconst 1, 1) := by decide +kernel
theorem dX8_readEnd_10 : decode cX8_readEnd 10 = .ok (.invokevirtual 106, 3) := by decide +kernel
theorem dX8_readEnd_13 : decode cX8_readEnd 13 = .ok (.ireturn, 1) := by decide +kernel
theorem dX8_readEnd_14 : decode cX8_readEnd 14 = .ok (.aload_n 0, 1) := by decide +kernel
theorem dX8_readEnd_15 : decode cX8_readEnd 15 = .ok (.invokevirtual 113, 3) := by decide +kernel
theorem dX8_readEnd_18 : decode cX8_readEnd 18 = .ok (.iconst 1, 1) := by decide +kernel
theorem dX8_readEnd_19 : decode cX8_readEnd 19 = .ok (.ireturn, 1) := by decide +kernel
theorem dX8_text_0 : decode cX8_text 0 = .ok (.aload_n 0, 1) := by decide +kernel
theorem dX8_text_1 : decode cX8_text 1 = .ok (.iconst 0, 1) := by decide +kernel
theorem dX8_text_2 : decode cX8_text 2 = .ok (.putfield 1, 3) := by decide +kernel
theorem dX8_text_5 : decode cX8_text 5 = .ok (.aload_n 0, 1) := by decide +kernel
theorem dX8_text_6 : decode cX8_text 6 = .ok (.aload_n 0, 1) := by decide +kernel
theorem dX8_text_7 : decode cX8_text 7 = .ok (.getfield 11, 3) := by decide +kernel
theorem dX8_text_10 : decode cX8_text 10 = .ok (.putfield 18, 3) := by decide +kernel
theorem dX8_text_13 : decode cX8_text 13 = .ok (.aload_n 0, 1) := by decide +kernel
theorem dX8_text_14 : decode cX8_text 14 = .ok (.iconst 0, 1) := by decide +kernel
theorem dX8_text_15 : decode cX8_text 15 = .ok (.putfield 11, 3) := by decide +kernel
theorem dX8_text_18 : decode cX8_text 18 = .ok (.aload_n 0, 1) := by decide +kernel
theorem dX8_text_19 : decode cX8_text 19 = .ok (.iconst 0, 1) := by decide +kernel
theorem dX8_text_20 : decode cX8_text 20 = .ok (.putfield 58, 3) := by decide +kernel
theorem dX8_text_23 : decode cX8_text 23 = .ok (.aload_n 0, 1) := by decide +kernel
theorem dX8_text_24 : decode cX8_text 24 = .ok (.iconst 0, 1) := by decide +kernel
theorem dX8_text_25 : decode cX8_text 25 = .ok (.putfield 21, 3) := by decide +kernel
theorem dX8_text_28 : decode cX8_text 28 = .ok (.iconst 0, 1) := by decide +kernel
theorem dX8_text_29 : decode cX8_text 29 = .ok (.istore_n 1, 1) := by decide +kernel
theorem dX8_text_30 : decode cX8_text 30 = .ok (.iconst 0, 1) := by decide +kernel
theorem dX8_text_31 : decode cX8_text 31 = .ok (.istore_n 2, 1) := by decide +kernel
theorem dX8_text_32 : decode cX8_text 32 = .ok (.iload_n 2, 1) := by decide +kernel
theorem dX8_text_33 : decode cX8_text 33 = .ok (.sipush 157, 3) := by decide +kernel
theorem dX8_text_36 : decode cX8_text 36 = .ok (.if_icmp .ge 16, 3) := by decide +kernel
theorem dX8_text_39 : decode cX8_text 39 = .ok (.aload_n 0, 1) := by decide +kernel
theorem dX8_text_40 : decode cX8_text 40 = .ok (.getfield 73, 3) := by decide +kernel
theorem dX8_text_43 : decode cX8_text 43 = .ok (.iload_n 2, 1) := by decide +kernel
theorem dX8_text_44 : decode cX8_text 44 = .ok (.iconst 0, 1) := by decide +kernel
theorem dX8_text_45 : decode cX8_text 45 = .ok (.iastore, 1) := by decide +kernel
theorem dX8_text_46 : decode cX8_text 46 = .ok (.iinc 2 1, 3) := by decide +kernel
theorem dX8_text_49 : decode cX8_text 49 = .ok (.goto (-17), 3) := by decide +kernel
theorem dX8_text_52 : decode cX8_text 52 = .ok (.aload_n 0, 1) := by decide +kernel
theorem dX8_text_53 : decode cX8_text 53 = .ok (.getfield 73, 3) := by decide +kernel
theorem dX8_text_56 : decode cX8_text 56 = .ok (.iconst 0, 1) := by decide +kernel
theorem dX8_text_57 : decode cX8_text 57 = .ok (.iconst 1, 1) := by decide +kernel
theorem dX8_text_58 : decode cX8_text 58 = .ok (.iastore, 1) := by decide +kernel
theorem dX8_text_59 : decode cX8_text 59 = .ok (.aload_n 0, 1) := by decide +kernel
theorem dX8_text_60 : decode cX8_text 60 = .ok (.invokevirtual 113, 3) := by decide +kernel
theorem dX8_text_63 : decode cX8_text 63 = .ok (.aload_n 0, 1) := by decide +kernel
theorem dX8_text_64 : decode cX8_text 64 = .ok (.getfield 27, 3) := by decide +kernel
theorem dX8_text_67 : decode cX8_text 67 = .ok (.ifCond .eq 39, 3) := by decide +kernel
theorem dX8_text_70 : decode cX8_text 70 = .ok (.aload_n 0, 1) := by decide +kernel
theorem dX8_text_71 : decode cX8_text 71 = .ok (.iload_n 1, 1) := by decide +kernel
theorem dX8_text_72 : decode cX8_text 72 = .ok (.ifCond .ne 7, 3) := by decide +kernel
theorem dX8_text_75 : decode cX8_text 75 = .ok (.iconst 1, 1) := by decide +kernel
theorem dX8_text_76 : decode cX8_text 76 = .ok (.goto 4, 3) := by decide +kernel
theorem dX8_text_79 : decode cX8_text 79 = .ok (.iconst 0, 1) := by decide +kernel
theorem dX8_text_80 : decode cX8_text 80 = .ok (.invokevirtual 166, 3) := by decide +kernel
theorem dX8_text_83 : decode cX8_text 83 = .ok (.ifCond .eq 10, 3) := by decide +kernel
theorem dX8_text_86 : decode cX8_text 86 = .ok (.aload_n 0, 1) := by decide +kernel
theorem dX8_text_87 : decode cX8_text 87 = .ok (.invokevirtual 170, 3) := by decide +kernel
theorem dX8_text_90 : decode cX8_text 90 = .ok (.ifCond .ne 10, 3) := by decide +kernel
theorem dX8_text_93 : decode cX8_text 93 = .ok (.iconst (-1), 1) := by decide +kernel
theorem dX8_text_94 : decode cX8_text 94 = .ok (.aload_n 0, 1) := by decide +kernel
theorem dX8_text_95 : decode cX8_text 95 = .ok (.getfield 61, 3) := by decide +kernel
theorem dX8_text_98 : decode cX8_text 98 = .ok (.isub, 1) := by decide +kernel
theorem dX8_text_99 : decode cX8_text 99 = .ok (.ireturn, 1) := by decide +kernel
theorem dX8_text_100 : decode cX8_text 100 = .ok (.iinc 1 1, 3) := by decide +kernel
theorem dX8_text_103 : decode cX8_text 103 = .ok (.goto (-40), 3) := by decide +kernel
theorem dX8_text_106 : decode cX8_text 106 = .ok (.iconst 0, 1) := by decide +kernel
theorem dX8_text_107 : decode cX8_text 107 = .ok (.istore_n 2, 1) := by decide +kernel
theorem dX8_text_108 : decode cX8_text 108 = .ok (.iload_n 2, 1) := by decide +kernel
theorem dX8_text_109 : decode cX8_text 109 = .ok (.sipush 157, 3) := by decide +kernel
theorem dX8_text_112 : decode cX8_text 112 = .ok (.if_icmp .ge 21, 3) := by decide +kernel
theorem dX8_text_115 : decode cX8_text 115 = .ok (.aload_n 0, 1) := by decide +kernel
theorem dX8_text_116 : decode cX8_text 116 = .ok (.getfield 70, 3) := by decide +kernel
theorem dX8_text_119 : decode cX8_text 119 = .ok (.iload_n 2, 1) := by decide +kernel
theorem dX8_text_120 : decode cX8_text 120 = .ok (.aload_n 0, 1) := by decide +kernel
theorem dX8_text_121 : decode cX8_text 121 = .ok (.getfield 73, 3) := by decide +kernel
theorem dX8_text_124 : decode cX8_text 124 = .ok (.iload_n 2, 1) := by decide +kernel
theorem dX8_text_125 : decode cX8_text 125 = .ok (.iaload, 1) := by decide +kernel
theorem dX8_text_126 : decode cX8_text 126 = .ok (.iastore, 1) := by decide +kernel
theorem dX8_text_127 : decode cX8_text 127 = .ok (.iinc 2 1, 3) := by decide +kernel
theorem dX8_text_130 : decode cX8_text 130 = .ok (.goto (-22), 3) := by decide +kernel
theorem dX8_text_133 : decode cX8_text 133 = .ok (.aload_n 0, 1) := by decide +kernel
theorem dX8_text_134 : decode cX8_text 134 = .ok (.iconst 0, 1) := by decide +kernel
theorem dX8_text_135 : decode cX8_text 135 = .ok (.putfield 173, 3) := by decide +kernel
theorem dX8_text_138 : decode cX8_text 138 = .ok (.iload_n 1, 1) := by decide +kernel
theorem dX8_text_139 : decode cX8_text 139 = .ok (.ireturn, 1) := by decide +kernel
theorem dX8_fault_0 : decode cX8_fault 0 = .ok (.aload_n 0, 1) := by decide +kernel
theorem dX8_fault_1 : decode cX8_fault 1 = .ok (.iconst 0, 1) := by decide +kernel
theorem dX8_fault_2 : decode cX8_fault 2 = .ok (.putfield 1, 3) := by decide +kernel
theorem dX8_fault_5 : decode cX8_fault 5 = .ok (.aload_n 0, 1) := by decide +kernel
theorem dX8_fault_6 : decode cX8_fault 6 = .ok (.getfield 58, 3) := by decide +kernel
theorem dX8_fault_9 : decode cX8_fault 9 = .ok (.ireturn, 1) := by decide +kernel
theorem dX8_isHold_0 : decode cX8_isHold 0 = .ok (.iload_n 1, 1) := by decide +kernel
theorem dX8_isHold_1 : decode cX8_isHold 1 = .ok (.iconst 0, 1) := by decide +kernel
theorem dX8_isHold_2 : decode cX8_isHold 2 = .ok (.aload_n 0, 1) := by decide +kernel
theorem dX8_isHold_3 : decode cX8_isHold 3 = .ok (.getfield 70, 3) := by decide +kernel
theorem dX8_isHold_6 : decode cX8_isHold 6 = .ok (.bipush 9, 2) := by decide +kernel
theorem dX8_isHold_8 : decode cX8_isHold 8 = .ok (.iaload, 1) := by decide +kernel
theorem dX8_isHold_9 : decode cX8_isHold 9 = .ok (.iconst 1, 1) := by decide +kernel
theorem dX8_isHold_10 : decode cX8_isHold 10 = .ok (.isub, 1) := by decide +kernel
theorem dX8_isHold_11 : decode cX8_isHold 11 = .ok (.invokestatic 109, 3) := by decide +kernel
theorem dX8_isHold_14 : decode cX8_isHold 14 = .ok (.ireturn, 1) := by decide +kernel
theorem dX8_isLiquid_0 : decode cX8_isLiquid 0 = .ok (.iload_n 1, 1) := by decide +kernel
theorem dX8_isLiquid_1 : decode cX8_isLiquid 1 = .ok (.iconst 0, 1) := by decide +kernel
theorem dX8_isLiquid_2 : decode cX8_isLiquid 2 = .ok (.aload_n 0, 1) := by decide +kernel
theorem dX8_isLiquid_3 : decode cX8_isLiquid 3 = .ok (.getfield 70, 3) := by decide +kernel
theorem dX8_isLiquid_6 : decode cX8_isLiquid 6 = .ok (.bipush 10, 2) := by decide +kernel
theorem dX8_isLiquid_8 : decode cX8_isLiquid 8 = .ok (.iaload, 1) := by decide +kernel
theorem dX8_isLiquid_9 : decode cX8_isLiquid 9 = .ok (.iconst 1, 1) := by decide +kernel
theorem dX8_isLiquid_10 : decode cX8_isLiquid 10 = .ok (.isub, 1) := by decide +kernel
theorem dX8_isLiquid_11 : decode cX8_isLiquid 11 = .ok (.invokestatic 109, 3) := by decide +kernel
theorem dX8_isLiquid_14 : decode cX8_isLiquid 14 = .ok (.ireturn, 1) := by decide +kernel
theorem dX8_isDrop_0 : decode cX8_isDrop 0 = .ok (.iload_n 1, 1) := by decide +kernel
theorem dX8_isDrop_1 : decode cX8_isDrop 1 = .ok (.iconst 0, 1) := by decide +kernel
theorem dX8_isDrop_2 : decode cX8_isDrop 2 = .ok (.aload_n 0, 1) := by decide +kernel
theorem dX8_isDrop_3 : decode cX8_isDrop 3 = .ok (.getfield 70, 3) := by decide +kernel
theorem dX8_isDrop_6 : decode cX8_isDrop 6 = .ok (.bipush 13, 2) := by decide +kernel
theorem dX8_isDrop_8 : decode cX8_isDrop 8 = .ok (.iaload, 1) := by decide +kernel
theorem dX8_isDrop_9 : decode cX8_isDrop 9 = .ok (.iconst 1, 1) := by decide +kernel
theorem dX8_isDrop_10 : decode cX8_isDrop 10 = .ok (.isub, 1) := by decide +kernel
theorem dX8_isDrop_11 : decode cX8_isDrop 11 = .ok (.invokestatic 109, 3) := by decide +kernel
theorem dX8_isDrop_14 : decode cX8_isDrop 14 = .ok (.ireturn, 1) := by decide +kernel
theorem dX8_holds_0 : decode cX8_holds 0 = .ok (.aload_n 0, 1) := by decide +kernel
theorem dX8_holds_1 : decode cX8_holds 1 = .ok (.getfield 70, 3) := by decide +kernel
theorem dX8_holds_4 : decode cX8_holds 4 = .ok (.bipush 27, 2) := by decide +kernel
theorem dX8_holds_6 : decode cX8_holds 6 = .ok (.bipush 6, 2) := by decide +kernel
theorem dX8_holds_8 : decode cX8_holds 8 = .ok (.iload_n 1, 1) := by decide +kernel
theorem dX8_holds_9 : decode cX8_holds 9 = .ok (.imul, 1) := by decide +kernel
theorem dX8_holds_10 : decode cX8_holds 10 = .ok (.iadd, 1) := by decide +kernel
theorem dX8_holds_11 : decode cX8_holds 11 = .ok (.iload_n 2, 1) := by decide +kernel
theorem dX8_holds_12 : decode cX8_holds 12 = .ok (.iadd, 1) := by decide +kernel
theorem dX8_holds_13 : decode cX8_holds 13 = .ok (.iaload, 1) := by decide +kernel
theorem dX8_holds_14 : decode cX8_holds 14 = .ok (.ireturn, 1) := by decide +kernel
theorem dX8_its_0 : decode cX8_its 0 = .ok (.aload_n 0, 1) := by decide +kernel
theorem dX8_its_1 : decode cX8_its 1 = .ok (.getfield 70, 3) := by decide +kernel
theorem dX8_its_4 : decode cX8_its 4 = .ok (.bipush 57, 2) := by decide +kernel
theorem dX8_its_6 : decode cX8_its 6 = .ok (.iconst 5, 1) := by decide +kernel
theorem dX8_its_7 : decode cX8_its 7 = .ok (.iload_n 1, 1) := by decide +kernel
theorem dX8_its_8 : decode cX8_its 8 = .ok (.imul, 1) := by decide +kernel
theorem dX8_its_9 : decode cX8_its 9 = .ok (.iadd, 1) := by decide +kernel
theorem dX8_its_10 : decode cX8_its 10 = .ok (.iload_n 2, 1) := by decide +kernel
theorem dX8_its_11 : decode cX8_its 11 = .ok (.iadd, 1) := by decide +kernel
theorem dX8_its_12 : decode cX8_its 12 = .ok (.iaload, 1) := by decide +kernel
theorem dX8_its_13 : decode cX8_its 13 = .ok (.ireturn, 1) := by decide +kernel
theorem dX8_top_0 : decode cX8_top 0 = .ok (.aload_n 0, 1) := by decide +kernel
theorem dX8_top_1 : decode cX8_top 1 = .ok (.iload_n 1, 1) := by decide +kernel
theorem dX8_top_2 : decode cX8_top 2 = .ok (.iconst 0, 1) := by decide +kernel
theorem dX8_top_3 : decode cX8_top 3 = .ok (.invokevirtual 176, 3) := by decide +kernel
theorem dX8_top_6 : decode cX8_top 6 = .ok (.aload_n 0, 1) := by decide +kernel
theorem dX8_top_7 : decode cX8_top 7 = .ok (.getfield 70, 3) := by decide +kernel
theorem dX8_top_10 : decode cX8_top 10 = .ok (.bipush 6, 2) := by decide +kernel
theorem dX8_top_12 : decode cX8_top 12 = .ok (.iaload, 1) := by decide +kernel
theorem dX8_top_13 : decode cX8_top 13 = .ok (.imul, 1) := by decide +kernel
theorem dX8_top_14 : decode cX8_top 14 = .ok (.bipush 100, 2) := by decide +kernel
theorem dX8_top_16 : decode cX8_top 16 = .ok (.idiv, 1) := by decide +kernel
theorem dX8_top_17 : decode cX8_top 17 = .ok (.ireturn, 1) := by decide +kernel
theorem dX8_lastIn_0 : decode cX8_lastIn 0 = .ok (.aload_n 0, 1) := by decide +kernel
theorem dX8_lastIn_1 : decode cX8_lastIn 1 = .ok (.iload_n 1, 1) := by decide +kernel
theorem dX8_lastIn_2 : decode cX8_lastIn 2 = .ok (.iconst 4, 1) := by decide +kernel
theorem dX8_lastIn_3 : decode cX8_lastIn 3 = .ok (.invokevirtual 176, 3) := by decide +kernel
theorem dX8_lastIn_6 : decode cX8_lastIn 6 = .ok (.ifCond .le 19, 3) := by decide +kernel
theorem dX8_lastIn_9 : decode cX8_lastIn 9 = .ok (.aload_n 0, 1) := by decide +kernel
theorem dX8_lastIn_10 : decode cX8_lastIn 10 = .ok (.aload_n 0, 1) := by decide +kernel
theorem dX8_lastIn_11 : decode cX8_lastIn 11 = .ok (.iload_n 1, 1) := by decide +kernel
theorem dX8_lastIn_12 : decode cX8_lastIn 12 = .ok (.iconst 4, 1) := by decide +kernel
theorem dX8_lastIn_13 : decode cX8_lastIn 13 = .ok (.invokevirtual 176, 3) := by decide +kernel
theorem dX8_lastIn_16 : decode cX8_lastIn 16 = .ok (.iconst 1, 1) := by decide +kernel
theorem dX8_lastIn_17 : decode cX8_lastIn 17 = .ok (.isub, 1) := by decide +kernel
theorem dX8_lastIn_18 : decode cX8_lastIn 18 = .ok (.iconst 0, 1) := by decide +kernel
theorem dX8_lastIn_19 : decode cX8_lastIn 19 = .ok (.invokevirtual 180, 3) := by decide +kernel
theorem dX8_lastIn_22 : decode cX8_lastIn 22 = .ok (.goto 11, 3) := by decide +kernel
theorem dX8_lastIn_25 : decode cX8_lastIn 25 = .ok (.aload_n 0, 1) := by decide +kernel
theorem dX8_lastIn_26 : decode cX8_lastIn 26 = .ok (.iload_n 1, 1) := by decide +kernel
theorem dX8_lastIn_27 : decode cX8_lastIn 27 = .ok (.iconst 5, 1) := by decide +kernel
theorem dX8_lastIn_28 : decode cX8_lastIn 28 = .ok (.invokevirtual 176, 3) := by decide +kernel
theorem dX8_lastIn_31 : decode cX8_lastIn 31 = .ok (.iconst 1, 1) := by decide +kernel
theorem dX8_lastIn_32 : decode cX8_lastIn 32 = .ok (.isub, 1) := by decide +kernel
theorem dX8_lastIn_33 : decode cX8_lastIn 33 = .ok (.ireturn, 1) := by decide +kernel
theorem dX8_mayCome_0 : decode cX8_mayCome 0 = .ok (.iload_n 3, 1) := by decide +kernel
theorem dX8_mayCome_1 : decode cX8_mayCome 1 = .ok (.iload_n 1, 1) := by decide +kernel
theorem dX8_mayCome_2 : decode cX8_mayCome 2 = .ok (.invokestatic 183, 3) := by decide +kernel
theorem dX8_mayCome_5 : decode cX8_mayCome 5 = .ok (.ifCond .ne 32, 3) := by decide +kernel
theorem dX8_mayCome_8 : decode cX8_mayCome 8 = .ok (.aload_n 0, 1) := by decide +kernel
theorem dX8_mayCome_9 : decode cX8_mayCome 9 = .ok (.iload_n 1, 1) := by decide +kernel
theorem dX8_mayCome_10 : decode cX8_mayCome 10 = .ok (.invokevirtual 187, 3) := by decide +kernel
theorem dX8_mayCome_13 : decode cX8_mayCome 13 = .ok (.iconst (-1), 1) := by decide +kernel
theorem dX8_mayCome_14 : decode cX8_mayCome 14 = .ok (.if_icmp .eq 23, 3) := by decide +kernel
theorem dX8_mayCome_17 : decode cX8_mayCome 17 = .ok (.aload_n 0, 1) := by decide +kernel
theorem dX8_mayCome_18 : decode cX8_mayCome 18 = .ok (.getfield 70, 3) := by decide +kernel
theorem dX8_mayCome_21 : decode cX8_mayCome 21 = .ok (.bipush 21, 2) := by decide +kernel
theorem dX8_mayCome_23 : decode cX8_mayCome 23 = .ok (.aload_n 0, 1) := by decide +kernel
theorem dX8_mayCome_24 : decode cX8_mayCome 24 = .ok (.iload_n 1, 1) := by decide +kernel
theorem dX8_mayCome_25 : decode cX8_mayCome 25 = .ok (.invokevirtual 187, 3) := by decide +kernel
theorem dX8_mayCome_28 : decode cX8_mayCome 28 = .ok (.iadd, 1) := by decide +kernel
theorem dX8_mayCome_29 : decode cX8_mayCome 29 = .ok (.iaload, 1) := by decide +kernel
theorem dX8_mayCome_30 : decode cX8_mayCome 30 = .ok (.iload_n 2, 1) := by decide +kernel
theorem dX8_mayCome_31 : decode cX8_mayCome 31 = .ok (.invokestatic 183, 3) := by decide +kernel
theorem dX8_mayCome_34 : decode cX8_mayCome 34 = .ok (.ifCond .ne 7, 3) := by decide +kernel
theorem dX8_mayCome_37 : decode cX8_mayCome 37 = .ok (.iconst 1, 1) := by decide +kernel
theorem dX8_mayCome_38 : decode cX8_mayCome 38 = .ok (.goto 4, 3) := by decide +kernel
theorem dX8_mayCome_41 : decode cX8_mayCome 41 = .ok (.iconst 0, 1) := by decide +kernel
theorem dX8_mayCome_42 : decode cX8_mayCome 42 = .ok (.ireturn, 1) := by decide +kernel
theorem dX8_loadedOf_0 : decode cX8_loadedOf 0 = .ok (.iconst 0, 1) := by decide +kernel
theorem dX8_loadedOf_1 : decode cX8_loadedOf 1 = .ok (.istore_n 2, 1) := by decide +kernel
theorem dX8_loadedOf_2 : decode cX8_loadedOf 2 = .ok (.iconst 0, 1) := by decide +kernel
theorem dX8_loadedOf_3 : decode cX8_loadedOf 3 = .ok (.istore_n 3, 1) := by decide +kernel
theorem dX8_loadedOf_4 : decode cX8_loadedOf 4 = .ok (.iload_n 3, 1) := by decide +kernel
theorem dX8_loadedOf_5 : decode cX8_loadedOf 5 = .ok (.aload_n 0, 1) := by decide +kernel
theorem dX8_loadedOf_6 : decode cX8_loadedOf 6 = .ok (.getfield 70, 3) := by decide +kernel
theorem dX8_loadedOf_9 : decode cX8_loadedOf 9 = .ok (.bipush 9, 2) := by decide +kernel
theorem dX8_loadedOf_11 : decode cX8_loadedOf 11 = .ok (.iaload, 1) := by decide +kernel
theorem dX8_loadedOf_12 : decode cX8_loadedOf 12 = .ok (.if_icmp .ge 30, 3) := by decide +kernel
theorem dX8_loadedOf_15 : decode cX8_loadedOf 15 = .ok (.aload_n 0, 1) := by decide +kernel
theorem dX8_loadedOf_16 : decode cX8_loadedOf 16 = .ok (.iload_n 3, 1) := by decide +kernel
theorem dX8_loadedOf_17 : decode cX8_loadedOf 17 = .ok (.iconst 4, 1) := by decide +kernel
theorem dX8_loadedOf_18 : decode cX8_loadedOf 18 = .ok (.invokevirtual 176, 3) := by decide +kernel
theorem dX8_loadedOf_21 : decode cX8_loadedOf 21 = .ok (.iload_n 1, 1) := by decide +kernel
theorem dX8_loadedOf_22 : decode cX8_loadedOf 22 = .ok (.iconst 1, 1) := by decide +kernel
theorem dX8_loadedOf_23 : decode cX8_loadedOf 23 = .ok (.iadd, 1) := by decide +kernel
theorem dX8_loadedOf_24 : decode cX8_loadedOf 24 = .ok (.if_icmp .ne 12, 3) := by decide +kernel
theorem dX8_loadedOf_27 : decode cX8_loadedOf 27 = .ok (.iload_n 2, 1) := by decide +kernel
theorem dX8_loadedOf_28 : decode cX8_loadedOf 28 = .ok (.aload_n 0, 1) := by decide +kernel
theorem dX8_loadedOf_29 : decode cX8_loadedOf 29 = .ok (.iload_n 3, 1) := by decide +kernel
theorem dX8_loadedOf_30 : decode cX8_loadedOf 30 = .ok (.iconst 3, 1) := by decide +kernel
theorem dX8_loadedOf_31 : decode cX8_loadedOf 31 = .ok (.invokevirtual 176, 3) := by decide +kernel
theorem dX8_loadedOf_34 : decode cX8_loadedOf 34 = .ok (.iadd, 1) := by decide +kernel
theorem dX8_loadedOf_35 : decode cX8_loadedOf 35 = .ok (.istore_n 2, 1) := by decide +kernel
theorem dX8_loadedOf_36 : decode cX8_loadedOf 36 = .ok (.iinc 3 1, 3) := by decide +kernel
theorem dX8_loadedOf_39 : decode cX8_loadedOf 39 = .ok (.goto (-35), 3) := by decide +kernel
theorem dX8_loadedOf_42 : decode cX8_loadedOf 42 = .ok (.iload_n 2, 1) := by decide +kernel
theorem dX8_loadedOf_43 : decode cX8_loadedOf 43 = .ok (.ireturn, 1) := by decide +kernel
theorem dX8_having_0 : decode cX8_having 0 = .ok (.iconst 0, 1) := by decide +kernel
theorem dX8_having_1 : decode cX8_having 1 = .ok (.istore_n 2, 1) := by decide +kernel
theorem dX8_having_2 : decode cX8_having 2 = .ok (.iconst 0, 1) := by decide +kernel
theorem dX8_having_3 : decode cX8_having 3 = .ok (.istore_n 3, 1) := by decide +kernel
theorem dX8_having_4 : decode cX8_having 4 = .ok (.iload_n 3, 1) := by decide +kernel
theorem dX8_having_5 : decode cX8_having 5 = .ok (.aload_n 0, 1) := by decide +kernel
theorem dX8_having_6 : decode cX8_having 6 = .ok (.getfield 70, 3) := by decide +kernel
theorem dX8_having_9 : decode cX8_having 9 = .ok (.bipush 13, 2) := by decide +kernel
theorem dX8_having_11 : decode cX8_having 11 = .ok (.iaload, 1) := by decide +kernel
theorem dX8_having_12 : decode cX8_having 12 = .ok (.if_icmp .ge 22, 3) := by decide +kernel
theorem dX8_having_15 : decode cX8_having 15 = .ok (.aload_n 0, 1) := by decide +kernel
theorem dX8_having_16 : decode cX8_having 16 = .ok (.iload_n 3, 1) := by decide +kernel
theorem dX8_having_17 : decode cX8_having 17 = .ok (.iconst 2, 1) := by decide +kernel
theorem dX8_having_18 : decode cX8_having 18 = .ok (.invokevirtual 180, 3) := by decide +kernel
theorem dX8_having_21 : decode cX8_having 21 = .ok (.iload_n 1, 1) := by decide +kernel
theorem dX8_having_22 : decode cX8_having 22 = .ok (.if_icmp .ne 6, 3) := by decide +kernel
theorem dX8_having_25 : decode cX8_having 25 = .ok (.iinc 2 1, 3) := by decide +kernel
theorem dX8_having_28 : decode cX8_having 28 = .ok (.iinc 3 1, 3) := by decide +kernel
theorem dX8_having_31 : decode cX8_having 31 = .ok (.goto (-27), 3) := by decide +kernel
theorem dX8_having_34 : decode cX8_having 34 = .ok (.iload_n 2, 1) := by decide +kernel
theorem dX8_having_35 : decode cX8_having 35 = .ok (.ireturn, 1) := by decide +kernel
theorem dX8_laysNow_0 : decode cX8_laysNow 0 = .ok (.iconst 0, 1) := by decide +kernel
theorem dX8_laysNow_1 : decode cX8_laysNow 1 = .ok (.istore_n 1, 1) := by decide +kernel
theorem dX8_laysNow_2 : decode cX8_laysNow 2 = .ok (.iload_n 1, 1) := by decide +kernel
theorem dX8_laysNow_3 : decode cX8_laysNow 3 = .ok (.aload_n 0, 1) := by decide +kernel
theorem dX8_laysNow_4 : decode cX8_laysNow 4 = .ok (.getfield 70, 3) := by decide +kernel
theorem dX8_laysNow_7 : decode cX8_laysNow 7 = .ok (.bipush 9, 2) := by decide +kernel
theorem dX8_laysNow_9 : decode cX8_laysNow 9 = .ok (.iaload, 1) := by decide +kernel
theorem dX8_laysNow_10 : decode cX8_laysNow 10 = .ok (.if_icmp .ge 66, 3) := by decide +kernel
theorem dX8_laysNow_13 : decode cX8_laysNow 13 = .ok (.aload_n 0, 1) := by decide +kernel
theorem dX8_laysNow_14 : decode cX8_laysNow 14 = .ok (.getfield 79, 3) := by decide +kernel
theorem dX8_laysNow_17 : decode cX8_laysNow 17 = .ok (.iload_n 1, 1) := by decide +kernel
theorem dX8_laysNow_18 : decode cX8_laysNow 18 = .ok (.aload_n 0, 1) := by decide +kernel
theorem dX8_laysNow_19 : decode cX8_laysNow 19 = .ok (.iload_n 1, 1) := by decide +kernel
theorem dX8_laysNow_20 : decode cX8_laysNow 20 = .ok (.iconst 3, 1) := by decide +kernel
theorem dX8_laysNow_21 : decode cX8_laysNow 21 = .ok (.invokevirtual 176, 3) := by decide +kernel
theorem dX8_laysNow_24 : decode cX8_laysNow 24 = .ok (.iastore, 1) := by decide +kernel
theorem dX8_laysNow_25 : decode cX8_laysNow 25 = .ok (.aload_n 0, 1) := by decide +kernel
theorem dX8_laysNow_26 : decode cX8_laysNow 26 = .ok (.getfield 85, 3) := by decide +kernel
theorem dX8_laysNow_29 : decode cX8_laysNow 29 = .ok (.iload_n 1, 1) := by decide +kernel
theorem dX8_laysNow_30 : decode cX8_laysNow 30 = .ok (.aload_n 0, 1) := by decide +kernel
theorem dX8_laysNow_31 : decode cX8_laysNow 31 = .ok (.iload_n 1, 1) := by decide +kernel
theorem dX8_laysNow_32 : decode cX8_laysNow 32 = .ok (.iconst 4, 1) := by decide +kernel
theorem dX8_laysNow_33 : decode cX8_laysNow 33 = .ok (.invokevirtual 176, 3) := by decide +kernel
theorem dX8_laysNow_36 : decode cX8_laysNow 36 = .ok (.iconst 1, 1) := by decide +kernel
theorem dX8_laysNow_37 : decode cX8_laysNow 37 = .ok (.isub, 1) := by decide +kernel
theorem dX8_laysNow_38 : decode cX8_laysNow 38 = .ok (.iastore, 1) := by decide +kernel
theorem dX8_laysNow_39 : decode cX8_laysNow 39 = .ok (.aload_n 0, 1) := by decide +kernel
theorem dX8_laysNow_40 : decode cX8_laysNow 40 = .ok (.getfield 82, 3) := by decide +kernel
theorem dX8_laysNow_43 : decode cX8_laysNow 43 = .ok (.iload_n 1, 1) := by decide +kernel
theorem dX8_laysNow_44 : decode cX8_laysNow 44 = .ok (.aload_n 0, 1) := by decide +kernel
theorem dX8_laysNow_45 : decode cX8_laysNow 45 = .ok (.getfield 85, 3) := by decide +kernel
theorem dX8_laysNow_48 : decode cX8_laysNow 48 = .ok (.iload_n 1, 1) := by decide +kernel
theorem dX8_laysNow_49 : decode cX8_laysNow 49 = .ok (.iaload, 1) := by decide +kernel
theorem dX8_laysNow_50 : decode cX8_laysNow 50 = .ok (.iconst (-1), 1) := by decide +kernel
theorem dX8_laysNow_51 : decode cX8_laysNow 51 = .ok (.if_icmp .ne 7, 3) := by decide +kernel
theorem dX8_laysNow_54 : decode cX8_laysNow 54 = .ok (.iconst 0, 1) := by decide +kernel
theorem dX8_laysNow_55 : decode cX8_laysNow 55 = .ok (.goto 14, 3) := by decide +kernel
theorem dX8_laysNow_58 : decode cX8_laysNow 58 = .ok (.aload_n 0, 1) := by decide +kernel
theorem dX8_laysNow_59 : decode cX8_laysNow 59 = .ok (.aload_n 0, 1) := by decide +kernel
theorem dX8_laysNow_60 : decode cX8_laysNow 60 = .ok (.getfield 85, 3) := by decide +kernel
theorem dX8_laysNow_63 : decode cX8_laysNow 63 = .ok (.iload_n 1, 1) := by decide +kernel
theorem dX8_laysNow_64 : decode cX8_laysNow 64 = .ok (.iaload, 1) := by decide +kernel
theorem dX8_laysNow_65 : decode cX8_laysNow 65 = .ok (.iconst 0, 1) := by decide +kernel
theorem dX8_laysNow_66 : decode cX8_laysNow 66 = .ok (.invokevirtual 180, 3) := by decide +kernel
theorem dX8_laysNow_69 : decode cX8_laysNow 69 = .ok (.iastore, 1) := by decide +kernel
theorem dX8_laysNow_70 : decode cX8_laysNow 70 = .ok (.iinc 1 1, 3) := by decide +kernel
theorem dX8_laysNow_73 : decode cX8_laysNow 73 = .ok (.goto (-71), 3) := by decide +kernel
theorem dX8_laysNow_76 : decode cX8_laysNow 76 = .ok (.return_, 1) := by decide +kernel
theorem dX8_muchBut_0 : decode cX8_muchBut 0 = .ok (.aload_n 0, 1) := by decide +kernel
theorem dX8_muchBut_1 : decode cX8_muchBut 1 = .ok (.getfield 85, 3) := by decide +kernel
theorem dX8_muchBut_4 : decode cX8_muchBut 4 = .ok (.iload_n 1, 1) := by decide +kernel
theorem dX8_muchBut_5 : decode cX8_muchBut 5 = .ok (.iaload, 1) := by decide +kernel
theorem dX8_muchBut_6 : decode cX8_muchBut 6 = .ok (.iconst (-1), 1) := by decide +kernel
theorem dX8_muchBut_7 : decode cX8_muchBut 7 = .ok (.if_icmp .eq 20, 3) := by decide +kernel
theorem dX8_muchBut_10 : decode cX8_muchBut 10 = .ok (.iload_n 2, 1) := by decide +kernel
theorem dX8_muchBut_11 : decode cX8_muchBut 11 = .ok (.aload_n 0, 1) := by decide +kernel
theorem dX8_muchBut_12 : decode cX8_muchBut 12 = .ok (.getfield 85, 3) := by decide +kernel
theorem dX8_muchBut_15 : decode cX8_muchBut 15 = .ok (.iload_n 1, 1) := by decide +kernel
theorem dX8_muchBut_16 : decode cX8_muchBut 16 = .ok (.iaload, 1) := by decide +kernel
theorem dX8_muchBut_17 : decode cX8_muchBut 17 = .ok (.invokestatic 183, 3) := by decide +kernel
theorem dX8_muchBut_20 : decode cX8_muchBut 20 = .ok (.ifCond .eq 7, 3) := by decide +kernel
theorem dX8_muchBut_23 : decode cX8_muchBut 23 = .ok (.iconst 0, 1) := by decide +kernel
theorem dX8_muchBut_24 : decode cX8_muchBut 24 = .ok (.goto 9, 3) := by decide +kernel
theorem dX8_muchBut_27 : decode cX8_muchBut 27 = .ok (.aload_n 0, 1) := by decide +kernel
theorem dX8_muchBut_28 : decode cX8_muchBut 28 = .ok (.getfield 79, 3) := by decide +kernel
theorem dX8_muchBut_31 : decode cX8_muchBut 31 = .ok (.iload_n 1, 1) := by decide +kernel
theorem dX8_muchBut_32 : decode cX8_muchBut 32 = .ok (.iaload, 1) := by decide +kernel
theorem dX8_muchBut_33 : decode cX8_muchBut 33 = .ok (.ireturn, 1) := by decide +kernel
theorem dX8_front_0 : decode cX8_front 0 = .ok (.aload_n 0, 1) := by decide +kernel
theorem dX8_front_1 : decode cX8_front 1 = .ok (.getfield 70, 3) := by decide +kernel
theorem dX8_front_4 : decode cX8_front 4 = .ok (.iconst 1, 1) := by decide +kernel
theorem dX8_front_5 : decode cX8_front 5 = .ok (.iaload, 1) := by decide +kernel
theorem dX8_front_6 : decode cX8_front 6 = .ok (.aload_n 0, 1) := by decide +kernel
theorem dX8_front_7 : decode cX8_front 7 = .ok (.getfield 70, 3) := by decide +kernel
theorem dX8_front_10 : decode cX8_front 10 = .ok (.iconst 0, 1) := by decide +kernel
theorem dX8_front_11 : decode cX8_front 11 = .ok (.iaload, 1) := by decide +kernel
theorem dX8_front_12 : decode cX8_front 12 = .ok (.imul, 1) := by decide +kernel
theorem dX8_front_13 : decode cX8_front 13 = .ok (.istore_n 2, 1) := by decide +kernel
theorem dX8_front_14 : decode cX8_front 14 = .ok (.iconst 0, 1) := by decide +kernel
theorem dX8_front_15 : decode cX8_front 15 = .ok (.istore_n 3, 1) := by decide +kernel
theorem dX8_front_16 : decode cX8_front 16 = .ok (.iload_n 3, 1) := by decide +kernel
theorem dX8_front_17 : decode cX8_front 17 = .ok (.aload_n 0, 1) := by decide +kernel
theorem dX8_front_18 : decode cX8_front 18 = .ok (.getfield 70, 3) := by decide +kernel
theorem dX8_front_21 : decode cX8_front 21 = .ok (.bipush 9, 2) := by decide +kernel
theorem dX8_front_23 : decode cX8_front 23 = .ok (.iaload, 1) := by decide +kernel
theorem dX8_front_24 : decode cX8_front 24 = .ok (.if_icmp .ge 47, 3) := by decide +kernel
theorem dX8_front_27 : decode cX8_front 27 = .ok (.iload_n 2, 1) := by decide +kernel
theorem dX8_front_28 : decode cX8_front 28 = .ok (.aload_n 0, 1) := by decide +kernel
theorem dX8_front_29 : decode cX8_front 29 = .ok (.iload_n 3, 1) := by decide +kernel
theorem dX8_front_30 : decode cX8_front 30 = .ok (.iload_n 1, 1) := by decide +kernel
theorem dX8_front_31 : decode cX8_front 31 = .ok (.invokevirtual 190, 3) := by decide +kernel
theorem dX8_front_34 : decode cX8_front 34 = .ok (.aload_n 0, 1) := by decide +kernel
theorem dX8_front_35 : decode cX8_front 35 = .ok (.getfield 70, 3) := by decide +kernel
theorem dX8_front_38 : decode cX8_front 38 = .ok (.bipush 15, 2) := by decide +kernel
theorem dX8_front_40 : decode cX8_front 40 = .ok (.aload_n 0, 1) := by decide +kernel
theorem dX8_front_41 : decode cX8_front 41 = .ok (.getfield 82, 3) := by decide +kernel
theorem dX8_front_44 : decode cX8_front 44 = .ok (.iload_n 3, 1) := by decide +kernel
theorem dX8_front_45 : decode cX8_front 45 = .ok (.iaload, 1) := by decide +kernel
theorem dX8_front_46 : decode cX8_front 46 = .ok (.iadd, 1) := by decide +kernel
theorem dX8_front_47 : decode cX8_front 47 = .ok (.iaload, 1) := by decide +kernel
theorem dX8_front_48 : decode cX8_front 48 = .ok (.imul, 1) := by decide +kernel
theorem dX8_front_49 : decode cX8_front 49 = .ok (.aload_n 0, 1) := by decide +kernel
theorem dX8_front_50 : decode cX8_front 50 = .ok (.getfield 70, 3) := by decide +kernel
theorem dX8_front_53 : decode cX8_front 53 = .ok (.iconst 0, 1) := by decide +kernel
theorem dX8_front_54 : decode cX8_front 54 = .ok (.iaload, 1) := by decide +kernel
theorem dX8_front_55 : decode cX8_front 55 = .ok (.aload_n 0, 1) := by decide +kernel
theorem dX8_front_56 : decode cX8_front 56 = .ok (.iload_n 3, 1) := by decide +kernel
theorem dX8_front_57 : decode cX8_front 57 = .ok (.iconst 1, 1) := by decide +kernel
theorem dX8_front_58 : decode cX8_front 58 = .ok (.invokevirtual 176, 3) := by decide +kernel
theorem dX8_front_61 : decode cX8_front 61 = .ok (.isub, 1) := by decide +kernel
theorem dX8_front_62 : decode cX8_front 62 = .ok (.imul, 1) := by decide +kernel
theorem dX8_front_63 : decode cX8_front 63 = .ok (.iadd, 1) := by decide +kernel
theorem dX8_front_64 : decode cX8_front 64 = .ok (.istore_n 2, 1) := by decide +kernel
theorem dX8_front_65 : decode cX8_front 65 = .ok (.iinc 3 1, 3) := by decide +kernel
theorem dX8_front_68 : decode cX8_front 68 = .ok (.goto (-52), 3) := by decide +kernel
theorem dX8_front_71 : decode cX8_front 71 = .ok (.iload_n 2, 1) := by decide +kernel
theorem dX8_front_72 : decode cX8_front 72 = .ok (.ireturn, 1) := by decide +kernel
theorem dX8_rear_0 : decode cX8_rear 0 = .ok (.aload_n 0, 1) := by decide +kernel
theorem dX8_rear_1 : decode cX8_rear 1 = .ok (.getfield 70, 3) := by decide +kernel
theorem dX8_rear_4 : decode cX8_rear 4 = .ok (.iconst 2, 1) := by decide +kernel
theorem dX8_rear_5 : decode cX8_rear 5 = .ok (.iaload, 1) := by decide +kernel
theorem dX8_rear_6 : decode cX8_rear 6 = .ok (.aload_n 0, 1) := by decide +kernel
theorem dX8_rear_7 : decode cX8_rear 7 = .ok (.getfield 70, 3) := by decide +kernel
theorem dX8_rear_10 : decode cX8_rear 10 = .ok (.iconst 0, 1) := by decide +kernel
theorem dX8_rear_11 : decode cX8_rear 11 = .ok (.iaload, 1) := by decide +kernel
theorem dX8_rear_12 : decode cX8_rear 12 = .ok (.imul, 1) := by decide +kernel
theorem dX8_rear_13 : decode cX8_rear 13 = .ok (.istore_n 2, 1) := by decide +kernel
theorem dX8_rear_14 : decode cX8_rear 14 = .ok (.iconst 0, 1) := by decide +kernel
theorem dX8_rear_15 : decode cX8_rear 15 = .ok (.istore_n 3, 1) := by decide +kernel
theorem dX8_rear_16 : decode cX8_rear 16 = .ok (.iload_n 3, 1) := by decide +kernel
theorem dX8_rear_17 : decode cX8_rear 17 = .ok (.aload_n 0, 1) := by decide +kernel
theorem dX8_rear_18 : decode cX8_rear 18 = .ok (.getfield 70, 3) := by decide +kernel
theorem dX8_rear_21 : decode cX8_rear 21 = .ok (.bipush 9, 2) := by decide +kernel
theorem dX8_rear_23 : decode cX8_rear 23 = .ok (.iaload, 1) := by decide +kernel
theorem dX8_rear_24 : decode cX8_rear 24 = .ok (.if_icmp .ge 40, 3) := by decide +kernel
theorem dX8_rear_27 : decode cX8_rear 27 = .ok (.iload_n 2, 1) := by decide +kernel
theorem dX8_rear_28 : decode cX8_rear 28 = .ok (.aload_n 0, 1) := by decide +kernel
theorem dX8_rear_29 : decode cX8_rear 29 = .ok (.iload_n 3, 1) := by decide +kernel
theorem dX8_rear_30 : decode cX8_rear 30 = .ok (.iload_n 1, 1) := by decide +kernel
theorem dX8_rear_31 : decode cX8_rear 31 = .ok (.invokevirtual 190, 3) := by decide +kernel
theorem dX8_rear_34 : decode cX8_rear 34 = .ok (.aload_n 0, 1) := by decide +kernel
theorem dX8_rear_35 : decode cX8_rear 35 = .ok (.getfield 70, 3) := by decide +kernel
theorem dX8_rear_38 : decode cX8_rear 38 = .ok (.bipush 15, 2) := by decide +kernel
theorem dX8_rear_40 : decode cX8_rear 40 = .ok (.aload_n 0, 1) := by decide +kernel
theorem dX8_rear_41 : decode cX8_rear 41 = .ok (.getfield 82, 3) := by decide +kernel
theorem dX8_rear_44 : decode cX8_rear 44 = .ok (.iload_n 3, 1) := by decide +kernel
theorem dX8_rear_45 : decode cX8_rear 45 = .ok (.iaload, 1) := by decide +kernel
theorem dX8_rear_46 : decode cX8_rear 46 = .ok (.iadd, 1) := by decide +kernel
theorem dX8_rear_47 : decode cX8_rear 47 = .ok (.iaload, 1) := by decide +kernel
theorem dX8_rear_48 : decode cX8_rear 48 = .ok (.imul, 1) := by decide +kernel
theorem dX8_rear_49 : decode cX8_rear 49 = .ok (.aload_n 0, 1) := by decide +kernel
theorem dX8_rear_50 : decode cX8_rear 50 = .ok (.iload_n 3, 1) := by decide +kernel
theorem dX8_rear_51 : decode cX8_rear 51 = .ok (.iconst 1, 1) := by decide +kernel
theorem dX8_rear_52 : decode cX8_rear 52 = .ok (.invokevirtual 176, 3) := by decide +kernel
theorem dX8_rear_55 : decode cX8_rear 55 = .ok (.imul, 1) := by decide +kernel
theorem dX8_rear_56 : decode cX8_rear 56 = .ok (.iadd, 1) := by decide +kernel
theorem dX8_rear_57 : decode cX8_rear 57 = .ok (.istore_n 2, 1) := by decide +kernel
theorem dX8_rear_58 : decode cX8_rear 58 = .ok (.iinc 3 1, 3) := by decide +kernel
theorem dX8_rear_61 : decode cX8_rear 61 = .ok (.goto (-45), 3) := by decide +kernel
theorem dX8_rear_64 : decode cX8_rear 64 = .ok (.iload_n 2, 1) := by decide +kernel
theorem dX8_rear_65 : decode cX8_rear 65 = .ok (.ireturn, 1) := by decide +kernel
theorem dX8_stands_0 : decode cX8_stands 0 = .ok (.iconst 0, 1) := by decide +kernel
theorem dX8_stands_1 : decode cX8_stands 1 = .ok (.istore_n 2, 1) := by decide +kernel
theorem dX8_stands_2 : decode cX8_stands 2 = .ok (.iload_n 2, 1) := by decide +kernel
theorem dX8_stands_3 : decode cX8_stands 3 = .ok (.aload_n 0, 1) := by decide +kernel
theorem dX8_stands_4 : decode cX8_stands 4 = .ok (.getfield 70, 3) := by decide +kernel
theorem dX8_stands_7 : decode cX8_stands 7 = .ok (.bipush 9, 2) := by decide +kernel
theorem dX8_stands_9 : decode cX8_stands 9 = .ok (.iaload, 1) := by decide +kernel
theorem dX8_stands_10 : decode cX8_stands 10 = .ok (.if_icmp .ge 71, 3) := by decide +kernel
theorem dX8_stands_13 : decode cX8_stands 13 = .ok (.bipush 100, 2) := by decide +kernel
theorem dX8_stands_15 : decode cX8_stands 15 = .ok (.aload_n 0, 1) := by decide +kernel
theorem dX8_stands_16 : decode cX8_stands 16 = .ok (.iload_n 2, 1) := by decide +kernel
theorem dX8_stands_17 : decode cX8_stands 17 = .ok (.iload_n 1, 1) := by decide +kernel
theorem dX8_stands_18 : decode cX8_stands 18 = .ok (.invokevirtual 190, 3) := by decide +kernel
theorem dX8_stands_21 : decode cX8_stands 21 = .ok (.imul, 1) := by decide +kernel
theorem dX8_stands_22 : decode cX8_stands 22 = .ok (.istore_n 3, 1) := by decide +kernel
theorem dX8_stands_23 : decode cX8_stands 23 = .ok (.aload_n 0, 1) := by decide +kernel
theorem dX8_stands_24 : decode cX8_stands 24 = .ok (.iload_n 2, 1) := by decide +kernel
theorem dX8_stands_25 : decode cX8_stands 25 = .ok (.iconst 2, 1) := by decide +kernel
theorem dX8_stands_26 : decode cX8_stands 26 = .ok (.invokevirtual 176, 3) := by decide +kernel
theorem dX8_stands_29 : decode cX8_stands 29 = .ok (.iconst 1, 1) := by decide +kernel
theorem dX8_stands_30 : decode cX8_stands 30 = .ok (.if_icmp .ne 45, 3) := by decide +kernel
theorem dX8_stands_33 : decode cX8_stands 33 = .ok (.iload_n 3, 1) := by decide +kernel
theorem dX8_stands_34 : decode cX8_stands 34 = .ok (.ifCond .le 41, 3) := by decide +kernel
theorem dX8_stands_37 : decode cX8_stands 37 = .ok (.iload_n 3, 1) := by decide +kernel
theorem dX8_stands_38 : decode cX8_stands 38 = .ok (.aload_n 0, 1) := by decide +kernel
theorem dX8_stands_39 : decode cX8_stands 39 = .ok (.getfield 70, 3) := by decide +kernel
theorem dX8_stands_42 : decode cX8_stands 42 = .ok (.bipush 7, 2) := by decide +kernel
theorem dX8_stands_44 : decode cX8_stands 44 = .ok (.iaload, 1) := by decide +kernel
theorem dX8_stands_45 : decode cX8_stands 45 = .ok (.aload_n 0, 1) := by decide +kernel
theorem dX8_stands_46 : decode cX8_stands 46 = .ok (.iload_n 2, 1) := by decide +kernel
theorem dX8_stands_47 : decode cX8_stands 47 = .ok (.iconst 0, 1) := by decide +kernel
theorem dX8_stands_48 : decode cX8_stands 48 = .ok (.invokevirtual 176, 3) := by decide +kernel
theorem dX8_stands_51 : decode cX8_stands 51 = .ok (.imul, 1) := by decide +kernel
theorem dX8_stands_52 : decode cX8_stands 52 = .ok (.if_icmp .le 23, 3) := by decide +kernel
theorem dX8_stands_55 : decode cX8_stands 55 = .ok (.iload_n 3, 1) := by decide +kernel
theorem dX8_stands_56 : decode cX8_stands 56 = .ok (.aload_n 0, 1) := by decide +kernel
theorem dX8_stands_57 : decode cX8_stands 57 = .ok (.getfield 70, 3) := by decide +kernel
theorem dX8_stands_60 : decode cX8_stands 60 = .ok (.bipush 8, 2) := by decide +kernel
theorem dX8_stands_62 : decode cX8_stands 62 = .ok (.iaload, 1) := by decide +kernel
theorem dX8_stands_63 : decode cX8_stands 63 = .ok (.aload_n 0, 1) := by decide +kernel
theorem dX8_stands_64 : decode cX8_stands 64 = .ok (.iload_n 2, 1) := by decide +kernel
theorem dX8_stands_65 : decode cX8_stands 65 = .ok (.iconst 0, 1) := by decide +kernel
theorem dX8_stands_66 : decode cX8_stands 66 = .ok (.invokevirtual 176, 3) := by decide +kernel
theorem dX8_stands_69 : decode cX8_stands 69 = .ok (.imul, 1) := by decide +kernel
theorem dX8_stands_70 : decode cX8_stands 70 = .ok (.if_icmp .ge 5, 3) := by decide +kernel
theorem dX8_stands_73 : decode cX8_stands 73 = .ok (.iconst 1, 1) := by decide +kernel
theorem dX8_stands_74 : decode cX8_stands 74 = .ok (.ireturn, 1) := by decide +kernel
theorem dX8_stands_75 : decode cX8_stands 75 = .ok (.iinc 2 1, 3) := by decide +kernel
theorem dX8_stands_78 : decode cX8_stands 78 = .ok (.goto (-76), 3) := by decide +kernel
theorem dX8_stands_81 : decode cX8_stands 81 = .ok (.aload_n 0, 1) := by decide +kernel
theorem dX8_stands_82 : decode cX8_stands 82 = .ok (.iload_n 1, 1) := by decide +kernel
theorem dX8_stands_83 : decode cX8_stands 83 = .ok (.invokevirtual 193, 3) := by decide +kernel
theorem dX8_stands_86 : decode cX8_stands 86 = .ok (.aload_n 0, 1) := by decide +kernel
theorem dX8_stands_87 : decode cX8_stands 87 = .ok (.getfield 70, 3) := by decide +kernel
theorem dX8_stands_90 : decode cX8_stands 90 = .ok (.iconst 4, 1) := by decide +kernel
theorem dX8_stands_91 : decode cX8_stands 91 = .ok (.iaload, 1) := by decide +kernel
theorem dX8_stands_92 : decode cX8_stands 92 = .ok (.aload_n 0, 1) := by decide +kernel
theorem dX8_stands_93 : decode cX8_stands 93 = .ok (.getfield 70, 3) := by decide +kernel
theorem dX8_stands_96 : decode cX8_stands 96 = .ok (.iconst 0, 1) := by decide +kernel
theorem dX8_stands_97 : decode cX8_stands 97 = .ok (.iaload, 1) := by decide +kernel
theorem dX8_stands_98 : decode cX8_stands 98 = .ok (.imul, 1) := by decide +kernel
theorem dX8_stands_99 : decode cX8_stands 99 = .ok (.if_icmp .le 5, 3) := by decide +kernel
theorem dX8_stands_102 : decode cX8_stands 102 = .ok (.iconst 2, 1) := by decide +kernel
theorem dX8_stands_103 : decode cX8_stands 103 = .ok (.ireturn, 1) := by decide +kernel
theorem dX8_stands_104 : decode cX8_stands 104 = .ok (.aload_n 0, 1) := by decide +kernel
theorem dX8_stands_105 : decode cX8_stands 105 = .ok (.iload_n 1, 1) := by decide +kernel
theorem dX8_stands_106 : decode cX8_stands 106 = .ok (.invokevirtual 193, 3) := by decide +kernel
theorem dX8_stands_109 : decode cX8_stands 109 = .ok (.aload_n 0, 1) := by decide +kernel
theorem dX8_stands_110 : decode cX8_stands 110 = .ok (.getfield 70, 3) := by decide +kernel
theorem dX8_stands_113 : decode cX8_stands 113 = .ok (.iconst 3, 1) := by decide +kernel
theorem dX8_stands_114 : decode cX8_stands 114 = .ok (.iaload, 1) := by decide +kernel
theorem dX8_stands_115 : decode cX8_stands 115 = .ok (.aload_n 0, 1) := by decide +kernel
theorem dX8_stands_116 : decode cX8_stands 116 = .ok (.getfield 70, 3) := by decide +kernel
theorem dX8_stands_119 : decode cX8_stands 119 = .ok (.iconst 0, 1) := by decide +kernel
theorem dX8_stands_120 : decode cX8_stands 120 = .ok (.iaload, 1) := by decide +kernel
theorem dX8_stands_121 : decode cX8_stands 121 = .ok (.imul, 1) := by decide +kernel
theorem dX8_stands_122 : decode cX8_stands 122 = .ok (.if_icmp .ge 5, 3) := by decide +kernel
theorem dX8_stands_125 : decode cX8_stands 125 = .ok (.iconst 3, 1) := by decide +kernel
theorem dX8_stands_126 : decode cX8_stands 126 = .ok (.ireturn, 1) := by decide +kernel
theorem dX8_stands_127 : decode cX8_stands 127 = .ok (.aload_n 0, 1) := by decide +kernel
theorem dX8_stands_128 : decode cX8_stands 128 = .ok (.iload_n 1, 1) := by decide +kernel
theorem dX8_stands_129 : decode cX8_stands 129 = .ok (.invokevirtual 196, 3) := by decide +kernel
theorem dX8_stands_132 : decode cX8_stands 132 = .ok (.aload_n 0, 1) := by decide +kernel
theorem dX8_stands_133 : decode cX8_stands 133 = .ok (.getfield 70, 3) := by decide +kernel
theorem dX8_stands_136 : decode cX8_stands 136 = .ok (.iconst 5, 1) := by decide +kernel
theorem dX8_stands_137 : decode cX8_stands 137 = .ok (.iaload, 1) := by decide +kernel
theorem dX8_stands_138 : decode cX8_stands 138 = .ok (.aload_n 0, 1) := by decide +kernel
theorem dX8_stands_139 : decode cX8_stands 139 = .ok (.getfield 70, 3) := by decide +kernel
theorem dX8_stands_142 : decode cX8_stands 142 = .ok (.iconst 0, 1) := by decide +kernel
theorem dX8_stands_143 : decode cX8_stands 143 = .ok (.iaload, 1) := by decide +kernel
theorem dX8_stands_144 : decode cX8_stands 144 = .ok (.imul, 1) := by decide +kernel
theorem dX8_stands_145 : decode cX8_stands 145 = .ok (.if_icmp .le 7, 3) := by decide +kernel
theorem dX8_stands_148 : decode cX8_stands 148 = .ok (.iconst 4, 1) := by decide +kernel
theorem dX8_stands_149 : decode cX8_stands 149 = .ok (.goto 4, 3) := by decide +kernel
theorem dX8_stands_152 : decode cX8_stands 152 = .ok (.iconst 0, 1) := by decide +kernel
theorem dX8_stands_153 : decode cX8_stands 153 = .ok (.ireturn, 1) := by decide +kernel
theorem dX8_ordersFrom_0 : decode cX8_ordersFrom 0 = .ok (.iload_n 2, 1) := by decide +kernel
theorem dX8_ordersFrom_1 : decode cX8_ordersFrom 1 = .ok (.iload_n 1, 1) := by decide +kernel
theorem dX8_ordersFrom_2 : decode cX8_ordersFrom 2 = .ok (.if_icmp .ne 47, 3) := by decide +kernel
theorem dX8_ordersFrom_5 : decode cX8_ordersFrom 5 = .ok (.aload_n 0, 1) := by decide +kernel
theorem dX8_ordersFrom_6 : decode cX8_ordersFrom 6 = .ok (.getfield 199, 3) := by decide +kernel
theorem dX8_ordersFrom_9 : decode cX8_ordersFrom 9 = .ok (.iconst (-1), 1) := by decide +kernel
theorem dX8_ordersFrom_10 : decode cX8_ordersFrom 10 = .ok (.if_icmp .ne 37, 3) := by decide +kernel
theorem dX8_ordersFrom_13 : decode cX8_ordersFrom 13 = .ok (.aload_n 0, 1) := by decide +kernel
theorem dX8_ordersFrom_14 : decode cX8_ordersFrom 14 = .ok (.iload_n 3, 1) := by decide +kernel
theorem dX8_ordersFrom_15 : decode cX8_ordersFrom 15 = .ok (.putfield 199, 3) := by decide +kernel
theorem dX8_ordersFrom_18 : decode cX8_ordersFrom 18 = .ok (.iconst 0, 1) := by decide +kernel
theorem dX8_ordersFrom_19 : decode cX8_ordersFrom 19 = .ok (.istore 4, 2) := by decide +kernel
theorem dX8_ordersFrom_21 : decode cX8_ordersFrom 21 = .ok (.iload 4, 2) := by decide +kernel
theorem dX8_ordersFrom_23 : decode cX8_ordersFrom 23 = .ok (.iload_n 3, 1) := by decide +kernel
theorem dX8_ordersFrom_24 : decode cX8_ordersFrom 24 = .ok (.if_icmp .ge 23, 3) := by decide +kernel
theorem dX8_ordersFrom_27 : decode cX8_ordersFrom 27 = .ok (.aload_n 0, 1) := by decide +kernel
theorem dX8_ordersFrom_28 : decode cX8_ordersFrom 28 = .ok (.getfield 88, 3) := by decide +kernel
theorem dX8_ordersFrom_31 : decode cX8_ordersFrom 31 = .ok (.iload 4, 2) := by decide +kernel
theorem dX8_ordersFrom_33 : decode cX8_ordersFrom 33 = .ok (.aload_n 0, 1) := by decide +kernel
theorem dX8_ordersFrom_34 : decode cX8_ordersFrom 34 = .ok (.getfield 91, 3) := by decide +kernel
theorem dX8_ordersFrom_37 : decode cX8_ordersFrom 37 = .ok (.iload 4, 2) := by decide +kernel
theorem dX8_ordersFrom_39 : decode cX8_ordersFrom 39 = .ok (.iaload, 1) := by decide +kernel
theorem dX8_ordersFrom_40 : decode cX8_ordersFrom 40 = .ok (.iastore, 1) := by decide +kernel
theorem dX8_ordersFrom_41 : decode cX8_ordersFrom 41 = .ok (.iinc 4 1, 3) := by decide +kernel
theorem dX8_ordersFrom_44 : decode cX8_ordersFrom 44 = .ok (.goto (-23), 3) := by decide +kernel
theorem dX8_ordersFrom_47 : decode cX8_ordersFrom 47 = .ok (.iconst 1, 1) := by decide +kernel
theorem dX8_ordersFrom_48 : decode cX8_ordersFrom 48 = .ok (.ireturn, 1) := by decide +kernel
theorem dX8_ordersFrom_49 : decode cX8_ordersFrom 49 = .ok (.iconst 0, 1) := by decide +kernel
theorem dX8_ordersFrom_50 : decode cX8_ordersFrom 50 = .ok (.istore 4, 2) := by decide +kernel
theorem dX8_ordersFrom_52 : decode cX8_ordersFrom 52 = .ok (.iconst 0, 1) := by decide +kernel
theorem dX8_ordersFrom_53 : decode cX8_ordersFrom 53 = .ok (.istore 5, 2) := by decide +kernel
theorem dX8_ordersFrom_55 : decode cX8_ordersFrom 55 = .ok (.iload 5, 2) := by decide +kernel
theorem dX8_ordersFrom_57 : decode cX8_ordersFrom 57 = .ok (.aload_n 0, 1) := by decide +kernel
theorem dX8_ordersFrom_58 : decode cX8_ordersFrom 58 = .ok (.getfield 70, 3) := by decide +kernel
theorem dX8_ordersFrom_61 : decode cX8_ordersFrom 61 = .ok (.bipush 13, 2) := by decide +kernel
theorem dX8_ordersFrom_63 : decode cX8_ordersFrom 63 = .ok (.iaload, 1) := by decide +kernel
theorem dX8_ordersFrom_64 : decode cX8_ordersFrom 64 = .ok (.if_icmp .ge 70, 3) := by decide +kernel
theorem dX8_ordersFrom_67 : decode cX8_ordersFrom 67 = .ok (.iload_n 1, 1) := by decide +kernel
theorem dX8_ordersFrom_68 : decode cX8_ordersFrom 68 = .ok (.iload 5, 2) := by decide +kernel
theorem dX8_ordersFrom_70 : decode cX8_ordersFrom 70 = .ok (.invokestatic 183, 3) := by decide +kernel
theorem dX8_ordersFrom_73 : decode cX8_ordersFrom 73 = .ok (.ifCond .eq 55, 3) := by decide +kernel
theorem dX8_ordersFrom_76 : decode cX8_ordersFrom 76 = .ok (.iload_n 2, 1) := by decide +kernel
theorem dX8_ordersFrom_77 : decode cX8_ordersFrom 77 = .ok (.iload 5, 2) := by decide +kernel
theorem dX8_ordersFrom_79 : decode cX8_ordersFrom 79 = .ok (.invokestatic 183, 3) := by decide +kernel
theorem dX8_ordersFrom_82 : decode cX8_ordersFrom 82 = .ok (.ifCond .ne 46, 3) := by decide +kernel
theorem dX8_ordersFrom_85 : decode cX8_ordersFrom 85 = .ok (.aload_n 0, 1) := by decide +kernel
theorem dX8_ordersFrom_86 : decode cX8_ordersFrom 86 = .ok (.iload_n 2, 1) := by decide +kernel
theorem dX8_ordersFrom_87 : decode cX8_ordersFrom 87 = .ok (.iconst 1, 1) := by decide +kernel
theorem dX8_ordersFrom_88 : decode cX8_ordersFrom 88 = .ok (.iload 5, 2) := by decide +kernel
theorem dX8_ordersFrom_90 : decode cX8_ordersFrom 90 = .ok (.ishl, 1) := by decide +kernel
theorem dX8_ordersFrom_91 : decode cX8_ordersFrom 91 = .ok (.ior, 1) := by decide +kernel
theorem dX8_ordersFrom_92 : decode cX8_ordersFrom 92 = .ok (.invokevirtual 202, 3) := by decide +kernel
theorem dX8_ordersFrom_95 : decode cX8_ordersFrom 95 = .ok (.ifCond .eq 6, 3) := by decide +kernel
theorem dX8_ordersFrom_98 : decode cX8_ordersFrom 98 = .ok (.goto 30, 3) := by decide +kernel
theorem dX8_ordersFrom_101 : decode cX8_ordersFrom 101 = .ok (.aload_n 0, 1) := by decide +kernel
theorem dX8_ordersFrom_102 : decode cX8_ordersFrom 102 = .ok (.getfield 91, 3) := by decide +kernel
theorem dX8_ordersFrom_105 : decode cX8_ordersFrom 105 = .ok (.iload_n 3, 1) := by decide +kernel
theorem dX8_ordersFrom_106 : decode cX8_ordersFrom 106 = .ok (.iload 5, 2) := by decide +kernel
theorem dX8_ordersFrom_108 : decode cX8_ordersFrom 108 = .ok (.iastore, 1) := by decide +kernel
theorem dX8_ordersFrom_109 : decode cX8_ordersFrom 109 = .ok (.iload 4, 2) := by decide +kernel
theorem dX8_ordersFrom_111 : decode cX8_ordersFrom 111 = .ok (.aload_n 0, 1) := by decide +kernel
theorem dX8_ordersFrom_112 : decode cX8_ordersFrom 112 = .ok (.iload_n 1, 1) := by decide +kernel
theorem dX8_ordersFrom_113 : decode cX8_ordersFrom 113 = .ok (.iload_n 2, 1) := by decide +kernel
theorem dX8_ordersFrom_114 : decode cX8_ordersFrom 114 = .ok (.iconst 1, 1) := by decide +kernel
theorem dX8_ordersFrom_115 : decode cX8_ordersFrom 115 = .ok (.iload 5, 2) := by decide +kernel
theorem dX8_ordersFrom_117 : decode cX8_ordersFrom 117 = .ok (.ishl, 1) := by decide +kernel
theorem dX8_ordersFrom_118 : decode cX8_ordersFrom 118 = .ok (.ior, 1) := by decide +kernel
theorem dX8_ordersFrom_119 : decode cX8_ordersFrom 119 = .ok (.iload_n 3, 1) := by decide +kernel
theorem dX8_ordersFrom_120 : decode cX8_ordersFrom 120 = .ok (.iconst 1, 1) := by decide +kernel
theorem dX8_ordersFrom_121 : decode cX8_ordersFrom 121 = .ok (.iadd, 1) := by decide +kernel
theorem dX8_ordersFrom_122 : decode cX8_ordersFrom 122 = .ok (.invokevirtual 205, 3) := by decide +kernel
theorem dX8_ordersFrom_125 : decode cX8_ordersFrom 125 = .ok (.iadd, 1) := by decide +kernel
theorem dX8_ordersFrom_126 : decode cX8_ordersFrom 126 = .ok (.istore 4, 2) := by decide +kernel
theorem dX8_ordersFrom_128 : decode cX8_ordersFrom 128 = .ok (.iinc 5 1, 3) := by decide +kernel
theorem dX8_ordersFrom_131 : decode cX8_ordersFrom 131 = .ok (.goto (-76), 3) := by decide +kernel
theorem dX8_ordersFrom_134 : decode cX8_ordersFrom 134 = .ok (.iload 4, 2) := by decide +kernel
theorem dX8_ordersFrom_136 : decode cX8_ordersFrom 136 = .ok (.ireturn, 1) := by decide +kernel
theorem dX8_ordersOf_0 : decode cX8_ordersOf 0 = .ok (.aload_n 0, 1) := by decide +kernel
theorem dX8_ordersOf_1 : decode cX8_ordersOf 1 = .ok (.iconst (-1), 1) := by decide +kernel
theorem dX8_ordersOf_2 : decode cX8_ordersOf 2 = .ok (.putfield 199, 3) := by decide +kernel
theorem dX8_ordersOf_5 : decode cX8_ordersOf 5 = .ok (.aload_n 0, 1) := by decide +kernel
theorem dX8_ordersOf_6 : decode cX8_ordersOf 6 = .ok (.iload_n 1, 1) := by decide +kernel
theorem dX8_ordersOf_7 : decode cX8_ordersOf 7 = .ok (.iconst 0, 1) := by decide +kernel
theorem dX8_ordersOf_8 : decode cX8_ordersOf 8 = .ok (.iconst 0, 1) := by decide +kernel
theorem dX8_ordersOf_9 : decode cX8_ordersOf 9 = .ok (.invokevirtual 205, 3) := by decide +kernel
theorem dX8_ordersOf_12 : decode cX8_ordersOf 12 = .ok (.ireturn, 1) := by decide +kernel
theorem dX8_aboardNow_0 : decode cX8_aboardNow 0 = .ok (.iconst 0, 1) := by decide +kernel
theorem dX8_aboardNow_1 : decode cX8_aboardNow 1 = .ok (.istore_n 1, 1) := by decide +kernel
theorem dX8_aboardNow_2 : decode cX8_aboardNow 2 = .ok (.iconst 0, 1) := by decide +kernel
theorem dX8_aboardNow_3 : decode cX8_aboardNow 3 = .ok (.istore_n 2, 1) := by decide +kernel
theorem dX8_aboardNow_4 : decode cX8_aboardNow 4 = .ok (.iload_n 2, 1) := by decide +kernel
theorem dX8_aboardNow_5 : decode cX8_aboardNow 5 = .ok (.aload_n 0, 1) := by decide +kernel
theorem dX8_aboardNow_6 : decode cX8_aboardNow 6 = .ok (.getfield 70, 3) := by decide +kernel
theorem dX8_aboardNow_9 : decode cX8_aboardNow 9 = .ok (.bipush 13, 2) := by decide +kernel
theorem dX8_aboardNow_11 : decode cX8_aboardNow 11 = .ok (.iaload, 1) := by decide +kernel
theorem dX8_aboardNow_12 : decode cX8_aboardNow 12 = .ok (.if_icmp .ge 25, 3) := by decide +kernel
theorem dX8_aboardNow_15 : decode cX8_aboardNow 15 = .ok (.aload_n 0, 1) := by decide +kernel
theorem dX8_aboardNow_16 : decode cX8_aboardNow 16 = .ok (.iload_n 2, 1) := by decide +kernel
theorem dX8_aboardNow_17 : decode cX8_aboardNow 17 = .ok (.iconst 2, 1) := by decide +kernel
theorem dX8_aboardNow_18 : decode cX8_aboardNow 18 = .ok (.invokevirtual 180, 3) := by decide +kernel
theorem dX8_aboardNow_21 : decode cX8_aboardNow 21 = .ok (.iconst 1, 1) := by decide +kernel
theorem dX8_aboardNow_22 : decode cX8_aboardNow 22 = .ok (.if_icmp .ne 9, 3) := by decide +kernel
theorem dX8_aboardNow_25 : decode cX8_aboardNow 25 = .ok (.iload_n 1, 1) := by decide +kernel
theorem dX8_aboardNow_26 : decode cX8_aboardNow 26 = .ok (.iconst 1, 1) := by decide +kernel
theorem dX8_aboardNow_27 : decode cX8_aboardNow 27 = .ok (.iload_n 2, 1) := by decide +kernel
theorem dX8_aboardNow_28 : decode cX8_aboardNow 28 = .ok (.ishl, 1) := by decide +kernel
theorem dX8_aboardNow_29 : decode cX8_aboardNow 29 = .ok (.ior, 1) := by decide +kernel
theorem dX8_aboardNow_30 : decode cX8_aboardNow 30 = .ok (.istore_n 1, 1) := by decide +kernel
theorem dX8_aboardNow_31 : decode cX8_aboardNow 31 = .ok (.iinc 2 1, 3) := by decide +kernel
theorem dX8_aboardNow_34 : decode cX8_aboardNow 34 = .ok (.goto (-30), 3) := by decide +kernel
theorem dX8_aboardNow_37 : decode cX8_aboardNow 37 = .ok (.iload_n 1, 1) := by decide +kernel
theorem dX8_aboardNow_38 : decode cX8_aboardNow 38 = .ok (.ireturn, 1) := by decide +kernel
theorem dX8_now_0 : decode cX8_now 0 = .ok (.aload_n 0, 1) := by decide +kernel
theorem dX8_now_1 : decode cX8_now 1 = .ok (.iconst 0, 1) := by decide +kernel
theorem dX8_now_2 : decode cX8_now 2 = .ok (.putfield 1, 3) := by decide +kernel
theorem dX8_now_5 : decode cX8_now 5 = .ok (.aload_n 0, 1) := by decide +kernel
theorem dX8_now_6 : decode cX8_now 6 = .ok (.invokevirtual 209, 3) := by decide +kernel
theorem dX8_now_9 : decode cX8_now 9 = .ok (.iload_n 1, 1) := by decide +kernel
theorem dX8_now_10 : decode cX8_now 10 = .ok (.tableswitch 119 0 9 #[54, 62, 70, 78, 83, 89, 95, 101, 109, 114], 54) := by decide +kernel
theorem dX8_now_64 : decode cX8_now 64 = .ok (.aload_n 0, 1) := by decide +kernel
theorem dX8_now_65 : decode cX8_now 65 = .ok (.getfield 70, 3) := by decide +kernel
theorem dX8_now_68 : decode cX8_now 68 = .ok (.bipush 9, 2) := by decide +kernel
theorem dX8_now_70 : decode cX8_now 70 = .ok (.iaload, 1) := by decide +kernel
theorem dX8_now_71 : decode cX8_now 71 = .ok (.ireturn, 1) := by decide +kernel
theorem dX8_now_72 : decode cX8_now 72 = .ok (.aload_n 0, 1) := by decide +kernel
theorem dX8_now_73 : decode cX8_now 73 = .ok (.getfield 70, 3) := by decide +kernel
theorem dX8_now_76 : decode cX8_now 76 = .ok (.bipush 10, 2) := by decide +kernel
theorem dX8_now_78 : decode cX8_now 78 = .ok (.iaload, 1) := by decide +kernel
theorem dX8_now_79 : decode cX8_now 79 = .ok (.ireturn, 1) := by decide +kernel
theorem dX8_now_80 : decode cX8_now 80 = .ok (.aload_n 0, 1) := by decide +kernel
theorem dX8_now_81 : decode cX8_now 81 = .ok (.getfield 70, 3) := by decide +kernel
theorem dX8_now_84 : decode cX8_now 84 = .ok (.bipush 13, 2) := by decide +kernel
theorem dX8_now_86 : decode cX8_now 86 = .ok (.iaload, 1) := by decide +kernel
theorem dX8_now_87 : decode cX8_now 87 = .ok (.ireturn, 1) := by decide +kernel
theorem dX8_now_88 : decode cX8_now 88 = .ok (.aload_n 0, 1) := by decide +kernel
theorem dX8_now_89 : decode cX8_now 89 = .ok (.invokevirtual 212, 3) := by decide +kernel
theorem dX8_now_92 : decode cX8_now 92 = .ok (.ireturn, 1) := by decide +kernel
theorem dX8_now_93 : decode cX8_now 93 = .ok (.aload_n 0, 1) := by decide +kernel
theorem dX8_now_94 : decode cX8_now 94 = .ok (.iconst 0, 1) := by decide +kernel
theorem dX8_now_95 : decode cX8_now 95 = .ok (.invokevirtual 193, 3) := by decide +kernel
theorem dX8_now_98 : decode cX8_now 98 = .ok (.ireturn, 1) := by decide +kernel
theorem dX8_now_99 : decode cX8_now 99 = .ok (.aload_n 0, 1) := by decide +kernel
theorem dX8_now_100 : decode cX8_now 100 = .ok (.iconst 0, 1) := by decide +kernel
theorem dX8_now_101 : decode cX8_now 101 = .ok (.invokevirtual 196, 3) := by decide +kernel
theorem dX8_now_104 : decode cX8_now 104 = .ok (.ireturn, 1) := by decide +kernel
theorem dX8_now_105 : decode cX8_now 105 = .ok (.aload_n 0, 1) := by decide +kernel
theorem dX8_now_106 : decode cX8_now 106 = .ok (.iconst 0, 1) := by decide +kernel
theorem dX8_now_107 : decode cX8_now 107 = .ok (.invokevirtual 202, 3) := by decide +kernel
theorem dX8_now_110 : decode cX8_now 110 = .ok (.ireturn, 1) := by decide +kernel
theorem dX8_now_111 : decode cX8_now 111 = .ok (.aload_n 0, 1) := by decide +kernel
theorem dX8_now_112 : decode cX8_now 112 = .ok (.getfield 70, 3) := by decide +kernel
theorem dX8_now_115 : decode cX8_now 115 = .ok (.bipush 14, 2) := by decide +kernel
theorem dX8_now_117 : decode cX8_now 117 = .ok (.iaload, 1) := by decide +kernel
theorem dX8_now_118 : decode cX8_now 118 = .ok (.ireturn, 1) := by decide +kernel
theorem dX8_now_119 : decode cX8_now 119 = .ok (.aload_n 0, 1) := by decide +kernel
theorem dX8_now_120 : decode cX8_now 120 = .ok (.getfield 173, 3) := by decide +kernel
theorem dX8_now_123 : decode cX8_now 123 = .ok (.ireturn, 1) := by decide +kernel
theorem dX8_now_124 : decode cX8_now 124 = .ok (.aload_n 0, 1) := by decide +kernel
theorem dX8_now_125 : decode cX8_now 125 = .ok (.getfield 11, 3) := by decide +kernel
theorem dX8_now_128 : decode cX8_now 128 = .ok (.ireturn, 1) := by decide +kernel
theorem dX8_now_129 : decode cX8_now 129 = .ok (.ldc 216, 2) := by decide +kernel
theorem dX8_now_131 : decode cX8_now 131 = .ok (.ireturn, 1) := by decide +kernel
theorem dX8_bars_0 : decode cX8_bars 0 = .ok (.iconst 0, 1) := by decide +kernel
theorem dX8_bars_1 : decode cX8_bars 1 = .ok (.istore_n 1, 1) := by decide +kernel
theorem dX8_bars_2 : decode cX8_bars 2 = .ok (.iconst 0, 1) := by decide +kernel
theorem dX8_bars_3 : decode cX8_bars 3 = .ok (.istore_n 2, 1) := by decide +kernel
theorem dX8_bars_4 : decode cX8_bars 4 = .ok (.iload_n 2, 1) := by decide +kernel
theorem dX8_bars_5 : decode cX8_bars 5 = .ok (.bipush 6, 2) := by decide +kernel
theorem dX8_bars_7 : decode cX8_bars 7 = .ok (.if_icmp .ge 42, 3) := by decide +kernel
theorem dX8_bars_10 : decode cX8_bars 10 = .ok (.iconst 0, 1) := by decide +kernel
theorem dX8_bars_11 : decode cX8_bars 11 = .ok (.istore_n 3, 1) := by decide +kernel
theorem dX8_bars_12 : decode cX8_bars 12 = .ok (.iload_n 3, 1) := by decide +kernel
theorem dX8_bars_13 : decode cX8_bars 13 = .ok (.bipush 6, 2) := by decide +kernel
theorem dX8_bars_15 : decode cX8_bars 15 = .ok (.if_icmp .ge 28, 3) := by decide +kernel
theorem dX8_bars_18 : decode cX8_bars 18 = .ok (.aload_n 0, 1) := by decide +kernel
theorem dX8_bars_19 : decode cX8_bars 19 = .ok (.getfield 70, 3) := by decide +kernel
theorem dX8_bars_22 : decode cX8_bars 22 = .ok (.bipush 21, 2) := by decide +kernel
theorem dX8_bars_24 : decode cX8_bars 24 = .ok (.iload_n 2, 1) := by decide +kernel
theorem dX8_bars_25 : decode cX8_bars 25 = .ok (.iadd, 1) := by decide +kernel
theorem dX8_bars_26 : decode cX8_bars 26 = .ok (.iaload, 1) := by decide +kernel
theorem dX8_bars_27 : decode cX8_bars 27 = .ok (.iload_n 3, 1) := by decide +kernel
theorem dX8_bars_28 : decode cX8_bars 28 = .ok (.invokestatic 183, 3) := by decide +kernel
theorem dX8_bars_31 : decode cX8_bars 31 = .ok (.ifCond .eq 6, 3) := by decide +kernel
theorem dX8_bars_34 : decode cX8_bars 34 = .ok (.iinc 1 1, 3) := by decide +kernel
theorem dX8_bars_37 : decode cX8_bars 37 = .ok (.iinc 3 1, 3) := by decide +kernel
theorem dX8_bars_40 : decode cX8_bars 40 = .ok (.goto (-28), 3) := by decide +kernel
theorem dX8_bars_43 : decode cX8_bars 43 = .ok (.iinc 2 1, 3) := by decide +kernel
theorem dX8_bars_46 : decode cX8_bars 46 = .ok (.goto (-42), 3) := by decide +kernel
theorem dX8_bars_49 : decode cX8_bars 49 = .ok (.iload_n 1, 1) := by decide +kernel
theorem dX8_bars_50 : decode cX8_bars 50 = .ok (.ireturn, 1) := by decide +kernel
theorem dX8_compartment_0 : decode cX8_compartment 0 = .ok (.aload_n 0, 1) := by decide +kernel
theorem dX8_compartment_1 : decode cX8_compartment 1 = .ok (.iconst 0, 1) := by decide +kernel
theorem dX8_compartment_2 : decode cX8_compartment 2 = .ok (.putfield 1, 3) := by decide +kernel
theorem dX8_compartment_5 : decode cX8_compartment 5 = .ok (.aload_n 0, 1) := by decide +kernel
theorem dX8_compartment_6 : decode cX8_compartment 6 = .ok (.iload_n 1, 1) := by decide +kernel
theorem dX8_compartment_7 : decode cX8_compartment 7 = .ok (.invokevirtual 217, 3) := by decide +kernel
theorem dX8_compartment_10 : decode cX8_compartment 10 = .ok (.ifCond .ne 5, 3) := by decide +kernel
theorem dX8_compartment_13 : decode cX8_compartment 13 = .ok (.iconst (-1), 1) := by decide +kernel
theorem dX8_compartment_14 : decode cX8_compartment 14 = .ok (.ireturn, 1) := by decide +kernel
theorem dX8_compartment_15 : decode cX8_compartment 15 = .ok (.iload_n 2, 1) := by decide +kernel
theorem dX8_compartment_16 : decode cX8_compartment 16 = .ok (.tableswitch 79 0 6 #[44, 44, 44, 51, 57, 64, 73], 44) := by decide +kernel
theorem dX8_compartment_60 : decode cX8_compartment 60 = .ok (.aload_n 0, 1) := by decide +kernel
theorem dX8_compartment_61 : decode cX8_compartment 61 = .ok (.iload_n 1, 1) := by decide +kernel
theorem dX8_compartment_62 : decode cX8_compartment 62 = .ok (.iload_n 2, 1) := by decide +kernel
theorem dX8_compartment_63 : decode cX8_compartment 63 = .ok (.invokevirtual 176, 3) := by decide +kernel
theorem dX8_compartment_66 : decode cX8_compartment 66 = .ok (.ireturn, 1) := by decide +kernel
theorem dX8_compartment_67 : decode cX8_compartment 67 = .ok (.aload_n 0, 1) := by decide +kernel
theorem dX8_compartment_68 : decode cX8_compartment 68 = .ok (.iload_n 1, 1) := by decide +kernel
theorem dX8_compartment_69 : decode cX8_compartment 69 = .ok (.invokevirtual 220, 3) := by decide +kernel
theorem dX8_compartment_72 : decode cX8_compartment 72 = .ok (.ireturn, 1) := by decide +kernel
theorem dX8_compartment_73 : decode cX8_compartment 73 = .ok (.aload_n 0, 1) := by decide +kernel
theorem dX8_compartment_74 : decode cX8_compartment 74 = .ok (.iload_n 1, 1) := by decide +kernel
theorem dX8_compartment_75 : decode cX8_compartment 75 = .ok (.iconst 3, 1) := by decide +kernel
theorem dX8_compartment_76 : decode cX8_compartment 76 = .ok (.invokevirtual 176, 3) := by decide +kernel
theorem dX8_compartment_79 : decode cX8_compartment 79 = .ok (.ireturn, 1) := by decide +kernel
theorem dX8_compartment_80 : decode cX8_compartment 80 = .ok (.aload_n 0, 1) := by decide +kernel
theorem dX8_compartment_81 : decode cX8_compartment 81 = .ok (.iload_n 1, 1) := by decide +kernel
theorem dX8_compartment_82 : decode cX8_compartment 82 = .ok (.iconst 4, 1) := by decide +kernel
theorem dX8_compartment_83 : decode cX8_compartment 83 = .ok (.invokevirtual 176, 3) := by decide +kernel
theorem dX8_compartment_86 : decode cX8_compartment 86 = .ok (.iconst 1, 1) := by decide +kernel
theorem dX8_compartment_87 : decode cX8_compartment 87 = .ok (.isub, 1) := by decide +kernel
theorem dX8_compartment_88 : decode cX8_compartment 88 = .ok (.ireturn, 1) := by decide +kernel
theorem dX8_compartment_89 : decode cX8_compartment 89 = .ok (.aload_n 0, 1) := by decide +kernel
theorem dX8_compartment_90 : decode cX8_compartment 90 = .ok (.iload_n 1, 1) := by decide +kernel
theorem dX8_compartment_91 : decode cX8_compartment 91 = .ok (.invokevirtual 187, 3) := by decide +kernel
theorem dX8_compartment_94 : decode cX8_compartment 94 = .ok (.ireturn, 1) := by decide +kernel
theorem dX8_compartment_95 : decode cX8_compartment 95 = .ok (.iconst (-1), 1) := by decide +kernel
theorem dX8_compartment_96 : decode cX8_compartment 96 = .ok (.ireturn, 1) := by decide +kernel
theorem dX8_drop_0 : decode cX8_drop 0 = .ok (.aload_n 0, 1) := by decide +kernel
theorem dX8_drop_1 : decode cX8_drop 1 = .ok (.iconst 0, 1) := by decide +kernel
theorem dX8_drop_2 : decode cX8_drop 2 = .ok (.putfield 1, 3) := by decide +kernel
theorem dX8_drop_5 : decode cX8_drop 5 = .ok (.aload_n 0, 1) := by decide +kernel
theorem dX8_drop_6 : decode cX8_drop 6 = .ok (.iload_n 1, 1) := by decide +kernel
theorem dX8_drop_7 : decode cX8_drop 7 = .ok (.invokevirtual 223, 3) := by decide +kernel
theorem dX8_drop_10 : decode cX8_drop 10 = .ok (.ifCond .eq 12, 3) := by decide +kernel
theorem dX8_drop_13 : decode cX8_drop 13 = .ok (.iload_n 2, 1) := by decide +kernel
theorem dX8_drop_14 : decode cX8_drop 14 = .ok (.iconst 0, 1) := by decide +kernel
theorem dX8_drop_15 : decode cX8_drop 15 = .ok (.iconst 5, 1) := by decide +kernel
theorem dX8_drop_16 : decode cX8_drop 16 = .ok (.invokestatic 109, 3) := by decide +kernel
theorem dX8_drop_19 : decode cX8_drop 19 = .ok (.ifCond .ne 8, 3) := by decide +kernel
theorem dX8_drop_22 : decode cX8_drop 22 = .ok (.aload_n 0, 1) := by decide +kernel
theorem dX8_drop_23 : decode cX8_drop 23 = .ok (.invokevirtual 226, 3) := by decide +kernel
theorem dX8_drop_26 : decode cX8_drop 26 = .ok (.ireturn, 1) := by decide +kernel
theorem dX8_drop_27 : decode cX8_drop 27 = .ok (.iload_n 2, 1) := by decide +kernel
theorem dX8_drop_28 : decode cX8_drop 28 = .ok (.iconst 2, 1) := by decide +kernel
theorem dX8_drop_29 : decode cX8_drop 29 = .ok (.if_icmp .ne 11, 3) := by decide +kernel
theorem dX8_drop_32 : decode cX8_drop 32 = .ok (.aload_n 0, 1) := by decide +kernel
theorem dX8_drop_33 : decode cX8_drop 33 = .ok (.iload_n 1, 1) := by decide +kernel
theorem dX8_drop_34 : decode cX8_drop 34 = .ok (.invokevirtual 229, 3) := by decide +kernel
theorem dX8_drop_37 : decode cX8_drop 37 = .ok (.goto 25, 3) := by decide +kernel
theorem dX8_drop_40 : decode cX8_drop 40 = .ok (.iload_n 2, 1) := by decide +kernel
theorem dX8_drop_41 : decode cX8_drop 41 = .ok (.iconst 2, 1) := by decide +kernel
theorem dX8_drop_42 : decode cX8_drop 42 = .ok (.if_icmp .ge 12, 3) := by decide +kernel
theorem dX8_drop_45 : decode cX8_drop 45 = .ok (.aload_n 0, 1) := by decide +kernel
theorem dX8_drop_46 : decode cX8_drop 46 = .ok (.iload_n 1, 1) := by decide +kernel
theorem dX8_drop_47 : decode cX8_drop 47 = .ok (.iload_n 2, 1) := by decide +kernel
theorem dX8_drop_48 : decode cX8_drop 48 = .ok (.invokevirtual 180, 3) := by decide +kernel
theorem dX8_drop_51 : decode cX8_drop 51 = .ok (.goto 11, 3) := by decide +kernel
theorem dX8_drop_54 : decode cX8_drop 54 = .ok (.aload_n 0, 1) := by decide +kernel
theorem dX8_drop_55 : decode cX8_drop 55 = .ok (.iload_n 1, 1) := by decide +kernel
theorem dX8_drop_56 : decode cX8_drop 56 = .ok (.iload_n 2, 1) := by decide +kernel
theorem dX8_drop_57 : decode cX8_drop 57 = .ok (.iconst 1, 1) := by decide +kernel
theorem dX8_drop_58 : decode cX8_drop 58 = .ok (.isub, 1) := by decide +kernel
theorem dX8_drop_59 : decode cX8_drop 59 = .ok (.invokevirtual 180, 3) := by decide +kernel
theorem dX8_drop_62 : decode cX8_drop 62 = .ok (.ireturn, 1) := by decide +kernel
theorem dX8_may_0 : decode cX8_may 0 = .ok (.aload_n 0, 1) := by decide +kernel
theorem dX8_may_1 : decode cX8_may 1 = .ok (.iconst 0, 1) := by decide +kernel
theorem dX8_may_2 : decode cX8_may 2 = .ok (.putfield 1, 3) := by decide +kernel
theorem dX8_may_5 : decode cX8_may 5 = .ok (.aload_n 0, 1) := by decide +kernel
theorem dX8_may_6 : decode cX8_may 6 = .ok (.iload_n 1, 1) := by decide +kernel
theorem dX8_may_7 : decode cX8_may 7 = .ok (.invokevirtual 217, 3) := by decide +kernel
theorem dX8_may_10 : decode cX8_may 10 = .ok (.ifCond .eq 25, 3) := by decide +kernel
theorem dX8_may_13 : decode cX8_may 13 = .ok (.aload_n 0, 1) := by decide +kernel
theorem dX8_may_14 : decode cX8_may 14 = .ok (.iload_n 2, 1) := by decide +kernel
theorem dX8_may_15 : decode cX8_may 15 = .ok (.invokevirtual 232, 3) := by decide +kernel
theorem dX8_may_18 : decode cX8_may 18 = .ok (.ifCond .eq 17, 3) := by decide +kernel
theorem dX8_may_21 : decode cX8_may 21 = .ok (.aload_n 0, 1) := by decide +kernel
theorem dX8_may_22 : decode cX8_may 22 = .ok (.iload_n 1, 1) := by decide +kernel
theorem dX8_may_23 : decode cX8_may 23 = .ok (.iload_n 2, 1) := by decide +kernel
theorem dX8_may_24 : decode cX8_may 24 = .ok (.iconst 0, 1) := by decide +kernel
theorem dX8_may_25 : decode cX8_may 25 = .ok (.invokevirtual 235, 3) := by decide +kernel
theorem dX8_may_28 : decode cX8_may 28 = .ok (.ifCond .eq 7, 3) := by decide +kernel
theorem dX8_may_31 : decode cX8_may 31 = .ok (.iconst 1, 1) := by decide +kernel
theorem dX8_may_32 : decode cX8_may 32 = .ok (.goto 4, 3) := by decide +kernel
theorem dX8_may_35 : decode cX8_may 35 = .ok (.iconst 0, 1) := by decide +kernel
theorem dX8_may_36 : decode cX8_may 36 = .ok (.ireturn, 1) := by decide +kernel
theorem dX8_would_0 : decode cX8_would 0 = .ok (.aload_n 0, 1) := by decide +kernel
theorem dX8_would_1 : decode cX8_would 1 = .ok (.iconst 0, 1) := by decide +kernel
theorem dX8_would_2 : decode cX8_would 2 = .ok (.putfield 1, 3) := by decide +kernel
theorem dX8_would_5 : decode cX8_would 5 = .ok (.aload_n 0, 1) := by decide +kernel
theorem dX8_would_6 : decode cX8_would 6 = .ok (.iload_n 1, 1) := by decide +kernel
theorem dX8_would_7 : decode cX8_would 7 = .ok (.invokevirtual 217, 3) := by decide +kernel
theorem dX8_would_10 : decode cX8_would 10 = .ok (.ifCond .eq 25, 3) := by decide +kernel
theorem dX8_would_13 : decode cX8_would 13 = .ok (.aload_n 0, 1) := by decide +kernel
theorem dX8_would_14 : decode cX8_would 14 = .ok (.iload_n 2, 1) := by decide +kernel
theorem dX8_would_15 : decode cX8_would 15 = .ok (.invokevirtual 232, 3) := by decide +kernel
theorem dX8_would_18 : decode cX8_would 18 = .ok (.ifCond .eq 17, 3) := by decide +kernel
theorem dX8_would_21 : decode cX8_would 21 = .ok (.iload_n 3, 1) := by decide +kernel
theorem dX8_would_22 : decode cX8_would 22 = .ok (.iconst 0, 1) := by decide +kernel
theorem dX8_would_23 : decode cX8_would 23 = .ok (.aload_n 0, 1) := by decide +kernel
theorem dX8_would_24 : decode cX8_would 24 = .ok (.iload_n 1, 1) := by decide +kernel
theorem dX8_would_25 : decode cX8_would 25 = .ok (.iconst 0, 1) := by decide +kernel
theorem dX8_would_26 : decode cX8_would 26 = .ok (.invokevirtual 176, 3) := by decide +kernel
theorem dX8_would_29 : decode cX8_would 29 = .ok (.invokestatic 109, 3) := by decide +kernel
theorem dX8_would_32 : decode cX8_would 32 = .ok (.ifCond .ne 5, 3) := by decide +kernel
theorem dX8_would_35 : decode cX8_would 35 = .ok (.iconst (-1), 1) := by decide +kernel
theorem dX8_would_36 : decode cX8_would 36 = .ok (.ireturn, 1) := by decide +kernel
theorem dX8_would_37 : decode cX8_would 37 = .ok (.aload_n 0, 1) := by decide +kernel
theorem dX8_would_38 : decode cX8_would 38 = .ok (.invokevirtual 209, 3) := by decide +kernel
theorem dX8_would_41 : decode cX8_would 41 = .ok (.aload_n 0, 1) := by decide +kernel
theorem dX8_would_42 : decode cX8_would 42 = .ok (.getfield 79, 3) := by decide +kernel
theorem dX8_would_45 : decode cX8_would 45 = .ok (.iload_n 1, 1) := by decide +kernel
theorem dX8_would_46 : decode cX8_would 46 = .ok (.iload_n 3, 1) := by decide +kernel
theorem dX8_would_47 : decode cX8_would 47 = .ok (.iastore, 1) := by decide +kernel
theorem dX8_would_48 : decode cX8_would 48 = .ok (.aload_n 0, 1) := by decide +kernel
theorem dX8_would_49 : decode cX8_would 49 = .ok (.getfield 82, 3) := by decide +kernel
theorem dX8_would_52 : decode cX8_would 52 = .ok (.iload_n 1, 1) := by decide +kernel
theorem dX8_would_53 : decode cX8_would 53 = .ok (.iload_n 2, 1) := by decide +kernel
theorem dX8_would_54 : decode cX8_would 54 = .ok (.iastore, 1) := by decide +kernel
theorem dX8_would_55 : decode cX8_would 55 = .ok (.aload_n 0, 1) := by decide +kernel
theorem dX8_would_56 : decode cX8_would 56 = .ok (.getfield 85, 3) := by decide +kernel
theorem dX8_would_59 : decode cX8_would 59 = .ok (.iload_n 1, 1) := by decide +kernel
theorem dX8_would_60 : decode cX8_would 60 = .ok (.iconst (-1), 1) := by decide +kernel
theorem dX8_would_61 : decode cX8_would 61 = .ok (.iastore, 1) := by decide +kernel
theorem dX8_would_62 : decode cX8_would 62 = .ok (.aload_n 0, 1) := by decide +kernel
theorem dX8_would_63 : decode cX8_would 63 = .ok (.iconst 0, 1) := by decide +kernel
theorem dX8_would_64 : decode cX8_would 64 = .ok (.invokevirtual 202, 3) := by decide +kernel
theorem dX8_would_67 : decode cX8_would 67 = .ok (.ireturn, 1) := by decide +kernel
theorem dX8_orders_0 : decode cX8_orders 0 = .ok (.aload_n 0, 1) := by decide +kernel
theorem dX8_orders_1 : decode cX8_orders 1 = .ok (.iconst 0, 1) := by decide +kernel
theorem dX8_orders_2 : decode cX8_orders 2 = .ok (.putfield 1, 3) := by decide +kernel
theorem dX8_orders_5 : decode cX8_orders 5 = .ok (.aload_n 0, 1) := by decide +kernel
theorem dX8_orders_6 : decode cX8_orders 6 = .ok (.invokevirtual 209, 3) := by decide +kernel
theorem dX8_orders_9 : decode cX8_orders 9 = .ok (.aload_n 0, 1) := by decide +kernel
theorem dX8_orders_10 : decode cX8_orders 10 = .ok (.aload_n 0, 1) := by decide +kernel
theorem dX8_orders_11 : decode cX8_orders 11 = .ok (.invokevirtual 238, 3) := by decide +kernel
theorem dX8_orders_14 : decode cX8_orders 14 = .ok (.invokevirtual 241, 3) := by decide +kernel
theorem dX8_orders_17 : decode cX8_orders 17 = .ok (.ireturn, 1) := by decide +kernel
theorem dX8_ordered_0 : decode cX8_ordered 0 = .ok (.aload_n 0, 1) := by decide +kernel
theorem dX8_ordered_1 : decode cX8_ordered 1 = .ok (.iconst 0, 1) := by decide +kernel
theorem dX8_ordered_2 : decode cX8_ordered 2 = .ok (.putfield 1, 3) := by decide +kernel
theorem dX8_ordered_5 : decode cX8_ordered 5 = .ok (.aload_n 0, 1) := by decide +kernel
theorem dX8_ordered_6 : decode cX8_ordered 6 = .ok (.invokevirtual 209, 3) := by decide +kernel
theorem dX8_ordered_9 : decode cX8_ordered 9 = .ok (.aload_n 0, 1) := by decide +kernel
theorem dX8_ordered_10 : decode cX8_ordered 10 = .ok (.aload_n 0, 1) := by decide +kernel
theorem dX8_ordered_11 : decode cX8_ordered 11 = .ok (.invokevirtual 238, 3) := by decide +kernel
theorem dX8_ordered_14 : decode cX8_ordered 14 = .ok (.invokevirtual 241, 3) := by decide +kernel
theorem dX8_ordered_17 : decode cX8_ordered 17 = .ok (.pop, 1) := by decide +kernel
theorem dX8_ordered_18 : decode cX8_ordered 18 = .ok (.iload_n 1, 1) := by decide +kernel
theorem dX8_ordered_19 : decode cX8_ordered 19 = .ok (.iconst 0, 1) := by decide +kernel
theorem dX8_ordered_20 : decode cX8_ordered 20 = .ok (.aload_n 0, 1) := by decide +kernel
theorem dX8_ordered_21 : decode cX8_ordered 21 = .ok (.getfield 199, 3) := by decide +kernel
theorem dX8_ordered_24 : decode cX8_ordered 24 = .ok (.iconst 1, 1) := by decide +kernel
theorem dX8_ordered_25 : decode cX8_ordered 25 = .ok (.isub, 1) := by decide +kernel
theorem dX8_ordered_26 : decode cX8_ordered 26 = .ok (.invokestatic 109, 3) := by decide +kernel
theorem dX8_ordered_29 : decode cX8_ordered 29 = .ok (.ifCond .eq 12, 3) := by decide +kernel
theorem dX8_ordered_32 : decode cX8_ordered 32 = .ok (.aload_n 0, 1) := by decide +kernel
theorem dX8_ordered_33 : decode cX8_ordered 33 = .ok (.getfield 88, 3) := by decide +kernel
theorem dX8_ordered_36 : decode cX8_ordered 36 = .ok (.iload_n 1, 1) := by decide +kernel
theorem dX8_ordered_37 : decode cX8_ordered 37 = .ok (.iaload, 1) := by decide +kernel
theorem dX8_ordered_38 : decode cX8_ordered 38 = .ok (.goto 4, 3) := by decide +kernel
theorem dX8_ordered_41 : decode cX8_ordered 41 = .ok (.iconst (-1), 1) := by decide +kernel
theorem dX8_ordered_42 : decode cX8_ordered 42 = .ok (.ireturn, 1) := by decide +kernel
theorem dX8_without_0 : decode cX8_without 0 = .ok (.aload_n 0, 1) := by decide +kernel
theorem dX8_without_1 : decode cX8_without 1 = .ok (.iconst 0, 1) := by decide +kernel
theorem dX8_without_2 : decode cX8_without 2 = .ok (.putfield 1, 3) := by decide +kernel
theorem dX8_without_5 : decode cX8_without 5 = .ok (.aload_n 0, 1) := by decide +kernel
theorem dX8_without_6 : decode cX8_without 6 = .ok (.iload_n 1, 1) := by decide +kernel
theorem dX8_without_7 : decode cX8_without 7 = .ok (.invokevirtual 223, 3) := by decide +kernel
theorem dX8_without_10 : decode cX8_without 10 = .ok (.ifCond .eq 13, 3) := by decide +kernel
theorem dX8_without_13 : decode cX8_without 13 = .ok (.aload_n 0, 1) := by decide +kernel
theorem dX8_without_14 : decode cX8_without 14 = .ok (.iload_n 1, 1) := by decide +kernel
theorem dX8_without_15 : decode cX8_without 15 = .ok (.iconst 2, 1) := by decide +kernel
theorem dX8_without_16 : decode cX8_without 16 = .ok (.invokevirtual 180, 3) := by decide +kernel
theorem dX8_without_19 : decode cX8_without 19 = .ok (.iconst 1, 1) := by decide +kernel
theorem dX8_without_20 : decode cX8_without 20 = .ok (.if_icmp .eq 5, 3) := by decide +kernel
theorem dX8_without_23 : decode cX8_without 23 = .ok (.iconst (-1), 1) := by decide +kernel
theorem dX8_without_24 : decode cX8_without 24 = .ok (.ireturn, 1) := by decide +kernel
theorem dX8_without_25 : decode cX8_without 25 = .ok (.aload_n 0, 1) := by decide +kernel
theorem dX8_without_26 : decode cX8_without 26 = .ok (.invokevirtual 209, 3) := by decide +kernel
theorem dX8_without_29 : decode cX8_without 29 = .ok (.aload_n 0, 1) := by decide +kernel
theorem dX8_without_30 : decode cX8_without 30 = .ok (.iconst 1, 1) := by decide +kernel
theorem dX8_without_31 : decode cX8_without 31 = .ok (.iload_n 1, 1) := by decide +kernel
theorem dX8_without_32 : decode cX8_without 32 = .ok (.ishl, 1) := by decide +kernel
theorem dX8_without_33 : decode cX8_without 33 = .ok (.invokevirtual 202, 3) := by decide +kernel
theorem dX8_without_36 : decode cX8_without 36 = .ok (.ireturn, 1) := by decide +kernel
theorem dX8_pours_0 : decode cX8_pours 0 = .ok (.iconst 0, 1) := by decide +kernel
theorem dX8_pours_1 : decode cX8_pours 1 = .ok (.istore_n 2, 1) := by decide +kernel
theorem dX8_pours_2 : decode cX8_pours 2 = .ok (.iconst 0, 1) := by decide +kernel
theorem dX8_pours_3 : decode cX8_pours 3 = .ok (.istore_n 3, 1) := by decide +kernel
theorem dX8_pours_4 : decode cX8_pours 4 = .ok (.iload_n 3, 1) := by decide +kernel
theorem dX8_pours_5 : decode cX8_pours 5 = .ok (.aload_n 0, 1) := by decide +kernel
theorem dX8_pours_6 : decode cX8_pours 6 = .ok (.getfield 70, 3) := by decide +kernel
theorem dX8_pours_9 : decode cX8_pours 9 = .ok (.bipush 9, 2) := by decide +kernel
theorem dX8_pours_11 : decode cX8_pours 11 = .ok (.iaload, 1) := by decide +kernel
theorem dX8_pours_12 : decode cX8_pours 12 = .ok (.if_icmp .ge 16, 3) := by decide +kernel
theorem dX8_pours_15 : decode cX8_pours 15 = .ok (.aload_n 0, 1) := by decide +kernel
theorem dX8_pours_16 : decode cX8_pours 16 = .ok (.getfield 97, 3) := by decide +kernel
theorem dX8_pours_19 : decode cX8_pours 19 = .ok (.iload_n 3, 1) := by decide +kernel
theorem dX8_pours_20 : decode cX8_pours 20 = .ok (.iconst 0, 1) := by decide +kernel
theorem dX8_pours_21 : decode cX8_pours 21 = .ok (.iastore, 1) := by decide +kernel
theorem dX8_pours_22 : decode cX8_pours 22 = .ok (.iinc 3 1, 3) := by decide +kernel
theorem dX8_pours_25 : decode cX8_pours 25 = .ok (.goto (-21), 3) := by decide +kernel
theorem dX8_pours_28 : decode cX8_pours 28 = .ok (.iconst 0, 1) := by decide +kernel
theorem dX8_pours_29 : decode cX8_pours 29 = .ok (.istore_n 3, 1) := by decide +kernel
theorem dX8_pours_30 : decode cX8_pours 30 = .ok (.iload_n 3, 1) := by decide +kernel
theorem dX8_pours_31 : decode cX8_pours 31 = .ok (.aload_n 0, 1) := by decide +kernel
theorem dX8_pours_32 : decode cX8_pours 32 = .ok (.getfield 70, 3) := by decide +kernel
theorem dX8_pours_35 : decode cX8_pours 35 = .ok (.bipush 13, 2) := by decide +kernel
theorem dX8_pours_37 : decode cX8_pours 37 = .ok (.iaload, 1) := by decide +kernel
theorem dX8_pours_38 : decode cX8_pours 38 = .ok (.if_icmp .ge 163, 3) := by decide +kernel
theorem dX8_pours_41 : decode cX8_pours 41 = .ok (.aload_n 0, 1) := by decide +kernel
theorem dX8_pours_42 : decode cX8_pours 42 = .ok (.iload_n 3, 1) := by decide +kernel
theorem dX8_pours_43 : decode cX8_pours 43 = .ok (.iconst 2, 1) := by decide +kernel
theorem dX8_pours_44 : decode cX8_pours 44 = .ok (.invokevirtual 180, 3) := by decide +kernel
theorem dX8_pours_47 : decode cX8_pours 47 = .ok (.ifCond .ne 18, 3) := by decide +kernel
theorem dX8_pours_50 : decode cX8_pours 50 = .ok (.aload_n 0, 1) := by decide +kernel
theorem dX8_pours_51 : decode cX8_pours 51 = .ok (.iload_n 3, 1) := by decide +kernel
theorem dX8_pours_52 : decode cX8_pours 52 = .ok (.iconst 1, 1) := by decide +kernel
theorem dX8_pours_53 : decode cX8_pours 53 = .ok (.invokevirtual 180, 3) := by decide +kernel
theorem dX8_pours_56 : decode cX8_pours 56 = .ok (.aload_n 0, 1) := by decide +kernel
theorem dX8_pours_57 : decode cX8_pours 57 = .ok (.iload_n 3, 1) := by decide +kernel
theorem dX8_pours_58 : decode cX8_pours 58 = .ok (.invokevirtual 229, 3) := by decide +kernel
theorem dX8_pours_61 : decode cX8_pours 61 = .ok (.isub, 1) := by decide +kernel
theorem dX8_pours_62 : decode cX8_pours 62 = .ok (.goto 4, 3) := by decide +kernel
theorem dX8_pours_65 : decode cX8_pours 65 = .ok (.iconst 0, 1) := by decide +kernel
theorem dX8_pours_66 : decode cX8_pours 66 = .ok (.istore 4, 2) := by decide +kernel
theorem dX8_pours_68 : decode cX8_pours 68 = .ok (.iconst 0, 1) := by decide +kernel
theorem dX8_pours_69 : decode cX8_pours 69 = .ok (.istore 5, 2) := by decide +kernel
theorem dX8_pours_71 : decode cX8_pours 71 = .ok (.iconst 0, 1) := by decide +kernel
theorem dX8_pours_72 : decode cX8_pours 72 = .ok (.istore 6, 2) := by decide +kernel
theorem dX8_pours_74 : decode cX8_pours 74 = .ok (.iload 6, 2) := by decide +kernel
theorem dX8_pours_76 : decode cX8_pours 76 = .ok (.aload_n 0, 1) := by decide +kernel
theorem dX8_pours_77 : decode cX8_pours 77 = .ok (.getfield 70, 3) := by decide +kernel
theorem dX8_pours_80 : decode cX8_pours 80 = .ok (.bipush 9, 2) := by decide +kernel
theorem dX8_pours_82 : decode cX8_pours 82 = .ok (.iaload, 1) := by decide +kernel
theorem dX8_pours_83 : decode cX8_pours 83 = .ok (.if_icmp .ge 89, 3) := by decide +kernel
theorem dX8_pours_86 : decode cX8_pours 86 = .ok (.aload_n 0, 1) := by decide +kernel
theorem dX8_pours_87 : decode cX8_pours 87 = .ok (.getfield 94, 3) := by decide +kernel
theorem dX8_pours_90 : decode cX8_pours 90 = .ok (.iload 6, 2) := by decide +kernel
theorem dX8_pours_92 : decode cX8_pours 92 = .ok (.iaload, 1) := by decide +kernel
theorem dX8_pours_93 : decode cX8_pours 93 = .ok (.iload_n 3, 1) := by decide +kernel
theorem dX8_pours_94 : decode cX8_pours 94 = .ok (.if_icmp .eq 6, 3) := by decide +kernel
theorem dX8_pours_97 : decode cX8_pours 97 = .ok (.goto 69, 3) := by decide +kernel
theorem dX8_pours_100 : decode cX8_pours 100 = .ok (.iload 4, 2) := by decide +kernel
theorem dX8_pours_102 : decode cX8_pours 102 = .ok (.aload_n 0, 1) := by decide +kernel
theorem dX8_pours_103 : decode cX8_pours 103 = .ok (.iload 6, 2) := by decide +kernel
theorem dX8_pours_105 : decode cX8_pours 105 = .ok (.invokevirtual 220, 3) := by decide +kernel
theorem dX8_pours_108 : decode cX8_pours 108 = .ok (.if_icmp .ge 8, 3) := by decide +kernel
theorem dX8_pours_111 : decode cX8_pours 111 = .ok (.iload 4, 2) := by decide +kernel
theorem dX8_pours_113 : decode cX8_pours 113 = .ok (.goto 9, 3) := by decide +kernel
theorem dX8_pours_116 : decode cX8_pours 116 = .ok (.aload_n 0, 1) := by decide +kernel
theorem dX8_pours_117 : decode cX8_pours 117 = .ok (.iload 6, 2) := by decide +kernel
theorem dX8_pours_119 : decode cX8_pours 119 = .ok (.invokevirtual 220, 3) := by decide +kernel
theorem dX8_pours_122 : decode cX8_pours 122 = .ok (.istore 7, 2) := by decide +kernel
theorem dX8_pours_124 : decode cX8_pours 124 = .ok (.iload 7, 2) := by decide +kernel
theorem dX8_pours_126 : decode cX8_pours 126 = .ok (.ifCond .eq 19, 3) := by decide +kernel
theorem dX8_pours_129 : decode cX8_pours 129 = .ok (.aload_n 0, 1) := by decide +kernel
theorem dX8_pours_130 : decode cX8_pours 130 = .ok (.iload 6, 2) := by decide +kernel
theorem dX8_pours_132 : decode cX8_pours 132 = .ok (.aload_n 0, 1) := by decide +kernel
theorem dX8_pours_133 : decode cX8_pours 133 = .ok (.iload_n 3, 1) := by decide +kernel
theorem dX8_pours_134 : decode cX8_pours 134 = .ok (.iconst 0, 1) := by decide +kernel
theorem dX8_pours_135 : decode cX8_pours 135 = .ok (.invokevirtual 180, 3) := by decide +kernel
theorem dX8_pours_138 : decode cX8_pours 138 = .ok (.iload_n 1, 1) := by decide +kernel
theorem dX8_pours_139 : decode cX8_pours 139 = .ok (.invokevirtual 235, 3) := by decide +kernel
theorem dX8_pours_142 : decode cX8_pours 142 = .ok (.ifCond .ne 5, 3) := by decide +kernel
theorem dX8_pours_145 : decode cX8_pours 145 = .ok (.iconst (-1), 1) := by decide +kernel
theorem dX8_pours_146 : decode cX8_pours 146 = .ok (.ireturn, 1) := by decide +kernel
theorem dX8_pours_147 : decode cX8_pours 147 = .ok (.aload_n 0, 1) := by decide +kernel
theorem dX8_pours_148 : decode cX8_pours 148 = .ok (.getfield 97, 3) := by decide +kernel
theorem dX8_pours_151 : decode cX8_pours 151 = .ok (.iload 6, 2) := by decide +kernel
theorem dX8_pours_153 : decode cX8_pours 153 = .ok (.iload 7, 2) := by decide +kernel
theorem dX8_pours_155 : decode cX8_pours 155 = .ok (.iastore, 1) := by decide +kernel
theorem dX8_pours_156 : decode cX8_pours 156 = .ok (.iload 4, 2) := by decide +kernel
theorem dX8_pours_158 : decode cX8_pours 158 = .ok (.iload 7, 2) := by decide +kernel
theorem dX8_pours_160 : decode cX8_pours 160 = .ok (.isub, 1) := by decide +kernel
theorem dX8_pours_161 : decode cX8_pours 161 = .ok (.istore 4, 2) := by decide +kernel
theorem dX8_pours_163 : decode cX8_pours 163 = .ok (.iconst 1, 1) := by decide +kernel
theorem dX8_pours_164 : decode cX8_pours 164 = .ok (.istore 5, 2) := by decide +kernel
theorem dX8_pours_166 : decode cX8_pours 166 = .ok (.iinc 6 1, 3) := by decide +kernel
theorem dX8_pours_169 : decode cX8_pours 169 = .ok (.goto (-95), 3) := by decide +kernel
theorem dX8_pours_172 : decode cX8_pours 172 = .ok (.iload 5, 2) := by decide +kernel
theorem dX8_pours_174 : decode cX8_pours 174 = .ok (.ifCond .eq 10, 3) := by decide +kernel
theorem dX8_pours_177 : decode cX8_pours 177 = .ok (.iload 4, 2) := by decide +kernel
theorem dX8_pours_179 : decode cX8_pours 179 = .ok (.ifCond .le 5, 3) := by decide +kernel
theorem dX8_pours_182 : decode cX8_pours 182 = .ok (.iconst (-1), 1) := by decide +kernel
theorem dX8_pours_183 : decode cX8_pours 183 = .ok (.ireturn, 1) := by decide +kernel
theorem dX8_pours_184 : decode cX8_pours 184 = .ok (.iload 5, 2) := by decide +kernel
theorem dX8_pours_186 : decode cX8_pours 186 = .ok (.ifCond .eq 9, 3) := by decide +kernel
theorem dX8_pours_189 : decode cX8_pours 189 = .ok (.iload_n 2, 1) := by decide +kernel
theorem dX8_pours_190 : decode cX8_pours 190 = .ok (.iconst 1, 1) := by decide +kernel
end
section
theorem dX8_pours_191 : decode cX8_pours 191 = .ok (.iload_n 3, 1) := by decide +kernel
theorem dX8_pours_192 : decode cX8_pours 192 = .ok (.ishl, 1) := by decide +kernel
theorem dX8_pours_193 : decode cX8_pours 193 = .ok (.ior, 1) := by decide +kernel
theorem dX8_pours_194 : decode cX8_pours 194 = .ok (.istore_n 2, 1) := by decide +kernel
theorem dX8_pours_195 : decode cX8_pours 195 = .ok (.iinc 3 1, 3) := by decide +kernel
theorem dX8_pours_198 : decode cX8_pours 198 = .ok (.goto (-168), 3) := by decide +kernel
theorem dX8_pours_201 : decode cX8_pours 201 = .ok (.iload_n 2, 1) := by decide +kernel
theorem dX8_pours_202 : decode cX8_pours 202 = .ok (.ireturn, 1) := by decide +kernel
theorem dX8_looks_0 : decode cX8_looks 0 = .ok (.aload_n 0, 1) := by decide +kernel
theorem dX8_looks_1 : decode cX8_looks 1 = .ok (.iload_n 1, 1) := by decide +kernel
theorem dX8_looks_2 : decode cX8_looks 2 = .ok (.invokevirtual 244, 3) := by decide +kernel
theorem dX8_looks_5 : decode cX8_looks 5 = .ok (.istore_n 2, 1) := by decide +kernel
theorem dX8_looks_6 : decode cX8_looks 6 = .ok (.iload_n 2, 1) := by decide +kernel
theorem dX8_looks_7 : decode cX8_looks 7 = .ok (.iconst (-1), 1) := by decide +kernel
theorem dX8_looks_8 : decode cX8_looks 8 = .ok (.if_icmp .ne 4, 3) := by decide +kernel
theorem dX8_looks_11 : decode cX8_looks 11 = .ok (.return_, 1) := by decide +kernel
theorem dX8_looks_12 : decode cX8_looks 12 = .ok (.iconst 0, 1) := by decide +kernel
theorem dX8_looks_13 : decode cX8_looks 13 = .ok (.istore_n 3, 1) := by decide +kernel
theorem dX8_looks_14 : decode cX8_looks 14 = .ok (.iconst 0, 1) := by decide +kernel
theorem dX8_looks_15 : decode cX8_looks 15 = .ok (.istore 4, 2) := by decide +kernel
theorem dX8_looks_17 : decode cX8_looks 17 = .ok (.iload 4, 2) := by decide +kernel
theorem dX8_looks_19 : decode cX8_looks 19 = .ok (.bipush 20, 2) := by decide +kernel
theorem dX8_looks_21 : decode cX8_looks 21 = .ok (.if_icmp .ge 21, 3) := by decide +kernel
theorem dX8_looks_24 : decode cX8_looks 24 = .ok (.iload_n 2, 1) := by decide +kernel
theorem dX8_looks_25 : decode cX8_looks 25 = .ok (.iload 4, 2) := by decide +kernel
theorem dX8_looks_27 : decode cX8_looks 27 = .ok (.invokestatic 183, 3) := by decide +kernel
theorem dX8_looks_30 : decode cX8_looks 30 = .ok (.ifCond .eq 6, 3) := by decide +kernel
theorem dX8_looks_33 : decode cX8_looks 33 = .ok (.iinc 3 1, 3) := by decide +kernel
theorem dX8_looks_36 : decode cX8_looks 36 = .ok (.iinc 4 1, 3) := by decide +kernel
theorem dX8_looks_39 : decode cX8_looks 39 = .ok (.goto (-22), 3) := by decide +kernel
theorem dX8_looks_42 : decode cX8_looks 42 = .ok (.iconst 0, 1) := by decide +kernel
theorem dX8_looks_43 : decode cX8_looks 43 = .ok (.istore 4, 2) := by decide +kernel
theorem dX8_looks_45 : decode cX8_looks 45 = .ok (.aload_n 0, 1) := by decide +kernel
theorem dX8_looks_46 : decode cX8_looks 46 = .ok (.invokevirtual 209, 3) := by decide +kernel
theorem dX8_looks_49 : decode cX8_looks 49 = .ok (.iconst 0, 1) := by decide +kernel
theorem dX8_looks_50 : decode cX8_looks 50 = .ok (.istore 5, 2) := by decide +kernel
theorem dX8_looks_52 : decode cX8_looks 52 = .ok (.iload 5, 2) := by decide +kernel
theorem dX8_looks_54 : decode cX8_looks 54 = .ok (.aload_n 0, 1) := by decide +kernel
theorem dX8_looks_55 : decode cX8_looks 55 = .ok (.getfield 70, 3) := by decide +kernel
theorem dX8_looks_58 : decode cX8_looks 58 = .ok (.bipush 9, 2) := by decide +kernel
theorem dX8_looks_60 : decode cX8_looks 60 = .ok (.iaload, 1) := by decide +kernel
theorem dX8_looks_61 : decode cX8_looks 61 = .ok (.if_icmp .ge 73, 3) := by decide +kernel
theorem dX8_looks_64 : decode cX8_looks 64 = .ok (.aload_n 0, 1) := by decide +kernel
theorem dX8_looks_65 : decode cX8_looks 65 = .ok (.getfield 94, 3) := by decide +kernel
theorem dX8_looks_68 : decode cX8_looks 68 = .ok (.iload 5, 2) := by decide +kernel
theorem dX8_looks_70 : decode cX8_looks 70 = .ok (.iaload, 1) := by decide +kernel
theorem dX8_looks_71 : decode cX8_looks 71 = .ok (.iconst (-1), 1) := by decide +kernel
theorem dX8_looks_72 : decode cX8_looks 72 = .ok (.if_icmp .ne 6, 3) := by decide +kernel
theorem dX8_looks_75 : decode cX8_looks 75 = .ok (.goto 53, 3) := by decide +kernel
theorem dX8_looks_78 : decode cX8_looks 78 = .ok (.iinc 4 1, 3) := by decide +kernel
theorem dX8_looks_81 : decode cX8_looks 81 = .ok (.aload_n 0, 1) := by decide +kernel
theorem dX8_looks_82 : decode cX8_looks 82 = .ok (.getfield 79, 3) := by decide +kernel
theorem dX8_looks_85 : decode cX8_looks 85 = .ok (.iload 5, 2) := by decide +kernel
theorem dX8_looks_87 : decode cX8_looks 87 = .ok (.aload_n 0, 1) := by decide +kernel
theorem dX8_looks_88 : decode cX8_looks 88 = .ok (.getfield 97, 3) := by decide +kernel
theorem dX8_looks_91 : decode cX8_looks 91 = .ok (.iload 5, 2) := by decide +kernel
theorem dX8_looks_93 : decode cX8_looks 93 = .ok (.iaload, 1) := by decide +kernel
theorem dX8_looks_94 : decode cX8_looks 94 = .ok (.iastore, 1) := by decide +kernel
theorem dX8_looks_95 : decode cX8_looks 95 = .ok (.aload_n 0, 1) := by decide +kernel
theorem dX8_looks_96 : decode cX8_looks 96 = .ok (.getfield 85, 3) := by decide +kernel
theorem dX8_looks_99 : decode cX8_looks 99 = .ok (.iload 5, 2) := by decide +kernel
theorem dX8_looks_101 : decode cX8_looks 101 = .ok (.aload_n 0, 1) := by decide +kernel
theorem dX8_looks_102 : decode cX8_looks 102 = .ok (.getfield 94, 3) := by decide +kernel
theorem dX8_looks_105 : decode cX8_looks 105 = .ok (.iload 5, 2) := by decide +kernel
theorem dX8_looks_107 : decode cX8_looks 107 = .ok (.iaload, 1) := by decide +kernel
theorem dX8_looks_108 : decode cX8_looks 108 = .ok (.iastore, 1) := by decide +kernel
theorem dX8_looks_109 : decode cX8_looks 109 = .ok (.aload_n 0, 1) := by decide +kernel
theorem dX8_looks_110 : decode cX8_looks 110 = .ok (.getfield 82, 3) := by decide +kernel
theorem dX8_looks_113 : decode cX8_looks 113 = .ok (.iload 5, 2) := by decide +kernel
theorem dX8_looks_115 : decode cX8_looks 115 = .ok (.aload_n 0, 1) := by decide +kernel
theorem dX8_looks_116 : decode cX8_looks 116 = .ok (.aload_n 0, 1) := by decide +kernel
theorem dX8_looks_117 : decode cX8_looks 117 = .ok (.getfield 94, 3) := by decide +kernel
theorem dX8_looks_120 : decode cX8_looks 120 = .ok (.iload 5, 2) := by decide +kernel
theorem dX8_looks_122 : decode cX8_looks 122 = .ok (.iaload, 1) := by decide +kernel
theorem dX8_looks_123 : decode cX8_looks 123 = .ok (.iconst 0, 1) := by decide +kernel
theorem dX8_looks_124 : decode cX8_looks 124 = .ok (.invokevirtual 180, 3) := by decide +kernel
theorem dX8_looks_127 : decode cX8_looks 127 = .ok (.iastore, 1) := by decide +kernel
theorem dX8_looks_128 : decode cX8_looks 128 = .ok (.iinc 5 1, 3) := by decide +kernel
theorem dX8_looks_131 : decode cX8_looks 131 = .ok (.goto (-79), 3) := by decide +kernel
theorem dX8_looks_134 : decode cX8_looks 134 = .ok (.iload_n 3, 1) := by decide +kernel
theorem dX8_looks_135 : decode cX8_looks 135 = .ok (.aload_n 0, 1) := by decide +kernel
theorem dX8_looks_136 : decode cX8_looks 136 = .ok (.getfield 247, 3) := by decide +kernel
theorem dX8_looks_139 : decode cX8_looks 139 = .ok (.if_icmp .lt 20, 3) := by decide +kernel
theorem dX8_looks_142 : decode cX8_looks 142 = .ok (.iload_n 3, 1) := by decide +kernel
theorem dX8_looks_143 : decode cX8_looks 143 = .ok (.aload_n 0, 1) := by decide +kernel
theorem dX8_looks_144 : decode cX8_looks 144 = .ok (.getfield 247, 3) := by decide +kernel
theorem dX8_looks_147 : decode cX8_looks 147 = .ok (.if_icmp .ne 13, 3) := by decide +kernel
theorem dX8_looks_150 : decode cX8_looks 150 = .ok (.iload 4, 2) := by decide +kernel
theorem dX8_looks_152 : decode cX8_looks 152 = .ok (.aload_n 0, 1) := by decide +kernel
theorem dX8_looks_153 : decode cX8_looks 153 = .ok (.getfield 250, 3) := by decide +kernel
theorem dX8_looks_156 : decode cX8_looks 156 = .ok (.if_icmp .lt 4, 3) := by decide +kernel
theorem dX8_looks_159 : decode cX8_looks 159 = .ok (.return_, 1) := by decide +kernel
theorem dX8_looks_160 : decode cX8_looks 160 = .ok (.aload_n 0, 1) := by decide +kernel
theorem dX8_looks_161 : decode cX8_looks 161 = .ok (.iconst 0, 1) := by decide +kernel
theorem dX8_looks_162 : decode cX8_looks 162 = .ok (.invokevirtual 202, 3) := by decide +kernel
theorem dX8_looks_165 : decode cX8_looks 165 = .ok (.ifCond .ne 16, 3) := by decide +kernel
theorem dX8_looks_168 : decode cX8_looks 168 = .ok (.aload_n 0, 1) := by decide +kernel
theorem dX8_looks_169 : decode cX8_looks 169 = .ok (.aload_n 0, 1) := by decide +kernel
theorem dX8_looks_170 : decode cX8_looks 170 = .ok (.invokevirtual 238, 3) := by decide +kernel
theorem dX8_looks_173 : decode cX8_looks 173 = .ok (.iload_n 2, 1) := by decide +kernel
theorem dX8_looks_174 : decode cX8_looks 174 = .ok (.ior, 1) := by decide +kernel
theorem dX8_looks_175 : decode cX8_looks 175 = .ok (.invokevirtual 241, 3) := by decide +kernel
theorem dX8_looks_178 : decode cX8_looks 178 = .ok (.ifCond .ne 4, 3) := by decide +kernel
theorem dX8_looks_181 : decode cX8_looks 181 = .ok (.return_, 1) := by decide +kernel
theorem dX8_looks_182 : decode cX8_looks 182 = .ok (.aload_n 0, 1) := by decide +kernel
theorem dX8_looks_183 : decode cX8_looks 183 = .ok (.iload_n 3, 1) := by decide +kernel
theorem dX8_looks_184 : decode cX8_looks 184 = .ok (.putfield 247, 3) := by decide +kernel
theorem dX8_looks_187 : decode cX8_looks 187 = .ok (.aload_n 0, 1) := by decide +kernel
theorem dX8_looks_188 : decode cX8_looks 188 = .ok (.iload 4, 2) := by decide +kernel
theorem dX8_looks_190 : decode cX8_looks 190 = .ok (.putfield 250, 3) := by decide +kernel
theorem dX8_looks_193 : decode cX8_looks 193 = .ok (.iconst 0, 1) := by decide +kernel
theorem dX8_looks_194 : decode cX8_looks 194 = .ok (.istore 5, 2) := by decide +kernel
theorem dX8_looks_196 : decode cX8_looks 196 = .ok (.iload 5, 2) := by decide +kernel
theorem dX8_looks_198 : decode cX8_looks 198 = .ok (.iconst 5, 1) := by decide +kernel
theorem dX8_looks_199 : decode cX8_looks 199 = .ok (.if_icmp .ge 37, 3) := by decide +kernel
theorem dX8_looks_202 : decode cX8_looks 202 = .ok (.aload_n 0, 1) := by decide +kernel
theorem dX8_looks_203 : decode cX8_looks 203 = .ok (.getfield 100, 3) := by decide +kernel
theorem dX8_looks_206 : decode cX8_looks 206 = .ok (.iload 5, 2) := by decide +kernel
theorem dX8_looks_208 : decode cX8_looks 208 = .ok (.aload_n 0, 1) := by decide +kernel
theorem dX8_looks_209 : decode cX8_looks 209 = .ok (.getfield 94, 3) := by decide +kernel
theorem dX8_looks_212 : decode cX8_looks 212 = .ok (.iload 5, 2) := by decide +kernel
theorem dX8_looks_214 : decode cX8_looks 214 = .ok (.iaload, 1) := by decide +kernel
theorem dX8_looks_215 : decode cX8_looks 215 = .ok (.iastore, 1) := by decide +kernel
theorem dX8_looks_216 : decode cX8_looks 216 = .ok (.aload_n 0, 1) := by decide +kernel
theorem dX8_looks_217 : decode cX8_looks 217 = .ok (.getfield 103, 3) := by decide +kernel
theorem dX8_looks_220 : decode cX8_looks 220 = .ok (.iload 5, 2) := by decide +kernel
theorem dX8_looks_222 : decode cX8_looks 222 = .ok (.aload_n 0, 1) := by decide +kernel
theorem dX8_looks_223 : decode cX8_looks 223 = .ok (.getfield 97, 3) := by decide +kernel
theorem dX8_looks_226 : decode cX8_looks 226 = .ok (.iload 5, 2) := by decide +kernel
theorem dX8_looks_228 : decode cX8_looks 228 = .ok (.iaload, 1) := by decide +kernel
theorem dX8_looks_229 : decode cX8_looks 229 = .ok (.iastore, 1) := by decide +kernel
theorem dX8_looks_230 : decode cX8_looks 230 = .ok (.iinc 5 1, 3) := by decide +kernel
theorem dX8_looks_233 : decode cX8_looks 233 = .ok (.goto (-37), 3) := by decide +kernel
theorem dX8_looks_236 : decode cX8_looks 236 = .ok (.return_, 1) := by decide +kernel
theorem dX8_tries_0 : decode cX8_tries 0 = .ok (.iload_n 1, 1) := by decide +kernel
theorem dX8_tries_1 : decode cX8_tries 1 = .ok (.aload_n 0, 1) := by decide +kernel
theorem dX8_tries_2 : decode cX8_tries 2 = .ok (.getfield 70, 3) := by decide +kernel
theorem dX8_tries_5 : decode cX8_tries 5 = .ok (.bipush 9, 2) := by decide +kernel
theorem dX8_tries_7 : decode cX8_tries 7 = .ok (.iaload, 1) := by decide +kernel
theorem dX8_tries_8 : decode cX8_tries 8 = .ok (.if_icmp .ne 9, 3) := by decide +kernel
theorem dX8_tries_11 : decode cX8_tries 11 = .ok (.aload_n 0, 1) := by decide +kernel
theorem dX8_tries_12 : decode cX8_tries 12 = .ok (.iload_n 2, 1) := by decide +kernel
theorem dX8_tries_13 : decode cX8_tries 13 = .ok (.invokevirtual 253, 3) := by decide +kernel
theorem dX8_tries_16 : decode cX8_tries 16 = .ok (.return_, 1) := by decide +kernel
theorem dX8_tries_17 : decode cX8_tries 17 = .ok (.iconst 0, 1) := by decide +kernel
theorem dX8_tries_18 : decode cX8_tries 18 = .ok (.istore_n 3, 1) := by decide +kernel
theorem dX8_tries_19 : decode cX8_tries 19 = .ok (.iload_n 3, 1) := by decide +kernel
theorem dX8_tries_20 : decode cX8_tries 20 = .ok (.aload_n 0, 1) := by decide +kernel
theorem dX8_tries_21 : decode cX8_tries 21 = .ok (.getfield 70, 3) := by decide +kernel
theorem dX8_tries_24 : decode cX8_tries 24 = .ok (.bipush 13, 2) := by decide +kernel
theorem dX8_tries_26 : decode cX8_tries 26 = .ok (.iaload, 1) := by decide +kernel
theorem dX8_tries_27 : decode cX8_tries 27 = .ok (.if_icmp .ge 45, 3) := by decide +kernel
theorem dX8_tries_30 : decode cX8_tries 30 = .ok (.aload_n 0, 1) := by decide +kernel
theorem dX8_tries_31 : decode cX8_tries 31 = .ok (.iload_n 1, 1) := by decide +kernel
theorem dX8_tries_32 : decode cX8_tries 32 = .ok (.iconst 4, 1) := by decide +kernel
theorem dX8_tries_33 : decode cX8_tries 33 = .ok (.invokevirtual 176, 3) := by decide +kernel
theorem dX8_tries_36 : decode cX8_tries 36 = .ok (.ifCond .ne 36, 3) := by decide +kernel
theorem dX8_tries_39 : decode cX8_tries 39 = .ok (.aload_n 0, 1) := by decide +kernel
theorem dX8_tries_40 : decode cX8_tries 40 = .ok (.iload_n 3, 1) := by decide +kernel
theorem dX8_tries_41 : decode cX8_tries 41 = .ok (.iconst 2, 1) := by decide +kernel
theorem dX8_tries_42 : decode cX8_tries 42 = .ok (.invokevirtual 180, 3) := by decide +kernel
theorem dX8_tries_45 : decode cX8_tries 45 = .ok (.ifCond .eq 6, 3) := by decide +kernel
theorem dX8_tries_48 : decode cX8_tries 48 = .ok (.goto 18, 3) := by decide +kernel
theorem dX8_tries_51 : decode cX8_tries 51 = .ok (.aload_n 0, 1) := by decide +kernel
theorem dX8_tries_52 : decode cX8_tries 52 = .ok (.getfield 94, 3) := by decide +kernel
theorem dX8_tries_55 : decode cX8_tries 55 = .ok (.iload_n 1, 1) := by decide +kernel
theorem dX8_tries_56 : decode cX8_tries 56 = .ok (.iload_n 3, 1) := by decide +kernel
theorem dX8_tries_57 : decode cX8_tries 57 = .ok (.iastore, 1) := by decide +kernel
theorem dX8_tries_58 : decode cX8_tries 58 = .ok (.aload_n 0, 1) := by decide +kernel
theorem dX8_tries_59 : decode cX8_tries 59 = .ok (.iload_n 1, 1) := by decide +kernel
theorem dX8_tries_60 : decode cX8_tries 60 = .ok (.iconst 1, 1) := by decide +kernel
theorem dX8_tries_61 : decode cX8_tries 61 = .ok (.iadd, 1) := by decide +kernel
theorem dX8_tries_62 : decode cX8_tries 62 = .ok (.iload_n 2, 1) := by decide +kernel
theorem dX8_tries_63 : decode cX8_tries 63 = .ok (.invokevirtual 256, 3) := by decide +kernel
theorem dX8_tries_66 : decode cX8_tries 66 = .ok (.iinc 3 1, 3) := by decide +kernel
theorem dX8_tries_69 : decode cX8_tries 69 = .ok (.goto (-50), 3) := by decide +kernel
theorem dX8_tries_72 : decode cX8_tries 72 = .ok (.aload_n 0, 1) := by decide +kernel
theorem dX8_tries_73 : decode cX8_tries 73 = .ok (.getfield 94, 3) := by decide +kernel
theorem dX8_tries_76 : decode cX8_tries 76 = .ok (.iload_n 1, 1) := by decide +kernel
theorem dX8_tries_77 : decode cX8_tries 77 = .ok (.iconst (-1), 1) := by decide +kernel
theorem dX8_tries_78 : decode cX8_tries 78 = .ok (.iastore, 1) := by decide +kernel
theorem dX8_tries_79 : decode cX8_tries 79 = .ok (.aload_n 0, 1) := by decide +kernel
theorem dX8_tries_80 : decode cX8_tries 80 = .ok (.iload_n 1, 1) := by decide +kernel
theorem dX8_tries_81 : decode cX8_tries 81 = .ok (.iconst 1, 1) := by decide +kernel
theorem dX8_tries_82 : decode cX8_tries 82 = .ok (.iadd, 1) := by decide +kernel
theorem dX8_tries_83 : decode cX8_tries 83 = .ok (.iload_n 2, 1) := by decide +kernel
theorem dX8_tries_84 : decode cX8_tries 84 = .ok (.invokevirtual 256, 3) := by decide +kernel
theorem dX8_tries_87 : decode cX8_tries 87 = .ok (.return_, 1) := by decide +kernel
theorem dX8_laysPlan_0 : decode cX8_laysPlan 0 = .ok (.aload_n 0, 1) := by decide +kernel
theorem dX8_laysPlan_1 : decode cX8_laysPlan 1 = .ok (.iconst (-1), 1) := by decide +kernel
theorem dX8_laysPlan_2 : decode cX8_laysPlan 2 = .ok (.putfield 247, 3) := by decide +kernel
theorem dX8_laysPlan_5 : decode cX8_laysPlan 5 = .ok (.aload_n 0, 1) := by decide +kernel
theorem dX8_laysPlan_6 : decode cX8_laysPlan 6 = .ok (.iconst 0, 1) := by decide +kernel
theorem dX8_laysPlan_7 : decode cX8_laysPlan 7 = .ok (.putfield 250, 3) := by decide +kernel
theorem dX8_laysPlan_10 : decode cX8_laysPlan 10 = .ok (.iconst 0, 1) := by decide +kernel
theorem dX8_laysPlan_11 : decode cX8_laysPlan 11 = .ok (.istore_n 2, 1) := by decide +kernel
theorem dX8_laysPlan_12 : decode cX8_laysPlan 12 = .ok (.iload_n 2, 1) := by decide +kernel
theorem dX8_laysPlan_13 : decode cX8_laysPlan 13 = .ok (.iconst 5, 1) := by decide +kernel
theorem dX8_laysPlan_14 : decode cX8_laysPlan 14 = .ok (.if_icmp .ge 30, 3) := by decide +kernel
theorem dX8_laysPlan_17 : decode cX8_laysPlan 17 = .ok (.aload_n 0, 1) := by decide +kernel
theorem dX8_laysPlan_18 : decode cX8_laysPlan 18 = .ok (.getfield 94, 3) := by decide +kernel
theorem dX8_laysPlan_21 : decode cX8_laysPlan 21 = .ok (.iload_n 2, 1) := by decide +kernel
theorem dX8_laysPlan_22 : decode cX8_laysPlan 22 = .ok (.iconst (-1), 1) := by decide +kernel
theorem dX8_laysPlan_23 : decode cX8_laysPlan 23 = .ok (.iastore, 1) := by decide +kernel
theorem dX8_laysPlan_24 : decode cX8_laysPlan 24 = .ok (.aload_n 0, 1) := by decide +kernel
theorem dX8_laysPlan_25 : decode cX8_laysPlan 25 = .ok (.getfield 100, 3) := by decide +kernel
theorem dX8_laysPlan_28 : decode cX8_laysPlan 28 = .ok (.iload_n 2, 1) := by decide +kernel
theorem dX8_laysPlan_29 : decode cX8_laysPlan 29 = .ok (.iconst (-1), 1) := by decide +kernel
theorem dX8_laysPlan_30 : decode cX8_laysPlan 30 = .ok (.iastore, 1) := by decide +kernel
theorem dX8_laysPlan_31 : decode cX8_laysPlan 31 = .ok (.aload_n 0, 1) := by decide +kernel
theorem dX8_laysPlan_32 : decode cX8_laysPlan 32 = .ok (.getfield 103, 3) := by decide +kernel
theorem dX8_laysPlan_35 : decode cX8_laysPlan 35 = .ok (.iload_n 2, 1) := by decide +kernel
theorem dX8_laysPlan_36 : decode cX8_laysPlan 36 = .ok (.iconst 0, 1) := by decide +kernel
theorem dX8_laysPlan_37 : decode cX8_laysPlan 37 = .ok (.iastore, 1) := by decide +kernel
theorem dX8_laysPlan_38 : decode cX8_laysPlan 38 = .ok (.iinc 2 1, 3) := by decide +kernel
theorem dX8_laysPlan_41 : decode cX8_laysPlan 41 = .ok (.goto (-29), 3) := by decide +kernel
theorem dX8_laysPlan_44 : decode cX8_laysPlan 44 = .ok (.aload_n 0, 1) := by decide +kernel
theorem dX8_laysPlan_45 : decode cX8_laysPlan 45 = .ok (.iconst 0, 1) := by decide +kernel
theorem dX8_laysPlan_46 : decode cX8_laysPlan 46 = .ok (.iload_n 1, 1) := by decide +kernel
theorem dX8_laysPlan_47 : decode cX8_laysPlan 47 = .ok (.invokevirtual 256, 3) := by decide +kernel
theorem dX8_laysPlan_50 : decode cX8_laysPlan 50 = .ok (.return_, 1) := by decide +kernel
theorem dX8_plan_0 : decode cX8_plan 0 = .ok (.aload_n 0, 1) := by decide +kernel
theorem dX8_plan_1 : decode cX8_plan 1 = .ok (.iconst 0, 1) := by decide +kernel
theorem dX8_plan_2 : decode cX8_plan 2 = .ok (.putfield 1, 3) := by decide +kernel
theorem dX8_plan_5 : decode cX8_plan 5 = .ok (.iload_n 1, 1) := by decide +kernel
theorem dX8_plan_6 : decode cX8_plan 6 = .ok (.bipush 20, 2) := by decide +kernel
theorem dX8_plan_8 : decode cX8_plan 8 = .ok (.if_icmp .lt 10, 3) := by decide +kernel
theorem dX8_plan_11 : decode cX8_plan 11 = .ok (.iload_n 1, 1) := by decide +kernel
theorem dX8_plan_12 : decode cX8_plan 12 = .ok (.bipush 20, 2) := by decide +kernel
theorem dX8_plan_14 : decode cX8_plan 14 = .ok (.isub, 1) := by decide +kernel
theorem dX8_plan_15 : decode cX8_plan 15 = .ok (.goto 7, 3) := by decide +kernel
theorem dX8_plan_18 : decode cX8_plan 18 = .ok (.iload_n 1, 1) := by decide +kernel
theorem dX8_plan_19 : decode cX8_plan 19 = .ok (.bipush 10, 2) := by decide +kernel
theorem dX8_plan_21 : decode cX8_plan 21 = .ok (.isub, 1) := by decide +kernel
theorem dX8_plan_22 : decode cX8_plan 22 = .ok (.istore_n 2, 1) := by decide +kernel
theorem dX8_plan_23 : decode cX8_plan 23 = .ok (.iload_n 1, 1) := by decide +kernel
theorem dX8_plan_24 : decode cX8_plan 24 = .ok (.iconst 0, 1) := by decide +kernel
theorem dX8_plan_25 : decode cX8_plan 25 = .ok (.iconst 1, 1) := by decide +kernel
theorem dX8_plan_26 : decode cX8_plan 26 = .ok (.invokestatic 109, 3) := by decide +kernel
theorem dX8_plan_29 : decode cX8_plan 29 = .ok (.ifCond .ne 23, 3) := by decide +kernel
theorem dX8_plan_32 : decode cX8_plan 32 = .ok (.iload_n 2, 1) := by decide +kernel
theorem dX8_plan_33 : decode cX8_plan 33 = .ok (.iconst 0, 1) := by decide +kernel
theorem dX8_plan_34 : decode cX8_plan 34 = .ok (.bipush 9, 2) := by decide +kernel
theorem dX8_plan_36 : decode cX8_plan 36 = .ok (.invokestatic 109, 3) := by decide +kernel
theorem dX8_plan_39 : decode cX8_plan 39 = .ok (.ifCond .eq 11, 3) := by decide +kernel
theorem dX8_plan_42 : decode cX8_plan 42 = .ok (.aload_n 0, 1) := by decide +kernel
theorem dX8_plan_43 : decode cX8_plan 43 = .ok (.iload_n 2, 1) := by decide +kernel
theorem dX8_plan_44 : decode cX8_plan 44 = .ok (.invokevirtual 217, 3) := by decide +kernel
theorem dX8_plan_47 : decode cX8_plan 47 = .ok (.ifCond .ne 5, 3) := by decide +kernel
theorem dX8_plan_50 : decode cX8_plan 50 = .ok (.iconst (-1), 1) := by decide +kernel
theorem dX8_plan_51 : decode cX8_plan 51 = .ok (.ireturn, 1) := by decide +kernel
theorem dX8_plan_52 : decode cX8_plan 52 = .ok (.aload_n 0, 1) := by decide +kernel
theorem dX8_plan_53 : decode cX8_plan 53 = .ok (.iconst 0, 1) := by decide +kernel
theorem dX8_plan_54 : decode cX8_plan 54 = .ok (.invokevirtual 260, 3) := by decide +kernel
theorem dX8_plan_57 : decode cX8_plan 57 = .ok (.aload_n 0, 1) := by decide +kernel
theorem dX8_plan_58 : decode cX8_plan 58 = .ok (.getfield 247, 3) := by decide +kernel
theorem dX8_plan_61 : decode cX8_plan 61 = .ok (.iconst (-1), 1) := by decide +kernel
theorem dX8_plan_62 : decode cX8_plan 62 = .ok (.if_icmp .ne 6, 3) := by decide +kernel
theorem dX8_plan_65 : decode cX8_plan 65 = .ok (.bipush (-2), 2) := by decide +kernel
theorem dX8_plan_67 : decode cX8_plan 67 = .ok (.ireturn, 1) := by decide +kernel
theorem dX8_plan_68 : decode cX8_plan 68 = .ok (.iload_n 1, 1) := by decide +kernel
theorem dX8_plan_69 : decode cX8_plan 69 = .ok (.ifCond .ne 10, 3) := by decide +kernel
theorem dX8_plan_72 : decode cX8_plan 72 = .ok (.aload_n 0, 1) := by decide +kernel
theorem dX8_plan_73 : decode cX8_plan 73 = .ok (.getfield 247, 3) := by decide +kernel
theorem dX8_plan_76 : decode cX8_plan 76 = .ok (.goto 36, 3) := by decide +kernel
theorem dX8_plan_79 : decode cX8_plan 79 = .ok (.iload_n 1, 1) := by decide +kernel
theorem dX8_plan_80 : decode cX8_plan 80 = .ok (.iconst 1, 1) := by decide +kernel
theorem dX8_plan_81 : decode cX8_plan 81 = .ok (.if_icmp .ne 10, 3) := by decide +kernel
theorem dX8_plan_84 : decode cX8_plan 84 = .ok (.aload_n 0, 1) := by decide +kernel
theorem dX8_plan_85 : decode cX8_plan 85 = .ok (.getfield 250, 3) := by decide +kernel
theorem dX8_plan_88 : decode cX8_plan 88 = .ok (.goto 24, 3) := by decide +kernel
theorem dX8_plan_91 : decode cX8_plan 91 = .ok (.iload_n 1, 1) := by decide +kernel
theorem dX8_plan_92 : decode cX8_plan 92 = .ok (.bipush 20, 2) := by decide +kernel
theorem dX8_plan_94 : decode cX8_plan 94 = .ok (.if_icmp .ge 12, 3) := by decide +kernel
theorem dX8_plan_97 : decode cX8_plan 97 = .ok (.aload_n 0, 1) := by decide +kernel
theorem dX8_plan_98 : decode cX8_plan 98 = .ok (.getfield 100, 3) := by decide +kernel
theorem dX8_plan_101 : decode cX8_plan 101 = .ok (.iload_n 2, 1) := by decide +kernel
theorem dX8_plan_102 : decode cX8_plan 102 = .ok (.iaload, 1) := by decide +kernel
theorem dX8_plan_103 : decode cX8_plan 103 = .ok (.goto 9, 3) := by decide +kernel
theorem dX8_plan_106 : decode cX8_plan 106 = .ok (.aload_n 0, 1) := by decide +kernel
theorem dX8_plan_107 : decode cX8_plan 107 = .ok (.getfield 103, 3) := by decide +kernel
theorem dX8_plan_110 : decode cX8_plan 110 = .ok (.iload_n 2, 1) := by decide +kernel
theorem dX8_plan_111 : decode cX8_plan 111 = .ok (.iaload, 1) := by decide +kernel
theorem dX8_plan_112 : decode cX8_plan 112 = .ok (.ireturn, 1) := by decide +kernel
theorem dX8_washes_0 : decode cX8_washes 0 = .ok (.aload_n 0, 1) := by decide +kernel
theorem dX8_washes_1 : decode cX8_washes 1 = .ok (.iconst 0, 1) := by decide +kernel
theorem dX8_washes_2 : decode cX8_washes 2 = .ok (.putfield 1, 3) := by decide +kernel
theorem dX8_washes_5 : decode cX8_washes 5 = .ok (.iconst 0, 1) := by decide +kernel
theorem dX8_washes_6 : decode cX8_washes 6 = .ok (.istore_n 1, 1) := by decide +kernel
theorem dX8_washes_7 : decode cX8_washes 7 = .ok (.iconst 0, 1) := by decide +kernel
theorem dX8_washes_8 : decode cX8_washes 8 = .ok (.istore_n 2, 1) := by decide +kernel
theorem dX8_washes_9 : decode cX8_washes 9 = .ok (.iload_n 2, 1) := by decide +kernel
theorem dX8_washes_10 : decode cX8_washes 10 = .ok (.aload_n 0, 1) := by decide +kernel
theorem dX8_washes_11 : decode cX8_washes 11 = .ok (.getfield 70, 3) := by decide +kernel
theorem dX8_washes_14 : decode cX8_washes 14 = .ok (.bipush 9, 2) := by decide +kernel
theorem dX8_washes_16 : decode cX8_washes 16 = .ok (.iaload, 1) := by decide +kernel
theorem dX8_washes_17 : decode cX8_washes 17 = .ok (.if_icmp .ge 24, 3) := by decide +kernel
theorem dX8_washes_20 : decode cX8_washes 20 = .ok (.aload_n 0, 1) := by decide +kernel
theorem dX8_washes_21 : decode cX8_washes 21 = .ok (.iload_n 2, 1) := by decide +kernel
theorem dX8_washes_22 : decode cX8_washes 22 = .ok (.iconst 4, 1) := by decide +kernel
theorem dX8_washes_23 : decode cX8_washes 23 = .ok (.invokevirtual 176, 3) := by decide +kernel
theorem dX8_washes_26 : decode cX8_washes 26 = .ok (.ifCond .ne 9, 3) := by decide +kernel
theorem dX8_washes_29 : decode cX8_washes 29 = .ok (.iload_n 1, 1) := by decide +kernel
theorem dX8_washes_30 : decode cX8_washes 30 = .ok (.iconst 1, 1) := by decide +kernel
theorem dX8_washes_31 : decode cX8_washes 31 = .ok (.iload_n 2, 1) := by decide +kernel
theorem dX8_washes_32 : decode cX8_washes 32 = .ok (.ishl, 1) := by decide +kernel
theorem dX8_washes_33 : decode cX8_washes 33 = .ok (.ior, 1) := by decide +kernel
theorem dX8_washes_34 : decode cX8_washes 34 = .ok (.istore_n 1, 1) := by decide +kernel
theorem dX8_washes_35 : decode cX8_washes 35 = .ok (.iinc 2 1, 3) := by decide +kernel
theorem dX8_washes_38 : decode cX8_washes 38 = .ok (.goto (-29), 3) := by decide +kernel
theorem dX8_washes_41 : decode cX8_washes 41 = .ok (.bipush (-2), 2) := by decide +kernel
theorem dX8_washes_43 : decode cX8_washes 43 = .ok (.istore_n 2, 1) := by decide +kernel
theorem dX8_washes_44 : decode cX8_washes 44 = .ok (.iconst 0, 1) := by decide +kernel
theorem dX8_washes_45 : decode cX8_washes 45 = .ok (.istore_n 3, 1) := by decide +kernel
theorem dX8_washes_46 : decode cX8_washes 46 = .ok (.iload_n 3, 1) := by decide +kernel
theorem dX8_washes_47 : decode cX8_washes 47 = .ok (.bipush 32, 2) := by decide +kernel
theorem dX8_washes_49 : decode cX8_washes 49 = .ok (.if_icmp .ge 82, 3) := by decide +kernel
theorem dX8_washes_52 : decode cX8_washes 52 = .ok (.iconst 0, 1) := by decide +kernel
theorem dX8_washes_53 : decode cX8_washes 53 = .ok (.istore 4, 2) := by decide +kernel
theorem dX8_washes_55 : decode cX8_washes 55 = .ok (.iconst 0, 1) := by decide +kernel
theorem dX8_washes_56 : decode cX8_washes 56 = .ok (.istore 5, 2) := by decide +kernel
theorem dX8_washes_58 : decode cX8_washes 58 = .ok (.iload 5, 2) := by decide +kernel
theorem dX8_washes_60 : decode cX8_washes 60 = .ok (.iconst 5, 1) := by decide +kernel
theorem dX8_washes_61 : decode cX8_washes 61 = .ok (.if_icmp .ge 21, 3) := by decide +kernel
theorem dX8_washes_64 : decode cX8_washes 64 = .ok (.iload_n 3, 1) := by decide +kernel
theorem dX8_washes_65 : decode cX8_washes 65 = .ok (.iload 5, 2) := by decide +kernel
theorem dX8_washes_67 : decode cX8_washes 67 = .ok (.invokestatic 183, 3) := by decide +kernel
theorem dX8_washes_70 : decode cX8_washes 70 = .ok (.ifCond .eq 6, 3) := by decide +kernel
theorem dX8_washes_73 : decode cX8_washes 73 = .ok (.iinc 4 1, 3) := by decide +kernel
theorem dX8_washes_76 : decode cX8_washes 76 = .ok (.iinc 5 1, 3) := by decide +kernel
theorem dX8_washes_79 : decode cX8_washes 79 = .ok (.goto (-21), 3) := by decide +kernel
theorem dX8_washes_82 : decode cX8_washes 82 = .ok (.iload_n 3, 1) := by decide +kernel
theorem dX8_washes_83 : decode cX8_washes 83 = .ok (.iload_n 1, 1) := by decide +kernel
theorem dX8_washes_84 : decode cX8_washes 84 = .ok (.iconst (-1), 1) := by decide +kernel
theorem dX8_washes_85 : decode cX8_washes 85 = .ok (.ixor, 1) := by decide +kernel
theorem dX8_washes_86 : decode cX8_washes 86 = .ok (.iand, 1) := by decide +kernel
theorem dX8_washes_87 : decode cX8_washes 87 = .ok (.ifCond .ne 38, 3) := by decide +kernel
theorem dX8_washes_90 : decode cX8_washes 90 = .ok (.iload_n 2, 1) := by decide +kernel
theorem dX8_washes_91 : decode cX8_washes 91 = .ok (.bipush (-2), 2) := by decide +kernel
theorem dX8_washes_93 : decode cX8_washes 93 = .ok (.if_icmp .eq 12, 3) := by decide +kernel
theorem dX8_washes_96 : decode cX8_washes 96 = .ok (.iload 4, 2) := by decide +kernel
theorem dX8_washes_98 : decode cX8_washes 98 = .ok (.iload_n 2, 1) := by decide +kernel
theorem dX8_washes_99 : decode cX8_washes 99 = .ok (.if_icmp .lt 6, 3) := by decide +kernel
theorem dX8_washes_102 : decode cX8_washes 102 = .ok (.goto 23, 3) := by decide +kernel
theorem dX8_washes_105 : decode cX8_washes 105 = .ok (.aload_n 0, 1) := by decide +kernel
theorem dX8_washes_106 : decode cX8_washes 106 = .ok (.iload_n 3, 1) := by decide +kernel
theorem dX8_washes_107 : decode cX8_washes 107 = .ok (.invokevirtual 260, 3) := by decide +kernel
theorem dX8_washes_110 : decode cX8_washes 110 = .ok (.aload_n 0, 1) := by decide +kernel
theorem dX8_washes_111 : decode cX8_washes 111 = .ok (.getfield 247, 3) := by decide +kernel
theorem dX8_washes_114 : decode cX8_washes 114 = .ok (.aload_n 0, 1) := by decide +kernel
theorem dX8_washes_115 : decode cX8_washes 115 = .ok (.iconst 0, 1) := by decide +kernel
theorem dX8_washes_116 : decode cX8_washes 116 = .ok (.invokevirtual 263, 3) := by decide +kernel
theorem dX8_washes_119 : decode cX8_washes 119 = .ok (.if_icmp .ne 6, 3) := by decide +kernel
theorem dX8_washes_122 : decode cX8_washes 122 = .ok (.iload 4, 2) := by decide +kernel
theorem dX8_washes_124 : decode cX8_washes 124 = .ok (.istore_n 2, 1) := by decide +kernel
theorem dX8_washes_125 : decode cX8_washes 125 = .ok (.iinc 3 1, 3) := by decide +kernel
theorem dX8_washes_128 : decode cX8_washes 128 = .ok (.goto (-82), 3) := by decide +kernel
theorem dX8_washes_131 : decode cX8_washes 131 = .ok (.iload_n 2, 1) := by decide +kernel
theorem dX8_washes_132 : decode cX8_washes 132 = .ok (.ireturn, 1) := by decide +kernel
theorem dX8_snap_0 : decode cX8_snap 0 = .ok (.aload_n 0, 1) := by decide +kernel
theorem dX8_snap_1 : decode cX8_snap 1 = .ok (.getfield 173, 3) := by decide +kernel
theorem dX8_snap_4 : decode cX8_snap 4 = .ok (.bipush 10, 2) := by decide +kernel
theorem dX8_snap_6 : decode cX8_snap 6 = .ok (.if_icmp .ne 44, 3) := by decide +kernel
theorem dX8_snap_9 : decode cX8_snap 9 = .ok (.iconst 0, 1) := by decide +kernel
theorem dX8_snap_10 : decode cX8_snap 10 = .ok (.istore_n 1, 1) := by decide +kernel
theorem dX8_snap_11 : decode cX8_snap 11 = .ok (.iload_n 1, 1) := by decide +kernel
theorem dX8_snap_12 : decode cX8_snap 12 = .ok (.sipush 1413, 3) := by decide +kernel
theorem dX8_snap_15 : decode cX8_snap 15 = .ok (.if_icmp .ge 25, 3) := by decide +kernel
theorem dX8_snap_18 : decode cX8_snap 18 = .ok (.aload_n 0, 1) := by decide +kernel
theorem dX8_snap_19 : decode cX8_snap 19 = .ok (.getfield 76, 3) := by decide +kernel
theorem dX8_snap_22 : decode cX8_snap 22 = .ok (.iload_n 1, 1) := by decide +kernel
theorem dX8_snap_23 : decode cX8_snap 23 = .ok (.aload_n 0, 1) := by decide +kernel
theorem dX8_snap_24 : decode cX8_snap 24 = .ok (.getfield 76, 3) := by decide +kernel
theorem dX8_snap_27 : decode cX8_snap 27 = .ok (.iload_n 1, 1) := by decide +kernel
theorem dX8_snap_28 : decode cX8_snap 28 = .ok (.sipush 157, 3) := by decide +kernel
theorem dX8_snap_31 : decode cX8_snap 31 = .ok (.iadd, 1) := by decide +kernel
theorem dX8_snap_32 : decode cX8_snap 32 = .ok (.iaload, 1) := by decide +kernel
theorem dX8_snap_33 : decode cX8_snap 33 = .ok (.iastore, 1) := by decide +kernel
theorem dX8_snap_34 : decode cX8_snap 34 = .ok (.iinc 1 1, 3) := by decide +kernel
theorem dX8_snap_37 : decode cX8_snap 37 = .ok (.goto (-26), 3) := by decide +kernel
theorem dX8_snap_40 : decode cX8_snap 40 = .ok (.aload_n 0, 1) := by decide +kernel
theorem dX8_snap_41 : decode cX8_snap 41 = .ok (.dup, 1) := by decide +kernel
theorem dX8_snap_42 : decode cX8_snap 42 = .ok (.getfield 173, 3) := by decide +kernel
theorem dX8_snap_45 : decode cX8_snap 45 = .ok (.iconst 1, 1) := by decide +kernel
theorem dX8_snap_46 : decode cX8_snap 46 = .ok (.isub, 1) := by decide +kernel
theorem dX8_snap_47 : decode cX8_snap 47 = .ok (.putfield 173, 3) := by decide +kernel
theorem dX8_snap_50 : decode cX8_snap 50 = .ok (.iconst 0, 1) := by decide +kernel
theorem dX8_snap_51 : decode cX8_snap 51 = .ok (.istore_n 1, 1) := by decide +kernel
theorem dX8_snap_52 : decode cX8_snap 52 = .ok (.iload_n 1, 1) := by decide +kernel
theorem dX8_snap_53 : decode cX8_snap 53 = .ok (.sipush 157, 3) := by decide +kernel
theorem dX8_snap_56 : decode cX8_snap 56 = .ok (.if_icmp .ge 30, 3) := by decide +kernel
theorem dX8_snap_59 : decode cX8_snap 59 = .ok (.aload_n 0, 1) := by decide +kernel
theorem dX8_snap_60 : decode cX8_snap 60 = .ok (.getfield 76, 3) := by decide +kernel
theorem dX8_snap_63 : decode cX8_snap 63 = .ok (.sipush 157, 3) := by decide +kernel
theorem dX8_snap_66 : decode cX8_snap 66 = .ok (.aload_n 0, 1) := by decide +kernel
theorem dX8_snap_67 : decode cX8_snap 67 = .ok (.getfield 173, 3) := by decide +kernel
theorem dX8_snap_70 : decode cX8_snap 70 = .ok (.imul, 1) := by decide +kernel
theorem dX8_snap_71 : decode cX8_snap 71 = .ok (.iload_n 1, 1) := by decide +kernel
theorem dX8_snap_72 : decode cX8_snap 72 = .ok (.iadd, 1) := by decide +kernel
theorem dX8_snap_73 : decode cX8_snap 73 = .ok (.aload_n 0, 1) := by decide +kernel
theorem dX8_snap_74 : decode cX8_snap 74 = .ok (.getfield 70, 3) := by decide +kernel
theorem dX8_snap_77 : decode cX8_snap 77 = .ok (.iload_n 1, 1) := by decide +kernel
theorem dX8_snap_78 : decode cX8_snap 78 = .ok (.iaload, 1) := by decide +kernel
theorem dX8_snap_79 : decode cX8_snap 79 = .ok (.iastore, 1) := by decide +kernel
theorem dX8_snap_80 : decode cX8_snap 80 = .ok (.iinc 1 1, 3) := by decide +kernel
theorem dX8_snap_83 : decode cX8_snap 83 = .ok (.goto (-31), 3) := by decide +kernel
theorem dX8_snap_86 : decode cX8_snap 86 = .ok (.aload_n 0, 1) := by decide +kernel
theorem dX8_snap_87 : decode cX8_snap 87 = .ok (.dup, 1) := by decide +kernel
theorem dX8_snap_88 : decode cX8_snap 88 = .ok (.getfield 173, 3) := by decide +kernel
theorem dX8_snap_91 : decode cX8_snap 91 = .ok (.iconst 1, 1) := by decide +kernel
theorem dX8_snap_92 : decode cX8_snap 92 = .ok (.iadd, 1) := by decide +kernel
theorem dX8_snap_93 : decode cX8_snap 93 = .ok (.putfield 173, 3) := by decide +kernel
theorem dX8_snap_96 : decode cX8_snap 96 = .ok (.return_, 1) := by decide +kernel
theorem dX8_asks_0 : decode cX8_asks 0 = .ok (.aload_n 0, 1) := by decide +kernel
theorem dX8_asks_1 : decode cX8_asks 1 = .ok (.iconst 0, 1) := by decide +kernel
theorem dX8_asks_2 : decode cX8_asks 2 = .ok (.putfield 1, 3) := by decide +kernel
theorem dX8_asks_5 : decode cX8_asks 5 = .ok (.aload_n 0, 1) := by decide +kernel
theorem dX8_asks_6 : decode cX8_asks 6 = .ok (.iload_n 1, 1) := by decide +kernel
theorem dX8_asks_7 : decode cX8_asks 7 = .ok (.invokevirtual 232, 3) := by decide +kernel
theorem dX8_asks_10 : decode cX8_asks 10 = .ok (.ifCond .eq 14, 3) := by decide +kernel
theorem dX8_asks_13 : decode cX8_asks 13 = .ok (.iload_n 2, 1) := by decide +kernel
theorem dX8_asks_14 : decode cX8_asks 14 = .ok (.iconst 1, 1) := by decide +kernel
theorem dX8_asks_15 : decode cX8_asks 15 = .ok (.sipush 4995, 3) := by decide +kernel
theorem dX8_asks_18 : decode cX8_asks 18 = .ok (.invokestatic 109, 3) := by decide +kernel
theorem dX8_asks_21 : decode cX8_asks 21 = .ok (.ifCond .ne 5, 3) := by decide +kernel
theorem dX8_asks_24 : decode cX8_asks 24 = .ok (.iconst (-1), 1) := by decide +kernel
theorem dX8_asks_25 : decode cX8_asks 25 = .ok (.ireturn, 1) := by decide +kernel
theorem dX8_asks_26 : decode cX8_asks 26 = .ok (.aload_n 0, 1) := by decide +kernel
theorem dX8_asks_27 : decode cX8_asks 27 = .ok (.iconst 0, 1) := by decide +kernel
theorem dX8_asks_28 : decode cX8_asks 28 = .ok (.invokevirtual 263, 3) := by decide +kernel
theorem dX8_asks_31 : decode cX8_asks 31 = .ok (.iconst 4, 1) := by decide +kernel
theorem dX8_asks_32 : decode cX8_asks 32 = .ok (.if_icmp .ne 6, 3) := by decide +kernel
theorem dX8_asks_35 : decode cX8_asks 35 = .ok (.bipush (-2), 2) := by decide +kernel
theorem dX8_asks_37 : decode cX8_asks 37 = .ok (.ireturn, 1) := by decide +kernel
theorem dX8_asks_38 : decode cX8_asks 38 = .ok (.aload_n 0, 1) := by decide +kernel
theorem dX8_asks_39 : decode cX8_asks 39 = .ok (.getfield 70, 3) := by decide +kernel
theorem dX8_asks_42 : decode cX8_asks 42 = .ok (.bipush 13, 2) := by decide +kernel
theorem dX8_asks_44 : decode cX8_asks 44 = .ok (.iaload, 1) := by decide +kernel
theorem dX8_asks_45 : decode cX8_asks 45 = .ok (.bipush 20, 2) := by decide +kernel
theorem dX8_asks_47 : decode cX8_asks 47 = .ok (.if_icmp .ne 6, 3) := by decide +kernel
theorem dX8_asks_50 : decode cX8_asks 50 = .ok (.bipush (-3), 2) := by decide +kernel
theorem dX8_asks_52 : decode cX8_asks 52 = .ok (.ireturn, 1) := by decide +kernel
theorem dX8_asks_53 : decode cX8_asks 53 = .ok (.aload_n 0, 1) := by decide +kernel
theorem dX8_asks_54 : decode cX8_asks 54 = .ok (.invokevirtual 266, 3) := by decide +kernel
theorem dX8_asks_57 : decode cX8_asks 57 = .ok (.aload_n 0, 1) := by decide +kernel
theorem dX8_asks_58 : decode cX8_asks 58 = .ok (.getfield 70, 3) := by decide +kernel
theorem dX8_asks_61 : decode cX8_asks 61 = .ok (.bipush 13, 2) := by decide +kernel
theorem dX8_asks_63 : decode cX8_asks 63 = .ok (.iaload, 1) := by decide +kernel
theorem dX8_asks_64 : decode cX8_asks 64 = .ok (.istore_n 3, 1) := by decide +kernel
theorem dX8_asks_65 : decode cX8_asks 65 = .ok (.bipush 57, 2) := by decide +kernel
theorem dX8_asks_67 : decode cX8_asks 67 = .ok (.iconst 5, 1) := by decide +kernel
theorem dX8_asks_68 : decode cX8_asks 68 = .ok (.iload_n 3, 1) := by decide +kernel
theorem dX8_asks_69 : decode cX8_asks 69 = .ok (.imul, 1) := by decide +kernel
theorem dX8_asks_70 : decode cX8_asks 70 = .ok (.iadd, 1) := by decide +kernel
theorem dX8_asks_71 : decode cX8_asks 71 = .ok (.istore 4, 2) := by decide +kernel
theorem dX8_asks_73 : decode cX8_asks 73 = .ok (.aload_n 0, 1) := by decide +kernel
theorem dX8_asks_74 : decode cX8_asks 74 = .ok (.getfield 70, 3) := by decide +kernel
theorem dX8_asks_77 : decode cX8_asks 77 = .ok (.iload 4, 2) := by decide +kernel
theorem dX8_asks_79 : decode cX8_asks 79 = .ok (.iconst 0, 1) := by decide +kernel
theorem dX8_asks_80 : decode cX8_asks 80 = .ok (.iadd, 1) := by decide +kernel
theorem dX8_asks_81 : decode cX8_asks 81 = .ok (.iload_n 1, 1) := by decide +kernel
theorem dX8_asks_82 : decode cX8_asks 82 = .ok (.iastore, 1) := by decide +kernel
theorem dX8_asks_83 : decode cX8_asks 83 = .ok (.aload_n 0, 1) := by decide +kernel
theorem dX8_asks_84 : decode cX8_asks 84 = .ok (.getfield 70, 3) := by decide +kernel
theorem dX8_asks_87 : decode cX8_asks 87 = .ok (.iload 4, 2) := by decide +kernel
theorem dX8_asks_89 : decode cX8_asks 89 = .ok (.iconst 1, 1) := by decide +kernel
theorem dX8_asks_90 : decode cX8_asks 90 = .ok (.iadd, 1) := by decide +kernel
theorem dX8_asks_91 : decode cX8_asks 91 = .ok (.iload_n 2, 1) := by decide +kernel
theorem dX8_asks_92 : decode cX8_asks 92 = .ok (.iastore, 1) := by decide +kernel
theorem dX8_asks_93 : decode cX8_asks 93 = .ok (.aload_n 0, 1) := by decide +kernel
theorem dX8_asks_94 : decode cX8_asks 94 = .ok (.getfield 70, 3) := by decide +kernel
theorem dX8_asks_97 : decode cX8_asks 97 = .ok (.iload 4, 2) := by decide +kernel
theorem dX8_asks_99 : decode cX8_asks 99 = .ok (.iconst 2, 1) := by decide +kernel
theorem dX8_asks_100 : decode cX8_asks 100 = .ok (.iadd, 1) := by decide +kernel
theorem dX8_asks_101 : decode cX8_asks 101 = .ok (.iconst 0, 1) := by decide +kernel
theorem dX8_asks_102 : decode cX8_asks 102 = .ok (.iastore, 1) := by decide +kernel
theorem dX8_asks_103 : decode cX8_asks 103 = .ok (.aload_n 0, 1) := by decide +kernel
theorem dX8_asks_104 : decode cX8_asks 104 = .ok (.getfield 70, 3) := by decide +kernel
theorem dX8_asks_107 : decode cX8_asks 107 = .ok (.iload 4, 2) := by decide +kernel
theorem dX8_asks_109 : decode cX8_asks 109 = .ok (.iconst 3, 1) := by decide +kernel
theorem dX8_asks_110 : decode cX8_asks 110 = .ok (.iadd, 1) := by decide +kernel
theorem dX8_asks_111 : decode cX8_asks 111 = .ok (.iconst 0, 1) := by decide +kernel
theorem dX8_asks_112 : decode cX8_asks 112 = .ok (.iastore, 1) := by decide +kernel
theorem dX8_asks_113 : decode cX8_asks 113 = .ok (.aload_n 0, 1) := by decide +kernel
theorem dX8_asks_114 : decode cX8_asks 114 = .ok (.getfield 70, 3) := by decide +kernel
theorem dX8_asks_117 : decode cX8_asks 117 = .ok (.iload 4, 2) := by decide +kernel
theorem dX8_asks_119 : decode cX8_asks 119 = .ok (.iconst 4, 1) := by decide +kernel
theorem dX8_asks_120 : decode cX8_asks 120 = .ok (.iadd, 1) := by decide +kernel
theorem dX8_asks_121 : decode cX8_asks 121 = .ok (.iconst 0, 1) := by decide +kernel
theorem dX8_asks_122 : decode cX8_asks 122 = .ok (.iastore, 1) := by decide +kernel
theorem dX8_asks_123 : decode cX8_asks 123 = .ok (.aload_n 0, 1) := by decide +kernel
theorem dX8_asks_124 : decode cX8_asks 124 = .ok (.getfield 70, 3) := by decide +kernel
theorem dX8_asks_127 : decode cX8_asks 127 = .ok (.bipush 13, 2) := by decide +kernel
theorem dX8_asks_129 : decode cX8_asks 129 = .ok (.dup2, 1) := by decide +kernel
theorem dX8_asks_130 : decode cX8_asks 130 = .ok (.iaload, 1) := by decide +kernel
theorem dX8_asks_131 : decode cX8_asks 131 = .ok (.iconst 1, 1) := by decide +kernel
theorem dX8_asks_132 : decode cX8_asks 132 = .ok (.iadd, 1) := by decide +kernel
theorem dX8_asks_133 : decode cX8_asks 133 = .ok (.iastore, 1) := by decide +kernel
theorem dX8_asks_134 : decode cX8_asks 134 = .ok (.iload_n 3, 1) := by decide +kernel
theorem dX8_asks_135 : decode cX8_asks 135 = .ok (.ireturn, 1) := by decide +kernel
theorem dX8_cancel_0 : decode cX8_cancel 0 = .ok (.aload_n 0, 1) := by decide +kernel
theorem dX8_cancel_1 : decode cX8_cancel 1 = .ok (.iconst 0, 1) := by decide +kernel
theorem dX8_cancel_2 : decode cX8_cancel 2 = .ok (.putfield 1, 3) := by decide +kernel
theorem dX8_cancel_5 : decode cX8_cancel 5 = .ok (.aload_n 0, 1) := by decide +kernel
theorem dX8_cancel_6 : decode cX8_cancel 6 = .ok (.iload_n 1, 1) := by decide +kernel
theorem dX8_cancel_7 : decode cX8_cancel 7 = .ok (.invokevirtual 223, 3) := by decide +kernel
theorem dX8_cancel_10 : decode cX8_cancel 10 = .ok (.ifCond .eq 20, 3) := by decide +kernel
theorem dX8_cancel_13 : decode cX8_cancel 13 = .ok (.aload_n 0, 1) := by decide +kernel
theorem dX8_cancel_14 : decode cX8_cancel 14 = .ok (.iload_n 1, 1) := by decide +kernel
theorem dX8_cancel_15 : decode cX8_cancel 15 = .ok (.iconst 2, 1) := by decide +kernel
theorem dX8_cancel_16 : decode cX8_cancel 16 = .ok (.invokevirtual 180, 3) := by decide +kernel
theorem dX8_cancel_19 : decode cX8_cancel 19 = .ok (.ifCond .ne 11, 3) := by decide +kernel
theorem dX8_cancel_22 : decode cX8_cancel 22 = .ok (.aload_n 0, 1) := by decide +kernel
theorem dX8_cancel_23 : decode cX8_cancel 23 = .ok (.iload_n 1, 1) := by decide +kernel
theorem dX8_cancel_24 : decode cX8_cancel 24 = .ok (.invokevirtual 229, 3) := by decide +kernel
theorem dX8_cancel_27 : decode cX8_cancel 27 = .ok (.ifCond .le 5, 3) := by decide +kernel
theorem dX8_cancel_30 : decode cX8_cancel 30 = .ok (.iconst 0, 1) := by decide +kernel
theorem dX8_cancel_31 : decode cX8_cancel 31 = .ok (.ireturn, 1) := by decide +kernel
theorem dX8_cancel_32 : decode cX8_cancel 32 = .ok (.aload_n 0, 1) := by decide +kernel
theorem dX8_cancel_33 : decode cX8_cancel 33 = .ok (.invokevirtual 266, 3) := by decide +kernel
theorem dX8_cancel_36 : decode cX8_cancel 36 = .ok (.aload_n 0, 1) := by decide +kernel
theorem dX8_cancel_37 : decode cX8_cancel 37 = .ok (.getfield 70, 3) := by decide +kernel
theorem dX8_cancel_40 : decode cX8_cancel 40 = .ok (.bipush 57, 2) := by decide +kernel
theorem dX8_cancel_42 : decode cX8_cancel 42 = .ok (.iconst 5, 1) := by decide +kernel
theorem dX8_cancel_43 : decode cX8_cancel 43 = .ok (.iload_n 1, 1) := by decide +kernel
theorem dX8_cancel_44 : decode cX8_cancel 44 = .ok (.imul, 1) := by decide +kernel
theorem dX8_cancel_45 : decode cX8_cancel 45 = .ok (.iadd, 1) := by decide +kernel
theorem dX8_cancel_46 : decode cX8_cancel 46 = .ok (.iconst 2, 1) := by decide +kernel
theorem dX8_cancel_47 : decode cX8_cancel 47 = .ok (.iadd, 1) := by decide +kernel
theorem dX8_cancel_48 : decode cX8_cancel 48 = .ok (.iconst 3, 1) := by decide +kernel
theorem dX8_cancel_49 : decode cX8_cancel 49 = .ok (.iastore, 1) := by decide +kernel
theorem dX8_cancel_50 : decode cX8_cancel 50 = .ok (.iconst 1, 1) := by decide +kernel
theorem dX8_cancel_51 : decode cX8_cancel 51 = .ok (.ireturn, 1) := by decide +kernel
theorem dX8_puts_0 : decode cX8_puts 0 = .ok (.aload_n 0, 1) := by decide +kernel
theorem dX8_puts_1 : decode cX8_puts 1 = .ok (.getfield 70, 3) := by decide +kernel
theorem dX8_puts_4 : decode cX8_puts 4 = .ok (.bipush 27, 2) := by decide +kernel
theorem dX8_puts_6 : decode cX8_puts 6 = .ok (.bipush 6, 2) := by decide +kernel
theorem dX8_puts_8 : decode cX8_puts 8 = .ok (.iload_n 1, 1) := by decide +kernel
theorem dX8_puts_9 : decode cX8_puts 9 = .ok (.imul, 1) := by decide +kernel
theorem dX8_puts_10 : decode cX8_puts 10 = .ok (.iadd, 1) := by decide +kernel
theorem dX8_puts_11 : decode cX8_puts 11 = .ok (.iconst 3, 1) := by decide +kernel
theorem dX8_puts_12 : decode cX8_puts 12 = .ok (.iadd, 1) := by decide +kernel
theorem dX8_puts_13 : decode cX8_puts 13 = .ok (.iload_n 3, 1) := by decide +kernel
theorem dX8_puts_14 : decode cX8_puts 14 = .ok (.iastore, 1) := by decide +kernel
theorem dX8_puts_15 : decode cX8_puts 15 = .ok (.aload_n 0, 1) := by decide +kernel
theorem dX8_puts_16 : decode cX8_puts 16 = .ok (.getfield 70, 3) := by decide +kernel
theorem dX8_puts_19 : decode cX8_puts 19 = .ok (.bipush 27, 2) := by decide +kernel
theorem dX8_puts_21 : decode cX8_puts 21 = .ok (.bipush 6, 2) := by decide +kernel
theorem dX8_puts_23 : decode cX8_puts 23 = .ok (.iload_n 1, 1) := by decide +kernel
theorem dX8_puts_24 : decode cX8_puts 24 = .ok (.imul, 1) := by decide +kernel
theorem dX8_puts_25 : decode cX8_puts 25 = .ok (.iadd, 1) := by decide +kernel
theorem dX8_puts_26 : decode cX8_puts 26 = .ok (.iconst 4, 1) := by decide +kernel
theorem dX8_puts_27 : decode cX8_puts 27 = .ok (.iadd, 1) := by decide +kernel
theorem dX8_puts_28 : decode cX8_puts 28 = .ok (.iload_n 2, 1) := by decide +kernel
theorem dX8_puts_29 : decode cX8_puts 29 = .ok (.iconst 1, 1) := by decide +kernel
theorem dX8_puts_30 : decode cX8_puts 30 = .ok (.iadd, 1) := by decide +kernel
theorem dX8_puts_31 : decode cX8_puts 31 = .ok (.iastore, 1) := by decide +kernel
theorem dX8_puts_32 : decode cX8_puts 32 = .ok (.aload_n 0, 1) := by decide +kernel
theorem dX8_puts_33 : decode cX8_puts 33 = .ok (.getfield 70, 3) := by decide +kernel
theorem dX8_puts_36 : decode cX8_puts 36 = .ok (.bipush 27, 2) := by decide +kernel
theorem dX8_puts_38 : decode cX8_puts 38 = .ok (.bipush 6, 2) := by decide +kernel
theorem dX8_puts_40 : decode cX8_puts 40 = .ok (.iload_n 1, 1) := by decide +kernel
theorem dX8_puts_41 : decode cX8_puts 41 = .ok (.imul, 1) := by decide +kernel
theorem dX8_puts_42 : decode cX8_puts 42 = .ok (.iadd, 1) := by decide +kernel
theorem dX8_puts_43 : decode cX8_puts 43 = .ok (.iconst 5, 1) := by decide +kernel
theorem dX8_puts_44 : decode cX8_puts 44 = .ok (.iadd, 1) := by decide +kernel
theorem dX8_puts_45 : decode cX8_puts 45 = .ok (.aload_n 0, 1) := by decide +kernel
theorem dX8_puts_46 : decode cX8_puts 46 = .ok (.iload_n 2, 1) := by decide +kernel
theorem dX8_puts_47 : decode cX8_puts 47 = .ok (.iconst 0, 1) := by decide +kernel
theorem dX8_puts_48 : decode cX8_puts 48 = .ok (.invokevirtual 180, 3) := by decide +kernel
theorem dX8_puts_51 : decode cX8_puts 51 = .ok (.iconst 1, 1) := by decide +kernel
theorem dX8_puts_52 : decode cX8_puts 52 = .ok (.iadd, 1) := by decide +kernel
theorem dX8_puts_53 : decode cX8_puts 53 = .ok (.iastore, 1) := by decide +kernel
theorem dX8_puts_54 : decode cX8_puts 54 = .ok (.aload_n 0, 1) := by decide +kernel
theorem dX8_puts_55 : decode cX8_puts 55 = .ok (.iload_n 2, 1) := by decide +kernel
theorem dX8_puts_56 : decode cX8_puts 56 = .ok (.invokevirtual 229, 3) := by decide +kernel
theorem dX8_puts_59 : decode cX8_puts 59 = .ok (.aload_n 0, 1) := by decide +kernel
theorem dX8_puts_60 : decode cX8_puts 60 = .ok (.iload_n 2, 1) := by decide +kernel
theorem dX8_puts_61 : decode cX8_puts 61 = .ok (.iconst 1, 1) := by decide +kernel
theorem dX8_puts_62 : decode cX8_puts 62 = .ok (.invokevirtual 180, 3) := by decide +kernel
theorem dX8_puts_65 : decode cX8_puts 65 = .ok (.if_icmp .ne 17, 3) := by decide +kernel
theorem dX8_puts_68 : decode cX8_puts 68 = .ok (.aload_n 0, 1) := by decide +kernel
theorem dX8_puts_69 : decode cX8_puts 69 = .ok (.getfield 70, 3) := by decide +kernel
theorem dX8_puts_72 : decode cX8_puts 72 = .ok (.bipush 57, 2) := by decide +kernel
theorem dX8_puts_74 : decode cX8_puts 74 = .ok (.iconst 5, 1) := by decide +kernel
theorem dX8_puts_75 : decode cX8_puts 75 = .ok (.iload_n 2, 1) := by decide +kernel
theorem dX8_puts_76 : decode cX8_puts 76 = .ok (.imul, 1) := by decide +kernel
theorem dX8_puts_77 : decode cX8_puts 77 = .ok (.iadd, 1) := by decide +kernel
theorem dX8_puts_78 : decode cX8_puts 78 = .ok (.iconst 2, 1) := by decide +kernel
theorem dX8_puts_79 : decode cX8_puts 79 = .ok (.iadd, 1) := by decide +kernel
theorem dX8_puts_80 : decode cX8_puts 80 = .ok (.iconst 1, 1) := by decide +kernel
theorem dX8_puts_81 : decode cX8_puts 81 = .ok (.iastore, 1) := by decide +kernel
theorem dX8_puts_82 : decode cX8_puts 82 = .ok (.return_, 1) := by decide +kernel
theorem dX8_put_0 : decode cX8_put 0 = .ok (.aload_n 0, 1) := by decide +kernel
theorem dX8_put_1 : decode cX8_put 1 = .ok (.iconst 0, 1) := by decide +kernel
theorem dX8_put_2 : decode cX8_put 2 = .ok (.putfield 1, 3) := by decide +kernel
theorem dX8_put_5 : decode cX8_put 5 = .ok (.aload_n 0, 1) := by decide +kernel
theorem dX8_put_6 : decode cX8_put 6 = .ok (.iload_n 1, 1) := by decide +kernel
theorem dX8_put_7 : decode cX8_put 7 = .ok (.invokevirtual 217, 3) := by decide +kernel
theorem dX8_put_10 : decode cX8_put 10 = .ok (.ifCond .eq 20, 3) := by decide +kernel
theorem dX8_put_13 : decode cX8_put 13 = .ok (.aload_n 0, 1) := by decide +kernel
theorem dX8_put_14 : decode cX8_put 14 = .ok (.iload_n 2, 1) := by decide +kernel
theorem dX8_put_15 : decode cX8_put 15 = .ok (.invokevirtual 223, 3) := by decide +kernel
theorem dX8_put_18 : decode cX8_put 18 = .ok (.ifCond .eq 12, 3) := by decide +kernel
theorem dX8_put_21 : decode cX8_put 21 = .ok (.aload_n 0, 1) := by decide +kernel
theorem dX8_put_22 : decode cX8_put 22 = .ok (.iload_n 2, 1) := by decide +kernel
theorem dX8_put_23 : decode cX8_put 23 = .ok (.iconst 2, 1) := by decide +kernel
theorem dX8_put_24 : decode cX8_put 24 = .ok (.invokevirtual 180, 3) := by decide +kernel
theorem dX8_put_27 : decode cX8_put 27 = .ok (.ifCond .eq 5, 3) := by decide +kernel
theorem dX8_put_30 : decode cX8_put 30 = .ok (.iconst (-1), 1) := by decide +kernel
theorem dX8_put_31 : decode cX8_put 31 = .ok (.ireturn, 1) := by decide +kernel
theorem dX8_put_32 : decode cX8_put 32 = .ok (.aload_n 0, 1) := by decide +kernel
theorem dX8_put_33 : decode cX8_put 33 = .ok (.iload_n 1, 1) := by decide +kernel
theorem dX8_put_34 : decode cX8_put 34 = .ok (.iconst 4, 1) := by decide +kernel
theorem dX8_put_35 : decode cX8_put 35 = .ok (.invokevirtual 176, 3) := by decide +kernel
theorem dX8_put_38 : decode cX8_put 38 = .ok (.ifCond .le 6, 3) := by decide +kernel
theorem dX8_put_41 : decode cX8_put 41 = .ok (.bipush (-2), 2) := by decide +kernel
theorem dX8_put_43 : decode cX8_put 43 = .ok (.ireturn, 1) := by decide +kernel
theorem dX8_put_44 : decode cX8_put 44 = .ok (.aload_n 0, 1) := by decide +kernel
theorem dX8_put_45 : decode cX8_put 45 = .ok (.iload_n 1, 1) := by decide +kernel
theorem dX8_put_46 : decode cX8_put 46 = .ok (.aload_n 0, 1) := by decide +kernel
theorem dX8_put_47 : decode cX8_put 47 = .ok (.iload_n 2, 1) := by decide +kernel
theorem dX8_put_48 : decode cX8_put 48 = .ok (.iconst 0, 1) := by decide +kernel
theorem dX8_put_49 : decode cX8_put 49 = .ok (.invokevirtual 180, 3) := by decide +kernel
theorem dX8_put_52 : decode cX8_put 52 = .ok (.iconst 0, 1) := by decide +kernel
theorem dX8_put_53 : decode cX8_put 53 = .ok (.invokevirtual 235, 3) := by decide +kernel
theorem dX8_put_56 : decode cX8_put 56 = .ok (.ifCond .ne 6, 3) := by decide +kernel
theorem dX8_put_59 : decode cX8_put 59 = .ok (.bipush (-3), 2) := by decide +kernel
theorem dX8_put_61 : decode cX8_put 61 = .ok (.ireturn, 1) := by decide +kernel
theorem dX8_put_62 : decode cX8_put 62 = .ok (.aload_n 0, 1) := by decide +kernel
theorem dX8_put_63 : decode cX8_put 63 = .ok (.iload_n 1, 1) := by decide +kernel
theorem dX8_put_64 : decode cX8_put 64 = .ok (.invokevirtual 220, 3) := by decide +kernel
theorem dX8_put_67 : decode cX8_put 67 = .ok (.ifCond .ne 6, 3) := by decide +kernel
theorem dX8_put_70 : decode cX8_put 70 = .ok (.bipush (-4), 2) := by decide +kernel
theorem dX8_put_72 : decode cX8_put 72 = .ok (.ireturn, 1) := by decide +kernel
theorem dX8_put_73 : decode cX8_put 73 = .ok (.aload_n 0, 1) := by decide +kernel
theorem dX8_put_74 : decode cX8_put 74 = .ok (.invokevirtual 266, 3) := by decide +kernel
theorem dX8_put_77 : decode cX8_put 77 = .ok (.aload_n 0, 1) := by decide +kernel
theorem dX8_put_78 : decode cX8_put 78 = .ok (.iload_n 2, 1) := by decide +kernel
theorem dX8_put_79 : decode cX8_put 79 = .ok (.iconst 1, 1) := by decide +kernel
theorem dX8_put_80 : decode cX8_put 80 = .ok (.invokevirtual 180, 3) := by decide +kernel
theorem dX8_put_83 : decode cX8_put 83 = .ok (.aload_n 0, 1) := by decide +kernel
theorem dX8_put_84 : decode cX8_put 84 = .ok (.iload_n 2, 1) := by decide +kernel
theorem dX8_put_85 : decode cX8_put 85 = .ok (.invokevirtual 229, 3) := by decide +kernel
theorem dX8_put_88 : decode cX8_put 88 = .ok (.isub, 1) := by decide +kernel
theorem dX8_put_89 : decode cX8_put 89 = .ok (.istore_n 3, 1) := by decide +kernel
theorem dX8_put_90 : decode cX8_put 90 = .ok (.iload_n 3, 1) := by decide +kernel
theorem dX8_put_91 : decode cX8_put 91 = .ok (.aload_n 0, 1) := by decide +kernel
theorem dX8_put_92 : decode cX8_put 92 = .ok (.iload_n 1, 1) := by decide +kernel
theorem dX8_put_93 : decode cX8_put 93 = .ok (.invokevirtual 220, 3) := by decide +kernel
theorem dX8_put_96 : decode cX8_put 96 = .ok (.if_icmp .ge 7, 3) := by decide +kernel
theorem dX8_put_99 : decode cX8_put 99 = .ok (.iload_n 3, 1) := by decide +kernel
theorem dX8_put_100 : decode cX8_put 100 = .ok (.goto 8, 3) := by decide +kernel
theorem dX8_put_103 : decode cX8_put 103 = .ok (.aload_n 0, 1) := by decide +kernel
theorem dX8_put_104 : decode cX8_put 104 = .ok (.iload_n 1, 1) := by decide +kernel
theorem dX8_put_105 : decode cX8_put 105 = .ok (.invokevirtual 220, 3) := by decide +kernel
theorem dX8_put_108 : decode cX8_put 108 = .ok (.istore 4, 2) := by decide +kernel
theorem dX8_put_110 : decode cX8_put 110 = .ok (.aload_n 0, 1) := by decide +kernel
theorem dX8_put_111 : decode cX8_put 111 = .ok (.iload_n 1, 1) := by decide +kernel
theorem dX8_put_112 : decode cX8_put 112 = .ok (.iload_n 2, 1) := by decide +kernel
theorem dX8_put_113 : decode cX8_put 113 = .ok (.iload 4, 2) := by decide +kernel
theorem dX8_put_115 : decode cX8_put 115 = .ok (.invokevirtual 269, 3) := by decide +kernel
theorem dX8_put_118 : decode cX8_put 118 = .ok (.iload 4, 2) := by decide +kernel
theorem dX8_put_120 : decode cX8_put 120 = .ok (.ireturn, 1) := by decide +kernel
theorem dX8_load_0 : decode cX8_load 0 = .ok (.aload_n 0, 1) := by decide +kernel
theorem dX8_load_1 : decode cX8_load 1 = .ok (.iconst 0, 1) := by decide +kernel
theorem dX8_load_2 : decode cX8_load 2 = .ok (.putfield 1, 3) := by decide +kernel
theorem dX8_load_5 : decode cX8_load 5 = .ok (.aload_n 0, 1) := by decide +kernel
theorem dX8_load_6 : decode cX8_load 6 = .ok (.iconst 0, 1) := by decide +kernel
theorem dX8_load_7 : decode cX8_load 7 = .ok (.invokevirtual 260, 3) := by decide +kernel
theorem dX8_load_10 : decode cX8_load 10 = .ok (.aload_n 0, 1) := by decide +kernel
theorem dX8_load_11 : decode cX8_load 11 = .ok (.getfield 247, 3) := by decide +kernel
theorem dX8_load_14 : decode cX8_load 14 = .ok (.iconst (-1), 1) := by decide +kernel
theorem dX8_load_15 : decode cX8_load 15 = .ok (.if_icmp .ne 6, 3) := by decide +kernel
theorem dX8_load_18 : decode cX8_load 18 = .ok (.bipush (-2), 2) := by decide +kernel
theorem dX8_load_20 : decode cX8_load 20 = .ok (.ireturn, 1) := by decide +kernel
theorem dX8_load_21 : decode cX8_load 21 = .ok (.aload_n 0, 1) := by decide +kernel
theorem dX8_load_22 : decode cX8_load 22 = .ok (.getfield 247, 3) := by decide +kernel
theorem dX8_load_25 : decode cX8_load 25 = .ok (.ifCond .ne 5, 3) := by decide +kernel
theorem dX8_load_28 : decode cX8_load 28 = .ok (.iconst (-1), 1) := by decide +kernel
theorem dX8_load_29 : decode cX8_load 29 = .ok (.ireturn, 1) := by decide +kernel
theorem dX8_load_30 : decode cX8_load 30 = .ok (.aload_n 0, 1) := by decide +kernel
theorem dX8_load_31 : decode cX8_load 31 = .ok (.invokevirtual 266, 3) := by decide +kernel
theorem dX8_load_34 : decode cX8_load 34 = .ok (.iconst 0, 1) := by decide +kernel
theorem dX8_load_35 : decode cX8_load 35 = .ok (.istore_n 1, 1) := by decide +kernel
theorem dX8_load_36 : decode cX8_load 36 = .ok (.iload_n 1, 1) := by decide +kernel
theorem dX8_load_37 : decode cX8_load 37 = .ok (.aload_n 0, 1) := by decide +kernel
theorem dX8_load_38 : decode cX8_load 38 = .ok (.getfield 70, 3) := by decide +kernel
theorem dX8_load_41 : decode cX8_load 41 = .ok (.bipush 9, 2) := by decide +kernel
theorem dX8_load_43 : decode cX8_load 43 = .ok (.iaload, 1) := by decide +kernel
theorem dX8_load_44 : decode cX8_load 44 = .ok (.if_icmp .ge 36, 3) := by decide +kernel
theorem dX8_load_47 : decode cX8_load 47 = .ok (.aload_n 0, 1) := by decide +kernel
theorem dX8_load_48 : decode cX8_load 48 = .ok (.getfield 100, 3) := by decide +kernel
theorem dX8_load_51 : decode cX8_load 51 = .ok (.iload_n 1, 1) := by decide +kernel
theorem dX8_load_52 : decode cX8_load 52 = .ok (.iaload, 1) := by decide +kernel
theorem dX8_load_53 : decode cX8_load 53 = .ok (.iconst (-1), 1) := by decide +kernel
theorem dX8_load_54 : decode cX8_load 54 = .ok (.if_icmp .eq 20, 3) := by decide +kernel
theorem dX8_load_57 : decode cX8_load 57 = .ok (.aload_n 0, 1) := by decide +kernel
theorem dX8_load_58 : decode cX8_load 58 = .ok (.iload_n 1, 1) := by decide +kernel
theorem dX8_load_59 : decode cX8_load 59 = .ok (.aload_n 0, 1) := by decide +kernel
theorem dX8_load_60 : decode cX8_load 60 = .ok (.getfield 100, 3) := by decide +kernel
theorem dX8_load_63 : decode cX8_load 63 = .ok (.iload_n 1, 1) := by decide +kernel
theorem dX8_load_64 : decode cX8_load 64 = .ok (.iaload, 1) := by decide +kernel
theorem dX8_load_65 : decode cX8_load 65 = .ok (.aload_n 0, 1) := by decide +kernel
theorem dX8_load_66 : decode cX8_load 66 = .ok (.getfield 103, 3) := by decide +kernel
theorem dX8_load_69 : decode cX8_load 69 = .ok (.iload_n 1, 1) := by decide +kernel
theorem dX8_load_70 : decode cX8_load 70 = .ok (.iaload, 1) := by decide +kernel
theorem dX8_load_71 : decode cX8_load 71 = .ok (.invokevirtual 269, 3) := by decide +kernel
theorem dX8_load_74 : decode cX8_load 74 = .ok (.iinc 1 1, 3) := by decide +kernel
theorem dX8_load_77 : decode cX8_load 77 = .ok (.goto (-41), 3) := by decide +kernel
theorem dX8_load_80 : decode cX8_load 80 = .ok (.aload_n 0, 1) := by decide +kernel
theorem dX8_load_81 : decode cX8_load 81 = .ok (.getfield 247, 3) := by decide +kernel
theorem dX8_load_84 : decode cX8_load 84 = .ok (.ireturn, 1) := by decide +kernel
theorem dX8_goes_0 : decode cX8_goes 0 = .ok (.aload_n 0, 1) := by decide +kernel
theorem dX8_goes_1 : decode cX8_goes 1 = .ok (.getfield 70, 3) := by decide +kernel
theorem dX8_goes_4 : decode cX8_goes 4 = .ok (.bipush 27, 2) := by decide +kernel
theorem dX8_goes_6 : decode cX8_goes 6 = .ok (.bipush 6, 2) := by decide +kernel
theorem dX8_goes_8 : decode cX8_goes 8 = .ok (.iload_n 1, 1) := by decide +kernel
theorem dX8_goes_9 : decode cX8_goes 9 = .ok (.imul, 1) := by decide +kernel
theorem dX8_goes_10 : decode cX8_goes 10 = .ok (.iadd, 1) := by decide +kernel
theorem dX8_goes_11 : decode cX8_goes 11 = .ok (.iconst 3, 1) := by decide +kernel
theorem dX8_goes_12 : decode cX8_goes 12 = .ok (.iadd, 1) := by decide +kernel
theorem dX8_goes_13 : decode cX8_goes 13 = .ok (.iconst 0, 1) := by decide +kernel
theorem dX8_goes_14 : decode cX8_goes 14 = .ok (.iastore, 1) := by decide +kernel
theorem dX8_goes_15 : decode cX8_goes 15 = .ok (.aload_n 0, 1) := by decide +kernel
theorem dX8_goes_16 : decode cX8_goes 16 = .ok (.getfield 70, 3) := by decide +kernel
theorem dX8_goes_19 : decode cX8_goes 19 = .ok (.bipush 27, 2) := by decide +kernel
theorem dX8_goes_21 : decode cX8_goes 21 = .ok (.bipush 6, 2) := by decide +kernel
theorem dX8_goes_23 : decode cX8_goes 23 = .ok (.iload_n 1, 1) := by decide +kernel
theorem dX8_goes_24 : decode cX8_goes 24 = .ok (.imul, 1) := by decide +kernel
theorem dX8_goes_25 : decode cX8_goes 25 = .ok (.iadd, 1) := by decide +kernel
theorem dX8_goes_26 : decode cX8_goes 26 = .ok (.iconst 4, 1) := by decide +kernel
theorem dX8_goes_27 : decode cX8_goes 27 = .ok (.iadd, 1) := by decide +kernel
theorem dX8_goes_28 : decode cX8_goes 28 = .ok (.iconst 0, 1) := by decide +kernel
theorem dX8_goes_29 : decode cX8_goes 29 = .ok (.iastore, 1) := by decide +kernel
theorem dX8_goes_30 : decode cX8_goes 30 = .ok (.return_, 1) := by decide +kernel
theorem dX8_unload_0 : decode cX8_unload 0 = .ok (.aload_n 0, 1) := by decide +kernel
theorem dX8_unload_1 : decode cX8_unload 1 = .ok (.iconst 0, 1) := by decide +kernel
theorem dX8_unload_2 : decode cX8_unload 2 = .ok (.putfield 1, 3) := by decide +kernel
theorem dX8_unload_5 : decode cX8_unload 5 = .ok (.aload_n 0, 1) := by decide +kernel
theorem dX8_unload_6 : decode cX8_unload 6 = .ok (.iload_n 1, 1) := by decide +kernel
theorem dX8_unload_7 : decode cX8_unload 7 = .ok (.invokevirtual 223, 3) := by decide +kernel
theorem dX8_unload_10 : decode cX8_unload 10 = .ok (.ifCond .eq 26, 3) := by decide +kernel
theorem dX8_unload_13 : decode cX8_unload 13 = .ok (.aload_n 0, 1) := by decide +kernel
theorem dX8_unload_14 : decode cX8_unload 14 = .ok (.iload_n 1, 1) := by decide +kernel
theorem dX8_unload_15 : decode cX8_unload 15 = .ok (.iconst 2, 1) := by decide +kernel
theorem dX8_unload_16 : decode cX8_unload 16 = .ok (.invokevirtual 180, 3) := by decide +kernel
theorem dX8_unload_19 : decode cX8_unload 19 = .ok (.iconst 1, 1) := by decide +kernel
theorem dX8_unload_20 : decode cX8_unload 20 = .ok (.if_icmp .ne 16, 3) := by decide +kernel
theorem dX8_unload_23 : decode cX8_unload 23 = .ok (.iload_n 2, 1) := by decide +kernel
theorem dX8_unload_24 : decode cX8_unload 24 = .ok (.iconst 0, 1) := by decide +kernel
theorem dX8_unload_25 : decode cX8_unload 25 = .ok (.aload_n 0, 1) := by decide +kernel
theorem dX8_unload_26 : decode cX8_unload 26 = .ok (.iload_n 1, 1) := by decide +kernel
theorem dX8_unload_27 : decode cX8_unload 27 = .ok (.invokevirtual 229, 3) := by decide +kernel
theorem dX8_unload_30 : decode cX8_unload 30 = .ok (.invokestatic 109, 3) := by decide +kernel
theorem dX8_unload_33 : decode cX8_unload 33 = .ok (.ifCond .ne 5, 3) := by decide +kernel
theorem dX8_unload_36 : decode cX8_unload 36 = .ok (.iconst (-1), 1) := by decide +kernel
theorem dX8_unload_37 : decode cX8_unload 37 = .ok (.ireturn, 1) := by decide +kernel
theorem dX8_unload_38 : decode cX8_unload 38 = .ok (.aload_n 0, 1) := by decide +kernel
theorem dX8_unload_39 : decode cX8_unload 39 = .ok (.invokevirtual 209, 3) := by decide +kernel
theorem dX8_unload_42 : decode cX8_unload 42 = .ok (.aload_n 0, 1) := by decide +kernel
theorem dX8_unload_43 : decode cX8_unload 43 = .ok (.iconst 1, 1) := by decide +kernel
theorem dX8_unload_44 : decode cX8_unload 44 = .ok (.iload_n 1, 1) := by decide +kernel
theorem dX8_unload_45 : decode cX8_unload 45 = .ok (.ishl, 1) := by decide +kernel
theorem dX8_unload_46 : decode cX8_unload 46 = .ok (.invokevirtual 202, 3) := by decide +kernel
theorem dX8_unload_49 : decode cX8_unload 49 = .ok (.ifCond .eq 6, 3) := by decide +kernel
theorem dX8_unload_52 : decode cX8_unload 52 = .ok (.bipush (-2), 2) := by decide +kernel
theorem dX8_unload_54 : decode cX8_unload 54 = .ok (.ireturn, 1) := by decide +kernel
theorem dX8_unload_55 : decode cX8_unload 55 = .ok (.aload_n 0, 1) := by decide +kernel
theorem dX8_unload_56 : decode cX8_unload 56 = .ok (.invokevirtual 266, 3) := by decide +kernel
theorem dX8_unload_59 : decode cX8_unload 59 = .ok (.aload_n 0, 1) := by decide +kernel
theorem dX8_unload_60 : decode cX8_unload 60 = .ok (.iload_n 1, 1) := by decide +kernel
theorem dX8_unload_61 : decode cX8_unload 61 = .ok (.invokevirtual 229, 3) := by decide +kernel
theorem dX8_unload_64 : decode cX8_unload 64 = .ok (.iload_n 2, 1) := by decide +kernel
theorem dX8_unload_65 : decode cX8_unload 65 = .ok (.isub, 1) := by decide +kernel
theorem dX8_unload_66 : decode cX8_unload 66 = .ok (.istore_n 3, 1) := by decide +kernel
theorem dX8_unload_67 : decode cX8_unload 67 = .ok (.iconst 0, 1) := by decide +kernel
theorem dX8_unload_68 : decode cX8_unload 68 = .ok (.istore 4, 2) := by decide +kernel
theorem dX8_unload_70 : decode cX8_unload 70 = .ok (.iload 4, 2) := by decide +kernel
theorem dX8_unload_72 : decode cX8_unload 72 = .ok (.aload_n 0, 1) := by decide +kernel
theorem dX8_unload_73 : decode cX8_unload 73 = .ok (.getfield 70, 3) := by decide +kernel
theorem dX8_unload_76 : decode cX8_unload 76 = .ok (.bipush 9, 2) := by decide +kernel
theorem dX8_unload_78 : decode cX8_unload 78 = .ok (.iaload, 1) := by decide +kernel
theorem dX8_unload_79 : decode cX8_unload 79 = .ok (.if_icmp .ge 28, 3) := by decide +kernel
theorem dX8_unload_82 : decode cX8_unload 82 = .ok (.aload_n 0, 1) := by decide +kernel
theorem dX8_unload_83 : decode cX8_unload 83 = .ok (.iload 4, 2) := by decide +kernel
theorem dX8_unload_85 : decode cX8_unload 85 = .ok (.iconst 4, 1) := by decide +kernel
theorem dX8_unload_86 : decode cX8_unload 86 = .ok (.invokevirtual 176, 3) := by decide +kernel
theorem dX8_unload_89 : decode cX8_unload 89 = .ok (.iload_n 1, 1) := by decide +kernel
theorem dX8_unload_90 : decode cX8_unload 90 = .ok (.iconst 1, 1) := by decide +kernel
theorem dX8_unload_91 : decode cX8_unload 91 = .ok (.iadd, 1) := by decide +kernel
theorem dX8_unload_92 : decode cX8_unload 92 = .ok (.if_icmp .ne 9, 3) := by decide +kernel
theorem dX8_unload_95 : decode cX8_unload 95 = .ok (.aload_n 0, 1) := by decide +kernel
theorem dX8_unload_96 : decode cX8_unload 96 = .ok (.iload 4, 2) := by decide +kernel
theorem dX8_unload_98 : decode cX8_unload 98 = .ok (.invokevirtual 273, 3) := by decide +kernel
theorem dX8_unload_101 : decode cX8_unload 101 = .ok (.iinc 4 1, 3) := by decide +kernel
theorem dX8_unload_104 : decode cX8_unload 104 = .ok (.goto (-34), 3) := by decide +kernel
theorem dX8_unload_107 : decode cX8_unload 107 = .ok (.aload_n 0, 1) := by decide +kernel
theorem dX8_unload_108 : decode cX8_unload 108 = .ok (.getfield 70, 3) := by decide +kernel
theorem dX8_unload_111 : decode cX8_unload 111 = .ok (.bipush 57, 2) := by decide +kernel
theorem dX8_unload_113 : decode cX8_unload 113 = .ok (.iconst 5, 1) := by decide +kernel
theorem dX8_unload_114 : decode cX8_unload 114 = .ok (.iload_n 1, 1) := by decide +kernel
theorem dX8_unload_115 : decode cX8_unload 115 = .ok (.imul, 1) := by decide +kernel
theorem dX8_unload_116 : decode cX8_unload 116 = .ok (.iadd, 1) := by decide +kernel
theorem dX8_unload_117 : decode cX8_unload 117 = .ok (.iconst 2, 1) := by decide +kernel
theorem dX8_unload_118 : decode cX8_unload 118 = .ok (.iadd, 1) := by decide +kernel
theorem dX8_unload_119 : decode cX8_unload 119 = .ok (.iconst 2, 1) := by decide +kernel
theorem dX8_unload_120 : decode cX8_unload 120 = .ok (.iastore, 1) := by decide +kernel
theorem dX8_unload_121 : decode cX8_unload 121 = .ok (.aload_n 0, 1) := by decide +kernel
theorem dX8_unload_122 : decode cX8_unload 122 = .ok (.getfield 70, 3) := by decide +kernel
theorem dX8_unload_125 : decode cX8_unload 125 = .ok (.bipush 57, 2) := by decide +kernel
theorem dX8_unload_127 : decode cX8_unload 127 = .ok (.iconst 5, 1) := by decide +kernel
theorem dX8_unload_128 : decode cX8_unload 128 = .ok (.iload_n 1, 1) := by decide +kernel
theorem dX8_unload_129 : decode cX8_unload 129 = .ok (.imul, 1) := by decide +kernel
theorem dX8_unload_130 : decode cX8_unload 130 = .ok (.iadd, 1) := by decide +kernel
theorem dX8_unload_131 : decode cX8_unload 131 = .ok (.iconst 3, 1) := by decide +kernel
theorem dX8_unload_132 : decode cX8_unload 132 = .ok (.iadd, 1) := by decide +kernel
theorem dX8_unload_133 : decode cX8_unload 133 = .ok (.iload_n 2, 1) := by decide +kernel
theorem dX8_unload_134 : decode cX8_unload 134 = .ok (.iastore, 1) := by decide +kernel
theorem dX8_unload_135 : decode cX8_unload 135 = .ok (.aload_n 0, 1) := by decide +kernel
theorem dX8_unload_136 : decode cX8_unload 136 = .ok (.getfield 70, 3) := by decide +kernel
theorem dX8_unload_139 : decode cX8_unload 139 = .ok (.bipush 57, 2) := by decide +kernel
theorem dX8_unload_141 : decode cX8_unload 141 = .ok (.iconst 5, 1) := by decide +kernel
theorem dX8_unload_142 : decode cX8_unload 142 = .ok (.iload_n 1, 1) := by decide +kernel
theorem dX8_unload_143 : decode cX8_unload 143 = .ok (.imul, 1) := by decide +kernel
theorem dX8_unload_144 : decode cX8_unload 144 = .ok (.iadd, 1) := by decide +kernel
theorem dX8_unload_145 : decode cX8_unload 145 = .ok (.iconst 4, 1) := by decide +kernel
theorem dX8_unload_146 : decode cX8_unload 146 = .ok (.iadd, 1) := by decide +kernel
theorem dX8_unload_147 : decode cX8_unload 147 = .ok (.iload_n 3, 1) := by decide +kernel
theorem dX8_unload_148 : decode cX8_unload 148 = .ok (.iastore, 1) := by decide +kernel
theorem dX8_unload_149 : decode cX8_unload 149 = .ok (.iload_n 3, 1) := by decide +kernel
theorem dX8_unload_150 : decode cX8_unload 150 = .ok (.ireturn, 1) := by decide +kernel
theorem dX8_empty_0 : decode cX8_empty 0 = .ok (.aload_n 0, 1) := by decide +kernel
theorem dX8_empty_1 : decode cX8_empty 1 = .ok (.iconst 0, 1) := by decide +kernel
theorem dX8_empty_2 : decode cX8_empty 2 = .ok (.putfield 1, 3) := by decide +kernel
theorem dX8_empty_5 : decode cX8_empty 5 = .ok (.aload_n 0, 1) := by decide +kernel
theorem dX8_empty_6 : decode cX8_empty 6 = .ok (.iload_n 1, 1) := by decide +kernel
theorem dX8_empty_7 : decode cX8_empty 7 = .ok (.invokevirtual 217, 3) := by decide +kernel
theorem dX8_empty_10 : decode cX8_empty 10 = .ok (.ifCond .eq 12, 3) := by decide +kernel
theorem dX8_empty_13 : decode cX8_empty 13 = .ok (.aload_n 0, 1) := by decide +kernel
theorem dX8_empty_14 : decode cX8_empty 14 = .ok (.iload_n 1, 1) := by decide +kernel
theorem dX8_empty_15 : decode cX8_empty 15 = .ok (.iconst 4, 1) := by decide +kernel
theorem dX8_empty_16 : decode cX8_empty 16 = .ok (.invokevirtual 176, 3) := by decide +kernel
theorem dX8_empty_19 : decode cX8_empty 19 = .ok (.ifCond .ne 5, 3) := by decide +kernel
theorem dX8_empty_22 : decode cX8_empty 22 = .ok (.iconst (-1), 1) := by decide +kernel
theorem dX8_empty_23 : decode cX8_empty 23 = .ok (.ireturn, 1) := by decide +kernel
theorem dX8_empty_24 : decode cX8_empty 24 = .ok (.aload_n 0, 1) := by decide +kernel
theorem dX8_empty_25 : decode cX8_empty 25 = .ok (.iload_n 1, 1) := by decide +kernel
theorem dX8_empty_26 : decode cX8_empty 26 = .ok (.iconst 4, 1) := by decide +kernel
theorem dX8_empty_27 : decode cX8_empty 27 = .ok (.invokevirtual 176, 3) := by decide +kernel
theorem dX8_empty_30 : decode cX8_empty 30 = .ok (.iconst 1, 1) := by decide +kernel
theorem dX8_empty_31 : decode cX8_empty 31 = .ok (.isub, 1) := by decide +kernel
theorem dX8_empty_32 : decode cX8_empty 32 = .ok (.istore_n 2, 1) := by decide +kernel
theorem dX8_empty_33 : decode cX8_empty 33 = .ok (.aload_n 0, 1) := by decide +kernel
theorem dX8_empty_34 : decode cX8_empty 34 = .ok (.iload_n 2, 1) := by decide +kernel
theorem dX8_empty_35 : decode cX8_empty 35 = .ok (.iconst 2, 1) := by decide +kernel
theorem dX8_empty_36 : decode cX8_empty 36 = .ok (.invokevirtual 180, 3) := by decide +kernel
theorem dX8_empty_39 : decode cX8_empty 39 = .ok (.iconst 1, 1) := by decide +kernel
theorem dX8_empty_40 : decode cX8_empty 40 = .ok (.if_icmp .ne 15, 3) := by decide +kernel
theorem dX8_empty_43 : decode cX8_empty 43 = .ok (.aload_n 0, 1) := by decide +kernel
theorem dX8_empty_44 : decode cX8_empty 44 = .ok (.iconst 0, 1) := by decide +kernel
theorem dX8_empty_45 : decode cX8_empty 45 = .ok (.invokevirtual 263, 3) := by decide +kernel
theorem dX8_empty_48 : decode cX8_empty 48 = .ok (.iconst 4, 1) := by decide +kernel
theorem dX8_empty_49 : decode cX8_empty 49 = .ok (.if_icmp .ne 6, 3) := by decide +kernel
theorem dX8_empty_52 : decode cX8_empty 52 = .ok (.bipush (-2), 2) := by decide +kernel
theorem dX8_empty_54 : decode cX8_empty 54 = .ok (.ireturn, 1) := by decide +kernel
theorem dX8_empty_55 : decode cX8_empty 55 = .ok (.aload_n 0, 1) := by decide +kernel
theorem dX8_empty_56 : decode cX8_empty 56 = .ok (.invokevirtual 266, 3) := by decide +kernel
theorem dX8_empty_59 : decode cX8_empty 59 = .ok (.aload_n 0, 1) := by decide +kernel
theorem dX8_empty_60 : decode cX8_empty 60 = .ok (.iload_n 1, 1) := by decide +kernel
theorem dX8_empty_61 : decode cX8_empty 61 = .ok (.iconst 3, 1) := by decide +kernel
theorem dX8_empty_62 : decode cX8_empty 62 = .ok (.invokevirtual 176, 3) := by decide +kernel
theorem dX8_empty_65 : decode cX8_empty 65 = .ok (.istore_n 3, 1) := by decide +kernel
theorem dX8_empty_66 : decode cX8_empty 66 = .ok (.aload_n 0, 1) := by decide +kernel
theorem dX8_empty_67 : decode cX8_empty 67 = .ok (.iload_n 1, 1) := by decide +kernel
theorem dX8_empty_68 : decode cX8_empty 68 = .ok (.invokevirtual 273, 3) := by decide +kernel
theorem dX8_empty_71 : decode cX8_empty 71 = .ok (.aload_n 0, 1) := by decide +kernel
theorem dX8_empty_72 : decode cX8_empty 72 = .ok (.getfield 70, 3) := by decide +kernel
theorem dX8_empty_75 : decode cX8_empty 75 = .ok (.bipush 57, 2) := by decide +kernel
theorem dX8_empty_77 : decode cX8_empty 77 = .ok (.iconst 5, 1) := by decide +kernel
theorem dX8_empty_78 : decode cX8_empty 78 = .ok (.iload_n 2, 1) := by decide +kernel
theorem dX8_empty_79 : decode cX8_empty 79 = .ok (.imul, 1) := by decide +kernel
theorem dX8_empty_80 : decode cX8_empty 80 = .ok (.iadd, 1) := by decide +kernel
theorem dX8_empty_81 : decode cX8_empty 81 = .ok (.iconst 2, 1) := by decide +kernel
theorem dX8_empty_82 : decode cX8_empty 82 = .ok (.iadd, 1) := by decide +kernel
theorem dX8_empty_83 : decode cX8_empty 83 = .ok (.iconst 0, 1) := by decide +kernel
theorem dX8_empty_84 : decode cX8_empty 84 = .ok (.iastore, 1) := by decide +kernel
theorem dX8_empty_85 : decode cX8_empty 85 = .ok (.iload_n 3, 1) := by decide +kernel
theorem dX8_empty_86 : decode cX8_empty 86 = .ok (.ireturn, 1) := by decide +kernel
theorem dX8_wash_0 : decode cX8_wash 0 = .ok (.aload_n 0, 1) := by decide +kernel
theorem dX8_wash_1 : decode cX8_wash 1 = .ok (.iconst 0, 1) := by decide +kernel
theorem dX8_wash_2 : decode cX8_wash 2 = .ok (.putfield 1, 3) := by decide +kernel
theorem dX8_wash_5 : decode cX8_wash 5 = .ok (.aload_n 0, 1) := by decide +kernel
theorem dX8_wash_6 : decode cX8_wash 6 = .ok (.iload_n 1, 1) := by decide +kernel
theorem dX8_wash_7 : decode cX8_wash 7 = .ok (.invokevirtual 217, 3) := by decide +kernel
theorem dX8_wash_10 : decode cX8_wash 10 = .ok (.ifCond .eq 21, 3) := by decide +kernel
theorem dX8_wash_13 : decode cX8_wash 13 = .ok (.aload_n 0, 1) := by decide +kernel
theorem dX8_wash_14 : decode cX8_wash 14 = .ok (.iload_n 1, 1) := by decide +kernel
theorem dX8_wash_15 : decode cX8_wash 15 = .ok (.iconst 4, 1) := by decide +kernel
theorem dX8_wash_16 : decode cX8_wash 16 = .ok (.invokevirtual 176, 3) := by decide +kernel
theorem dX8_wash_19 : decode cX8_wash 19 = .ok (.ifCond .gt 12, 3) := by decide +kernel
theorem dX8_wash_22 : decode cX8_wash 22 = .ok (.aload_n 0, 1) := by decide +kernel
theorem dX8_wash_23 : decode cX8_wash 23 = .ok (.iload_n 1, 1) := by decide +kernel
theorem dX8_wash_24 : decode cX8_wash 24 = .ok (.iconst 5, 1) := by decide +kernel
theorem dX8_wash_25 : decode cX8_wash 25 = .ok (.invokevirtual 176, 3) := by decide +kernel
theorem dX8_wash_28 : decode cX8_wash 28 = .ok (.ifCond .ne 5, 3) := by decide +kernel
theorem dX8_wash_31 : decode cX8_wash 31 = .ok (.iconst 0, 1) := by decide +kernel
theorem dX8_wash_32 : decode cX8_wash 32 = .ok (.ireturn, 1) := by decide +kernel
theorem dX8_wash_33 : decode cX8_wash 33 = .ok (.aload_n 0, 1) := by decide +kernel
theorem dX8_wash_34 : decode cX8_wash 34 = .ok (.invokevirtual 266, 3) := by decide +kernel
theorem dX8_wash_37 : decode cX8_wash 37 = .ok (.aload_n 0, 1) := by decide +kernel
theorem dX8_wash_38 : decode cX8_wash 38 = .ok (.getfield 70, 3) := by decide +kernel
theorem dX8_wash_41 : decode cX8_wash 41 = .ok (.bipush 27, 2) := by decide +kernel
theorem dX8_wash_43 : decode cX8_wash 43 = .ok (.bipush 6, 2) := by decide +kernel
theorem dX8_wash_45 : decode cX8_wash 45 = .ok (.iload_n 1, 1) := by decide +kernel
theorem dX8_wash_46 : decode cX8_wash 46 = .ok (.imul, 1) := by decide +kernel
theorem dX8_wash_47 : decode cX8_wash 47 = .ok (.iadd, 1) := by decide +kernel
theorem dX8_wash_48 : decode cX8_wash 48 = .ok (.iconst 5, 1) := by decide +kernel
theorem dX8_wash_49 : decode cX8_wash 49 = .ok (.iadd, 1) := by decide +kernel
theorem dX8_wash_50 : decode cX8_wash 50 = .ok (.iconst 0, 1) := by decide +kernel
theorem dX8_wash_51 : decode cX8_wash 51 = .ok (.iastore, 1) := by decide +kernel
theorem dX8_wash_52 : decode cX8_wash 52 = .ok (.aload_n 0, 1) := by decide +kernel
theorem dX8_wash_53 : decode cX8_wash 53 = .ok (.getfield 70, 3) := by decide +kernel
theorem dX8_wash_56 : decode cX8_wash 56 = .ok (.bipush 14, 2) := by decide +kernel
theorem dX8_wash_58 : decode cX8_wash 58 = .ok (.dup2, 1) := by decide +kernel
theorem dX8_wash_59 : decode cX8_wash 59 = .ok (.iaload, 1) := by decide +kernel
theorem dX8_wash_60 : decode cX8_wash 60 = .ok (.iconst 1, 1) := by decide +kernel
theorem dX8_wash_61 : decode cX8_wash 61 = .ok (.iadd, 1) := by decide +kernel
theorem dX8_wash_62 : decode cX8_wash 62 = .ok (.iastore, 1) := by decide +kernel
theorem dX8_wash_63 : decode cX8_wash 63 = .ok (.iconst 1, 1) := by decide +kernel
theorem dX8_wash_64 : decode cX8_wash 64 = .ok (.ireturn, 1) := by decide +kernel
theorem dX8_undo_0 : decode cX8_undo 0 = .ok (.aload_n 0, 1) := by decide +kernel
theorem dX8_undo_1 : decode cX8_undo 1 = .ok (.iconst 0, 1) := by decide +kernel
theorem dX8_undo_2 : decode cX8_undo 2 = .ok (.putfield 1, 3) := by decide +kernel
theorem dX8_undo_5 : decode cX8_undo 5 = .ok (.aload_n 0, 1) := by decide +kernel
theorem dX8_undo_6 : decode cX8_undo 6 = .ok (.getfield 173, 3) := by decide +kernel
theorem dX8_undo_9 : decode cX8_undo 9 = .ok (.ifCond .ne 5, 3) := by decide +kernel
theorem dX8_undo_12 : decode cX8_undo 12 = .ok (.iconst (-1), 1) := by decide +kernel
theorem dX8_undo_13 : decode cX8_undo 13 = .ok (.ireturn, 1) := by decide +kernel
theorem dX8_undo_14 : decode cX8_undo 14 = .ok (.aload_n 0, 1) := by decide +kernel
theorem dX8_undo_15 : decode cX8_undo 15 = .ok (.dup, 1) := by decide +kernel
theorem dX8_undo_16 : decode cX8_undo 16 = .ok (.getfield 173, 3) := by decide +kernel
theorem dX8_undo_19 : decode cX8_undo 19 = .ok (.iconst 1, 1) := by decide +kernel
theorem dX8_undo_20 : decode cX8_undo 20 = .ok (.isub, 1) := by decide +kernel
theorem dX8_undo_21 : decode cX8_undo 21 = .ok (.putfield 173, 3) := by decide +kernel
theorem dX8_undo_24 : decode cX8_undo 24 = .ok (.iconst 0, 1) := by decide +kernel
theorem dX8_undo_25 : decode cX8_undo 25 = .ok (.istore_n 1, 1) := by decide +kernel
theorem dX8_undo_26 : decode cX8_undo 26 = .ok (.iload_n 1, 1) := by decide +kernel
theorem dX8_undo_27 : decode cX8_undo 27 = .ok (.sipush 157, 3) := by decide +kernel
theorem dX8_undo_30 : decode cX8_undo 30 = .ok (.if_icmp .ge 30, 3) := by decide +kernel
theorem dX8_undo_33 : decode cX8_undo 33 = .ok (.aload_n 0, 1) := by decide +kernel
theorem dX8_undo_34 : decode cX8_undo 34 = .ok (.getfield 70, 3) := by decide +kernel
theorem dX8_undo_37 : decode cX8_undo 37 = .ok (.iload_n 1, 1) := by decide +kernel
theorem dX8_undo_38 : decode cX8_undo 38 = .ok (.aload_n 0, 1) := by decide +kernel
theorem dX8_undo_39 : decode cX8_undo 39 = .ok (.getfield 76, 3) := by decide +kernel
theorem dX8_undo_42 : decode cX8_undo 42 = .ok (.sipush 157, 3) := by decide +kernel
theorem dX8_undo_45 : decode cX8_undo 45 = .ok (.aload_n 0, 1) := by decide +kernel
theorem dX8_undo_46 : decode cX8_undo 46 = .ok (.getfield 173, 3) := by decide +kernel
theorem dX8_undo_49 : decode cX8_undo 49 = .ok (.imul, 1) := by decide +kernel
theorem dX8_undo_50 : decode cX8_undo 50 = .ok (.iload_n 1, 1) := by decide +kernel
theorem dX8_undo_51 : decode cX8_undo 51 = .ok (.iadd, 1) := by decide +kernel
theorem dX8_undo_52 : decode cX8_undo 52 = .ok (.iaload, 1) := by decide +kernel
theorem dX8_undo_53 : decode cX8_undo 53 = .ok (.iastore, 1) := by decide +kernel
theorem dX8_undo_54 : decode cX8_undo 54 = .ok (.iinc 1 1, 3) := by decide +kernel
theorem dX8_undo_57 : decode cX8_undo 57 = .ok (.goto (-31), 3) := by decide +kernel
theorem dX8_undo_60 : decode cX8_undo 60 = .ok (.aload_n 0, 1) := by decide +kernel
theorem dX8_undo_61 : decode cX8_undo 61 = .ok (.getfield 173, 3) := by decide +kernel
theorem dX8_undo_64 : decode cX8_undo 64 = .ok (.ireturn, 1) := by decide +kernel
theorem dJ13_bitCount_95d88_0 : decode cJ13_bitCount_95d88 0 = .ok (.lload_n 0, 1) := by decide +kernel
theorem dJ13_bitCount_95d88_1 : decode cJ13_bitCount_95d88 1 = .ok (.lload_n 0, 1) := by decide +kernel
theorem dJ13_bitCount_95d88_2 : decode cJ13_bitCount_95d88 2 = .ok (.iconst 1, 1) := by decide +kernel
theorem dJ13_bitCount_95d88_3 : decode cJ13_bitCount_95d88 3 = .ok (.lushr, 1) := by decide +kernel
theorem dJ13_bitCount_95d88_4 : decode cJ13_bitCount_95d88 4 = .ok (.ldc2_w 314, 3) := by decide +kernel
theorem dJ13_bitCount_95d88_7 : decode cJ13_bitCount_95d88 7 = .ok (.land, 1) := by decide +kernel
theorem dJ13_bitCount_95d88_8 : decode cJ13_bitCount_95d88 8 = .ok (.lsub, 1) := by decide +kernel
theorem dJ13_bitCount_95d88_9 : decode cJ13_bitCount_95d88 9 = .ok (.lstore_n 0, 1) := by decide +kernel
theorem dJ13_bitCount_95d88_10 : decode cJ13_bitCount_95d88 10 = .ok (.lload_n 0, 1) := by decide +kernel
theorem dJ13_bitCount_95d88_11 : decode cJ13_bitCount_95d88 11 = .ok (.ldc2_w 316, 3) := by decide +kernel
theorem dJ13_bitCount_95d88_14 : decode cJ13_bitCount_95d88 14 = .ok (.land, 1) := by decide +kernel
theorem dJ13_bitCount_95d88_15 : decode cJ13_bitCount_95d88 15 = .ok (.lload_n 0, 1) := by decide +kernel
theorem dJ13_bitCount_95d88_16 : decode cJ13_bitCount_95d88 16 = .ok (.iconst 2, 1) := by decide +kernel
theorem dJ13_bitCount_95d88_17 : decode cJ13_bitCount_95d88 17 = .ok (.lushr, 1) := by decide +kernel
theorem dJ13_bitCount_95d88_18 : decode cJ13_bitCount_95d88 18 = .ok (.ldc2_w 316, 3) := by decide +kernel
theorem dJ13_bitCount_95d88_21 : decode cJ13_bitCount_95d88 21 = .ok (.land, 1) := by decide +kernel
theorem dJ13_bitCount_95d88_22 : decode cJ13_bitCount_95d88 22 = .ok (.ladd, 1) := by decide +kernel
theorem dJ13_bitCount_95d88_23 : decode cJ13_bitCount_95d88 23 = .ok (.lstore_n 0, 1) := by decide +kernel
theorem dJ13_bitCount_95d88_24 : decode cJ13_bitCount_95d88 24 = .ok (.lload_n 0, 1) := by decide +kernel
theorem dJ13_bitCount_95d88_25 : decode cJ13_bitCount_95d88 25 = .ok (.lload_n 0, 1) := by decide +kernel
theorem dJ13_bitCount_95d88_26 : decode cJ13_bitCount_95d88 26 = .ok (.iconst 4, 1) := by decide +kernel
theorem dJ13_bitCount_95d88_27 : decode cJ13_bitCount_95d88 27 = .ok (.lushr, 1) := by decide +kernel
theorem dJ13_bitCount_95d88_28 : decode cJ13_bitCount_95d88 28 = .ok (.ladd, 1) := by decide +kernel
theorem dJ13_bitCount_95d88_29 : decode cJ13_bitCount_95d88 29 = .ok (.ldc2_w 318, 3) := by decide +kernel
theorem dJ13_bitCount_95d88_32 : decode cJ13_bitCount_95d88 32 = .ok (.land, 1) := by decide +kernel
theorem dJ13_bitCount_95d88_33 : decode cJ13_bitCount_95d88 33 = .ok (.lstore_n 0, 1) := by decide +kernel
theorem dJ13_bitCount_95d88_34 : decode cJ13_bitCount_95d88 34 = .ok (.lload_n 0, 1) := by decide +kernel
theorem dJ13_bitCount_95d88_35 : decode cJ13_bitCount_95d88 35 = .ok (.lload_n 0, 1) := by decide +kernel
theorem dJ13_bitCount_95d88_36 : decode cJ13_bitCount_95d88 36 = .ok (.bipush 8, 2) := by decide +kernel
theorem dJ13_bitCount_95d88_38 : decode cJ13_bitCount_95d88 38 = .ok (.lushr, 1) := by decide +kernel
theorem dJ13_bitCount_95d88_39 : decode cJ13_bitCount_95d88 39 = .ok (.ladd, 1) := by decide +kernel
theorem dJ13_bitCount_95d88_40 : decode cJ13_bitCount_95d88 40 = .ok (.lstore_n 0, 1) := by decide +kernel
theorem dJ13_bitCount_95d88_41 : decode cJ13_bitCount_95d88 41 = .ok (.lload_n 0, 1) := by decide +kernel
theorem dJ13_bitCount_95d88_42 : decode cJ13_bitCount_95d88 42 = .ok (.lload_n 0, 1) := by decide +kernel
theorem dJ13_bitCount_95d88_43 : decode cJ13_bitCount_95d88 43 = .ok (.bipush 16, 2) := by decide +kernel
theorem dJ13_bitCount_95d88_45 : decode cJ13_bitCount_95d88 45 = .ok (.lushr, 1) := by decide +kernel
theorem dJ13_bitCount_95d88_46 : decode cJ13_bitCount_95d88 46 = .ok (.ladd, 1) := by decide +kernel
theorem dJ13_bitCount_95d88_47 : decode cJ13_bitCount_95d88 47 = .ok (.lstore_n 0, 1) := by decide +kernel
theorem dJ13_bitCount_95d88_48 : decode cJ13_bitCount_95d88 48 = .ok (.lload_n 0, 1) := by decide +kernel
theorem dJ13_bitCount_95d88_49 : decode cJ13_bitCount_95d88 49 = .ok (.lload_n 0, 1) := by decide +kernel
theorem dJ13_bitCount_95d88_50 : decode cJ13_bitCount_95d88 50 = .ok (.bipush 32, 2) := by decide +kernel
theorem dJ13_bitCount_95d88_52 : decode cJ13_bitCount_95d88 52 = .ok (.lushr, 1) := by decide +kernel
theorem dJ13_bitCount_95d88_53 : decode cJ13_bitCount_95d88 53 = .ok (.ladd, 1) := by decide +kernel
theorem dJ13_bitCount_95d88_54 : decode cJ13_bitCount_95d88 54 = .ok (.lstore_n 0, 1) := by decide +kernel
theorem dJ13_bitCount_95d88_55 : decode cJ13_bitCount_95d88 55 = .ok (.lload_n 0, 1) := by decide +kernel
theorem dJ13_bitCount_95d88_56 : decode cJ13_bitCount_95d88 56 = .ok (.l2i, 1) := by decide +kernel
theorem dJ13_bitCount_95d88_57 : decode cJ13_bitCount_95d88 57 = .ok (.bipush 127, 2) := by decide +kernel
theorem dJ13_bitCount_95d88_59 : decode cJ13_bitCount_95d88 59 = .ok (.iand, 1) := by decide +kernel
theorem dJ13_bitCount_95d88_60 : decode cJ13_bitCount_95d88 60 = .ok (.ireturn, 1) := by decide +kernel
theorem dJ9_min_7cf53_0 : decode cJ9_min_7cf53 0 = .ok (.iload_n 0, 1) := by decide +kernel
theorem dJ9_min_7cf53_1 : decode cJ9_min_7cf53 1 = .ok (.iload_n 1, 1) := by decide +kernel
theorem dJ9_min_7cf53_2 : decode cJ9_min_7cf53 2 = .ok (.if_icmp .gt 7, 3) := by decide +kernel
theorem dJ9_min_7cf53_5 : decode cJ9_min_7cf53 5 = .ok (.iload_n 0, 1) := by decide +kernel
theorem dJ9_min_7cf53_6 : decode cJ9_min_7cf53 6 = .ok (.goto 4, 3) := by decide +kernel
theorem dJ9_min_7cf53_9 : decode cJ9_min_7cf53 9 = .ok (.iload_n 1, 1) := by decide +kernel
theorem dJ9_min_7cf53_10 : decode cJ9_min_7cf53 10 = .ok (.ireturn, 1) := by decide +kernel
theorem dJ0_length_8abf5_0 : decode cJ0_length_8abf5 0 = .ok (.aload_n 0, 1) := by decide +kernel
theorem dJ0_length_8abf5_1 : decode cJ0_length_8abf5 1 = .ok (.getfield 9, 3) := by decide +kernel
theorem dJ0_length_8abf5_4 : decode cJ0_length_8abf5 4 = .ok (.arraylength, 1) := by decide +kernel
theorem dJ0_length_8abf5_5 : decode cJ0_length_8abf5 5 = .ok (.aload_n 0, 1) := by decide +kernel
theorem dJ0_length_8abf5_6 : decode cJ0_length_8abf5 6 = .ok (.invokevirtual 335, 3) := by decide +kernel
theorem dJ0_length_8abf5_9 : decode cJ0_length_8abf5 9 = .ok (.ishr, 1) := by decide +kernel
theorem dJ0_length_8abf5_10 : decode cJ0_length_8abf5 10 = .ok (.ireturn, 1) := by decide +kernel
theorem dJ0_charAt_5068e_0 : decode cJ0_charAt_5068e 0 = .ok (.aload_n 0, 1) := by decide +kernel
theorem dJ0_charAt_5068e_1 : decode cJ0_charAt_5068e 1 = .ok (.invokevirtual 492, 3) := by decide +kernel
theorem dJ0_charAt_5068e_4 : decode cJ0_charAt_5068e 4 = .ok (.ifCond .eq 12, 3) := by decide +kernel
theorem dJ0_charAt_5068e_7 : decode cJ0_charAt_5068e 7 = .ok (.aload_n 0, 1) := by decide +kernel
theorem dJ0_charAt_5068e_8 : decode cJ0_charAt_5068e 8 = .ok (.getfield 9, 3) := by decide +kernel
theorem dJ0_charAt_5068e_11 : decode cJ0_charAt_5068e 11 = .ok (.iload_n 1, 1) := by decide +kernel
theorem dJ0_charAt_5068e_12 : decode cJ0_charAt_5068e 12 = .ok (.invokestatic 495, 3) := by decide +kernel
theorem dJ0_charAt_5068e_15 : decode cJ0_charAt_5068e 15 = .ok (.ireturn, 1) := by decide +kernel
theorem dJ0_charAt_5068e_16 : decode cJ0_charAt_5068e 16 = .ok (.aload_n 0, 1) := by decide +kernel
theorem dJ0_charAt_5068e_17 : decode cJ0_charAt_5068e 17 = .ok (.getfield 9, 3) := by decide +kernel
theorem dJ0_charAt_5068e_20 : decode cJ0_charAt_5068e 20 = .ok (.iload_n 1, 1) := by decide +kernel
theorem dJ0_charAt_5068e_21 : decode cJ0_charAt_5068e 21 = .ok (.invokestatic 498, 3) := by decide +kernel
theorem dJ0_charAt_5068e_24 : decode cJ0_charAt_5068e 24 = .ok (.ireturn, 1) := by decide +kernel
theorem dJ0_coder_7d493_0 : decode cJ0_coder_7d493 0 = .ok (.getstatic 38, 3) := by decide +kernel
theorem dJ0_coder_7d493_3 : decode cJ0_coder_7d493 3 = .ok (.ifCond .eq 10, 3) := by decide +kernel
theorem dJ0_coder_7d493_6 : decode cJ0_coder_7d493 6 = .ok (.aload_n 0, 1) := by decide +kernel
theorem dJ0_coder_7d493_7 : decode cJ0_coder_7d493 7 = .ok (.getfield 15, 3) := by decide +kernel
theorem dJ0_coder_7d493_10 : decode cJ0_coder_7d493 10 = .ok (.goto 4, 3) := by decide +kernel
theorem dJ0_coder_7d493_13 : decode cJ0_coder_7d493 13 = .ok (.iconst 1, 1) := by decide +kernel
theorem dJ0_coder_7d493_14 : decode cJ0_coder_7d493 14 = .ok (.ireturn, 1) := by decide +kernel
theorem dJ0_isLatin1_aae02_0 : decode cJ0_isLatin1_aae02 0 = .ok (.getstatic 38, 3) := by decide +kernel
theorem dJ0_isLatin1_aae02_3 : decode cJ0_isLatin1_aae02 3 = .ok (.ifCond .eq 14, 3) := by decide +kernel
theorem dJ0_isLatin1_aae02_6 : decode cJ0_isLatin1_aae02 6 = .ok (.aload_n 0, 1) := by decide +kernel
theorem dJ0_isLatin1_aae02_7 : decode cJ0_isLatin1_aae02 7 = .ok (.getfield 15, 3) := by decide +kernel
theorem dJ0_isLatin1_aae02_10 : decode cJ0_isLatin1_aae02 10 = .ok (.ifCond .ne 7, 3) := by decide +kernel
theorem dJ0_isLatin1_aae02_13 : decode cJ0_isLatin1_aae02 13 = .ok (.iconst 1, 1) := by decide +kernel
theorem dJ0_isLatin1_aae02_14 : decode cJ0_isLatin1_aae02 14 = .ok (.goto 4, 3) := by decide +kernel
theorem dJ0_isLatin1_aae02_17 : decode cJ0_isLatin1_aae02 17 = .ok (.iconst 0, 1) := by decide +kernel
theorem dJ0_isLatin1_aae02_18 : decode cJ0_isLatin1_aae02 18 = .ok (.ireturn, 1) := by decide +kernel
theorem dJ0_checkIndex_df160_0 : decode cJ0_checkIndex_df160 0 = .ok (.iload_n 0, 1) := by decide +kernel
theorem dJ0_checkIndex_df160_1 : decode cJ0_checkIndex_df160 1 = .ok (.iload_n 1, 1) := by decide +kernel
theorem dJ0_checkIndex_df160_2 : decode cJ0_checkIndex_df160 2 = .ok (.getstatic 1053, 3) := by decide +kernel
theorem dJ0_checkIndex_df160_5 : decode cJ0_checkIndex_df160 5 = .ok (.invokestatic 1059, 3) := by decide +kernel
theorem dJ0_checkIndex_df160_8 : decode cJ0_checkIndex_df160 8 = .ok (.pop, 1) := by decide +kernel
theorem dJ0_checkIndex_df160_9 : decode cJ0_checkIndex_df160 9 = .ok (.return_, 1) := by decide +kernel
theorem dJ1_charAt_3b067_0 : decode cJ1_charAt_3b067 0 = .ok (.iload_n 1, 1) := by decide +kernel
theorem dJ1_charAt_3b067_1 : decode cJ1_charAt_3b067 1 = .ok (.aload_n 0, 1) := by decide +kernel
theorem dJ1_charAt_3b067_2 : decode cJ1_charAt_3b067 2 = .ok (.arraylength, 1) := by decide +kernel
theorem dJ1_charAt_3b067_3 : decode cJ1_charAt_3b067 3 = .ok (.invokestatic 9, 3) := by decide +kernel
theorem dJ1_charAt_3b067_6 : decode cJ1_charAt_3b067 6 = .ok (.aload_n 0, 1) := by decide +kernel
theorem dJ1_charAt_3b067_7 : decode cJ1_charAt_3b067 7 = .ok (.iload_n 1, 1) := by decide +kernel
theorem dJ1_charAt_3b067_8 : decode cJ1_charAt_3b067 8 = .ok (.baload, 1) := by decide +kernel
theorem dJ1_charAt_3b067_9 : decode cJ1_charAt_3b067 9 = .ok (.sipush 255, 3) := by decide +kernel
theorem dJ1_charAt_3b067_12 : decode cJ1_charAt_3b067 12 = .ok (.iand, 1) := by decide +kernel
theorem dJ1_charAt_3b067_13 : decode cJ1_charAt_3b067 13 = .ok (.i2c, 1) := by decide +kernel
theorem dJ1_charAt_3b067_14 : decode cJ1_charAt_3b067 14 = .ok (.ireturn, 1) := by decide +kernel
theorem dJ2_getChar_3b067_0 : decode cJ2_getChar_3b067 0 = .ok (.getstatic 44, 3) := by decide +kernel
theorem dJ2_getChar_3b067_3 : decode cJ2_getChar_3b067 3 = .ok (.ifCond .ne 25, 3) := by decide +kernel
theorem dJ2_getChar_3b067_6 : decode cJ2_getChar_3b067 6 = .ok (.iload_n 1, 1) := by decide +kernel
theorem dJ2_getChar_3b067_7 : decode cJ2_getChar_3b067 7 = .ok (.ifCond .lt 11, 3) := by decide +kernel
theorem dJ2_getChar_3b067_10 : decode cJ2_getChar_3b067 10 = .ok (.iload_n 1, 1) := by decide +kernel
theorem dJ2_getChar_3b067_11 : decode cJ2_getChar_3b067 11 = .ok (.aload_n 0, 1) := by decide +kernel
theorem dJ2_getChar_3b067_12 : decode cJ2_getChar_3b067 12 = .ok (.invokestatic 48, 3) := by decide +kernel
theorem dJ2_getChar_3b067_15 : decode cJ2_getChar_3b067 15 = .ok (.if_icmp .lt 13, 3) := by decide +kernel
theorem dJ2_getChar_3b067_18 : decode cJ2_getChar_3b067 18 = .ok (.new 52, 3) := by decide +kernel
theorem dJ2_getChar_3b067_21 : decode cJ2_getChar_3b067 21 = .ok (.dup, 1) := by decide +kernel
theorem dJ2_getChar_3b067_22 : decode cJ2_getChar_3b067 22 = .ok (.ldc 54, 2) := by decide +kernel
theorem dJ2_getChar_3b067_24 : decode cJ2_getChar_3b067 24 = .ok (.invokespecial 56, 3) := by decide +kernel
theorem dJ2_getChar_3b067_27 : decode cJ2_getChar_3b067 27 = .ok (.athrow, 1) := by decide +kernel
theorem dJ2_getChar_3b067_28 : decode cJ2_getChar_3b067 28 = .ok (.iload_n 1, 1) := by decide +kernel
theorem dJ2_getChar_3b067_29 : decode cJ2_getChar_3b067 29 = .ok (.iconst 1, 1) := by decide +kernel
theorem dJ2_getChar_3b067_30 : decode cJ2_getChar_3b067 30 = .ok (.ishl, 1) := by decide +kernel
theorem dJ2_getChar_3b067_31 : decode cJ2_getChar_3b067 31 = .ok (.istore_n 1, 1) := by decide +kernel
theorem dJ2_getChar_3b067_32 : decode cJ2_getChar_3b067 32 = .ok (.aload_n 0, 1) := by decide +kernel
theorem dJ2_getChar_3b067_33 : decode cJ2_getChar_3b067 33 = .ok (.iload_n 1, 1) := by decide +kernel
theorem dJ2_getChar_3b067_34 : decode cJ2_getChar_3b067 34 = .ok (.iinc 1 1, 3) := by decide +kernel
theorem dJ2_getChar_3b067_37 : decode cJ2_getChar_3b067 37 = .ok (.baload, 1) := by decide +kernel
theorem dJ2_getChar_3b067_38 : decode cJ2_getChar_3b067 38 = .ok (.sipush 255, 3) := by decide +kernel
theorem dJ2_getChar_3b067_41 : decode cJ2_getChar_3b067 41 = .ok (.iand, 1) := by decide +kernel
theorem dJ2_getChar_3b067_42 : decode cJ2_getChar_3b067 42 = .ok (.getstatic 59, 3) := by decide +kernel
theorem dJ2_getChar_3b067_45 : decode cJ2_getChar_3b067 45 = .ok (.ishl, 1) := by decide +kernel
theorem dJ2_getChar_3b067_46 : decode cJ2_getChar_3b067 46 = .ok (.aload_n 0, 1) := by decide +kernel
theorem dJ2_getChar_3b067_47 : decode cJ2_getChar_3b067 47 = .ok (.iload_n 1, 1) := by decide +kernel
theorem dJ2_getChar_3b067_48 : decode cJ2_getChar_3b067 48 = .ok (.baload, 1) := by decide +kernel
theorem dJ2_getChar_3b067_49 : decode cJ2_getChar_3b067 49 = .ok (.sipush 255, 3) := by decide +kernel
theorem dJ2_getChar_3b067_52 : decode cJ2_getChar_3b067 52 = .ok (.iand, 1) := by decide +kernel
theorem dJ2_getChar_3b067_53 : decode cJ2_getChar_3b067 53 = .ok (.getstatic 63, 3) := by decide +kernel
theorem dJ2_getChar_3b067_56 : decode cJ2_getChar_3b067 56 = .ok (.ishl, 1) := by decide +kernel
theorem dJ2_getChar_3b067_57 : decode cJ2_getChar_3b067 57 = .ok (.ior, 1) := by decide +kernel
theorem dJ2_getChar_3b067_58 : decode cJ2_getChar_3b067 58 = .ok (.i2c, 1) := by decide +kernel
theorem dJ2_getChar_3b067_59 : decode cJ2_getChar_3b067 59 = .ok (.ireturn, 1) := by decide +kernel
theorem dJ2_length_9d52b_0 : decode cJ2_length_9d52b 0 = .ok (.aload_n 0, 1) := by decide +kernel
theorem dJ2_length_9d52b_1 : decode cJ2_length_9d52b 1 = .ok (.arraylength, 1) := by decide +kernel
theorem dJ2_length_9d52b_2 : decode cJ2_length_9d52b 2 = .ok (.iconst 1, 1) := by decide +kernel
theorem dJ2_length_9d52b_3 : decode cJ2_length_9d52b 3 = .ok (.ishr, 1) := by decide +kernel
theorem dJ2_length_9d52b_4 : decode cJ2_length_9d52b 4 = .ok (.ireturn, 1) := by decide +kernel
theorem dJ2_charAt_3b067_0 : decode cJ2_charAt_3b067 0 = .ok (.iload_n 1, 1) := by decide +kernel
theorem dJ2_charAt_3b067_1 : decode cJ2_charAt_3b067 1 = .ok (.aload_n 0, 1) := by decide +kernel
theorem dJ2_charAt_3b067_2 : decode cJ2_charAt_3b067 2 = .ok (.invokestatic 67, 3) := by decide +kernel
theorem dJ2_charAt_3b067_5 : decode cJ2_charAt_3b067 5 = .ok (.aload_n 0, 1) := by decide +kernel
theorem dJ2_charAt_3b067_6 : decode cJ2_charAt_3b067 6 = .ok (.iload_n 1, 1) := by decide +kernel
theorem dJ2_charAt_3b067_7 : decode cJ2_charAt_3b067 7 = .ok (.invokestatic 71, 3) := by decide +kernel
theorem dJ2_charAt_3b067_10 : decode cJ2_charAt_3b067 10 = .ok (.ireturn, 1) := by decide +kernel
theorem dJ2_checkIndex_2214a_0 : decode cJ2_checkIndex_2214a 0 = .ok (.iload_n 0, 1) := by decide +kernel
theorem dJ2_checkIndex_2214a_1 : decode cJ2_checkIndex_2214a 1 = .ok (.aload_n 1, 1) := by decide +kernel
theorem dJ2_checkIndex_2214a_2 : decode cJ2_checkIndex_2214a 2 = .ok (.invokestatic 48, 3) := by decide +kernel
theorem dJ2_checkIndex_2214a_5 : decode cJ2_checkIndex_2214a 5 = .ok (.invokestatic 414, 3) := by decide +kernel
theorem dJ2_checkIndex_2214a_8 : decode cJ2_checkIndex_2214a 8 = .ok (.return_, 1) := by decide +kernel
theorem dJ7_fill_53178_0 : decode cJ7_fill_53178 0 = .ok (.iconst 0, 1) := by decide +kernel
theorem dJ7_fill_53178_1 : decode cJ7_fill_53178 1 = .ok (.istore_n 2, 1) := by decide +kernel
theorem dJ7_fill_53178_2 : decode cJ7_fill_53178 2 = .ok (.aload_n 0, 1) := by decide +kernel
theorem dJ7_fill_53178_3 : decode cJ7_fill_53178 3 = .ok (.arraylength, 1) := by decide +kernel
theorem dJ7_fill_53178_4 : decode cJ7_fill_53178 4 = .ok (.istore_n 3, 1) := by decide +kernel
theorem dJ7_fill_53178_5 : decode cJ7_fill_53178 5 = .ok (.iload_n 2, 1) := by decide +kernel
theorem dJ7_fill_53178_6 : decode cJ7_fill_53178 6 = .ok (.iload_n 3, 1) := by decide +kernel
theorem dJ7_fill_53178_7 : decode cJ7_fill_53178 7 = .ok (.if_icmp .ge 13, 3) := by decide +kernel
theorem dJ7_fill_53178_10 : decode cJ7_fill_53178 10 = .ok (.aload_n 0, 1) := by decide +kernel
theorem dJ7_fill_53178_11 : decode cJ7_fill_53178 11 = .ok (.iload_n 2, 1) := by decide +kernel
theorem dJ7_fill_53178_12 : decode cJ7_fill_53178 12 = .ok (.iload_n 1, 1) := by decide +kernel
theorem dJ7_fill_53178_13 : decode cJ7_fill_53178 13 = .ok (.iastore, 1) := by decide +kernel
theorem dJ7_fill_53178_14 : decode cJ7_fill_53178 14 = .ok (.iinc 2 1, 3) := by decide +kernel
theorem dJ7_fill_53178_17 : decode cJ7_fill_53178 17 = .ok (.goto (-12), 3) := by decide +kernel
theorem dJ7_fill_53178_20 : decode cJ7_fill_53178 20 = .ok (.return_, 1) := by decide +kernel
theorem dJ3_checkIndex_8e157_0 : decode cJ3_checkIndex_8e157 0 = .ok (.iload_n 0, 1) := by decide +kernel
theorem dJ3_checkIndex_8e157_1 : decode cJ3_checkIndex_8e157 1 = .ok (.ifCond .lt 8, 3) := by decide +kernel
theorem dJ3_checkIndex_8e157_4 : decode cJ3_checkIndex_8e157 4 = .ok (.iload_n 0, 1) := by decide +kernel
theorem dJ3_checkIndex_8e157_5 : decode cJ3_checkIndex_8e157 5 = .ok (.iload_n 1, 1) := by decide +kernel
theorem dJ3_checkIndex_8e157_6 : decode cJ3_checkIndex_8e157 6 = .ok (.if_icmp .lt 10, 3) := by decide +kernel
theorem dJ3_checkIndex_8e157_9 : decode cJ3_checkIndex_8e157 9 = .ok (.aload_n 2, 1) := by decide +kernel
theorem dJ3_checkIndex_8e157_10 : decode cJ3_checkIndex_8e157 10 = .ok (.iload_n 0, 1) := by decide +kernel
theorem dJ3_checkIndex_8e157_11 : decode cJ3_checkIndex_8e157 11 = .ok (.iload_n 1, 1) := by decide +kernel
theorem dJ3_checkIndex_8e157_12 : decode cJ3_checkIndex_8e157 12 = .ok (.invokestatic 95, 3) := by decide +kernel
theorem dJ3_checkIndex_8e157_15 : decode cJ3_checkIndex_8e157 15 = .ok (.athrow, 1) := by decide +kernel
theorem dJ3_checkIndex_8e157_16 : decode cJ3_checkIndex_8e157 16 = .ok (.iload_n 0, 1) := by decide +kernel
theorem dJ3_checkIndex_8e157_17 : decode cJ3_checkIndex_8e157 17 = .ok (.ireturn, 1) := by decide +kernel
theorem dL_drop_0 : decode cL_drop 0 = .ok (.aload_n 3, 1) := by decide +kernel
theorem dL_drop_1 : decode cL_drop 1 = .ok (.iconst 0, 1) := by decide +kernel
theorem dL_drop_2 : decode cL_drop 2 = .ok (.aload_n 0, 1) := by decide +kernel
theorem dL_drop_3 : decode cL_drop 3 = .ok (.iload_n 1, 1) := by decide +kernel
theorem dL_drop_4 : decode cL_drop 4 = .ok (.iload_n 2, 1) := by decide +kernel
theorem dL_drop_5 : decode cL_drop 5 = .ok (.invokevirtual 7, 3) := by decide +kernel
theorem dL_drop_8 : decode cL_drop 8 = .ok (.i2l, 1) := by decide +kernel
theorem dL_drop_9 : decode cL_drop 9 = .ok (.lastore, 1) := by decide +kernel
theorem dL_drop_10 : decode cL_drop 10 = .ok (.goto 7, 3) := by decide +kernel
theorem dL_drop_13 : decode cL_drop 13 = .ok (.astore 4, 2) := by decide +kernel
theorem dL_drop_15 : decode cL_drop 15 = .ok (.iconst 1, 1) := by decide +kernel
theorem dL_drop_16 : decode cL_drop 16 = .ok (.ireturn, 1) := by decide +kernel
theorem dL_drop_17 : decode cL_drop 17 = .ok (.iconst 0, 1) := by decide +kernel
theorem dL_drop_18 : decode cL_drop 18 = .ok (.ireturn, 1) := by decide +kernel
theorem dL_law_0 : decode cL_law 0 = .ok (.new 8, 3) := by decide +kernel
theorem dL_law_3 : decode cL_law 3 = .ok (.dup, 1) := by decide +kernel
theorem dL_law_4 : decode cL_law 4 = .ok (.invokespecial 15, 3) := by decide +kernel
theorem dL_law_7 : decode cL_law 7 = .ok (.astore_n 1, 1) := by decide +kernel
theorem dL_law_8 : decode cL_law 8 = .ok (.new 16, 3) := by decide +kernel
theorem dL_law_11 : decode cL_law 11 = .ok (.dup, 1) := by decide +kernel
theorem dL_law_12 : decode cL_law 12 = .ok (.invokespecial 18, 3) := by decide +kernel
theorem dL_law_15 : decode cL_law 15 = .ok (.astore_n 2, 1) := by decide +kernel
theorem dL_law_16 : decode cL_law 16 = .ok (.iconst 1, 1) := by decide +kernel
theorem dL_law_17 : decode cL_law 17 = .ok (.newarray .long, 2) := by decide +kernel
theorem dL_law_19 : decode cL_law 19 = .ok (.astore_n 3, 1) := by decide +kernel
theorem dL_law_20 : decode cL_law 20 = .ok (.iconst 0, 1) := by decide +kernel
theorem dL_law_21 : decode cL_law 21 = .ok (.istore 4, 2) := by decide +kernel
theorem dL_law_23 : decode cL_law 23 = .ok (.iload 4, 2) := by decide +kernel
theorem dL_law_25 : decode cL_law 25 = .ok (.aload_n 0, 1) := by decide +kernel
theorem dL_law_26 : decode cL_law 26 = .ok (.arraylength, 1) := by decide +kernel
theorem dL_law_27 : decode cL_law 27 = .ok (.bipush 6, 2) := by decide +kernel
theorem dL_law_29 : decode cL_law 29 = .ok (.isub, 1) := by decide +kernel
theorem dL_law_30 : decode cL_law 30 = .ok (.if_icmp .gt 773, 3) := by decide +kernel
theorem dL_law_33 : decode cL_law 33 = .ok (.aload_n 0, 1) := by decide +kernel
theorem dL_law_34 : decode cL_law 34 = .ok (.iload 4, 2) := by decide +kernel
theorem dL_law_36 : decode cL_law 36 = .ok (.iaload, 1) := by decide +kernel
theorem dL_law_37 : decode cL_law 37 = .ok (.bipush 31, 2) := by decide +kernel
theorem dL_law_39 : decode cL_law 39 = .ok (.iand, 1) := by decide +kernel
theorem dL_law_40 : decode cL_law 40 = .ok (.tableswitch 757 0 21 #[104, 177, 202, 215, 228, 253, 290, 358, 395, 444, 457, 482, 507, 532, 545, 582, 607, 644, 657, 694, 719, 744], 104) := by decide +kernel
theorem dL_law_144 : decode cL_law 144 = .ok (.aload_n 1, 1) := by decide +kernel
theorem dL_law_145 : decode cL_law 145 = .ok (.aload_n 0, 1) := by decide +kernel
theorem dL_law_146 : decode cL_law 146 = .ok (.iload 4, 2) := by decide +kernel
theorem dL_law_148 : decode cL_law 148 = .ok (.iconst 1, 1) := by decide +kernel
theorem dL_law_149 : decode cL_law 149 = .ok (.iadd, 1) := by decide +kernel
theorem dL_law_150 : decode cL_law 150 = .ok (.iaload, 1) := by decide +kernel
theorem dL_law_151 : decode cL_law 151 = .ok (.aload_n 0, 1) := by decide +kernel
theorem dL_law_152 : decode cL_law 152 = .ok (.iload 4, 2) := by decide +kernel
theorem dL_law_154 : decode cL_law 154 = .ok (.iconst 2, 1) := by decide +kernel
theorem dL_law_155 : decode cL_law 155 = .ok (.iadd, 1) := by decide +kernel
theorem dL_law_156 : decode cL_law 156 = .ok (.iaload, 1) := by decide +kernel
theorem dL_law_157 : decode cL_law 157 = .ok (.aload_n 0, 1) := by decide +kernel
theorem dL_law_158 : decode cL_law 158 = .ok (.iload 4, 2) := by decide +kernel
theorem dL_law_160 : decode cL_law 160 = .ok (.iconst 3, 1) := by decide +kernel
theorem dL_law_161 : decode cL_law 161 = .ok (.iadd, 1) := by decide +kernel
theorem dL_law_162 : decode cL_law 162 = .ok (.iaload, 1) := by decide +kernel
theorem dL_law_163 : decode cL_law 163 = .ok (.aload_n 0, 1) := by decide +kernel
theorem dL_law_164 : decode cL_law 164 = .ok (.iload 4, 2) := by decide +kernel
theorem dL_law_166 : decode cL_law 166 = .ok (.iconst 4, 1) := by decide +kernel
theorem dL_law_167 : decode cL_law 167 = .ok (.iadd, 1) := by decide +kernel
theorem dL_law_168 : decode cL_law 168 = .ok (.iaload, 1) := by decide +kernel
theorem dL_law_169 : decode cL_law 169 = .ok (.aload_n 0, 1) := by decide +kernel
theorem dL_law_170 : decode cL_law 170 = .ok (.iload 4, 2) := by decide +kernel
theorem dL_law_172 : decode cL_law 172 = .ok (.iconst 5, 1) := by decide +kernel
theorem dL_law_173 : decode cL_law 173 = .ok (.iadd, 1) := by decide +kernel
theorem dL_law_174 : decode cL_law 174 = .ok (.iaload, 1) := by decide +kernel
theorem dL_law_175 : decode cL_law 175 = .ok (.invokevirtual 19, 3) := by decide +kernel
theorem dL_law_178 : decode cL_law 178 = .ok (.aload_n 2, 1) := by decide +kernel
theorem dL_law_179 : decode cL_law 179 = .ok (.aload_n 0, 1) := by decide +kernel
theorem dL_law_180 : decode cL_law 180 = .ok (.iload 4, 2) := by decide +kernel
theorem dL_law_182 : decode cL_law 182 = .ok (.iconst 1, 1) := by decide +kernel
theorem dL_law_183 : decode cL_law 183 = .ok (.iadd, 1) := by decide +kernel
theorem dL_law_184 : decode cL_law 184 = .ok (.iaload, 1) := by decide +kernel
theorem dL_law_185 : decode cL_law 185 = .ok (.aload_n 0, 1) := by decide +kernel
theorem dL_law_186 : decode cL_law 186 = .ok (.iload 4, 2) := by decide +kernel
theorem dL_law_188 : decode cL_law 188 = .ok (.iconst 2, 1) := by decide +kernel
theorem dL_law_189 : decode cL_law 189 = .ok (.iadd, 1) := by decide +kernel
theorem dL_law_190 : decode cL_law 190 = .ok (.iaload, 1) := by decide +kernel
theorem dL_law_191 : decode cL_law 191 = .ok (.aload_n 0, 1) := by decide +kernel
theorem dL_law_192 : decode cL_law 192 = .ok (.iload 4, 2) := by decide +kernel
theorem dL_law_194 : decode cL_law 194 = .ok (.iconst 3, 1) := by decide +kernel
theorem dL_law_195 : decode cL_law 195 = .ok (.iadd, 1) := by decide +kernel
theorem dL_law_196 : decode cL_law 196 = .ok (.iaload, 1) := by decide +kernel
theorem dL_law_197 : decode cL_law 197 = .ok (.aload_n 0, 1) := by decide +kernel
theorem dL_law_198 : decode cL_law 198 = .ok (.iload 4, 2) := by decide +kernel
theorem dL_law_200 : decode cL_law 200 = .ok (.iconst 4, 1) := by decide +kernel
theorem dL_law_201 : decode cL_law 201 = .ok (.iadd, 1) := by decide +kernel
theorem dL_law_202 : decode cL_law 202 = .ok (.iaload, 1) := by decide +kernel
theorem dL_law_203 : decode cL_law 203 = .ok (.aload_n 0, 1) := by decide +kernel
theorem dL_law_204 : decode cL_law 204 = .ok (.iload 4, 2) := by decide +kernel
theorem dL_law_206 : decode cL_law 206 = .ok (.iconst 5, 1) := by decide +kernel
theorem dL_law_207 : decode cL_law 207 = .ok (.iadd, 1) := by decide +kernel
theorem dL_law_208 : decode cL_law 208 = .ok (.iaload, 1) := by decide +kernel
theorem dL_law_209 : decode cL_law 209 = .ok (.invokevirtual 23, 3) := by decide +kernel
theorem dL_law_212 : decode cL_law 212 = .ok (.if_icmp .eq 585, 3) := by decide +kernel
theorem dL_law_215 : decode cL_law 215 = .ok (.iconst 0, 1) := by decide +kernel
theorem dL_law_216 : decode cL_law 216 = .ok (.ireturn, 1) := by decide +kernel
theorem dL_law_217 : decode cL_law 217 = .ok (.aload_n 1, 1) := by decide +kernel
theorem dL_law_218 : decode cL_law 218 = .ok (.aload_n 0, 1) := by decide +kernel
theorem dL_law_219 : decode cL_law 219 = .ok (.iload 4, 2) := by decide +kernel
theorem dL_law_221 : decode cL_law 221 = .ok (.iconst 1, 1) := by decide +kernel
theorem dL_law_222 : decode cL_law 222 = .ok (.iadd, 1) := by decide +kernel
theorem dL_law_223 : decode cL_law 223 = .ok (.iaload, 1) := by decide +kernel
theorem dL_law_224 : decode cL_law 224 = .ok (.invokevirtual 24, 3) := by decide +kernel
theorem dL_law_227 : decode cL_law 227 = .ok (.aload_n 2, 1) := by decide +kernel
theorem dL_law_228 : decode cL_law 228 = .ok (.aload_n 0, 1) := by decide +kernel
theorem dL_law_229 : decode cL_law 229 = .ok (.iload 4, 2) := by decide +kernel
theorem dL_law_231 : decode cL_law 231 = .ok (.iconst 1, 1) := by decide +kernel
theorem dL_law_232 : decode cL_law 232 = .ok (.iadd, 1) := by decide +kernel
theorem dL_law_233 : decode cL_law 233 = .ok (.iaload, 1) := by decide +kernel
theorem dL_law_234 : decode cL_law 234 = .ok (.invokevirtual 28, 3) := by decide +kernel
theorem dL_law_237 : decode cL_law 237 = .ok (.if_icmp .eq 560, 3) := by decide +kernel
theorem dL_law_240 : decode cL_law 240 = .ok (.iconst 0, 1) := by decide +kernel
theorem dL_law_241 : decode cL_law 241 = .ok (.ireturn, 1) := by decide +kernel
theorem dL_law_242 : decode cL_law 242 = .ok (.aload_n 1, 1) := by decide +kernel
theorem dL_law_243 : decode cL_law 243 = .ok (.invokevirtual 29, 3) := by decide +kernel
theorem dL_law_246 : decode cL_law 246 = .ok (.aload_n 2, 1) := by decide +kernel
theorem dL_law_247 : decode cL_law 247 = .ok (.invokevirtual 33, 3) := by decide +kernel
theorem dL_law_250 : decode cL_law 250 = .ok (.if_icmp .eq 547, 3) := by decide +kernel
theorem dL_law_253 : decode cL_law 253 = .ok (.iconst 0, 1) := by decide +kernel
theorem dL_law_254 : decode cL_law 254 = .ok (.ireturn, 1) := by decide +kernel
theorem dL_law_255 : decode cL_law 255 = .ok (.aload_n 1, 1) := by decide +kernel
theorem dL_law_256 : decode cL_law 256 = .ok (.invokevirtual 34, 3) := by decide +kernel
theorem dL_law_259 : decode cL_law 259 = .ok (.aload_n 2, 1) := by decide +kernel
theorem dL_law_260 : decode cL_law 260 = .ok (.invokevirtual 37, 3) := by decide +kernel
theorem dL_law_263 : decode cL_law 263 = .ok (.if_icmp .eq 534, 3) := by decide +kernel
theorem dL_law_266 : decode cL_law 266 = .ok (.iconst 0, 1) := by decide +kernel
theorem dL_law_267 : decode cL_law 267 = .ok (.ireturn, 1) := by decide +kernel
theorem dL_law_268 : decode cL_law 268 = .ok (.aload_n 1, 1) := by decide +kernel
theorem dL_law_269 : decode cL_law 269 = .ok (.aload_n 0, 1) := by decide +kernel
theorem dL_law_270 : decode cL_law 270 = .ok (.iload 4, 2) := by decide +kernel
theorem dL_law_272 : decode cL_law 272 = .ok (.iconst 1, 1) := by decide +kernel
theorem dL_law_273 : decode cL_law 273 = .ok (.iadd, 1) := by decide +kernel
theorem dL_law_274 : decode cL_law 274 = .ok (.iaload, 1) := by decide +kernel
theorem dL_law_275 : decode cL_law 275 = .ok (.invokevirtual 38, 3) := by decide +kernel
theorem dL_law_278 : decode cL_law 278 = .ok (.aload_n 2, 1) := by decide +kernel
theorem dL_law_279 : decode cL_law 279 = .ok (.aload_n 0, 1) := by decide +kernel
theorem dL_law_280 : decode cL_law 280 = .ok (.iload 4, 2) := by decide +kernel
theorem dL_law_282 : decode cL_law 282 = .ok (.iconst 1, 1) := by decide +kernel
theorem dL_law_283 : decode cL_law 283 = .ok (.iadd, 1) := by decide +kernel
theorem dL_law_284 : decode cL_law 284 = .ok (.iaload, 1) := by decide +kernel
theorem dL_law_285 : decode cL_law 285 = .ok (.invokevirtual 42, 3) := by decide +kernel
theorem dL_law_288 : decode cL_law 288 = .ok (.if_icmp .eq 509, 3) := by decide +kernel
theorem dL_law_291 : decode cL_law 291 = .ok (.iconst 0, 1) := by decide +kernel
theorem dL_law_292 : decode cL_law 292 = .ok (.ireturn, 1) := by decide +kernel
theorem dL_law_293 : decode cL_law 293 = .ok (.aload_n 1, 1) := by decide +kernel
theorem dL_law_294 : decode cL_law 294 = .ok (.aload_n 0, 1) := by decide +kernel
theorem dL_law_295 : decode cL_law 295 = .ok (.iload 4, 2) := by decide +kernel
theorem dL_law_297 : decode cL_law 297 = .ok (.iconst 1, 1) := by decide +kernel
theorem dL_law_298 : decode cL_law 298 = .ok (.iadd, 1) := by decide +kernel
theorem dL_law_299 : decode cL_law 299 = .ok (.iaload, 1) := by decide +kernel
theorem dL_law_300 : decode cL_law 300 = .ok (.aload_n 0, 1) := by decide +kernel
theorem dL_law_301 : decode cL_law 301 = .ok (.iload 4, 2) := by decide +kernel
theorem dL_law_303 : decode cL_law 303 = .ok (.iconst 2, 1) := by decide +kernel
theorem dL_law_304 : decode cL_law 304 = .ok (.iadd, 1) := by decide +kernel
theorem dL_law_305 : decode cL_law 305 = .ok (.iaload, 1) := by decide +kernel
theorem dL_law_306 : decode cL_law 306 = .ok (.invokevirtual 43, 3) := by decide +kernel
theorem dL_law_309 : decode cL_law 309 = .ok (.aload_n 2, 1) := by decide +kernel
theorem dL_law_310 : decode cL_law 310 = .ok (.aload_n 0, 1) := by decide +kernel
theorem dL_law_311 : decode cL_law 311 = .ok (.iload 4, 2) := by decide +kernel
theorem dL_law_313 : decode cL_law 313 = .ok (.iconst 1, 1) := by decide +kernel
theorem dL_law_314 : decode cL_law 314 = .ok (.iadd, 1) := by decide +kernel
theorem dL_law_315 : decode cL_law 315 = .ok (.iaload, 1) := by decide +kernel
theorem dL_law_316 : decode cL_law 316 = .ok (.aload_n 0, 1) := by decide +kernel
theorem dL_law_317 : decode cL_law 317 = .ok (.iload 4, 2) := by decide +kernel
theorem dL_law_319 : decode cL_law 319 = .ok (.iconst 2, 1) := by decide +kernel
theorem dL_law_320 : decode cL_law 320 = .ok (.iadd, 1) := by decide +kernel
theorem dL_law_321 : decode cL_law 321 = .ok (.iaload, 1) := by decide +kernel
theorem dL_law_322 : decode cL_law 322 = .ok (.invokevirtual 46, 3) := by decide +kernel
theorem dL_law_325 : decode cL_law 325 = .ok (.if_icmp .eq 472, 3) := by decide +kernel
theorem dL_law_328 : decode cL_law 328 = .ok (.iconst 0, 1) := by decide +kernel
theorem dL_law_329 : decode cL_law 329 = .ok (.ireturn, 1) := by decide +kernel
theorem dL_law_330 : decode cL_law 330 = .ok (.aload_n 1, 1) := by decide +kernel
theorem dL_law_331 : decode cL_law 331 = .ok (.aload_n 0, 1) := by decide +kernel
theorem dL_law_332 : decode cL_law 332 = .ok (.iload 4, 2) := by decide +kernel
theorem dL_law_334 : decode cL_law 334 = .ok (.iconst 1, 1) := by decide +kernel
theorem dL_law_335 : decode cL_law 335 = .ok (.iadd, 1) := by decide +kernel
theorem dL_law_336 : decode cL_law 336 = .ok (.iaload, 1) := by decide +kernel
theorem dL_law_337 : decode cL_law 337 = .ok (.aload_n 0, 1) := by decide +kernel
theorem dL_law_338 : decode cL_law 338 = .ok (.iload 4, 2) := by decide +kernel
theorem dL_law_340 : decode cL_law 340 = .ok (.iconst 2, 1) := by decide +kernel
theorem dL_law_341 : decode cL_law 341 = .ok (.iadd, 1) := by decide +kernel
theorem dL_law_342 : decode cL_law 342 = .ok (.iaload, 1) := by decide +kernel
theorem dL_law_343 : decode cL_law 343 = .ok (.aload_n 3, 1) := by decide +kernel
theorem dL_law_344 : decode cL_law 344 = .ok (.invokestatic 47, 3) := by decide +kernel
theorem dL_law_347 : decode cL_law 347 = .ok (.istore 5, 2) := by decide +kernel
theorem dL_law_349 : decode cL_law 349 = .ok (.aload_n 2, 1) := by decide +kernel
theorem dL_law_350 : decode cL_law 350 = .ok (.aload_n 0, 1) := by decide +kernel
theorem dL_law_351 : decode cL_law 351 = .ok (.iload 4, 2) := by decide +kernel
theorem dL_law_353 : decode cL_law 353 = .ok (.iconst 1, 1) := by decide +kernel
theorem dL_law_354 : decode cL_law 354 = .ok (.iadd, 1) := by decide +kernel
theorem dL_law_355 : decode cL_law 355 = .ok (.iaload, 1) := by decide +kernel
theorem dL_law_356 : decode cL_law 356 = .ok (.aload_n 0, 1) := by decide +kernel
theorem dL_law_357 : decode cL_law 357 = .ok (.iload 4, 2) := by decide +kernel
theorem dL_law_359 : decode cL_law 359 = .ok (.iconst 2, 1) := by decide +kernel
theorem dL_law_360 : decode cL_law 360 = .ok (.iadd, 1) := by decide +kernel
theorem dL_law_361 : decode cL_law 361 = .ok (.iaload, 1) := by decide +kernel
theorem dL_law_362 : decode cL_law 362 = .ok (.invokevirtual 52, 3) := by decide +kernel
theorem dL_law_365 : decode cL_law 365 = .ok (.istore 6, 2) := by decide +kernel
theorem dL_law_367 : decode cL_law 367 = .ok (.aload_n 2, 1) := by decide +kernel
theorem dL_law_368 : decode cL_law 368 = .ok (.invokevirtual 53, 3) := by decide +kernel
theorem dL_law_371 : decode cL_law 371 = .ok (.iload 5, 2) := by decide +kernel
theorem dL_law_373 : decode cL_law 373 = .ok (.if_icmp .eq 5, 3) := by decide +kernel
theorem dL_law_376 : decode cL_law 376 = .ok (.iconst 0, 1) := by decide +kernel
theorem dL_law_377 : decode cL_law 377 = .ok (.ireturn, 1) := by decide +kernel
theorem dL_law_378 : decode cL_law 378 = .ok (.iload 5, 2) := by decide +kernel
theorem dL_law_380 : decode cL_law 380 = .ok (.ifCond .ne 15, 3) := by decide +kernel
theorem dL_law_383 : decode cL_law 383 = .ok (.aload_n 3, 1) := by decide +kernel
theorem dL_law_384 : decode cL_law 384 = .ok (.iconst 0, 1) := by decide +kernel
theorem dL_law_385 : decode cL_law 385 = .ok (.laload, 1) := by decide +kernel
theorem dL_law_386 : decode cL_law 386 = .ok (.iload 6, 2) := by decide +kernel
theorem dL_law_388 : decode cL_law 388 = .ok (.i2l, 1) := by decide +kernel
theorem dL_law_389 : decode cL_law 389 = .ok (.lcmp, 1) := by decide +kernel
theorem dL_law_390 : decode cL_law 390 = .ok (.ifCond .eq 5, 3) := by decide +kernel
theorem dL_law_393 : decode cL_law 393 = .ok (.iconst 0, 1) := by decide +kernel
theorem dL_law_394 : decode cL_law 394 = .ok (.ireturn, 1) := by decide +kernel
theorem dL_law_395 : decode cL_law 395 = .ok (.goto 402, 3) := by decide +kernel
theorem dL_law_398 : decode cL_law 398 = .ok (.aload_n 1, 1) := by decide +kernel
theorem dL_law_399 : decode cL_law 399 = .ok (.aload_n 0, 1) := by decide +kernel
theorem dL_law_400 : decode cL_law 400 = .ok (.iload 4, 2) := by decide +kernel
theorem dL_law_402 : decode cL_law 402 = .ok (.iconst 1, 1) := by decide +kernel
theorem dL_law_403 : decode cL_law 403 = .ok (.iadd, 1) := by decide +kernel
theorem dL_law_404 : decode cL_law 404 = .ok (.iaload, 1) := by decide +kernel
theorem dL_law_405 : decode cL_law 405 = .ok (.aload_n 0, 1) := by decide +kernel
theorem dL_law_406 : decode cL_law 406 = .ok (.iload 4, 2) := by decide +kernel
theorem dL_law_408 : decode cL_law 408 = .ok (.iconst 2, 1) := by decide +kernel
theorem dL_law_409 : decode cL_law 409 = .ok (.iadd, 1) := by decide +kernel
theorem dL_law_410 : decode cL_law 410 = .ok (.iaload, 1) := by decide +kernel
theorem dL_law_411 : decode cL_law 411 = .ok (.invokevirtual 56, 3) := by decide +kernel
theorem dL_law_414 : decode cL_law 414 = .ok (.aload_n 2, 1) := by decide +kernel
theorem dL_law_415 : decode cL_law 415 = .ok (.aload_n 0, 1) := by decide +kernel
theorem dL_law_416 : decode cL_law 416 = .ok (.iload 4, 2) := by decide +kernel
theorem dL_law_418 : decode cL_law 418 = .ok (.iconst 1, 1) := by decide +kernel
theorem dL_law_419 : decode cL_law 419 = .ok (.iadd, 1) := by decide +kernel
theorem dL_law_420 : decode cL_law 420 = .ok (.iaload, 1) := by decide +kernel
theorem dL_law_421 : decode cL_law 421 = .ok (.aload_n 0, 1) := by decide +kernel
theorem dL_law_422 : decode cL_law 422 = .ok (.iload 4, 2) := by decide +kernel
theorem dL_law_424 : decode cL_law 424 = .ok (.iconst 2, 1) := by decide +kernel
theorem dL_law_425 : decode cL_law 425 = .ok (.iadd, 1) := by decide +kernel
theorem dL_law_426 : decode cL_law 426 = .ok (.iaload, 1) := by decide +kernel
theorem dL_law_427 : decode cL_law 427 = .ok (.invokevirtual 60, 3) := by decide +kernel
theorem dL_law_430 : decode cL_law 430 = .ok (.if_icmp .eq 367, 3) := by decide +kernel
theorem dL_law_433 : decode cL_law 433 = .ok (.iconst 0, 1) := by decide +kernel
theorem dL_law_434 : decode cL_law 434 = .ok (.ireturn, 1) := by decide +kernel
theorem dL_law_435 : decode cL_law 435 = .ok (.aload_n 1, 1) := by decide +kernel
theorem dL_law_436 : decode cL_law 436 = .ok (.aload_n 0, 1) := by decide +kernel
theorem dL_law_437 : decode cL_law 437 = .ok (.iload 4, 2) := by decide +kernel
theorem dL_law_439 : decode cL_law 439 = .ok (.iconst 1, 1) := by decide +kernel
theorem dL_law_440 : decode cL_law 440 = .ok (.iadd, 1) := by decide +kernel
theorem dL_law_441 : decode cL_law 441 = .ok (.iaload, 1) := by decide +kernel
theorem dL_law_442 : decode cL_law 442 = .ok (.aload_n 0, 1) := by decide +kernel
theorem dL_law_443 : decode cL_law 443 = .ok (.iload 4, 2) := by decide +kernel
theorem dL_law_445 : decode cL_law 445 = .ok (.iconst 2, 1) := by decide +kernel
theorem dL_law_446 : decode cL_law 446 = .ok (.iadd, 1) := by decide +kernel
theorem dL_law_447 : decode cL_law 447 = .ok (.iaload, 1) := by decide +kernel
theorem dL_law_448 : decode cL_law 448 = .ok (.aload_n 0, 1) := by decide +kernel
theorem dL_law_449 : decode cL_law 449 = .ok (.iload 4, 2) := by decide +kernel
theorem dL_law_451 : decode cL_law 451 = .ok (.iconst 3, 1) := by decide +kernel
theorem dL_law_452 : decode cL_law 452 = .ok (.iadd, 1) := by decide +kernel
theorem dL_law_453 : decode cL_law 453 = .ok (.iaload, 1) := by decide +kernel
theorem dL_law_454 : decode cL_law 454 = .ok (.invokevirtual 61, 3) := by decide +kernel
theorem dL_law_457 : decode cL_law 457 = .ok (.aload_n 2, 1) := by decide +kernel
theorem dL_law_458 : decode cL_law 458 = .ok (.aload_n 0, 1) := by decide +kernel
theorem dL_law_459 : decode cL_law 459 = .ok (.iload 4, 2) := by decide +kernel
theorem dL_law_461 : decode cL_law 461 = .ok (.iconst 1, 1) := by decide +kernel
theorem dL_law_462 : decode cL_law 462 = .ok (.iadd, 1) := by decide +kernel
theorem dL_law_463 : decode cL_law 463 = .ok (.iaload, 1) := by decide +kernel
theorem dL_law_464 : decode cL_law 464 = .ok (.aload_n 0, 1) := by decide +kernel
theorem dL_law_465 : decode cL_law 465 = .ok (.iload 4, 2) := by decide +kernel
theorem dL_law_467 : decode cL_law 467 = .ok (.iconst 2, 1) := by decide +kernel
theorem dL_law_468 : decode cL_law 468 = .ok (.iadd, 1) := by decide +kernel
theorem dL_law_469 : decode cL_law 469 = .ok (.iaload, 1) := by decide +kernel
theorem dL_law_470 : decode cL_law 470 = .ok (.aload_n 0, 1) := by decide +kernel
theorem dL_law_471 : decode cL_law 471 = .ok (.iload 4, 2) := by decide +kernel
theorem dL_law_473 : decode cL_law 473 = .ok (.iconst 3, 1) := by decide +kernel
theorem dL_law_474 : decode cL_law 474 = .ok (.iadd, 1) := by decide +kernel
theorem dL_law_475 : decode cL_law 475 = .ok (.iaload, 1) := by decide +kernel
theorem dL_law_476 : decode cL_law 476 = .ok (.invokevirtual 65, 3) := by decide +kernel
theorem dL_law_479 : decode cL_law 479 = .ok (.if_icmp .eq 318, 3) := by decide +kernel
theorem dL_law_482 : decode cL_law 482 = .ok (.iconst 0, 1) := by decide +kernel
theorem dL_law_483 : decode cL_law 483 = .ok (.ireturn, 1) := by decide +kernel
theorem dL_law_484 : decode cL_law 484 = .ok (.aload_n 1, 1) := by decide +kernel
theorem dL_law_485 : decode cL_law 485 = .ok (.invokevirtual 66, 3) := by decide +kernel
theorem dL_law_488 : decode cL_law 488 = .ok (.aload_n 2, 1) := by decide +kernel
theorem dL_law_489 : decode cL_law 489 = .ok (.invokevirtual 69, 3) := by decide +kernel
theorem dL_law_492 : decode cL_law 492 = .ok (.if_icmp .eq 305, 3) := by decide +kernel
theorem dL_law_495 : decode cL_law 495 = .ok (.iconst 0, 1) := by decide +kernel
theorem dL_law_496 : decode cL_law 496 = .ok (.ireturn, 1) := by decide +kernel
theorem dL_law_497 : decode cL_law 497 = .ok (.aload_n 1, 1) := by decide +kernel
theorem dL_law_498 : decode cL_law 498 = .ok (.aload_n 0, 1) := by decide +kernel
theorem dL_law_499 : decode cL_law 499 = .ok (.iload 4, 2) := by decide +kernel
theorem dL_law_501 : decode cL_law 501 = .ok (.iconst 1, 1) := by decide +kernel
theorem dL_law_502 : decode cL_law 502 = .ok (.iadd, 1) := by decide +kernel
theorem dL_law_503 : decode cL_law 503 = .ok (.iaload, 1) := by decide +kernel
theorem dL_law_504 : decode cL_law 504 = .ok (.invokevirtual 70, 3) := by decide +kernel
theorem dL_law_507 : decode cL_law 507 = .ok (.aload_n 2, 1) := by decide +kernel
theorem dL_law_508 : decode cL_law 508 = .ok (.aload_n 0, 1) := by decide +kernel
theorem dL_law_509 : decode cL_law 509 = .ok (.iload 4, 2) := by decide +kernel
theorem dL_law_511 : decode cL_law 511 = .ok (.iconst 1, 1) := by decide +kernel
theorem dL_law_512 : decode cL_law 512 = .ok (.iadd, 1) := by decide +kernel
theorem dL_law_513 : decode cL_law 513 = .ok (.iaload, 1) := by decide +kernel
theorem dL_law_514 : decode cL_law 514 = .ok (.invokevirtual 73, 3) := by decide +kernel
theorem dL_law_517 : decode cL_law 517 = .ok (.if_icmp .eq 280, 3) := by decide +kernel
theorem dL_law_520 : decode cL_law 520 = .ok (.iconst 0, 1) := by decide +kernel
theorem dL_law_521 : decode cL_law 521 = .ok (.ireturn, 1) := by decide +kernel
theorem dL_law_522 : decode cL_law 522 = .ok (.aload_n 1, 1) := by decide +kernel
theorem dL_law_523 : decode cL_law 523 = .ok (.aload_n 0, 1) := by decide +kernel
theorem dL_law_524 : decode cL_law 524 = .ok (.iload 4, 2) := by decide +kernel
theorem dL_law_526 : decode cL_law 526 = .ok (.iconst 1, 1) := by decide +kernel
theorem dL_law_527 : decode cL_law 527 = .ok (.iadd, 1) := by decide +kernel
theorem dL_law_528 : decode cL_law 528 = .ok (.iaload, 1) := by decide +kernel
theorem dL_law_529 : decode cL_law 529 = .ok (.invokevirtual 74, 3) := by decide +kernel
theorem dL_law_532 : decode cL_law 532 = .ok (.aload_n 2, 1) := by decide +kernel
theorem dL_law_533 : decode cL_law 533 = .ok (.aload_n 0, 1) := by decide +kernel
theorem dL_law_534 : decode cL_law 534 = .ok (.iload 4, 2) := by decide +kernel
theorem dL_law_536 : decode cL_law 536 = .ok (.iconst 1, 1) := by decide +kernel
theorem dL_law_537 : decode cL_law 537 = .ok (.iadd, 1) := by decide +kernel
theorem dL_law_538 : decode cL_law 538 = .ok (.iaload, 1) := by decide +kernel
theorem dL_law_539 : decode cL_law 539 = .ok (.invokevirtual 77, 3) := by decide +kernel
theorem dL_law_542 : decode cL_law 542 = .ok (.if_icmp .eq 255, 3) := by decide +kernel
theorem dL_law_545 : decode cL_law 545 = .ok (.iconst 0, 1) := by decide +kernel
theorem dL_law_546 : decode cL_law 546 = .ok (.ireturn, 1) := by decide +kernel
theorem dL_law_547 : decode cL_law 547 = .ok (.aload_n 1, 1) := by decide +kernel
theorem dL_law_548 : decode cL_law 548 = .ok (.aload_n 0, 1) := by decide +kernel
theorem dL_law_549 : decode cL_law 549 = .ok (.iload 4, 2) := by decide +kernel
theorem dL_law_551 : decode cL_law 551 = .ok (.iconst 1, 1) := by decide +kernel
theorem dL_law_552 : decode cL_law 552 = .ok (.iadd, 1) := by decide +kernel
theorem dL_law_553 : decode cL_law 553 = .ok (.iaload, 1) := by decide +kernel
theorem dL_law_554 : decode cL_law 554 = .ok (.invokevirtual 78, 3) := by decide +kernel
theorem dL_law_557 : decode cL_law 557 = .ok (.aload_n 2, 1) := by decide +kernel
theorem dL_law_558 : decode cL_law 558 = .ok (.aload_n 0, 1) := by decide +kernel
theorem dL_law_559 : decode cL_law 559 = .ok (.iload 4, 2) := by decide +kernel
theorem dL_law_561 : decode cL_law 561 = .ok (.iconst 1, 1) := by decide +kernel
theorem dL_law_562 : decode cL_law 562 = .ok (.iadd, 1) := by decide +kernel
theorem dL_law_563 : decode cL_law 563 = .ok (.iaload, 1) := by decide +kernel
theorem dL_law_564 : decode cL_law 564 = .ok (.invokevirtual 81, 3) := by decide +kernel
theorem dL_law_567 : decode cL_law 567 = .ok (.if_icmp .eq 230, 3) := by decide +kernel
theorem dL_law_570 : decode cL_law 570 = .ok (.iconst 0, 1) := by decide +kernel
theorem dL_law_571 : decode cL_law 571 = .ok (.ireturn, 1) := by decide +kernel
theorem dL_law_572 : decode cL_law 572 = .ok (.aload_n 1, 1) := by decide +kernel
theorem dL_law_573 : decode cL_law 573 = .ok (.invokevirtual 82, 3) := by decide +kernel
theorem dL_law_576 : decode cL_law 576 = .ok (.aload_n 2, 1) := by decide +kernel
theorem dL_law_577 : decode cL_law 577 = .ok (.invokevirtual 85, 3) := by decide +kernel
theorem dL_law_580 : decode cL_law 580 = .ok (.if_icmp .eq 217, 3) := by decide +kernel
theorem dL_law_583 : decode cL_law 583 = .ok (.iconst 0, 1) := by decide +kernel
theorem dL_law_584 : decode cL_law 584 = .ok (.ireturn, 1) := by decide +kernel
theorem dL_law_585 : decode cL_law 585 = .ok (.aload_n 1, 1) := by decide +kernel
theorem dL_law_586 : decode cL_law 586 = .ok (.aload_n 0, 1) := by decide +kernel
theorem dL_law_587 : decode cL_law 587 = .ok (.iload 4, 2) := by decide +kernel
theorem dL_law_589 : decode cL_law 589 = .ok (.iconst 1, 1) := by decide +kernel
theorem dL_law_590 : decode cL_law 590 = .ok (.iadd, 1) := by decide +kernel
theorem dL_law_591 : decode cL_law 591 = .ok (.iaload, 1) := by decide +kernel
theorem dL_law_592 : decode cL_law 592 = .ok (.aload_n 0, 1) := by decide +kernel
theorem dL_law_593 : decode cL_law 593 = .ok (.iload 4, 2) := by decide +kernel
theorem dL_law_595 : decode cL_law 595 = .ok (.iconst 2, 1) := by decide +kernel
theorem dL_law_596 : decode cL_law 596 = .ok (.iadd, 1) := by decide +kernel
theorem dL_law_597 : decode cL_law 597 = .ok (.iaload, 1) := by decide +kernel
theorem dL_law_598 : decode cL_law 598 = .ok (.invokevirtual 86, 3) := by decide +kernel
theorem dL_law_601 : decode cL_law 601 = .ok (.aload_n 2, 1) := by decide +kernel
theorem dL_law_602 : decode cL_law 602 = .ok (.aload_n 0, 1) := by decide +kernel
theorem dL_law_603 : decode cL_law 603 = .ok (.iload 4, 2) := by decide +kernel
theorem dL_law_605 : decode cL_law 605 = .ok (.iconst 1, 1) := by decide +kernel
theorem dL_law_606 : decode cL_law 606 = .ok (.iadd, 1) := by decide +kernel
theorem dL_law_607 : decode cL_law 607 = .ok (.iaload, 1) := by decide +kernel
theorem dL_law_608 : decode cL_law 608 = .ok (.aload_n 0, 1) := by decide +kernel
theorem dL_law_609 : decode cL_law 609 = .ok (.iload 4, 2) := by decide +kernel
theorem dL_law_611 : decode cL_law 611 = .ok (.iconst 2, 1) := by decide +kernel
theorem dL_law_612 : decode cL_law 612 = .ok (.iadd, 1) := by decide +kernel
theorem dL_law_613 : decode cL_law 613 = .ok (.iaload, 1) := by decide +kernel
theorem dL_law_614 : decode cL_law 614 = .ok (.invokevirtual 89, 3) := by decide +kernel
theorem dL_law_617 : decode cL_law 617 = .ok (.if_icmp .eq 180, 3) := by decide +kernel
theorem dL_law_620 : decode cL_law 620 = .ok (.iconst 0, 1) := by decide +kernel
theorem dL_law_621 : decode cL_law 621 = .ok (.ireturn, 1) := by decide +kernel
theorem dL_law_622 : decode cL_law 622 = .ok (.aload_n 1, 1) := by decide +kernel
theorem dL_law_623 : decode cL_law 623 = .ok (.aload_n 0, 1) := by decide +kernel
theorem dL_law_624 : decode cL_law 624 = .ok (.iload 4, 2) := by decide +kernel
theorem dL_law_626 : decode cL_law 626 = .ok (.iconst 1, 1) := by decide +kernel
theorem dL_law_627 : decode cL_law 627 = .ok (.iadd, 1) := by decide +kernel
theorem dL_law_628 : decode cL_law 628 = .ok (.iaload, 1) := by decide +kernel
theorem dL_law_629 : decode cL_law 629 = .ok (.invokevirtual 90, 3) := by decide +kernel
theorem dL_law_632 : decode cL_law 632 = .ok (.aload_n 2, 1) := by decide +kernel
theorem dL_law_633 : decode cL_law 633 = .ok (.aload_n 0, 1) := by decide +kernel
theorem dL_law_634 : decode cL_law 634 = .ok (.iload 4, 2) := by decide +kernel
theorem dL_law_636 : decode cL_law 636 = .ok (.iconst 1, 1) := by decide +kernel
theorem dL_law_637 : decode cL_law 637 = .ok (.iadd, 1) := by decide +kernel
theorem dL_law_638 : decode cL_law 638 = .ok (.iaload, 1) := by decide +kernel
theorem dL_law_639 : decode cL_law 639 = .ok (.invokevirtual 93, 3) := by decide +kernel
theorem dL_law_642 : decode cL_law 642 = .ok (.if_icmp .eq 155, 3) := by decide +kernel
theorem dL_law_645 : decode cL_law 645 = .ok (.iconst 0, 1) := by decide +kernel
theorem dL_law_646 : decode cL_law 646 = .ok (.ireturn, 1) := by decide +kernel
theorem dL_law_647 : decode cL_law 647 = .ok (.aload_n 1, 1) := by decide +kernel
theorem dL_law_648 : decode cL_law 648 = .ok (.aload_n 0, 1) := by decide +kernel
theorem dL_law_649 : decode cL_law 649 = .ok (.iload 4, 2) := by decide +kernel
theorem dL_law_651 : decode cL_law 651 = .ok (.iconst 1, 1) := by decide +kernel
theorem dL_law_652 : decode cL_law 652 = .ok (.iadd, 1) := by decide +kernel
theorem dL_law_653 : decode cL_law 653 = .ok (.iaload, 1) := by decide +kernel
theorem dL_law_654 : decode cL_law 654 = .ok (.aload_n 0, 1) := by decide +kernel
theorem dL_law_655 : decode cL_law 655 = .ok (.iload 4, 2) := by decide +kernel
theorem dL_law_657 : decode cL_law 657 = .ok (.iconst 2, 1) := by decide +kernel
theorem dL_law_658 : decode cL_law 658 = .ok (.iadd, 1) := by decide +kernel
theorem dL_law_659 : decode cL_law 659 = .ok (.iaload, 1) := by decide +kernel
theorem dL_law_660 : decode cL_law 660 = .ok (.invokevirtual 94, 3) := by decide +kernel
theorem dL_law_663 : decode cL_law 663 = .ok (.aload_n 2, 1) := by decide +kernel
theorem dL_law_664 : decode cL_law 664 = .ok (.aload_n 0, 1) := by decide +kernel
theorem dL_law_665 : decode cL_law 665 = .ok (.iload 4, 2) := by decide +kernel
theorem dL_law_667 : decode cL_law 667 = .ok (.iconst 1, 1) := by decide +kernel
theorem dL_law_668 : decode cL_law 668 = .ok (.iadd, 1) := by decide +kernel
theorem dL_law_669 : decode cL_law 669 = .ok (.iaload, 1) := by decide +kernel
theorem dL_law_670 : decode cL_law 670 = .ok (.aload_n 0, 1) := by decide +kernel
theorem dL_law_671 : decode cL_law 671 = .ok (.iload 4, 2) := by decide +kernel
theorem dL_law_673 : decode cL_law 673 = .ok (.iconst 2, 1) := by decide +kernel
theorem dL_law_674 : decode cL_law 674 = .ok (.iadd, 1) := by decide +kernel
theorem dL_law_675 : decode cL_law 675 = .ok (.iaload, 1) := by decide +kernel
theorem dL_law_676 : decode cL_law 676 = .ok (.invokevirtual 97, 3) := by decide +kernel
theorem dL_law_679 : decode cL_law 679 = .ok (.if_icmp .eq 118, 3) := by decide +kernel
theorem dL_law_682 : decode cL_law 682 = .ok (.iconst 0, 1) := by decide +kernel
theorem dL_law_683 : decode cL_law 683 = .ok (.ireturn, 1) := by decide +kernel
theorem dL_law_684 : decode cL_law 684 = .ok (.aload_n 1, 1) := by decide +kernel
theorem dL_law_685 : decode cL_law 685 = .ok (.invokevirtual 98, 3) := by decide +kernel
theorem dL_law_688 : decode cL_law 688 = .ok (.aload_n 2, 1) := by decide +kernel
theorem dL_law_689 : decode cL_law 689 = .ok (.invokevirtual 101, 3) := by decide +kernel
theorem dL_law_692 : decode cL_law 692 = .ok (.if_icmp .eq 105, 3) := by decide +kernel
theorem dL_law_695 : decode cL_law 695 = .ok (.iconst 0, 1) := by decide +kernel
theorem dL_law_696 : decode cL_law 696 = .ok (.ireturn, 1) := by decide +kernel
theorem dL_law_697 : decode cL_law 697 = .ok (.aload_n 1, 1) := by decide +kernel
theorem dL_law_698 : decode cL_law 698 = .ok (.aload_n 0, 1) := by decide +kernel
theorem dL_law_699 : decode cL_law 699 = .ok (.iload 4, 2) := by decide +kernel
theorem dL_law_701 : decode cL_law 701 = .ok (.iconst 1, 1) := by decide +kernel
theorem dL_law_702 : decode cL_law 702 = .ok (.iadd, 1) := by decide +kernel
theorem dL_law_703 : decode cL_law 703 = .ok (.iaload, 1) := by decide +kernel
theorem dL_law_704 : decode cL_law 704 = .ok (.aload_n 0, 1) := by decide +kernel
theorem dL_law_705 : decode cL_law 705 = .ok (.iload 4, 2) := by decide +kernel
theorem dL_law_707 : decode cL_law 707 = .ok (.iconst 2, 1) := by decide +kernel
theorem dL_law_708 : decode cL_law 708 = .ok (.iadd, 1) := by decide +kernel
theorem dL_law_709 : decode cL_law 709 = .ok (.iaload, 1) := by decide +kernel
theorem dL_law_710 : decode cL_law 710 = .ok (.invokevirtual 102, 3) := by decide +kernel
theorem dL_law_713 : decode cL_law 713 = .ok (.aload_n 2, 1) := by decide +kernel
theorem dL_law_714 : decode cL_law 714 = .ok (.aload_n 0, 1) := by decide +kernel
theorem dL_law_715 : decode cL_law 715 = .ok (.iload 4, 2) := by decide +kernel
theorem dL_law_717 : decode cL_law 717 = .ok (.iconst 1, 1) := by decide +kernel
theorem dL_law_718 : decode cL_law 718 = .ok (.iadd, 1) := by decide +kernel
theorem dL_law_719 : decode cL_law 719 = .ok (.iaload, 1) := by decide +kernel
theorem dL_law_720 : decode cL_law 720 = .ok (.aload_n 0, 1) := by decide +kernel
theorem dL_law_721 : decode cL_law 721 = .ok (.iload 4, 2) := by decide +kernel
theorem dL_law_723 : decode cL_law 723 = .ok (.iconst 2, 1) := by decide +kernel
theorem dL_law_724 : decode cL_law 724 = .ok (.iadd, 1) := by decide +kernel
theorem dL_law_725 : decode cL_law 725 = .ok (.iaload, 1) := by decide +kernel
theorem dL_law_726 : decode cL_law 726 = .ok (.invokevirtual 105, 3) := by decide +kernel
theorem dL_law_729 : decode cL_law 729 = .ok (.if_icmp .eq 68, 3) := by decide +kernel
theorem dL_law_732 : decode cL_law 732 = .ok (.iconst 0, 1) := by decide +kernel
theorem dL_law_733 : decode cL_law 733 = .ok (.ireturn, 1) := by decide +kernel
theorem dL_law_734 : decode cL_law 734 = .ok (.aload_n 1, 1) := by decide +kernel
theorem dL_law_735 : decode cL_law 735 = .ok (.aload_n 0, 1) := by decide +kernel
theorem dL_law_736 : decode cL_law 736 = .ok (.iload 4, 2) := by decide +kernel
theorem dL_law_738 : decode cL_law 738 = .ok (.iconst 1, 1) := by decide +kernel
theorem dL_law_739 : decode cL_law 739 = .ok (.iadd, 1) := by decide +kernel
theorem dL_law_740 : decode cL_law 740 = .ok (.iaload, 1) := by decide +kernel
theorem dL_law_741 : decode cL_law 741 = .ok (.invokevirtual 106, 3) := by decide +kernel
theorem dL_law_744 : decode cL_law 744 = .ok (.aload_n 2, 1) := by decide +kernel
theorem dL_law_745 : decode cL_law 745 = .ok (.aload_n 0, 1) := by decide +kernel
theorem dL_law_746 : decode cL_law 746 = .ok (.iload 4, 2) := by decide +kernel
theorem dL_law_748 : decode cL_law 748 = .ok (.iconst 1, 1) := by decide +kernel
theorem dL_law_749 : decode cL_law 749 = .ok (.iadd, 1) := by decide +kernel
theorem dL_law_750 : decode cL_law 750 = .ok (.iaload, 1) := by decide +kernel
theorem dL_law_751 : decode cL_law 751 = .ok (.invokevirtual 109, 3) := by decide +kernel
theorem dL_law_754 : decode cL_law 754 = .ok (.if_icmp .eq 43, 3) := by decide +kernel
theorem dL_law_757 : decode cL_law 757 = .ok (.iconst 0, 1) := by decide +kernel
theorem dL_law_758 : decode cL_law 758 = .ok (.ireturn, 1) := by decide +kernel
theorem dL_law_759 : decode cL_law 759 = .ok (.aload_n 1, 1) := by decide +kernel
theorem dL_law_760 : decode cL_law 760 = .ok (.aload_n 0, 1) := by decide +kernel
theorem dL_law_761 : decode cL_law 761 = .ok (.iload 4, 2) := by decide +kernel
theorem dL_law_763 : decode cL_law 763 = .ok (.iconst 1, 1) := by decide +kernel
theorem dL_law_764 : decode cL_law 764 = .ok (.iadd, 1) := by decide +kernel
theorem dL_law_765 : decode cL_law 765 = .ok (.iaload, 1) := by decide +kernel
theorem dL_law_766 : decode cL_law 766 = .ok (.invokevirtual 110, 3) := by decide +kernel
theorem dL_law_769 : decode cL_law 769 = .ok (.aload_n 2, 1) := by decide +kernel
theorem dL_law_770 : decode cL_law 770 = .ok (.aload_n 0, 1) := by decide +kernel
theorem dL_law_771 : decode cL_law 771 = .ok (.iload 4, 2) := by decide +kernel
theorem dL_law_773 : decode cL_law 773 = .ok (.iconst 1, 1) := by decide +kernel
theorem dL_law_774 : decode cL_law 774 = .ok (.iadd, 1) := by decide +kernel
theorem dL_law_775 : decode cL_law 775 = .ok (.iaload, 1) := by decide +kernel
theorem dL_law_776 : decode cL_law 776 = .ok (.invokevirtual 113, 3) := by decide +kernel
theorem dL_law_779 : decode cL_law 779 = .ok (.if_icmp .eq 18, 3) := by decide +kernel
theorem dL_law_782 : decode cL_law 782 = .ok (.iconst 0, 1) := by decide +kernel
theorem dL_law_783 : decode cL_law 783 = .ok (.ireturn, 1) := by decide +kernel
theorem dL_law_784 : decode cL_law 784 = .ok (.aload_n 1, 1) := by decide +kernel
theorem dL_law_785 : decode cL_law 785 = .ok (.invokevirtual 114, 3) := by decide +kernel
theorem dL_law_788 : decode cL_law 788 = .ok (.aload_n 2, 1) := by decide +kernel
theorem dL_law_789 : decode cL_law 789 = .ok (.invokevirtual 117, 3) := by decide +kernel
theorem dL_law_792 : decode cL_law 792 = .ok (.if_icmp .eq 5, 3) := by decide +kernel
theorem dL_law_795 : decode cL_law 795 = .ok (.iconst 0, 1) := by decide +kernel
theorem dL_law_796 : decode cL_law 796 = .ok (.ireturn, 1) := by decide +kernel
theorem dL_law_797 : decode cL_law 797 = .ok (.iinc 4 6, 3) := by decide +kernel
theorem dL_law_800 : decode cL_law 800 = .ok (.goto (-777), 3) := by decide +kernel
theorem dL_law_803 : decode cL_law 803 = .ok (.iconst 1, 1) := by decide +kernel
theorem dL_law_804 : decode cL_law 804 = .ok (.ireturn, 1) := by decide +kernel
abbrev vwCl : List vw_C := [(RX0, TX0, 4), (RX1, TX1, 3), (RX2, TX2, 4), (RX3, TX3, 18), (RX4, TX4, 11), (RX5, TX5, 5), (RX6, TX6, 12), (RX7, TX7, 11), (RX8, TX8, 28)]
end
section
/-! THE ABSTRACT HEAP: cell k lies at the address B.1 + k; in an abstract value .ref k is that cell, .retAddr 0 the law's script (at B.2) -/
abbrev AC : Type := (Nat × List Value) ⊕ (Nat × (List Int32 ⊕ (List Int64 ⊕ List (Option Nat))))
abbrev Lv : Type := List (Nat × Value)
def dv (B : Nat × Nat) (v : Value) : Value := match v with
  | .ref k => .ref (B.1 + k)
  | .retAddr _ => .ref B.2
  | .int x => .int x
  | .long x => .long x
  | .float x => .float x
  | .double x => .double x
  | .null => .null
def dc (B : Nat × Nat) (cA : Nat → ClassId) (c : AC) : va_E := match c with
  | .inl (ci, fs) => .inr (ci, fs.map (dv B))
  | .inr (t, .inl xs) => .inl (cA t, xs.length, .inl (fun j => xs.getD j 0))
  | .inr (t, .inr (.inl xs)) => .inl (cA t, xs.length, .inr (.inl (fun j => xs.getD j 0)))
  | .inr (t, .inr (.inr xs)) => .inl (cA t, xs.length, .inr (.inr (.inr (.inr (fun j => (xs.getD j none).map (fun k => B.1 + k))))))
def wo (B : Nat × Nat) (cA : Nat → ClassId) (h : List AC) : va_W := h.mapIdx (fun k c => (B.1 + k, dc B cA c))
def sl1 (c : AC) : Nat := match c with
  | .inl (_, fs) => fs.length
  | .inr (_, .inl xs) => xs.length
  | .inr (_, .inr (.inl xs)) => xs.length
  | .inr (_, .inr (.inr xs)) => xs.length
def sl (h : List AC) : Nat := (h.map sl1).sum
theorem dv_cat (B : Nat × Nat) (v : Value) : (dv B v).category = v.category := by cases v <;> rfl
theorem wo_get {B : Nat × Nat} {cA : Nat → ClassId} {h : List AC} {k : Nat} {c : AC} (hk : h[k]? = some c) : (wo B cA h)[k]? = some (B.1 + k, dc B cA c) := by
  unfold wo
  rw [List.getElem?_mapIdx, hk]
  rfl
theorem wo_set (B : Nat × Nat) (cA : Nat → ClassId) (h : List AC) (k : Nat) (c : AC) : (wo B cA h).set k (B.1 + k, dc B cA c) = wo B cA (h.set k c) := by
  apply List.ext_getElem?
  intro i
  unfold wo
  rw [List.getElem?_mapIdx, List.getElem?_set, List.getElem?_set, List.getElem?_mapIdx, List.length_mapIdx]
  by_cases hk : k = i
  · subst hk
    by_cases hl : k < h.length
    · simp [hl]
    · simp [hl]
  · simp [hk]
theorem wo_push (B : Nat × Nat) (cA : Nat → ClassId) (h : List AC) (c : AC) : wo B cA h ++ [(B.1 + h.length, dc B cA c)] = wo B cA (h ++ [c]) := by
  unfold wo
  rw [List.mapIdx_append]
  simp
theorem wo_D (B : Nat × Nat) (cA : Nat → ClassId) (h : List AC) : va_D (fun q => B.1 ≤ q) (wo B cA h) := by
  have hk : ∀ (i : Nat) (q : Nat × va_E), (wo B cA h)[i]? = some q → q.1 = B.1 + i := by
    intro i q hq
    unfold wo at hq
    rw [List.getElem?_mapIdx] at hq
    cases hc : h[i]? with
    | none => rw [hc] at hq; cases hq
    | some c => rw [hc] at hq; cases hq; rfl
  refine ⟨fun i j p q hi hj hpq => ?_, fun k q hq => ?_⟩
  · have h1 := hk i p hi
    have h2 := hk j q hj
    omega
  · have h1 := hk k q hq
    show B.1 ≤ q.1
    omega
theorem sl_set {h : List AC} {k : Nat} {c c' : AC} (hk : h[k]? = some c) (hs : sl1 c' = sl1 c) : sl (h.set k c') = sl h := by
  unfold sl
  have e : (h.set k c').map sl1 = h.map sl1 := by
    apply List.ext_getElem?
    intro i
    rw [List.map_set, List.getElem?_set]
    by_cases hi : k = i
    · subst hi
      have hl : k < h.length := (List.getElem?_eq_some_iff.mp hk).1
      rw [if_pos rfl, List.length_map, if_pos hl, List.getElem?_map, hk, hs]
      rfl
    · rw [if_neg hi]
  rw [e]
theorem sl_push (h : List AC) (c : AC) : sl (h ++ [c]) = sl h + sl1 c := by
  unfold sl
  simp
/-! locals -/
def dl (B : Nat × Nat) (lv : Lv) : List (Nat × Value) := lv.map (fun q => (q.1, dv B q.2))
def lk (lv : Lv) (i : Nat) : Option Value := match lv with
  | [] => none
  | q :: r => if q.1 = i then some q.2 else lk r i
theorem lk_mem {lv : Lv} {i : Nat} {v : Value} (h : lk lv i = some v) : (i, v) ∈ lv := by
  induction lv with
  | nil => cases h
  | cons q r ih =>
    unfold lk at h
    split at h
    · next e => cases h; subst e; exact List.mem_cons_self
    · exact List.mem_cons_of_mem _ (ih h)
theorem lk_at {B : Nat × Nat} {ls : Array Slot} {nL : Nat} {lv : Lv} {i : Nat} {v : Value} (hl : lv_has ls nL (dl B lv)) (h : lk lv i = some v) : ls[i]? = some (.val (dv B v)) :=
  hl.2.2 (i, dv B v) (List.mem_map.mpr ⟨(i, v), lk_mem h, rfl⟩)
def st1 (lv : Lv) (i : Nat) (v : Value) : Lv := (i, v) :: lv.filter (fun q => !(q.1 == i) && !(q.1 + 1 == i && q.2.category == 2))
def st2 (lv : Lv) (i : Nat) (v : Value) : Lv := (i, v) :: lv.filter (fun q => !(q.1 == i) && (!(q.1 == i + 1) && !(q.1 + 1 == i && q.2.category == 2)))
theorem dl_st1 (B : Nat × Nat) (lv : Lv) (i : Nat) (v : Value) : (i, dv B v) :: (dl B lv).filter (fun q => !(q.1 == i) && !(q.1 + 1 == i && q.2.category == 2)) = dl B (st1 lv i v) := by
  unfold dl st1
  rw [List.map_cons, List.filter_map]
  congr 2
  apply List.filter_congr
  intro q _
  simp [dv_cat]
theorem dl_st2 (B : Nat × Nat) (lv : Lv) (i : Nat) (v : Value) : (i, dv B v) :: (dl B lv).filter (fun q => !(q.1 == i) && (!(q.1 == i + 1) && !(q.1 + 1 == i && q.2.category == 2))) = dl B (st2 lv i v) := by
  unfold dl st2
  rw [List.map_cons, List.filter_map]
  congr 2
  apply List.filter_congr
  intro q _
  simp [dv_cat]
theorem dl_args (B : Nat × Nat) (vs : List Value) : ∀ i : Nat, lv_args i (vs.map (dv B)) = dl B (lv_args i vs) := by
  induction vs with
  | nil => intro i; rfl
  | cons v r ih =>
    intro i
    show (i, dv B v) :: lv_args (if (dv B v).category = 2 then i + 2 else i + 1) (r.map (dv B)) = (i, dv B v) :: dl B (lv_args (if v.category = 2 then i + 2 else i + 1) r)
    rw [dv_cat, ih]
/-! the words: those that a callee may be given, and those of the nest -/
def isNest (w : Cond) : Bool := match w with
  | .methodLinkNest _ _ _ _ => true
  | _ => false
def tT : List Cond := lw_tbl.filter goodWord
def tN : List Cond := lw_tbl.filter isNest
def tysA (cA : Nat → ClassId) : List (ClassId × FieldType) := [(cA 0, .int), (cA 1, .byte), (cA 2, .long), (cA 3, .object "TankerDesk$State")]
theorem tT_at (i : Nat) {w : Cond} (h : lw_tbl[i]? = some w) (hg : goodWord w = true) : w ∈ tT := List.mem_filter.mpr ⟨List.mem_of_getElem? h, hg⟩
theorem tN_at (i : Nat) {w : Cond} (h : lw_tbl[i]? = some w) (hg : isNest w = true) : w ∈ tN := List.mem_filter.mpr ⟨List.mem_of_getElem? h, hg⟩
theorem u_ws_good {C : String} {T : u_T} {N : Nat} (h : ∀ w ∈ u_ws C T N, w ∈ lw_tbl) : ∀ w ∈ u_ws C T N, w ∈ tT := by
  intro w hw
  refine List.mem_filter.mpr ⟨h w hw, ?_⟩
  obtain ⟨k, -, rfl⟩ := List.mem_map.mp hw
  unfold u_lay
  split <;> rfl
/-- what else is asked of the machine: the nest's links, the class of rows of states -/
def Xt (s : State) : Prop := (∀ w ∈ tN, va_Nw w s) ∧ va_AO "TankerDesk$State" s
theorem Xt.same {u U : State} (h : u.vm = U.vm) (hx : Xt u) : Xt U := by
  refine ⟨fun w hw => ?_, va_AO.moved (by rw [h]; exact Vm.Alike.refl U.vm) hx.2⟩
  have hn := (List.mem_filter.mp hw).2
  cases w with
  | methodLinkNest a i x b => exact va_Nw.same rfl h (hx.1 _ hw)
  | _ => cases hn
theorem Xt.warm {u U : State} (h : u.WarmedH U.vm) (hx : Xt u) : Xt U := by
  refine ⟨fun w hw => ?_, va_AO.moved h.alike hx.2⟩
  have hn := (List.mem_filter.mp hw).2
  cases w with
  | methodLinkNest a i x b => exact va_Nw.warmM h (hx.1 _ hw)
  | _ => cases hn
/-! the machine beside an abstract state -/
def Cx (own : String) (cc : ByteArray) (nL : Nat) (ret : Option FieldType) (ini : Bool) (D : va_G) (cA : Nat → ClassId) (B : Nat × Nat) (p : Program) (s : State) (m : MethodId) (args : Array Value) (meth : Method) (c : Code) : Prop :=
  p.tables.exec = Jvm.exec ∧ c.code = cc ∧ c.maxLocals = nL ∧ s.vm.findClass own = some m.cls ∧ (∀ w ∈ tT, w.before args s = true) ∧ meth.sig.returnType = ret ∧ meth.locks = false ∧ (ini = true → meth.name = "<init>") ∧ va_K D vwCl (tysA cA) s ∧ Xt s ∧ B.1 ≤ s.heap.size
def Wd (D : va_G) (cA : Nat → ClassId) (B : Nat × Nat) (s : State) (h : List AC) (H : Heap) (locs : List Loc) : Prop :=
  va_P D vwCl (wo B cA h) H ∧ va_S (fun q => B.1 ≤ q) s.heap H locs
abbrev Call : Type := Nat → List Value → List AC → Option (Option Value × List AC)
abbrev Out : Type := (Nat × Lv × List Value × List AC) ⊕ (Option Value × List AC)
abbrev Ent : Type := Nat × (Call → Lv → List Value → List AC → Option Out)
/-- what a method leaves behind -/
def Qr (D : va_G) (cA : Nat → ClassId) (B : Nat × Nat) (r : Option Value) (h : List AC) : Array Value → State → Outcome → State → Prop := fun _ st oc t =>
  oc = .returned (r.map (dv B)) ∧ va_P D vwCl (wo B cA h) t.heap ∧ va_F (fun q => B.1 ≤ q) st t
/-- an instruction's step, told abstractly, is what the machine does -/
def EOk (l : Launch) (own : String) (cc : ByteArray) (nL : Nat) (ret : Option FieldType) (ini : Bool) (D : va_G) (cA : Nat → ClassId) (B : Nat × Nat) (md : Bool) (d : Nat) (call : Call) (en : Ent) : Prop :=
  ∀ (lv : Lv) (st : List Value) (h : List AC) (out : Out), en.2 call lv st h = some out → match out with
    | .inl (pc', lv', st', h') => h.length ≤ h'.length ∧ sl h ≤ sl h' ∧ ∀ (p : Program) (e : Env) (R : Room) (s : State) (m : MethodId) (args : Array Value) (below : List Frame) (meth : Method) (c : Code) (Q : State → Prop), Cx own cc nL ret ini D cA B p s m args meth c → d + 1 ≤ R.frames → 100 * (d + 1) ≤ R.locals →
        ∀ (H : Heap) (locs : List Loc) (ls : Array Slot) (c0 s0 : Nat), Wd D cA B s h H locs → lv_has ls nL (dl B lv) → (md = true → s.heap.size = B.1 + c0) → c0 ≤ h.length → s0 ≤ sl h → h'.length - c0 ≤ R.cells → sl h' - s0 ≤ R.slots →
        (∀ (H' : Heap) (locs' : List Loc) (ls' : Array Slot), Wd D cA B s h' H' locs' → lv_has ls' nL (dl B lv') → W p l e R s m args below meth c H' locs' (h'.length - c0) (sl h' - s0) Q (F0 m pc' ls' (st'.map (dv B)))) →
        W p l e R s m args below meth c H locs (h.length - c0) (sl h - s0) Q (F0 m en.1 ls (st.map (dv B)))
    | .inr (r, h') => h' = h ∧ ∀ (p : Program) (e : Env) (R : Room) (s : State) (m : MethodId) (args : Array Value) (below : List Frame) (meth : Method) (c : Code), Cx own cc nL ret ini D cA B p s m args meth c → ∀ (H : Heap) (locs : List Loc) (ls : Array Slot) (cells slots : Nat), Wd D cA B s h H locs →
        W p l e R s m args below meth c H locs cells slots (MQ below (Qr D cA B r h) args s cells slots (fun q => B.1 ≤ q)) (F0 m en.1 ls (st.map (dv B)))
/-- a step that doesn't touch the heap -/
def ePure (pc : Nat) (f : Lv → List Value → Option (Nat × Lv × List Value)) : Ent := (pc, fun _ lv st h => match f lv st with
  | some (pc', lv', st') => some (.inl (pc', lv', st', h))
  | none => none)
def PRow (l : Launch) (own : String) (cc : ByteArray) (nL : Nat) (ret : Option FieldType) (ini : Bool) (D : va_G) (cA : Nat → ClassId) (B : Nat × Nat) (pc : Nat) (f : Lv → List Value → Option (Nat × Lv × List Value)) : Prop :=
  ∀ (lv : Lv) (st : List Value) (pc' : Nat) (lv' : Lv) (st' : List Value), f lv st = some (pc', lv', st') → ∀ (p : Program) (e : Env) (R : Room) (s : State) (m : MethodId) (args : Array Value) (below : List Frame) (meth : Method) (c : Code) (Q : State → Prop), Cx own cc nL ret ini D cA B p s m args meth c →
    ∀ (H : Heap) (locs : List Loc) (ls : Array Slot) (cells slots : Nat), lv_has ls nL (dl B lv) → (∀ ls' : Array Slot, lv_has ls' nL (dl B lv') → W p l e R s m args below meth c H locs cells slots Q (F0 m pc' ls' (st'.map (dv B)))) → W p l e R s m args below meth c H locs cells slots Q (F0 m pc ls (st.map (dv B)))
theorem eok_pure {l : Launch} {own : String} {cc : ByteArray} {nL : Nat} {ret : Option FieldType} {ini : Bool} {D : va_G} {cA : Nat → ClassId} {B : Nat × Nat} {md : Bool} {d : Nat} {call : Call} {pc : Nat} {f : Lv → List Value → Option (Nat × Lv × List Value)} (hr : PRow l own cc nL ret ini D cA B pc f) : EOk l own cc nL ret ini D cA B md d call (ePure pc f) := by
  intro lv st h out ho
  simp only [ePure] at ho
  split at ho
  · next pc' lv' st' hf =>
    cases ho
    refine ⟨Nat.le_refl _, Nat.le_refl _, ?_⟩
    intro p e R s m args below meth c Q C _ _ H locs ls c0 s0 hW hl _ _ _ _ _ kk
    exact hr lv st pc' lv' st' hf p e R s m args below meth c Q C H locs ls _ _ hl (fun ls' hl' => kk H locs ls' hW hl')
  · cases ho
end
section
def fPush (pc n : Nat) (v : Value) : Lv → List Value → Option (Nat × Lv × List Value) := fun lv st => some (pc + n, lv, v :: st)
theorem pr_iconst {l : Launch} {own : String} {cc : ByteArray} {nL : Nat} {ret : Option FieldType} {ini : Bool} {D : va_G} {cA : Nat → ClassId} {B : Nat × Nat} {pc : Nat} {n : Int} {v : Int32} (hd : decode cc pc = .ok (.iconst n, 1)) (hv : Int32.ofInt n = v) : PRow l own cc nL ret ini D cA B pc (fPush pc 1 (.int v)) := by
  intro lv st pc' lv' st' hf p e R s m args below meth c Q C H locs ls cells slots hl kk
  cases hf
  exact lv_iconst C.1 C.2.1 hd hv (kk ls hl)
theorem pr_bipush {l : Launch} {own : String} {cc : ByteArray} {nL : Nat} {ret : Option FieldType} {ini : Bool} {D : va_G} {cA : Nat → ClassId} {B : Nat × Nat} {pc : Nat} {n : Int} {v : Int32} (hd : decode cc pc = .ok (.bipush n, 2)) (hv : (Int8.ofInt n).toInt32 = v) : PRow l own cc nL ret ini D cA B pc (fPush pc 2 (.int v)) := by
  intro lv st pc' lv' st' hf p e R s m args below meth c Q C H locs ls cells slots hl kk
  cases hf
  exact lv_bipush C.1 C.2.1 hd hv (kk ls hl)
theorem pr_sipush {l : Launch} {own : String} {cc : ByteArray} {nL : Nat} {ret : Option FieldType} {ini : Bool} {D : va_G} {cA : Nat → ClassId} {B : Nat × Nat} {pc : Nat} {n : Int} {v : Int32} (hd : decode cc pc = .ok (.sipush n, 3)) (hv : (Int16.ofInt n).toInt32 = v) : PRow l own cc nL ret ini D cA B pc (fPush pc 3 (.int v)) := by
  intro lv st pc' lv' st' hf p e R s m args below meth c Q C H locs ls cells slots hl kk
  cases hf
  exact lv_sipush C.1 C.2.1 hd hv (kk ls hl)
theorem pr_lconst {l : Launch} {own : String} {cc : ByteArray} {nL : Nat} {ret : Option FieldType} {ini : Bool} {D : va_G} {cA : Nat → ClassId} {B : Nat × Nat} {pc : Nat} {n : Fin 2} {v : Int64} (hd : decode cc pc = .ok (.lconst n, 1)) (hv : Int64.ofNat (n : Nat) = v) : PRow l own cc nL ret ini D cA B pc (fPush pc 1 (.long v)) := by
  intro lv st pc' lv' st' hf p e R s m args below meth c Q C H locs ls cells slots hl kk
  cases hf
  exact lv_lconst C.1 C.2.1 hd hv (kk ls hl)
theorem pr_ldc {l : Launch} {own : String} {cc : ByteArray} {nL : Nat} {ret : Option FieldType} {ini : Bool} {D : va_G} {cA : Nat → ClassId} {B : Nat × Nat} {pc : Nat} {i : Nat} {v : Int32} (hd : decode cc pc = .ok (.ldc i, 2)) (hw : Cond.constant own i v ∈ tT) : PRow l own cc nL ret ini D cA B pc (fPush pc 2 (.int v)) := by
  intro lv st pc' lv' st' hf p e R s m args below meth c Q C H locs ls cells slots hl kk
  cases hf
  exact lv_ldc C.1 C.2.1 C.2.2.2.1 (C.2.2.2.2.1 _ hw) hd (kk ls hl)
theorem pr_ldc2 {l : Launch} {own : String} {cc : ByteArray} {nL : Nat} {ret : Option FieldType} {ini : Bool} {D : va_G} {cA : Nat → ClassId} {B : Nat × Nat} {pc : Nat} {i : Nat} {v : Int64} (hd : decode cc pc = .ok (.ldc2_w i, 3)) (hw : Cond.constantLong own i v ∈ tT) : PRow l own cc nL ret ini D cA B pc (fPush pc 3 (.long v)) := by
  intro lv st pc' lv' st' hf p e R s m args below meth c Q C H locs ls cells slots hl kk
  cases hf
  exact lv_ldc2 C.1 C.2.1 C.2.2.2.1 (C.2.2.2.2.1 _ hw) hd (kk ls hl)
def fLoadI (pc n i : Nat) : Lv → List Value → Option (Nat × Lv × List Value) := fun lv st => match lk lv i with
  | some (.int x) => some (pc + n, lv, .int x :: st)
  | _ => none
def fLoadJ (pc n i : Nat) : Lv → List Value → Option (Nat × Lv × List Value) := fun lv st => match lk lv i with
  | some (.long x) => some (pc + n, lv, .long x :: st)
  | _ => none
def fLoadA (pc n i : Nat) : Lv → List Value → Option (Nat × Lv × List Value) := fun lv st => match lk lv i with
  | some (.ref x) => some (pc + n, lv, .ref x :: st)
  | some (.retAddr x) => some (pc + n, lv, .retAddr x :: st)
  | _ => none
theorem pr_iload_n {l : Launch} {own : String} {cc : ByteArray} {nL : Nat} {ret : Option FieldType} {ini : Bool} {D : va_G} {cA : Nat → ClassId} {B : Nat × Nat} {pc : Nat} {k : Fin 4} {i : Nat} (hd : decode cc pc = .ok (.iload_n k, 1)) (hi : (k : Nat) = i) : PRow l own cc nL ret ini D cA B pc (fLoadI pc 1 i) := by
  intro lv st pc' lv' st' hf p e R s m args below meth c Q C H locs ls cells slots hl kk
  unfold fLoadI at hf
  split at hf
  · next x hx =>
    cases hf
    exact lv_iload_n C.1 C.2.1 hd hi (lk_at hl hx) (kk ls hl)
  · cases hf
theorem pr_iload {l : Launch} {own : String} {cc : ByteArray} {nL : Nat} {ret : Option FieldType} {ini : Bool} {D : va_G} {cA : Nat → ClassId} {B : Nat × Nat} {pc : Nat} {i : Nat} (hd : decode cc pc = .ok (.iload i, 2)) : PRow l own cc nL ret ini D cA B pc (fLoadI pc 2 i) := by
  intro lv st pc' lv' st' hf p e R s m args below meth c Q C H locs ls cells slots hl kk
  unfold fLoadI at hf
  split at hf
  · next x hx =>
    cases hf
    exact lv_iload C.1 C.2.1 hd (lk_at hl hx) (kk ls hl)
  · cases hf
theorem pr_lload_n {l : Launch} {own : String} {cc : ByteArray} {nL : Nat} {ret : Option FieldType} {ini : Bool} {D : va_G} {cA : Nat → ClassId} {B : Nat × Nat} {pc : Nat} {k : Fin 4} {i : Nat} (hd : decode cc pc = .ok (.lload_n k, 1)) (hi : (k : Nat) = i) : PRow l own cc nL ret ini D cA B pc (fLoadJ pc 1 i) := by
  intro lv st pc' lv' st' hf p e R s m args below meth c Q C H locs ls cells slots hl kk
  unfold fLoadJ at hf
  split at hf
  · next x hx =>
    cases hf
    exact lv_lload_n C.1 C.2.1 hd hi (lk_at hl hx) (kk ls hl)
  · cases hf
theorem pr_lload {l : Launch} {own : String} {cc : ByteArray} {nL : Nat} {ret : Option FieldType} {ini : Bool} {D : va_G} {cA : Nat → ClassId} {B : Nat × Nat} {pc : Nat} {i : Nat} (hd : decode cc pc = .ok (.lload i, 2)) : PRow l own cc nL ret ini D cA B pc (fLoadJ pc 2 i) := by
  intro lv st pc' lv' st' hf p e R s m args below meth c Q C H locs ls cells slots hl kk
  unfold fLoadJ at hf
  split at hf
  · next x hx =>
    cases hf
    exact lv_lload C.1 C.2.1 hd (lk_at hl hx) (kk ls hl)
  · cases hf
theorem pr_aload_n {l : Launch} {own : String} {cc : ByteArray} {nL : Nat} {ret : Option FieldType} {ini : Bool} {D : va_G} {cA : Nat → ClassId} {B : Nat × Nat} {pc : Nat} {k : Fin 4} {i : Nat} (hd : decode cc pc = .ok (.aload_n k, 1)) (hi : (k : Nat) = i) : PRow l own cc nL ret ini D cA B pc (fLoadA pc 1 i) := by
  intro lv st pc' lv' st' hf p e R s m args below meth c Q C H locs ls cells slots hl kk
  unfold fLoadA at hf
  split at hf
  · next x hx =>
    cases hf
    exact lv_aload_n C.1 C.2.1 hd hi (lk_at hl hx) (kk ls hl)
  · next x hx =>
    cases hf
    exact lv_aload_n C.1 C.2.1 hd hi (lk_at hl hx) (kk ls hl)
  · cases hf
theorem pr_aload {l : Launch} {own : String} {cc : ByteArray} {nL : Nat} {ret : Option FieldType} {ini : Bool} {D : va_G} {cA : Nat → ClassId} {B : Nat × Nat} {pc : Nat} {i : Nat} (hd : decode cc pc = .ok (.aload i, 2)) : PRow l own cc nL ret ini D cA B pc (fLoadA pc 2 i) := by
  intro lv st pc' lv' st' hf p e R s m args below meth c Q C H locs ls cells slots hl kk
  unfold fLoadA at hf
  split at hf
  · next x hx =>
    cases hf
    exact lv_aload C.1 C.2.1 hd (lk_at hl hx) (kk ls hl)
  · next x hx =>
    cases hf
    exact lv_aload C.1 C.2.1 hd (lk_at hl hx) (kk ls hl)
  · cases hf
def fStoI (pc n i nL : Nat) : Lv → List Value → Option (Nat × Lv × List Value) := fun lv st => match st with
  | .int x :: r => if i < nL then some (pc + n, st1 lv i (.int x), r) else none
  | _ => none
def fStoA (pc n i nL : Nat) : Lv → List Value → Option (Nat × Lv × List Value) := fun lv st => match st with
  | .ref x :: r => if i < nL then some (pc + n, st1 lv i (.ref x), r) else none
  | _ => none
def fStoJ (pc n i nL : Nat) : Lv → List Value → Option (Nat × Lv × List Value) := fun lv st => match st with
  | .long x :: r => if i + 1 < nL then some (pc + n, st2 lv i (.long x), r) else none
  | _ => none
theorem pr_istore_n {l : Launch} {own : String} {cc : ByteArray} {nL : Nat} {ret : Option FieldType} {ini : Bool} {D : va_G} {cA : Nat → ClassId} {B : Nat × Nat} {pc : Nat} {k : Fin 4} {i : Nat} (hd : decode cc pc = .ok (.istore_n k, 1)) (hi : (k : Nat) = i) : PRow l own cc nL ret ini D cA B pc (fStoI pc 1 i nL) := by
  intro lv st pc' lv' st' hf p e R s m args below meth c Q C H locs ls cells slots hl kk
  unfold fStoI at hf
  split at hf
  · next x r =>
    split at hf
    · next hn =>
      cases hf
      exact lv_istore_n C.1 C.2.1 hd hi hl hn (dl_st1 B lv i (.int x)) kk
    · cases hf
  · cases hf
theorem pr_istore {l : Launch} {own : String} {cc : ByteArray} {nL : Nat} {ret : Option FieldType} {ini : Bool} {D : va_G} {cA : Nat → ClassId} {B : Nat × Nat} {pc : Nat} {i : Nat} (hd : decode cc pc = .ok (.istore i, 2)) : PRow l own cc nL ret ini D cA B pc (fStoI pc 2 i nL) := by
  intro lv st pc' lv' st' hf p e R s m args below meth c Q C H locs ls cells slots hl kk
  unfold fStoI at hf
  split at hf
  · next x r =>
    split at hf
    · next hn =>
      cases hf
      exact lv_istore C.1 C.2.1 hd hl hn (dl_st1 B lv i (.int x)) kk
    · cases hf
  · cases hf
theorem pr_astore_n {l : Launch} {own : String} {cc : ByteArray} {nL : Nat} {ret : Option FieldType} {ini : Bool} {D : va_G} {cA : Nat → ClassId} {B : Nat × Nat} {pc : Nat} {k : Fin 4} {i : Nat} (hd : decode cc pc = .ok (.astore_n k, 1)) (hi : (k : Nat) = i) : PRow l own cc nL ret ini D cA B pc (fStoA pc 1 i nL) := by
  intro lv st pc' lv' st' hf p e R s m args below meth c Q C H locs ls cells slots hl kk
  unfold fStoA at hf
  split at hf
  · next x r =>
    split at hf
    · next hn =>
      cases hf
      exact lv_astore_n C.1 C.2.1 hd hi hl hn (dl_st1 B lv i (.ref x)) kk
    · cases hf
  · cases hf
theorem pr_astore {l : Launch} {own : String} {cc : ByteArray} {nL : Nat} {ret : Option FieldType} {ini : Bool} {D : va_G} {cA : Nat → ClassId} {B : Nat × Nat} {pc : Nat} {i : Nat} (hd : decode cc pc = .ok (.astore i, 2)) : PRow l own cc nL ret ini D cA B pc (fStoA pc 2 i nL) := by
  intro lv st pc' lv' st' hf p e R s m args below meth c Q C H locs ls cells slots hl kk
  unfold fStoA at hf
  split at hf
  · next x r =>
    split at hf
    · next hn =>
      cases hf
      exact lv_astore C.1 C.2.1 hd hl hn (dl_st1 B lv i (.ref x)) kk
    · cases hf
  · cases hf
theorem pr_lstore_n {l : Launch} {own : String} {cc : ByteArray} {nL : Nat} {ret : Option FieldType} {ini : Bool} {D : va_G} {cA : Nat → ClassId} {B : Nat × Nat} {pc : Nat} {k : Fin 4} {i : Nat} (hd : decode cc pc = .ok (.lstore_n k, 1)) (hi : (k : Nat) = i) : PRow l own cc nL ret ini D cA B pc (fStoJ pc 1 i nL) := by
  intro lv st pc' lv' st' hf p e R s m args below meth c Q C H locs ls cells slots hl kk
  unfold fStoJ at hf
  split at hf
  · next x r =>
    split at hf
    · next hn =>
      cases hf
      exact lv_lstore_n C.1 C.2.1 hd hi hl hn (dl_st2 B lv i (.long x)) kk
    · cases hf
  · cases hf
def fInc (pc i nL : Nat) (n : Int32) : Lv → List Value → Option (Nat × Lv × List Value) := fun lv st => match lk lv i with
  | some (.int x) => if i < nL then some (pc + 3, st1 lv i (.int (x + n)), st) else none
  | _ => none
theorem pr_iinc {l : Launch} {own : String} {cc : ByteArray} {nL : Nat} {ret : Option FieldType} {ini : Bool} {D : va_G} {cA : Nat → ClassId} {B : Nat × Nat} {pc : Nat} {i : Nat} {n : Int} {v : Int32} (hd : decode cc pc = .ok (.iinc i n, 3)) (hv : Int32.ofInt n = v) : PRow l own cc nL ret ini D cA B pc (fInc pc i nL v) := by
  intro lv st pc' lv' st' hf p e R s m args below meth c Q C H locs ls cells slots hl kk
  unfold fInc at hf
  split at hf
  · next x hx =>
    split at hf
    · next hn =>
      cases hf
      obtain ⟨k, hk⟩ := List.mem_iff_getElem?.mp (List.mem_map.mpr ⟨(i, Value.int x), lk_mem hx, rfl⟩ : (i, dv B (Value.int x)) ∈ dl B lv)
      exact lv_iinc C.1 C.2.1 (v := x + v) hd hl (k := k) hk (by rw [hv]) hn (dl_st1 B lv i (.int (x + v))) kk
    · cases hf
  · cases hf
def fBin (pc : Nat) (f : Int32 → Int32 → Int32) : Lv → List Value → Option (Nat × Lv × List Value) := fun lv st => match st with
  | .int y :: .int x :: r => some (pc + 1, lv, .int (f x y) :: r)
  | _ => none
def o_iadd : Int32 → Int32 → Int32 := fun x y => x + y
theorem pr_iadd {l : Launch} {own : String} {cc : ByteArray} {nL : Nat} {ret : Option FieldType} {ini : Bool} {D : va_G} {cA : Nat → ClassId} {B : Nat × Nat} {pc : Nat} (hd : decode cc pc = .ok (.iadd, 1)) : PRow l own cc nL ret ini D cA B pc (fBin pc o_iadd) := by
  intro lv st pc' lv' st' hf p e R s m args below meth c Q C H locs ls cells slots hl kk
  unfold fBin at hf
  split at hf
  · next y x r =>
    cases hf
    exact lv_iadd C.1 C.2.1 hd (kk ls hl)
  · cases hf
def o_isub : Int32 → Int32 → Int32 := fun x y => x - y
theorem pr_isub {l : Launch} {own : String} {cc : ByteArray} {nL : Nat} {ret : Option FieldType} {ini : Bool} {D : va_G} {cA : Nat → ClassId} {B : Nat × Nat} {pc : Nat} (hd : decode cc pc = .ok (.isub, 1)) : PRow l own cc nL ret ini D cA B pc (fBin pc o_isub) := by
  intro lv st pc' lv' st' hf p e R s m args below meth c Q C H locs ls cells slots hl kk
  unfold fBin at hf
  split at hf
  · next y x r =>
    cases hf
    exact lv_isub C.1 C.2.1 hd (kk ls hl)
  · cases hf
def o_imul : Int32 → Int32 → Int32 := fun x y => x * y
theorem pr_imul {l : Launch} {own : String} {cc : ByteArray} {nL : Nat} {ret : Option FieldType} {ini : Bool} {D : va_G} {cA : Nat → ClassId} {B : Nat × Nat} {pc : Nat} (hd : decode cc pc = .ok (.imul, 1)) : PRow l own cc nL ret ini D cA B pc (fBin pc o_imul) := by
  intro lv st pc' lv' st' hf p e R s m args below meth c Q C H locs ls cells slots hl kk
  unfold fBin at hf
  split at hf
  · next y x r =>
    cases hf
    exact lv_imul C.1 C.2.1 hd (kk ls hl)
  · cases hf
def o_iand : Int32 → Int32 → Int32 := fun x y => x &&& y
theorem pr_iand {l : Launch} {own : String} {cc : ByteArray} {nL : Nat} {ret : Option FieldType} {ini : Bool} {D : va_G} {cA : Nat → ClassId} {B : Nat × Nat} {pc : Nat} (hd : decode cc pc = .ok (.iand, 1)) : PRow l own cc nL ret ini D cA B pc (fBin pc o_iand) := by
  intro lv st pc' lv' st' hf p e R s m args below meth c Q C H locs ls cells slots hl kk
  unfold fBin at hf
  split at hf
  · next y x r =>
    cases hf
    exact lv_iand C.1 C.2.1 hd (kk ls hl)
  · cases hf
def o_ior : Int32 → Int32 → Int32 := fun x y => x ||| y
theorem pr_ior {l : Launch} {own : String} {cc : ByteArray} {nL : Nat} {ret : Option FieldType} {ini : Bool} {D : va_G} {cA : Nat → ClassId} {B : Nat × Nat} {pc : Nat} (hd : decode cc pc = .ok (.ior, 1)) : PRow l own cc nL ret ini D cA B pc (fBin pc o_ior) := by
  intro lv st pc' lv' st' hf p e R s m args below meth c Q C H locs ls cells slots hl kk
  unfold fBin at hf
  split at hf
  · next y x r =>
    cases hf
    exact lv_ior C.1 C.2.1 hd (kk ls hl)
  · cases hf
def o_ixor : Int32 → Int32 → Int32 := fun x y => x ^^^ y
theorem pr_ixor {l : Launch} {own : String} {cc : ByteArray} {nL : Nat} {ret : Option FieldType} {ini : Bool} {D : va_G} {cA : Nat → ClassId} {B : Nat × Nat} {pc : Nat} (hd : decode cc pc = .ok (.ixor, 1)) : PRow l own cc nL ret ini D cA B pc (fBin pc o_ixor) := by
  intro lv st pc' lv' st' hf p e R s m args below meth c Q C H locs ls cells slots hl kk
  unfold fBin at hf
  split at hf
  · next y x r =>
    cases hf
    exact lv_ixor C.1 C.2.1 hd (kk ls hl)
  · cases hf
def o_ishl : Int32 → Int32 → Int32 := fun x y => x <<< (y &&& 31)
theorem pr_ishl {l : Launch} {own : String} {cc : ByteArray} {nL : Nat} {ret : Option FieldType} {ini : Bool} {D : va_G} {cA : Nat → ClassId} {B : Nat × Nat} {pc : Nat} (hd : decode cc pc = .ok (.ishl, 1)) : PRow l own cc nL ret ini D cA B pc (fBin pc o_ishl) := by
  intro lv st pc' lv' st' hf p e R s m args below meth c Q C H locs ls cells slots hl kk
  unfold fBin at hf
  split at hf
  · next y x r =>
    cases hf
    exact lv_ishl C.1 C.2.1 hd (kk ls hl)
  · cases hf
def o_ishr : Int32 → Int32 → Int32 := fun x y => x >>> (y &&& 31)
theorem pr_ishr {l : Launch} {own : String} {cc : ByteArray} {nL : Nat} {ret : Option FieldType} {ini : Bool} {D : va_G} {cA : Nat → ClassId} {B : Nat × Nat} {pc : Nat} (hd : decode cc pc = .ok (.ishr, 1)) : PRow l own cc nL ret ini D cA B pc (fBin pc o_ishr) := by
  intro lv st pc' lv' st' hf p e R s m args below meth c Q C H locs ls cells slots hl kk
  unfold fBin at hf
  split at hf
  · next y x r =>
    cases hf
    exact lv_ishr C.1 C.2.1 hd (kk ls hl)
  · cases hf
def o_iushr : Int32 → Int32 → Int32 := fun x y => (x.toUInt32 >>> (y.toUInt32 &&& Int32.toUInt32 31)).toInt32
theorem pr_iushr {l : Launch} {own : String} {cc : ByteArray} {nL : Nat} {ret : Option FieldType} {ini : Bool} {D : va_G} {cA : Nat → ClassId} {B : Nat × Nat} {pc : Nat} (hd : decode cc pc = .ok (.iushr, 1)) : PRow l own cc nL ret ini D cA B pc (fBin pc o_iushr) := by
  intro lv st pc' lv' st' hf p e R s m args below meth c Q C H locs ls cells slots hl kk
  unfold fBin at hf
  split at hf
  · next y x r =>
    cases hf
    exact lv_iushr C.1 C.2.1 hd rfl (kk ls hl)
  · cases hf
def fDiv (pc : Nat) : Lv → List Value → Option (Nat × Lv × List Value) := fun lv st => match st with
  | .int y :: .int x :: r => if y = 0 then none else some (pc + 1, lv, .int (x / y) :: r)
  | _ => none
theorem pr_idiv {l : Launch} {own : String} {cc : ByteArray} {nL : Nat} {ret : Option FieldType} {ini : Bool} {D : va_G} {cA : Nat → ClassId} {B : Nat × Nat} {pc : Nat} (hd : decode cc pc = .ok (.idiv, 1)) : PRow l own cc nL ret ini D cA B pc (fDiv pc) := by
  intro lv st pc' lv' st' hf p e R s m args below meth c Q C H locs ls cells slots hl kk
  unfold fDiv at hf
  split at hf
  · next y x r =>
    split at hf
    · cases hf
    · next hn =>
      cases hf
      exact lv_idiv C.1 C.2.1 hd hn (kk ls hl)
  · cases hf
def fBinJ (pc : Nat) (f : Int64 → Int64 → Int64) : Lv → List Value → Option (Nat × Lv × List Value) := fun lv st => match st with
  | .long y :: .long x :: r => some (pc + 1, lv, .long (f x y) :: r)
  | _ => none
def o_ladd : Int64 → Int64 → Int64 := fun x y => x + y
theorem pr_ladd {l : Launch} {own : String} {cc : ByteArray} {nL : Nat} {ret : Option FieldType} {ini : Bool} {D : va_G} {cA : Nat → ClassId} {B : Nat × Nat} {pc : Nat} (hd : decode cc pc = .ok (.ladd, 1)) : PRow l own cc nL ret ini D cA B pc (fBinJ pc o_ladd) := by
  intro lv st pc' lv' st' hf p e R s m args below meth c Q C H locs ls cells slots hl kk
  unfold fBinJ at hf
  split at hf
  · next y x r =>
    cases hf
    exact lv_ladd C.1 C.2.1 hd (kk ls hl)
  · cases hf
def o_lsub : Int64 → Int64 → Int64 := fun x y => x - y
theorem pr_lsub {l : Launch} {own : String} {cc : ByteArray} {nL : Nat} {ret : Option FieldType} {ini : Bool} {D : va_G} {cA : Nat → ClassId} {B : Nat × Nat} {pc : Nat} (hd : decode cc pc = .ok (.lsub, 1)) : PRow l own cc nL ret ini D cA B pc (fBinJ pc o_lsub) := by
  intro lv st pc' lv' st' hf p e R s m args below meth c Q C H locs ls cells slots hl kk
  unfold fBinJ at hf
  split at hf
  · next y x r =>
    cases hf
    exact lv_lsub C.1 C.2.1 hd (kk ls hl)
  · cases hf
def o_lmul : Int64 → Int64 → Int64 := fun x y => x * y
theorem pr_lmul {l : Launch} {own : String} {cc : ByteArray} {nL : Nat} {ret : Option FieldType} {ini : Bool} {D : va_G} {cA : Nat → ClassId} {B : Nat × Nat} {pc : Nat} (hd : decode cc pc = .ok (.lmul, 1)) : PRow l own cc nL ret ini D cA B pc (fBinJ pc o_lmul) := by
  intro lv st pc' lv' st' hf p e R s m args below meth c Q C H locs ls cells slots hl kk
  unfold fBinJ at hf
  split at hf
  · next y x r =>
    cases hf
    exact lv_lmul C.1 C.2.1 hd (kk ls hl)
  · cases hf
def o_land : Int64 → Int64 → Int64 := fun x y => x &&& y
theorem pr_land {l : Launch} {own : String} {cc : ByteArray} {nL : Nat} {ret : Option FieldType} {ini : Bool} {D : va_G} {cA : Nat → ClassId} {B : Nat × Nat} {pc : Nat} (hd : decode cc pc = .ok (.land, 1)) : PRow l own cc nL ret ini D cA B pc (fBinJ pc o_land) := by
  intro lv st pc' lv' st' hf p e R s m args below meth c Q C H locs ls cells slots hl kk
  unfold fBinJ at hf
  split at hf
  · next y x r =>
    cases hf
    exact lv_land C.1 C.2.1 hd (kk ls hl)
  · cases hf
def o_lor : Int64 → Int64 → Int64 := fun x y => x ||| y
theorem pr_lor {l : Launch} {own : String} {cc : ByteArray} {nL : Nat} {ret : Option FieldType} {ini : Bool} {D : va_G} {cA : Nat → ClassId} {B : Nat × Nat} {pc : Nat} (hd : decode cc pc = .ok (.lor, 1)) : PRow l own cc nL ret ini D cA B pc (fBinJ pc o_lor) := by
  intro lv st pc' lv' st' hf p e R s m args below meth c Q C H locs ls cells slots hl kk
  unfold fBinJ at hf
  split at hf
  · next y x r =>
    cases hf
    exact lv_lor C.1 C.2.1 hd (kk ls hl)
  · cases hf
def fShJ (pc : Nat) (f : Int64 → Int32 → Int64) : Lv → List Value → Option (Nat × Lv × List Value) := fun lv st => match st with
  | .int y :: .long x :: r => some (pc + 1, lv, .long (f x y) :: r)
  | _ => none
def o_lushr : Int64 → Int32 → Int64 := fun x y => (x.toUInt64 >>> (y.toInt64.toUInt64 &&& Int64.toUInt64 63)).toInt64
theorem pr_lushr {l : Launch} {own : String} {cc : ByteArray} {nL : Nat} {ret : Option FieldType} {ini : Bool} {D : va_G} {cA : Nat → ClassId} {B : Nat × Nat} {pc : Nat} (hd : decode cc pc = .ok (.lushr, 1)) : PRow l own cc nL ret ini D cA B pc (fShJ pc o_lushr) := by
  intro lv st pc' lv' st' hf p e R s m args below meth c Q C H locs ls cells slots hl kk
  unfold fShJ at hf
  split at hf
  · next y x r =>
    cases hf
    exact lv_lushr C.1 C.2.1 hd rfl (kk ls hl)
  · cases hf
def o_lshl : Int64 → Int32 → Int64 := fun x y => x <<< (y.toInt64 &&& 63)
theorem pr_lshl {l : Launch} {own : String} {cc : ByteArray} {nL : Nat} {ret : Option FieldType} {ini : Bool} {D : va_G} {cA : Nat → ClassId} {B : Nat × Nat} {pc : Nat} (hd : decode cc pc = .ok (.lshl, 1)) : PRow l own cc nL ret ini D cA B pc (fShJ pc o_lshl) := by
  intro lv st pc' lv' st' hf p e R s m args below meth c Q C H locs ls cells slots hl kk
  unfold fShJ at hf
  split at hf
  · next y x r =>
    cases hf
    exact lv_lshl C.1 C.2.1 hd rfl (kk ls hl)
  · cases hf
def o_lshr : Int64 → Int32 → Int64 := fun x y => x >>> (y.toInt64 &&& 63)
theorem pr_lshr {l : Launch} {own : String} {cc : ByteArray} {nL : Nat} {ret : Option FieldType} {ini : Bool} {D : va_G} {cA : Nat → ClassId} {B : Nat × Nat} {pc : Nat} (hd : decode cc pc = .ok (.lshr, 1)) : PRow l own cc nL ret ini D cA B pc (fShJ pc o_lshr) := by
  intro lv st pc' lv' st' hf p e R s m args below meth c Q C H locs ls cells slots hl kk
  unfold fShJ at hf
  split at hf
  · next y x r =>
    cases hf
    exact lv_lshr C.1 C.2.1 hd rfl (kk ls hl)
  · cases hf
def fLcmp (pc : Nat) : Lv → List Value → Option (Nat × Lv × List Value) := fun lv st => match st with
  | .long y :: .long x :: r => some (pc + 1, lv, .int (lg_cmp x y) :: r)
  | _ => none
theorem pr_lcmp {l : Launch} {own : String} {cc : ByteArray} {nL : Nat} {ret : Option FieldType} {ini : Bool} {D : va_G} {cA : Nat → ClassId} {B : Nat × Nat} {pc : Nat} (hd : decode cc pc = .ok (.lcmp, 1)) : PRow l own cc nL ret ini D cA B pc (fLcmp pc) := by
  intro lv st pc' lv' st' hf p e R s m args below meth c Q C H locs ls cells slots hl kk
  unfold fLcmp at hf
  split at hf
  · next y x r =>
    cases hf
    exact W.lcmp C.1 C.2.1 hd (kk ls hl)
  · cases hf
def f_i2l (pc : Nat) : Lv → List Value → Option (Nat × Lv × List Value) := fun lv st => match st with
  | .int x :: r => some (pc + 1, lv, .long (x.toInt64) :: r)
  | _ => none
theorem pr_i2l {l : Launch} {own : String} {cc : ByteArray} {nL : Nat} {ret : Option FieldType} {ini : Bool} {D : va_G} {cA : Nat → ClassId} {B : Nat × Nat} {pc : Nat} (hd : decode cc pc = .ok (.i2l, 1)) : PRow l own cc nL ret ini D cA B pc (f_i2l pc) := by
  intro lv st pc' lv' st' hf p e R s m args below meth c Q C H locs ls cells slots hl kk
  unfold f_i2l at hf
  split at hf
  · next x r =>
    cases hf
    exact lv_i2l C.1 C.2.1 hd rfl (kk ls hl)
  · cases hf
def f_l2i (pc : Nat) : Lv → List Value → Option (Nat × Lv × List Value) := fun lv st => match st with
  | .long x :: r => some (pc + 1, lv, .int (x.toInt32) :: r)
  | _ => none
theorem pr_l2i {l : Launch} {own : String} {cc : ByteArray} {nL : Nat} {ret : Option FieldType} {ini : Bool} {D : va_G} {cA : Nat → ClassId} {B : Nat × Nat} {pc : Nat} (hd : decode cc pc = .ok (.l2i, 1)) : PRow l own cc nL ret ini D cA B pc (f_l2i pc) := by
  intro lv st pc' lv' st' hf p e R s m args below meth c Q C H locs ls cells slots hl kk
  unfold f_l2i at hf
  split at hf
  · next x r =>
    cases hf
    exact lv_l2i C.1 C.2.1 hd rfl (kk ls hl)
  · cases hf
def f_i2b (pc : Nat) : Lv → List Value → Option (Nat × Lv × List Value) := fun lv st => match st with
  | .int x :: r => some (pc + 1, lv, .int (x.toInt8.toInt32) :: r)
  | _ => none
theorem pr_i2b {l : Launch} {own : String} {cc : ByteArray} {nL : Nat} {ret : Option FieldType} {ini : Bool} {D : va_G} {cA : Nat → ClassId} {B : Nat × Nat} {pc : Nat} (hd : decode cc pc = .ok (.i2b, 1)) : PRow l own cc nL ret ini D cA B pc (f_i2b pc) := by
  intro lv st pc' lv' st' hf p e R s m args below meth c Q C H locs ls cells slots hl kk
  unfold f_i2b at hf
  split at hf
  · next x r =>
    cases hf
    exact lv_i2b C.1 C.2.1 hd rfl (kk ls hl)
  · cases hf
def f_i2c (pc : Nat) : Lv → List Value → Option (Nat × Lv × List Value) := fun lv st => match st with
  | .int x :: r => some (pc + 1, lv, .int ((x.toUInt32 % 65536).toInt32) :: r)
  | _ => none
theorem pr_i2c {l : Launch} {own : String} {cc : ByteArray} {nL : Nat} {ret : Option FieldType} {ini : Bool} {D : va_G} {cA : Nat → ClassId} {B : Nat × Nat} {pc : Nat} (hd : decode cc pc = .ok (.i2c, 1)) : PRow l own cc nL ret ini D cA B pc (f_i2c pc) := by
  intro lv st pc' lv' st' hf p e R s m args below meth c Q C H locs ls cells slots hl kk
  unfold f_i2c at hf
  split at hf
  · next x r =>
    cases hf
    exact lv_i2c C.1 C.2.1 hd rfl (kk ls hl)
  · cases hf
def fIf1 (pc t : Nat) (f : Int32 → Bool) : Lv → List Value → Option (Nat × Lv × List Value) := fun lv st => match st with
  | .int x :: r => some (if f x = true then t else pc + 3, lv, r)
  | _ => none
def fIf2 (pc t : Nat) (f : Int32 → Int32 → Bool) : Lv → List Value → Option (Nat × Lv × List Value) := fun lv st => match st with
  | .int y :: .int x :: r => some (if f x y = true then t else pc + 3, lv, r)
  | _ => none
def b1_eq : Int32 → Bool := fun x => decide (x = 0)
theorem pr_if_eq {l : Launch} {own : String} {cc : ByteArray} {nL : Nat} {ret : Option FieldType} {ini : Bool} {D : va_G} {cA : Nat → ClassId} {B : Nat × Nat} {pc : Nat} {t : Nat} {off : Int} (hd : decode cc pc = .ok (.ifCond .eq off, 3)) (ht : (pc : Int) + off = (t : Int)) : PRow l own cc nL ret ini D cA B pc (fIf1 pc t b1_eq) := by
  intro lv st pc' lv' st' hf p e R s m args below meth c Q C H locs ls cells slots hl kk
  unfold fIf1 at hf
  split at hf
  · next x r =>
    cases hf
    refine lv_if_eq C.1 C.2.1 hd ht (fun q => ?_) (fun q => ?_)
    · have k := kk ls hl
      rw [if_pos (by first | exact decide_eq_true q | simp [b1_eq]; exact q)] at k
      exact k
    · have k := kk ls hl
      rw [if_neg (by intro z; first | exact q (of_decide_eq_true z) | exact (of_decide_eq_true z) q)] at k
      exact k
  · cases hf
def b1_ne : Int32 → Bool := fun x => decide (x ≠ 0)
theorem pr_if_ne {l : Launch} {own : String} {cc : ByteArray} {nL : Nat} {ret : Option FieldType} {ini : Bool} {D : va_G} {cA : Nat → ClassId} {B : Nat × Nat} {pc : Nat} {t : Nat} {off : Int} (hd : decode cc pc = .ok (.ifCond .ne off, 3)) (ht : (pc : Int) + off = (t : Int)) : PRow l own cc nL ret ini D cA B pc (fIf1 pc t b1_ne) := by
  intro lv st pc' lv' st' hf p e R s m args below meth c Q C H locs ls cells slots hl kk
  unfold fIf1 at hf
  split at hf
  · next x r =>
    cases hf
    refine lv_if_ne C.1 C.2.1 hd ht (fun q => ?_) (fun q => ?_)
    · have k := kk ls hl
      rw [if_pos (by first | exact decide_eq_true q | simp [b1_ne]; exact q)] at k
      exact k
    · have k := kk ls hl
      rw [if_neg (by intro z; first | exact q (of_decide_eq_true z) | exact (of_decide_eq_true z) q)] at k
      exact k
  · cases hf
def b1_lt : Int32 → Bool := fun x => decide (x < 0)
theorem pr_if_lt {l : Launch} {own : String} {cc : ByteArray} {nL : Nat} {ret : Option FieldType} {ini : Bool} {D : va_G} {cA : Nat → ClassId} {B : Nat × Nat} {pc : Nat} {t : Nat} {off : Int} (hd : decode cc pc = .ok (.ifCond .lt off, 3)) (ht : (pc : Int) + off = (t : Int)) : PRow l own cc nL ret ini D cA B pc (fIf1 pc t b1_lt) := by
  intro lv st pc' lv' st' hf p e R s m args below meth c Q C H locs ls cells slots hl kk
  unfold fIf1 at hf
  split at hf
  · next x r =>
    cases hf
    refine lv_if_lt C.1 C.2.1 hd ht (fun q => ?_) (fun q => ?_)
    · have k := kk ls hl
      rw [if_pos (by first | exact decide_eq_true q | simp [b1_lt]; exact q)] at k
      exact k
    · have k := kk ls hl
      rw [if_neg (by intro z; first | exact q (of_decide_eq_true z) | exact (of_decide_eq_true z) q)] at k
      exact k
  · cases hf
def b1_ge : Int32 → Bool := fun x => decide (0 ≤ x)
theorem pr_if_ge {l : Launch} {own : String} {cc : ByteArray} {nL : Nat} {ret : Option FieldType} {ini : Bool} {D : va_G} {cA : Nat → ClassId} {B : Nat × Nat} {pc : Nat} {t : Nat} {off : Int} (hd : decode cc pc = .ok (.ifCond .ge off, 3)) (ht : (pc : Int) + off = (t : Int)) : PRow l own cc nL ret ini D cA B pc (fIf1 pc t b1_ge) := by
  intro lv st pc' lv' st' hf p e R s m args below meth c Q C H locs ls cells slots hl kk
  unfold fIf1 at hf
  split at hf
  · next x r =>
    cases hf
    refine lv_if_ge C.1 C.2.1 hd ht (fun q => ?_) (fun q => ?_)
    · have k := kk ls hl
      rw [if_pos (by first | exact decide_eq_true q | simp [b1_ge]; exact q)] at k
      exact k
    · have k := kk ls hl
      rw [if_neg (by intro z; first | exact q (of_decide_eq_true z) | exact (of_decide_eq_true z) q)] at k
      exact k
  · cases hf
def b1_gt : Int32 → Bool := fun x => decide (0 < x)
theorem pr_if_gt {l : Launch} {own : String} {cc : ByteArray} {nL : Nat} {ret : Option FieldType} {ini : Bool} {D : va_G} {cA : Nat → ClassId} {B : Nat × Nat} {pc : Nat} {t : Nat} {off : Int} (hd : decode cc pc = .ok (.ifCond .gt off, 3)) (ht : (pc : Int) + off = (t : Int)) : PRow l own cc nL ret ini D cA B pc (fIf1 pc t b1_gt) := by
  intro lv st pc' lv' st' hf p e R s m args below meth c Q C H locs ls cells slots hl kk
  unfold fIf1 at hf
  split at hf
  · next x r =>
    cases hf
    refine lv_if_gt C.1 C.2.1 hd ht (fun q => ?_) (fun q => ?_)
    · have k := kk ls hl
      rw [if_pos (by first | exact decide_eq_true q | simp [b1_gt]; exact q)] at k
      exact k
    · have k := kk ls hl
      rw [if_neg (by intro z; first | exact q (of_decide_eq_true z) | exact (of_decide_eq_true z) q)] at k
      exact k
  · cases hf
def b1_le : Int32 → Bool := fun x => decide (x ≤ 0)
theorem pr_if_le {l : Launch} {own : String} {cc : ByteArray} {nL : Nat} {ret : Option FieldType} {ini : Bool} {D : va_G} {cA : Nat → ClassId} {B : Nat × Nat} {pc : Nat} {t : Nat} {off : Int} (hd : decode cc pc = .ok (.ifCond .le off, 3)) (ht : (pc : Int) + off = (t : Int)) : PRow l own cc nL ret ini D cA B pc (fIf1 pc t b1_le) := by
  intro lv st pc' lv' st' hf p e R s m args below meth c Q C H locs ls cells slots hl kk
  unfold fIf1 at hf
  split at hf
  · next x r =>
    cases hf
    refine lv_if_le C.1 C.2.1 hd ht (fun q => ?_) (fun q => ?_)
    · have k := kk ls hl
      rw [if_pos (by first | exact decide_eq_true q | simp [b1_le]; exact q)] at k
      exact k
    · have k := kk ls hl
      rw [if_neg (by intro z; first | exact q (of_decide_eq_true z) | exact (of_decide_eq_true z) q)] at k
      exact k
  · cases hf
def b2_eq : Int32 → Int32 → Bool := fun x y => decide (x = y)
theorem pr_icmp_eq {l : Launch} {own : String} {cc : ByteArray} {nL : Nat} {ret : Option FieldType} {ini : Bool} {D : va_G} {cA : Nat → ClassId} {B : Nat × Nat} {pc : Nat} {t : Nat} {off : Int} (hd : decode cc pc = .ok (.if_icmp .eq off, 3)) (ht : (pc : Int) + off = (t : Int)) : PRow l own cc nL ret ini D cA B pc (fIf2 pc t b2_eq) := by
  intro lv st pc' lv' st' hf p e R s m args below meth c Q C H locs ls cells slots hl kk
  unfold fIf2 at hf
  split at hf
  · next y x r =>
    cases hf
    refine lv_icmp_eq C.1 C.2.1 hd ht (fun q => ?_) (fun q => ?_)
    · have k := kk ls hl
      rw [if_pos (by exact decide_eq_true q)] at k
      exact k
    · have k := kk ls hl
      rw [if_neg (by intro z; first | exact q (of_decide_eq_true z) | exact (of_decide_eq_true z) q)] at k
      exact k
  · cases hf
def b2_ne : Int32 → Int32 → Bool := fun x y => decide (x ≠ y)
theorem pr_icmp_ne {l : Launch} {own : String} {cc : ByteArray} {nL : Nat} {ret : Option FieldType} {ini : Bool} {D : va_G} {cA : Nat → ClassId} {B : Nat × Nat} {pc : Nat} {t : Nat} {off : Int} (hd : decode cc pc = .ok (.if_icmp .ne off, 3)) (ht : (pc : Int) + off = (t : Int)) : PRow l own cc nL ret ini D cA B pc (fIf2 pc t b2_ne) := by
  intro lv st pc' lv' st' hf p e R s m args below meth c Q C H locs ls cells slots hl kk
  unfold fIf2 at hf
  split at hf
  · next y x r =>
    cases hf
    refine lv_icmp_ne C.1 C.2.1 hd ht (fun q => ?_) (fun q => ?_)
    · have k := kk ls hl
      rw [if_pos (by exact decide_eq_true q)] at k
      exact k
    · have k := kk ls hl
      rw [if_neg (by intro z; first | exact q (of_decide_eq_true z) | exact (of_decide_eq_true z) q)] at k
      exact k
  · cases hf
def b2_lt : Int32 → Int32 → Bool := fun x y => decide (x < y)
theorem pr_icmp_lt {l : Launch} {own : String} {cc : ByteArray} {nL : Nat} {ret : Option FieldType} {ini : Bool} {D : va_G} {cA : Nat → ClassId} {B : Nat × Nat} {pc : Nat} {t : Nat} {off : Int} (hd : decode cc pc = .ok (.if_icmp .lt off, 3)) (ht : (pc : Int) + off = (t : Int)) : PRow l own cc nL ret ini D cA B pc (fIf2 pc t b2_lt) := by
  intro lv st pc' lv' st' hf p e R s m args below meth c Q C H locs ls cells slots hl kk
  unfold fIf2 at hf
  split at hf
  · next y x r =>
    cases hf
    refine lv_icmp_lt C.1 C.2.1 hd ht (fun q => ?_) (fun q => ?_)
    · have k := kk ls hl
      rw [if_pos (by exact decide_eq_true q)] at k
      exact k
    · have k := kk ls hl
      rw [if_neg (by intro z; first | exact q (of_decide_eq_true z) | exact (of_decide_eq_true z) q)] at k
      exact k
  · cases hf
def b2_ge : Int32 → Int32 → Bool := fun x y => decide (y ≤ x)
theorem pr_icmp_ge {l : Launch} {own : String} {cc : ByteArray} {nL : Nat} {ret : Option FieldType} {ini : Bool} {D : va_G} {cA : Nat → ClassId} {B : Nat × Nat} {pc : Nat} {t : Nat} {off : Int} (hd : decode cc pc = .ok (.if_icmp .ge off, 3)) (ht : (pc : Int) + off = (t : Int)) : PRow l own cc nL ret ini D cA B pc (fIf2 pc t b2_ge) := by
  intro lv st pc' lv' st' hf p e R s m args below meth c Q C H locs ls cells slots hl kk
  unfold fIf2 at hf
  split at hf
  · next y x r =>
    cases hf
    refine lv_icmp_ge C.1 C.2.1 hd ht (fun q => ?_) (fun q => ?_)
    · have k := kk ls hl
      rw [if_pos (by exact decide_eq_true q)] at k
      exact k
    · have k := kk ls hl
      rw [if_neg (by intro z; first | exact q (of_decide_eq_true z) | exact (of_decide_eq_true z) q)] at k
      exact k
  · cases hf
def b2_gt : Int32 → Int32 → Bool := fun x y => decide (y < x)
theorem pr_icmp_gt {l : Launch} {own : String} {cc : ByteArray} {nL : Nat} {ret : Option FieldType} {ini : Bool} {D : va_G} {cA : Nat → ClassId} {B : Nat × Nat} {pc : Nat} {t : Nat} {off : Int} (hd : decode cc pc = .ok (.if_icmp .gt off, 3)) (ht : (pc : Int) + off = (t : Int)) : PRow l own cc nL ret ini D cA B pc (fIf2 pc t b2_gt) := by
  intro lv st pc' lv' st' hf p e R s m args below meth c Q C H locs ls cells slots hl kk
  unfold fIf2 at hf
  split at hf
  · next y x r =>
    cases hf
    refine lv_icmp_gt C.1 C.2.1 hd ht (fun q => ?_) (fun q => ?_)
    · have k := kk ls hl
      rw [if_pos (by exact decide_eq_true q)] at k
      exact k
    · have k := kk ls hl
      rw [if_neg (by intro z; first | exact q (of_decide_eq_true z) | exact (of_decide_eq_true z) q)] at k
      exact k
  · cases hf
def b2_le : Int32 → Int32 → Bool := fun x y => decide (x ≤ y)
theorem pr_icmp_le {l : Launch} {own : String} {cc : ByteArray} {nL : Nat} {ret : Option FieldType} {ini : Bool} {D : va_G} {cA : Nat → ClassId} {B : Nat × Nat} {pc : Nat} {t : Nat} {off : Int} (hd : decode cc pc = .ok (.if_icmp .le off, 3)) (ht : (pc : Int) + off = (t : Int)) : PRow l own cc nL ret ini D cA B pc (fIf2 pc t b2_le) := by
  intro lv st pc' lv' st' hf p e R s m args below meth c Q C H locs ls cells slots hl kk
  unfold fIf2 at hf
  split at hf
  · next y x r =>
    cases hf
    refine lv_icmp_le C.1 C.2.1 hd ht (fun q => ?_) (fun q => ?_)
    · have k := kk ls hl
      rw [if_pos (by exact decide_eq_true q)] at k
      exact k
    · have k := kk ls hl
      rw [if_neg (by intro z; first | exact q (of_decide_eq_true z) | exact (of_decide_eq_true z) q)] at k
      exact k
  · cases hf
def fGoto (t : Nat) : Lv → List Value → Option (Nat × Lv × List Value) := fun lv st => some (t, lv, st)
theorem pr_goto {l : Launch} {own : String} {cc : ByteArray} {nL : Nat} {ret : Option FieldType} {ini : Bool} {D : va_G} {cA : Nat → ClassId} {B : Nat × Nat} {pc : Nat} {t : Nat} {off : Int} (hd : decode cc pc = .ok (.goto off, 3)) (ht : (pc : Int) + off = (t : Int)) : PRow l own cc nL ret ini D cA B pc (fGoto t) := by
  intro lv st pc' lv' st' hf p e R s m args below meth c Q C H locs ls cells slots hl kk
  cases hf
  exact lv_goto C.1 C.2.1 hd ht (kk ls hl)
def fDup (pc : Nat) : Lv → List Value → Option (Nat × Lv × List Value) := fun lv st => match st with
  | x :: r => if x.category = 1 then some (pc + 1, lv, x :: x :: r) else none
  | _ => none
theorem pr_dup {l : Launch} {own : String} {cc : ByteArray} {nL : Nat} {ret : Option FieldType} {ini : Bool} {D : va_G} {cA : Nat → ClassId} {B : Nat × Nat} {pc : Nat} (hd : decode cc pc = .ok (.dup, 1)) : PRow l own cc nL ret ini D cA B pc (fDup pc) := by
  intro lv st pc' lv' st' hf p e R s m args below meth c Q C H locs ls cells slots hl kk
  unfold fDup at hf
  split at hf
  · next x r =>
    split at hf
    · next hc =>
      cases hf
      exact lv_dup C.1 C.2.1 hd ((dv_cat B x).trans hc) (kk ls hl)
    · cases hf
  · cases hf
def fDup2 (pc : Nat) : Lv → List Value → Option (Nat × Lv × List Value) := fun lv st => match st with
  | x :: y :: r => if x.category = 1 ∧ y.category = 1 then some (pc + 1, lv, x :: y :: x :: y :: r) else none
  | _ => none
theorem pr_dup2 {l : Launch} {own : String} {cc : ByteArray} {nL : Nat} {ret : Option FieldType} {ini : Bool} {D : va_G} {cA : Nat → ClassId} {B : Nat × Nat} {pc : Nat} (hd : decode cc pc = .ok (.dup2, 1)) : PRow l own cc nL ret ini D cA B pc (fDup2 pc) := by
  intro lv st pc' lv' st' hf p e R s m args below meth c Q C H locs ls cells slots hl kk
  unfold fDup2 at hf
  split at hf
  · next x y r =>
    split at hf
    · next hc =>
      cases hf
      exact lv_dup2_11 C.1 C.2.1 hd ((dv_cat B x).trans hc.1) ((dv_cat B y).trans hc.2) (kk ls hl)
    · cases hf
  · cases hf
def fPop (pc : Nat) : Lv → List Value → Option (Nat × Lv × List Value) := fun lv st => match st with
  | x :: r => if x.category = 1 then some (pc + 1, lv, r) else none
  | _ => none
theorem pr_pop {l : Launch} {own : String} {cc : ByteArray} {nL : Nat} {ret : Option FieldType} {ini : Bool} {D : va_G} {cA : Nat → ClassId} {B : Nat × Nat} {pc : Nat} (hd : decode cc pc = .ok (.pop, 1)) : PRow l own cc nL ret ini D cA B pc (fPop pc) := by
  intro lv st pc' lv' st' hf p e R s m args below meth c Q C H locs ls cells slots hl kk
  unfold fPop at hf
  split at hf
  · next x r =>
    split at hf
    · next hc =>
      cases hf
      exact lv_pop C.1 C.2.1 hd ((dv_cat B x).trans hc) (kk ls hl)
    · cases hf
  · cases hf
def swt (x : Int) (lo : Int) (ts : List Nat) (t0 : Nat) : Nat := if x < lo then t0 else (ts[(x - lo).toNat]?).getD t0
def fSw (lo : Int) (ts : List Nat) (t0 : Nat) : Lv → List Value → Option (Nat × Lv × List Value) := fun lv st => match st with
  | .int x :: r => some (swt x.toInt lo ts t0, lv, r)
  | _ => none
theorem pr_tsw {l : Launch} {own : String} {cc : ByteArray} {nL : Nat} {ret : Option FieldType} {ini : Bool} {D : va_G} {cA : Nat → ClassId} {B : Nat × Nat} {pc : Nat} {dflt lo hi : Int} {offs : Array Int} {n : Nat} {ts : List Nat} {t0 : Nat} (hd : decode cc pc = .ok (.tableswitch dflt lo hi offs, n)) (h0 : (pc : Int) + dflt = (t0 : Int)) (hn : hi - lo + 1 = (ts.length : Int)) (hz : offs.toList.map (fun o => (pc : Int) + o) = ts.map (fun t : Nat => (t : Int))) : PRow l own cc nL ret ini D cA B pc (fSw lo ts t0) := by
  intro lv st pc' lv' st' hf p e R s m args below meth c Q C H locs ls cells slots hl kk
  unfold fSw at hf
  split at hf
  · next x r =>
    cases hf
    have k := kk ls hl
    by_cases h1 : x.toInt < lo
    · rw [show swt x.toInt lo ts t0 = t0 from if_pos h1] at k
      exact lv_tableOut C.1 C.2.1 hd (Or.inl h1) h0 k
    · by_cases h2 : hi < x.toInt
      · have hl2 : ts.length ≤ (x.toInt - lo).toNat := by omega
        rw [show swt x.toInt lo ts t0 = t0 from by unfold swt; rw [if_neg h1, List.getElem?_eq_none hl2]; rfl] at k
        exact lv_tableOut C.1 C.2.1 hd (Or.inr h2) h0 k
      · have hl2 : (x.toInt - lo).toNat < ts.length := by omega
        have e1 : offs[(x.toInt - lo).toNat]?.map (fun o => (pc : Int) + o) = some ((ts[(x.toInt - lo).toNat] : Nat) : Int) := by
          rw [← Array.getElem?_toList, ← List.getElem?_map, hz, List.getElem?_map, List.getElem?_eq_getElem hl2]
          rfl
        cases ho : offs[(x.toInt - lo).toNat]? with
        | none => rw [ho] at e1; cases e1
        | some off =>
          rw [ho] at e1
          have e2 : (pc : Int) + off = ((ts[(x.toInt - lo).toNat] : Nat) : Int) := by simpa using e1
          rw [show swt x.toInt lo ts t0 = ts[(x.toInt - lo).toNat] from by unfold swt; rw [if_neg h1, List.getElem?_eq_getElem hl2]; rfl] at k
          exact lv_tableIn C.1 C.2.1 hd h1 h2 ho e2 k
  · cases hf
end
section
/-! steps on the heap -/
theorem getD_set {α : Type} {xs : List α} {j : Nat} {x d : α} (hj : j < xs.length) : (fun q => (xs.set j x).getD q d) = fun q => if q = j then x else xs.getD q d := by
  funext q
  rw [List.getD_eq_getElem?_getD, List.getD_eq_getElem?_getD, List.getElem?_set]
  by_cases e : j = q
  · subst e
    simp [hj]
  · rw [if_neg e, if_neg (fun z => e z.symm)]
theorem getD_at {α : Type} {xs : List α} {j : Nat} {x d : α} (h : xs[j]? = some x) : xs.getD j d = x := by
  rw [List.getD_eq_getElem?_getD, h]
  rfl
theorem lt_at {α : Type} {xs : List α} {j : Nat} {x : α} (h : xs[j]? = some x) : j < xs.length := (List.getElem?_eq_some_iff.mp h).1
/-- a field read -/
def eGet (pc ci k : Nat) : Ent := (pc, fun _ lv st h => match st with
  | .ref b :: r => match h[b]? with
    | some (.inl (cj, fs)) => if cj = ci then match fs[k]? with
        | some v => some (.inl (pc + 3, lv, v :: r, h))
        | none => none
      else none
    | _ => none
  | _ => none)
theorem ok_get {l : Launch} {own : String} {cc : ByteArray} {nL : Nat} {ret : Option FieldType} {ini : Bool} {D : va_G} {cA : Nat → ClassId} {B : Nat × Nat} {md : Bool} {d : Nat} {call : Call} {pc ci k N idx : Nat} {C : String} {T : u_T} (hc : vwCl[ci]? = some (C, T, N)) (hin : ∀ w ∈ u_ws C T N, w ∈ tT) (hk : k < N) (hw : Cond.fieldLink own idx (T k).1 (T k).2.1 (T k).2.2.1 ∈ tT) (hd : decode cc pc = .ok (.getfield idx, 3)) : EOk l own cc nL ret ini D cA B md d call (eGet pc ci k) := by
  intro lv st h out ho
  simp only [eGet] at ho
  split at ho
  · next b r =>
    split at ho
    · next cj fs hb =>
      split at ho
      · next e =>
        subst e
        split at ho
        · next v hv =>
          cases ho
          refine ⟨Nat.le_refl _, Nat.le_refl _, ?_⟩
          intro p e R s m args below meth c Q C _ _ H locs ls c0 s0 hW hl _ _ _ _ _ kk
          refine va_get (D := D) C.1 C.2.1 C.2.2.2.2.1 hin C.2.2.2.1 C.2.2.2.2.2.2.2.2.1 hW.1 b (wo_get hb) hc k hk (C.2.2.2.2.1 _ hw) (fun _ h9 => h9) (v := dv B v) ?_ hd (kk H locs ls hW hl)
          rw [List.getElem?_map, hv]
          rfl
        · cases ho
      · cases ho
    · cases ho
  · cases ho
/-- a field written -/
def ePut (pc ci k : Nat) (chk : Value → Bool) : Ent := (pc, fun _ lv st h => match st with
  | v :: .ref b :: r => match h[b]? with
    | some (.inl (cj, fs)) => if cj = ci ∧ k < fs.length ∧ chk v = true then some (.inl (pc + 3, lv, r, h.set b (.inl (ci, fs.set k v)))) else none
    | _ => none
  | _ => none)
def kInt (v : Value) : Bool := match v with
  | .int _ => true
  | _ => false
def kBool (v : Value) : Bool := match v with
  | .int x => x == 0 || x == 1
  | _ => false
def kLong (v : Value) : Bool := match v with
  | .long _ => true
  | _ => false
def kRef (v : Value) : Bool := match v with
  | .ref _ => true
  | _ => false
/-- what may go into a field of a type -/
def KOk (B : Nat × Nat) (ty : FieldType) (chk : Value → Bool) : Prop := ∀ v, chk v = true → narrow ty (dv B v) = dv B v ∧ fits ty (dv B v) = true
theorem kok_int (B : Nat × Nat) : KOk B .int kInt := by
  intro v hv
  cases v <;> first | exact ⟨rfl, rfl⟩ | (cases hv)
theorem kok_long (B : Nat × Nat) : KOk B .long kLong := by
  intro v hv
  cases v <;> first | exact ⟨rfl, rfl⟩ | (cases hv)
theorem kok_obj (B : Nat × Nat) (n : String) : KOk B (.object n) kRef := by
  intro v hv
  cases v <;> first | exact ⟨rfl, rfl⟩ | (cases hv)
theorem kok_arr (B : Nat × Nat) (t : FieldType) : KOk B (.array t) kRef := by
  intro v hv
  cases v <;> first | exact ⟨rfl, rfl⟩ | (cases hv)
theorem kok_bool (B : Nat × Nat) : KOk B .boolean kBool := by
  intro v hv
  cases v with
  | int x =>
    simp only [kBool, Bool.or_eq_true, beq_iff_eq] at hv
    rcases hv with rfl | rfl
    · exact ⟨show narrow .boolean (.int 0) = .int 0 by decide, show fits .boolean (.int 0) = true by decide⟩
    · exact ⟨show narrow .boolean (.int 1) = .int 1 by decide, show fits .boolean (.int 1) = true by decide⟩
  | _ => cases hv
theorem ok_put {l : Launch} {own : String} {cc : ByteArray} {nL : Nat} {ret : Option FieldType} {ini : Bool} {D : va_G} {cA : Nat → ClassId} {B : Nat × Nat} {md : Bool} {d : Nat} {call : Call} {pc ci k N idx : Nat} {C : String} {T : u_T} {ty0 : Nat → FieldType} {ty : FieldType} {chk : Value → Bool} (hc : vwCl[ci]? = some (C, T, N)) (hin : ∀ w ∈ u_ws C T N, w ∈ tT) (hty : ∀ k, k < N → parseFieldDescriptor (T k).2.2.1 = some (ty0 k)) (hnm : ∀ a, a < N → ∀ b, b < N → a ≠ b → (T a).2.1 ≠ (T b).2.1) (hk : k < N) (hw : Cond.fieldLink own idx (T k).1 (T k).2.1 (T k).2.2.1 ∈ tT) (hfin : (T k).2.2.2 = false) (hpd : parseFieldDescriptor (T k).2.2.1 = some ty) (hko : KOk B ty chk) (hd : decode cc pc = .ok (.putfield idx, 3)) : EOk l own cc nL ret ini D cA B md d call (ePut pc ci k chk) := by
  intro lv st h out ho
  simp only [ePut] at ho
  split at ho
  · next v b r =>
    split at ho
    · next cj fs hb =>
      split at ho
      · next e =>
        obtain ⟨rfl, hkl, hv⟩ := e
        cases ho
        have e2 : sl (h.set b (.inl (cj, fs.set k v))) = sl h := sl_set hb (by simp [sl1])
        refine ⟨by simp, by rw [e2]; exact Nat.le_refl _, ?_⟩
        intro p e R s m args below meth c Q C _ _ H locs ls c0 s0 hW hl _ _ _ _ _ kk
        have e1 : (h.set b (.inl (cj, fs.set k v))).length = h.length := by simp
        rw [e1, e2] at kk
        refine va_put (D := D) C.1 C.2.1 C.2.2.2.2.1 hin ty0 hty hnm C.2.2.2.1 C.2.2.2.2.2.2.2.2.1 hW.1 (wo_D B cA h) hW.2 b (wo_get hb) hc k hk (C.2.2.2.2.1 _ hw) (fun _ h9 => h9) hfin hpd (hko v hv).1 (hko v hv).2 (by rw [List.length_map]; exact hkl) hd (fun H1 locs1 hP1 _ hS1 => kk H1 locs1 ls ⟨?_, hS1⟩ hl)
        rw [← wo_set]
        have e3 : dc B cA (.inl (cj, fs.set k v)) = .inr (cj, (fs.map (dv B)).set k (dv B v)) := by
          simp [dc, List.map_set]
        rw [e3]
        exact hP1
      · cases ho
    · cases ho
  · cases ho
theorem ok_putF {l : Launch} {own : String} {cc : ByteArray} {nL : Nat} {ret : Option FieldType} {ini : Bool} {D : va_G} {cA : Nat → ClassId} {B : Nat × Nat} {md : Bool} {d : Nat} {call : Call} {pc ci k N idx : Nat} {C : String} {T : u_T} {ty0 : Nat → FieldType} {ty : FieldType} {chk : Value → Bool} (hini : ini = true) (hc : vwCl[ci]? = some (C, T, N)) (hin : ∀ w ∈ u_ws C T N, w ∈ tT) (hty : ∀ k, k < N → parseFieldDescriptor (T k).2.2.1 = some (ty0 k)) (hnm : ∀ a, a < N → ∀ b, b < N → a ≠ b → (T a).2.1 ≠ (T b).2.1) (hk : k < N) (hw : Cond.fieldLink own idx (T k).1 (T k).2.1 (T k).2.2.1 ∈ tT) (hfin : (T k).2.2.2 = true) (hdecl : (T k).1 = own) (hpd : parseFieldDescriptor (T k).2.2.1 = some ty) (hko : KOk B ty chk) (hd : decode cc pc = .ok (.putfield idx, 3)) : EOk l own cc nL ret ini D cA B md d call (ePut pc ci k chk) := by
  intro lv st h out ho
  simp only [ePut] at ho
  split at ho
  · next v b r =>
    split at ho
    · next cj fs hb =>
      split at ho
      · next e =>
        obtain ⟨rfl, hkl, hv⟩ := e
        cases ho
        have e2 : sl (h.set b (.inl (cj, fs.set k v))) = sl h := sl_set hb (by simp [sl1])
        refine ⟨by simp, by rw [e2]; exact Nat.le_refl _, ?_⟩
        intro p e R s m args below meth c Q C _ _ H locs ls c0 s0 hW hl _ _ _ _ _ kk
        have e1 : (h.set b (.inl (cj, fs.set k v))).length = h.length := by simp
        rw [e1, e2] at kk
        refine va_putF (D := D) C.1 C.2.1 C.2.2.2.2.1 hin ty0 hty hnm C.2.2.2.1 C.2.2.2.2.2.2.2.2.1 hW.1 (wo_D B cA h) hW.2 b (wo_get hb) hc k hk (C.2.2.2.2.1 _ hw) (fun _ h9 => h9) hfin (C.2.2.2.2.2.2.2.1 hini) hdecl hpd (hko v hv).1 (hko v hv).2 (by rw [List.length_map]; exact hkl) hd (fun H1 locs1 hP1 _ hS1 => kk H1 locs1 ls ⟨?_, hS1⟩ hl)
        rw [← wo_set]
        have e3 : dc B cA (.inl (cj, fs.set k v)) = .inr (cj, (fs.map (dv B)).set k (dv B v)) := by
          simp [dc, List.map_set]
        rw [e3]
        exact hP1
      · cases ho
    · cases ho
  · cases ho
/-- arrays of ints (tag 0) and bytes (tag 1) -/
def eIald (pc t : Nat) : Ent := (pc, fun _ lv st h => match st with
  | .int i :: .ref b :: r => match h[b]? with
    | some (.inr (u, .inl xs)) => if u = t ∧ ¬ i < 0 then match xs[i.toNatClampNeg]? with
        | some x => some (.inl (pc + 1, lv, .int x :: r, h))
        | none => none
      else none
    | _ => none
  | _ => none)
def eIast (pc t : Nat) (nar : Int32 → Int32) : Ent := (pc, fun _ lv st h => match st with
  | .int x :: .int i :: .ref b :: r => match h[b]? with
    | some (.inr (u, .inl xs)) => if u = t ∧ ¬ i < 0 ∧ i.toNatClampNeg < xs.length then some (.inl (pc + 1, lv, r, h.set b (.inr (t, .inl (xs.set i.toNatClampNeg (nar x)))))) else none
    | _ => none
  | _ => none)
theorem ok_iald {l : Launch} {own : String} {cc : ByteArray} {nL : Nat} {ret : Option FieldType} {ini : Bool} {D : va_G} {cA : Nat → ClassId} {B : Nat × Nat} {md : Bool} {d : Nat} {call : Call} {pc : Nat} (hd : decode cc pc = .ok (.iaload, 1)) : EOk l own cc nL ret ini D cA B md d call (eIald pc 0) := by
  intro lv st h out ho
  simp only [eIald] at ho
  split at ho
  · next i b r =>
    split at ho
    · next u xs hb =>
      split at ho
      · next e =>
        obtain ⟨rfl, hi⟩ := e
        split at ho
        · next x hx =>
          cases ho
          refine ⟨Nat.le_refl _, Nat.le_refl _, ?_⟩
          intro p e R s m args below meth c Q C _ _ H locs ls c0 s0 hW hl _ _ _ _ _ kk
          have hin : vp_in i xs.length := fun z => z.elim hi (fun z => absurd (lt_at hx) (Nat.not_lt.mpr z))
          have k := kk H locs ls hW hl
          rw [← getD_at (d := 0) hx] at k
          exact va_iald (D := D) C.1 C.2.1 C.2.2.2.2.2.2.2.2.1 hW.1 b 0 (wo_get hb) rfl hin hd k
        · cases ho
      · cases ho
    · cases ho
  · cases ho
theorem ok_bald {l : Launch} {own : String} {cc : ByteArray} {nL : Nat} {ret : Option FieldType} {ini : Bool} {D : va_G} {cA : Nat → ClassId} {B : Nat × Nat} {md : Bool} {d : Nat} {call : Call} {pc : Nat} (hd : decode cc pc = .ok (.baload, 1)) : EOk l own cc nL ret ini D cA B md d call (eIald pc 1) := by
  intro lv st h out ho
  simp only [eIald] at ho
  split at ho
  · next i b r =>
    split at ho
    · next u xs hb =>
      split at ho
      · next e =>
        obtain ⟨rfl, hi⟩ := e
        split at ho
        · next x hx =>
          cases ho
          refine ⟨Nat.le_refl _, Nat.le_refl _, ?_⟩
          intro p e R s m args below meth c Q C _ _ H locs ls c0 s0 hW hl _ _ _ _ _ kk
          have hin : vp_in i xs.length := fun z => z.elim hi (fun z => absurd (lt_at hx) (Nat.not_lt.mpr z))
          have k := kk H locs ls hW hl
          rw [← getD_at (d := 0) hx] at k
          exact va_bald (D := D) C.1 C.2.1 C.2.2.2.2.2.2.2.2.1 hW.1 b 1 (wo_get hb) rfl hin hd k
        · cases ho
      · cases ho
    · cases ho
  · cases ho
theorem ok_iast {l : Launch} {own : String} {cc : ByteArray} {nL : Nat} {ret : Option FieldType} {ini : Bool} {D : va_G} {cA : Nat → ClassId} {B : Nat × Nat} {md : Bool} {d : Nat} {call : Call} {pc : Nat} (hd : decode cc pc = .ok (.iastore, 1)) : EOk l own cc nL ret ini D cA B md d call (eIast pc 0 (fun x => x)) := by
  intro lv st h out ho
  simp only [eIast] at ho
  split at ho
  · next x i b r =>
    split at ho
    · next u xs hb =>
      split at ho
      · next e =>
        obtain ⟨rfl, hi, hj⟩ := e
        cases ho
        have e2 := sl_set (c' := .inr (0, .inl (xs.set i.toNatClampNeg ((fun x => x) x)))) hb (by simp [sl1])
        refine ⟨by simp, by rw [e2]; exact Nat.le_refl _, ?_⟩
        intro p e R s m args below meth c Q C _ _ H locs ls c0 s0 hW hl _ _ _ _ _ kk
        rw [List.length_set, e2] at kk
        have hin : vp_in i xs.length := fun z => z.elim hi (fun z => absurd hj (Nat.not_lt.mpr z))
        refine va_iast (D := D) C.1 C.2.1 C.2.2.2.2.2.2.2.2.1 hW.1 (wo_D B cA h) hW.2 b 0 (wo_get hb) rfl hin hd (fun H1 locs1 hP1 _ hS1 => kk H1 locs1 ls ⟨?_, hS1⟩ hl)
        rw [← wo_set]
        have e3 : dc B cA (.inr (0, .inl (xs.set i.toNatClampNeg ((fun x => x) x)))) = .inl (cA 0, xs.length, .inl (upd (fun j => xs.getD j 0) i.toNatClampNeg (x))) := by
          simp only [dc, List.length_set]
          rw [getD_set hj]
          rfl
        rw [e3]
        exact hP1
      · cases ho
    · cases ho
  · cases ho
theorem ok_bast {l : Launch} {own : String} {cc : ByteArray} {nL : Nat} {ret : Option FieldType} {ini : Bool} {D : va_G} {cA : Nat → ClassId} {B : Nat × Nat} {md : Bool} {d : Nat} {call : Call} {pc : Nat} (hd : decode cc pc = .ok (.bastore, 1)) : EOk l own cc nL ret ini D cA B md d call (eIast pc 1 (fun x => x.toInt8.toInt32)) := by
  intro lv st h out ho
  simp only [eIast] at ho
  split at ho
  · next x i b r =>
    split at ho
    · next u xs hb =>
      split at ho
      · next e =>
        obtain ⟨rfl, hi, hj⟩ := e
        cases ho
        have e2 := sl_set (c' := .inr (1, .inl (xs.set i.toNatClampNeg ((fun x => x.toInt8.toInt32) x)))) hb (by simp [sl1])
        refine ⟨by simp, by rw [e2]; exact Nat.le_refl _, ?_⟩
        intro p e R s m args below meth c Q C _ _ H locs ls c0 s0 hW hl _ _ _ _ _ kk
        rw [List.length_set, e2] at kk
        have hin : vp_in i xs.length := fun z => z.elim hi (fun z => absurd hj (Nat.not_lt.mpr z))
        refine va_bast (D := D) C.1 C.2.1 C.2.2.2.2.2.2.2.2.1 hW.1 (wo_D B cA h) hW.2 b 1 (wo_get hb) rfl hin hd (fun H1 locs1 hP1 _ hS1 => kk H1 locs1 ls ⟨?_, hS1⟩ hl)
        rw [← wo_set]
        have e3 : dc B cA (.inr (1, .inl (xs.set i.toNatClampNeg ((fun x => x.toInt8.toInt32) x)))) = .inl (cA 1, xs.length, .inl (upd (fun j => xs.getD j 0) i.toNatClampNeg (vp_nar .byte x))) := by
          simp only [dc, List.length_set]
          rw [getD_set hj]
          rfl
        rw [e3]
        exact hP1
      · cases ho
    · cases ho
  · cases ho
def eLald (pc : Nat) : Ent := (pc, fun _ lv st h => match st with
  | .int i :: .ref b :: r => match h[b]? with
    | some (.inr (u, .inr (.inl xs))) => if u = 2 ∧ ¬ i < 0 then match xs[i.toNatClampNeg]? with
        | some x => some (.inl (pc + 1, lv, .long x :: r, h))
        | none => none
      else none
    | _ => none
  | _ => none)
theorem ok_lald {l : Launch} {own : String} {cc : ByteArray} {nL : Nat} {ret : Option FieldType} {ini : Bool} {D : va_G} {cA : Nat → ClassId} {B : Nat × Nat} {md : Bool} {d : Nat} {call : Call} {pc : Nat} (hd : decode cc pc = .ok (.laload, 1)) : EOk l own cc nL ret ini D cA B md d call (eLald pc) := by
  intro lv st h out ho
  simp only [eLald] at ho
  split at ho
  · next i b r =>
    split at ho
    · next u xs hb =>
      split at ho
      · next e =>
        obtain ⟨rfl, hi⟩ := e
        split at ho
        · next x hx =>
          cases ho
          refine ⟨Nat.le_refl _, Nat.le_refl _, ?_⟩
          intro p e R s m args below meth c Q C _ _ H locs ls c0 s0 hW hl _ _ _ _ _ kk
          have hin : vp_in i xs.length := fun z => z.elim hi (fun z => absurd (lt_at hx) (Nat.not_lt.mpr z))
          have k := kk H locs ls hW hl
          rw [← getD_at (d := 0) hx] at k
          exact va_lald (D := D) C.1 C.2.1 C.2.2.2.2.2.2.2.2.1 hW.1 b 2 (wo_get hb) rfl hin hd k
        · cases ho
      · cases ho
    · cases ho
  · cases ho
def eLast (pc : Nat) : Ent := (pc, fun _ lv st h => match st with
  | .long x :: .int i :: .ref b :: r => match h[b]? with
    | some (.inr (u, .inr (.inl xs))) => if u = 2 ∧ ¬ i < 0 ∧ i.toNatClampNeg < xs.length then some (.inl (pc + 1, lv, r, h.set b (.inr (2, .inr (.inl (xs.set i.toNatClampNeg x)))))) else none
    | _ => none
  | _ => none)
theorem ok_last {l : Launch} {own : String} {cc : ByteArray} {nL : Nat} {ret : Option FieldType} {ini : Bool} {D : va_G} {cA : Nat → ClassId} {B : Nat × Nat} {md : Bool} {d : Nat} {call : Call} {pc : Nat} (hd : decode cc pc = .ok (.lastore, 1)) : EOk l own cc nL ret ini D cA B md d call (eLast pc) := by
  intro lv st h out ho
  simp only [eLast] at ho
  split at ho
  · next x i b r =>
    split at ho
    · next u xs hb =>
      split at ho
      · next e =>
        obtain ⟨rfl, hi, hj⟩ := e
        cases ho
        have e2 := sl_set (c' := .inr (2, .inr (.inl (xs.set i.toNatClampNeg x)))) hb (by simp [sl1])
        refine ⟨by simp, by rw [e2]; exact Nat.le_refl _, ?_⟩
        intro p e R s m args below meth c Q C _ _ H locs ls c0 s0 hW hl _ _ _ _ _ kk
        rw [List.length_set, e2] at kk
        have hin : vp_in i xs.length := fun z => z.elim hi (fun z => absurd hj (Nat.not_lt.mpr z))
        refine va_last (D := D) C.1 C.2.1 C.2.2.2.2.2.2.2.2.1 hW.1 (wo_D B cA h) hW.2 b 2 (wo_get hb) rfl hin hd (fun H1 locs1 hP1 _ hS1 => kk H1 locs1 ls ⟨?_, hS1⟩ hl)
        rw [← wo_set]
        have e3 : dc B cA (.inr (2, .inr (.inl (xs.set i.toNatClampNeg x)))) = .inl (cA 2, xs.length, .inr (.inl (vp_updL (fun j => xs.getD j 0) i.toNatClampNeg x))) := by
          simp only [dc, List.length_set]
          rw [getD_set hj]
          rfl
        rw [e3]
        exact hP1
      · cases ho
    · cases ho
  · cases ho
/-- rows of states (tag 3) -/
def eAald (pc : Nat) : Ent := (pc, fun _ lv st h => match st with
  | .int i :: .ref b :: r => match h[b]? with
    | some (.inr (u, .inr (.inr xs))) => if u = 3 ∧ ¬ i < 0 then match xs[i.toNatClampNeg]? with
        | some (some k) => some (.inl (pc + 1, lv, .ref k :: r, h))
        | _ => none
      else none
    | _ => none
  | _ => none)
theorem ok_aald {l : Launch} {own : String} {cc : ByteArray} {nL : Nat} {ret : Option FieldType} {ini : Bool} {D : va_G} {cA : Nat → ClassId} {B : Nat × Nat} {md : Bool} {d : Nat} {call : Call} {pc : Nat} (hd : decode cc pc = .ok (.aaload, 1)) : EOk l own cc nL ret ini D cA B md d call (eAald pc) := by
  intro lv st h out ho
  simp only [eAald] at ho
  split at ho
  · next i b r =>
    split at ho
    · next u xs hb =>
      split at ho
      · next e =>
        obtain ⟨rfl, hi⟩ := e
        split at ho
        · next k hx =>
          cases ho
          refine ⟨Nat.le_refl _, Nat.le_refl _, ?_⟩
          intro p e R s m args below meth c Q C _ _ H locs ls c0 s0 hW hl _ _ _ _ _ kk
          have hin : vp_in i xs.length := fun z => z.elim hi (fun z => absurd (lt_at hx) (Nat.not_lt.mpr z))
          have k0 := kk H locs ls hW hl
          refine va_aldq (D := D) C.1 C.2.1 C.2.2.2.2.2.2.2.2.1 hW.1 b 3 (wo_get hb) rfl hin hd ?_
          show W p l e R s m args below meth c H locs _ _ Q (F0 m (pc + 1) ls (va_rf ((xs.getD i.toNatClampNeg none).map (fun k => B.1 + k)) :: r.map (dv B)))
          rw [getD_at (d := none) hx]
          exact k0
        · cases ho
      · cases ho
    · cases ho
  · cases ho
def eAast (pc : Nat) : Ent := (pc, fun _ lv st h => match st with
  | .ref v :: .int i :: .ref b :: r => match h[b]?, h[v]? with
    | some (.inr (u, .inr (.inr xs))), some (.inl (cj, _)) => if u = 3 ∧ cj = 5 ∧ ¬ i < 0 ∧ i.toNatClampNeg < xs.length then some (.inl (pc + 1, lv, r, h.set b (.inr (3, .inr (.inr (xs.set i.toNatClampNeg (some v))))))) else none
    | _, _ => none
  | _ => none)
theorem ok_aast {l : Launch} {own : String} {cc : ByteArray} {nL : Nat} {ret : Option FieldType} {ini : Bool} {D : va_G} {cA : Nat → ClassId} {B : Nat × Nat} {md : Bool} {d : Nat} {call : Call} {pc : Nat} (hd : decode cc pc = .ok (.aastore, 1)) : EOk l own cc nL ret ini D cA B md d call (eAast pc) := by
  intro lv st h out ho
  simp only [eAast] at ho
  split at ho
  · next v i b r =>
    split at ho
    · next u xs cj vs hb hv =>
      split at ho
      · next e =>
        obtain ⟨rfl, rfl, hi, hj⟩ := e
        cases ho
        have e2 := sl_set (c' := .inr (3, .inr (.inr (xs.set i.toNatClampNeg (some v))))) hb (by simp [sl1])
        refine ⟨by simp, by rw [e2]; exact Nat.le_refl _, ?_⟩
        intro p e R s m args below meth c Q C _ _ H locs ls c0 s0 hW hl _ _ _ _ _ kk
        rw [List.length_set, e2] at kk
        have hin : vp_in i xs.length := fun z => z.elim hi (fun z => absurd hj (Nat.not_lt.mpr z))
        refine va_astq (D := D) C.1 C.2.1 C.2.2.2.2.2.2.2.2.1 hW.1 (wo_D B cA h) hW.2 b 3 v 5 (wo_get hb) rfl (wo_get hv) rfl hin hd (fun H1 locs1 hP1 _ hS1 => kk H1 locs1 ls ⟨?_, hS1⟩ hl)
        rw [← wo_set]
        have e3 : dc B cA (.inr (3, .inr (.inr (xs.set i.toNatClampNeg (some v))))) = .inl (cA 3, xs.length, .inr (.inr (.inr (.inr (va_up (fun j => (xs.getD j none).map (fun k => B.1 + k)) i.toNatClampNeg (some (B.1 + v))))))) := by
          simp only [dc, List.length_set]
          congr 7
          funext q
          have e4 := congrFun (getD_set (d := none) (x := some v) hj) q
          rw [e4]
          unfold va_up
          by_cases z : q = i.toNatClampNeg
          · rw [if_pos z, if_pos z]
            rfl
          · rw [if_neg z, if_neg z]
        rw [e3]
        exact hP1
      · cases ho
    · cases ho
  · cases ho
/-- a row's length -/
def eLen (pc : Nat) : Ent := (pc, fun _ lv st h => match st with
  | .ref b :: r => match h[b]? with
    | some (.inr (u, .inl xs)) => if u = 0 then some (.inl (pc + 1, lv, .int (Int32.ofNat xs.length) :: r, h)) else none
    | _ => none
  | _ => none)
theorem ok_len {l : Launch} {own : String} {cc : ByteArray} {nL : Nat} {ret : Option FieldType} {ini : Bool} {D : va_G} {cA : Nat → ClassId} {B : Nat × Nat} {md : Bool} {d : Nat} {call : Call} {pc : Nat} (hd : decode cc pc = .ok (.arraylength, 1)) : EOk l own cc nL ret ini D cA B md d call (eLen pc) := by
  intro lv st h out ho
  simp only [eLen] at ho
  split at ho
  · next b r =>
    split at ho
    · next u xs hb =>
      split at ho
      · next e =>
        subst e
        cases ho
        refine ⟨Nat.le_refl _, Nat.le_refl _, ?_⟩
        intro p e R s m args below meth c Q C _ _ H locs ls c0 s0 hW hl _ _ _ _ _ kk
        exact va_alen (D := D) C.1 C.2.1 C.2.2.2.2.2.2.2.2.1 hW.1 b 0 (wo_get hb) rfl rfl hd (kk H locs ls hW hl)
      · cases ho
    · cases ho
  · cases ho
/-- returns -/
def eRetI (pc : Nat) : Ent := (pc, fun _ _ st h => match st with
  | [.int x] => some (.inr (some (.int x), h))
  | _ => none)
def eRetZ (pc : Nat) : Ent := (pc, fun _ _ st h => match st with
  | [.int x] => if x = 0 ∨ x = 1 then some (.inr (some (.int x), h)) else none
  | _ => none)
def eRetJ (pc : Nat) : Ent := (pc, fun _ _ st h => match st with
  | [.long x] => some (.inr (some (.long x), h))
  | _ => none)
def eRetV (pc : Nat) : Ent := (pc, fun _ _ st h => match st with
  | [] => some (.inr (none, h))
  | _ => none)
theorem ok_retI {l : Launch} {own : String} {cc : ByteArray} {nL : Nat} {ret : Option FieldType} {ini : Bool} {D : va_G} {cA : Nat → ClassId} {B : Nat × Nat} {md : Bool} {d : Nat} {call : Call} {pc : Nat} (hret : ret = some .int) (hd : decode cc pc = .ok (.ireturn, 1)) : EOk l own cc nL ret ini D cA B md d call (eRetI pc) := by
  intro lv st h out ho
  simp only [eRetI] at ho
  split at ho
  · next x =>
    cases ho
    refine ⟨rfl, ?_⟩
    intro p e R s m args below meth c C H locs ls cells slots hW
    exact W.iret C.1 C.2.1 (C.2.2.2.2.2.1.trans hret) (fun t ht hWm => ⟨rfl, by rw [ht]; exact hW.1, hW.2.F ht⟩) hW.2.2.2 hd C.2.2.2.2.2.2.1
  · cases ho
theorem ok_retZ {l : Launch} {own : String} {cc : ByteArray} {nL : Nat} {ret : Option FieldType} {ini : Bool} {D : va_G} {cA : Nat → ClassId} {B : Nat × Nat} {md : Bool} {d : Nat} {call : Call} {pc : Nat} (hret : ret = some .boolean) (hd : decode cc pc = .ok (.ireturn, 1)) : EOk l own cc nL ret ini D cA B md d call (eRetZ pc) := by
  intro lv st h out ho
  simp only [eRetZ] at ho
  split at ho
  · next x =>
    split at ho
    · next hx =>
      cases ho
      refine ⟨rfl, ?_⟩
      intro p e R s m args below meth c C H locs ls cells slots hW
      exact W.zret C.1 C.2.1 (C.2.2.2.2.2.1.trans hret) (by rcases hx with rfl | rfl <;> decide) (fun t ht hWm => ⟨rfl, by rw [ht]; exact hW.1, hW.2.F ht⟩) hW.2.2.2 hd C.2.2.2.2.2.2.1
    · cases ho
  · cases ho
theorem ok_retJ {l : Launch} {own : String} {cc : ByteArray} {nL : Nat} {ret : Option FieldType} {ini : Bool} {D : va_G} {cA : Nat → ClassId} {B : Nat × Nat} {md : Bool} {d : Nat} {call : Call} {pc : Nat} (hret : ret = some .long) (hd : decode cc pc = .ok (.lreturn, 1)) : EOk l own cc nL ret ini D cA B md d call (eRetJ pc) := by
  intro lv st h out ho
  simp only [eRetJ] at ho
  split at ho
  · next x =>
    cases ho
    refine ⟨rfl, ?_⟩
    intro p e R s m args below meth c C H locs ls cells slots hW
    exact W.lret C.1 C.2.1 (C.2.2.2.2.2.1.trans hret) (fun t ht hWm => ⟨rfl, by rw [ht]; exact hW.1, hW.2.F ht⟩) hW.2.2.2 hd C.2.2.2.2.2.2.1
  · cases ho
theorem ok_retV {l : Launch} {own : String} {cc : ByteArray} {nL : Nat} {ret : Option FieldType} {ini : Bool} {D : va_G} {cA : Nat → ClassId} {B : Nat × Nat} {md : Bool} {d : Nat} {call : Call} {pc : Nat} (hret : ret = none) (hd : decode cc pc = .ok (.return_, 1)) : EOk l own cc nL ret ini D cA B md d call (eRetV pc) := by
  intro lv st h out ho
  simp only [eRetV] at ho
  split at ho
  · cases ho
    refine ⟨rfl, ?_⟩
    intro p e R s m args below meth c C H locs ls cells slots hW
    exact W.vret C.1 C.2.1 (C.2.2.2.2.2.1.trans hret) (fun t ht hWm => ⟨rfl, by rw [ht]; exact hW.1, hW.2.F ht⟩) hW.2.2.2 hd C.2.2.2.2.2.2.1
  · cases ho
end
section
/-! making cells -/
/-- where a new cell lies: behind all the others -/
theorem new_q {l : Launch} {p : Program} {e : Env} {R : Room} {s : State} {m : MethodId} {args : Array Value} {below : List Frame} {meth : Method} {c : Code} {D : va_G} {cA : Nat → ClassId} {B : Nat × Nat} {h : List AC} {H1 : Heap} {locs : List Loc} {q c0 slots : Nat} {x : va_E} {T : State} (hP : va_P D vwCl (wo B cA h ++ [(q, x)]) H1) (hD : va_D (fun q => B.1 ≤ q) (wo B cA h ++ [(q, x)])) (hT : T.heap = H1) (X : Stand p l e R s m args below meth c T locs (h.length - c0 + 1) slots) (hs : s.heap.size = B.1 + c0) (hc : c0 ≤ h.length) : q = B.1 + h.length := by
  have hl : (wo B cA h).length = h.length := by unfold wo; simp
  have hg : (wo B cA h ++ [(q, x)])[h.length]? = some (q, x) := by
    rw [List.getElem?_append_right (by omega), hl]
    simp
  have h1 : q < H1.size := (hP _ _ hg).lt
  have h2 : T.heap.size ≤ s.heap.size + (h.length - c0 + 1) := X.same.2.2.1
  have h3 : B.1 ≤ q := hD.2 _ _ hg
  rw [hT] at h2
  by_cases hq : q < B.1 + h.length
  · have hk : q - B.1 < h.length := by omega
    have hg2 : (wo B cA h ++ [(q, x)])[q - B.1]? = some (B.1 + (q - B.1), dc B cA h[q - B.1]) := by
      rw [List.getElem?_append_left (by omega)]
      exact wo_get (List.getElem?_eq_getElem hk)
    have := hD.1 _ _ _ _ hg2 hg (by show B.1 + (q - B.1) = q; omega)
    omega
  · omega
def eNew (md : Bool) (pc ci : Nat) (fs : List Value) : Ent := (pc, fun _ lv st h => if md = true then some (.inl (pc + 3, lv, .ref h.length :: st, h ++ [.inl (ci, fs)])) else none)
def allNoRef (fs : List Value) : Bool := fs.all (fun v => match v with
  | .ref _ => false
  | .retAddr _ => false
  | _ => true)
theorem noRef {B : Nat × Nat} {fs : List Value} (h : allNoRef fs = true) : fs.map (dv B) = fs := by
  induction fs with
  | nil => rfl
  | cons v r ih =>
    simp only [allNoRef, List.all_cons, Bool.and_eq_true] at h
    rw [List.map_cons, ih h.2]
    cases v <;> first | rfl | (cases h.1)
theorem ok_new {l : Launch} {own : String} {cc : ByteArray} {nL : Nat} {ret : Option FieldType} {ini : Bool} {D : va_G} {cA : Nat → ClassId} {B : Nat × Nat} {md : Bool} {d : Nat} {call : Call} {pc ci N idx : Nat} {C : String} {T : u_T} {ty0 : Nat → FieldType} {fs : List Value} (hc : vwCl[ci]? = some (C, T, N)) (hin : ∀ w ∈ u_ws C T N, w ∈ tT) (hty : ∀ k, k < N → parseFieldDescriptor (T k).2.2.1 = some (ty0 k)) (hw : Cond.classLink own idx C ∈ tT) (hw2 : Cond.instantiable C N ∈ tT) (hw3 : Cond.initialized C ∈ tT) (hfs : ∀ j, j < N → defaultValue (ty0 j) = vp_V fs j) (hnr : allNoRef fs = true) (hlen : fs.length = N) (hd : decode cc pc = .ok (.new idx, 3)) : EOk l own cc nL ret ini D cA B md d call (eNew md pc ci fs) := by
  intro lv st h out ho
  simp only [eNew] at ho
  split at ho
  · next hmd =>
    cases ho
    have e2 : sl (h ++ [.inl (ci, fs)]) = sl h + N := by rw [sl_push]; simp [sl1, hlen]
    refine ⟨by simp, by omega, ?_⟩
    intro p e R s m args below meth c Q Cx _ _ H locs ls c0 s0 hW hl hm h1 h2 h3 h4 kk
    have e1 : (h ++ [.inl (ci, fs)] : List AC).length - c0 = h.length - c0 + 1 := by simp; omega
    have e3 : sl (h ++ [.inl (ci, fs)]) - s0 = sl h - s0 + N := by omega
    rw [e1] at h3
    rw [e3] at h4
    rw [e1, e3] at kk
    refine va_new (D := D) Cx.1 Cx.2.1 Cx.2.2.2.2.1 hin ty0 hty Cx.2.2.2.1 (Cx.2.2.2.2.1 _ hw) (Cx.2.2.2.2.1 _ hw2) (Cx.2.2.2.2.1 _ hw3) Cx.2.2.2.2.2.2.2.2.1 hW.1 (wo_D B cA h) hW.2 (fun q hq => Nat.le_trans Cx.2.2.2.2.2.2.2.2.2.2 hq) hc hfs h3 h4 hd (fun q H1 hP1 hD1 hS1 => ?_)
    intro T hT X
    have hq := new_q hP1 hD1 hT X (hm hmd) h1
    subst hq
    refine kk H1 locs ls ⟨?_, hS1⟩ hl T hT X
    rw [← wo_push]
    simp only [dc]
    rw [noRef hnr]
    exact hP1
  · cases ho
/-- rows of ints, bytes, longs -/
def eNewI (md : Bool) (pc t : Nat) : Ent := (pc, fun _ lv st h => match st with
  | .int n :: r => if md = true ∧ ¬ n < 0 ∧ n.toNatClampNeg ≤ 100000 then some (.inl (pc + 2, lv, .ref h.length :: r, h ++ [.inr (t, .inl (List.replicate n.toNatClampNeg 0))])) else none
  | _ => none)
def eNewJ (md : Bool) (pc : Nat) : Ent := (pc, fun _ lv st h => match st with
  | .int n :: r => if md = true ∧ ¬ n < 0 ∧ n.toNatClampNeg ≤ 100000 then some (.inl (pc + 2, lv, .ref h.length :: r, h ++ [.inr (2, .inr (.inl (List.replicate n.toNatClampNeg 0)))])) else none
  | _ => none)
def eNewA (md : Bool) (pc : Nat) : Ent := (pc, fun _ lv st h => match st with
  | .int n :: r => if md = true ∧ ¬ n < 0 ∧ n.toNatClampNeg ≤ 100000 then some (.inl (pc + 3, lv, .ref h.length :: r, h ++ [.inr (3, .inr (.inr (List.replicate n.toNatClampNeg none)))])) else none
  | _ => none)
theorem getD_rep {α : Type} (n j : Nat) (a : α) : (List.replicate n a).getD j a = a := by
  rw [List.getD_eq_getElem?_getD, List.getElem?_replicate]
  split <;> rfl
theorem cA_one {U : State} {a b : ClassId} {ty : FieldType} (hty : ty = .int ∨ ty = .byte ∨ ty = .long) (h1 : va_RA U a ty) (h2 : va_RA U b ty) : a = b := by
  rcases hty with rfl | rfl | rfl <;> exact Option.some.inj (h1.symm.trans h2)
theorem cA_oneA {U : State} {a b : ClassId} {C : String} (h1 : va_RA U a (.object C)) (h2 : va_RA U b (.object C)) : a = b := by
  obtain ⟨_, _, _, _, _, h1⟩ := h1
  obtain ⟨_, _, _, _, _, h2⟩ := h2
  exact Option.some.inj (h1.symm.trans h2)
theorem ok_newi {l : Launch} {own : String} {cc : ByteArray} {nL : Nat} {ret : Option FieldType} {ini : Bool} {D : va_G} {cA : Nat → ClassId} {B : Nat × Nat} {md : Bool} {d : Nat} {call : Call} {pc : Nat} (hw : Cond.arrayClass .int ∈ tT) (hd : decode cc pc = .ok (.newarray .int, 2)) : EOk l own cc nL ret ini D cA B md d call (eNewI md pc 0) := by
  intro lv st h out ho
  simp only [eNewI] at ho
  split at ho
  · next n r =>
    split at ho
    · next hg =>
      obtain ⟨hmd, hn, hb⟩ := hg
      cases ho
      have e2 : sl (h ++ [.inr (0, .inl (List.replicate n.toNatClampNeg 0))]) = sl h + n.toNatClampNeg := by rw [sl_push]; simp [sl1]
      refine ⟨by simp, by omega, ?_⟩
      intro p e R s m args below meth c Q Cx _ _ H locs ls c0 s0 hW hl hm h1 h2 h3 h4 kk
      have e1 : (h ++ [.inr (0, .inl (List.replicate n.toNatClampNeg 0))] : List AC).length - c0 = h.length - c0 + 1 := by simp; omega
      have e3 : sl (h ++ [.inr (0, .inl (List.replicate n.toNatClampNeg 0))]) - s0 = sl h - s0 + n.toNatClampNeg := by omega
      rw [e1] at h3
      rw [e3] at h4
      rw [e1, e3] at kk
      refine va_newa (D := D) (atype := .int) (a0 := (n.toNatClampNeg, .inl (fun j => (List.replicate n.toNatClampNeg 0).getD j 0))) Cx.1 Cx.2.1 (Cx.2.2.2.2.1 _ hw) rfl Cx.2.2.2.2.2.2.2.2.1 hW.1 (wo_D B cA h) hW.2 (fun q hq => Nat.le_trans Cx.2.2.2.2.2.2.2.2.2.2 hq) (fun cA => ?_) hn rfl ?_ h3 h4 hd (fun q cB H1 hK1 hP1 hD1 hS1 => ?_)
      · rw [vp_cell_i]
        congr 1
        funext j
        rw [getD_rep]
        rfl
      · show n.toNatClampNeg * 4 ≤ 536870912
        omega
      · have hcB : cB = cA 0 := cA_one (Or.inl rfl) (hK1.2 4 (cB, .int) rfl).2 (Cx.2.2.2.2.2.2.2.2.1.2 0 (cA 0, .int) rfl).2
        subst hcB
        intro T hT X
        have hq := new_q hP1 hD1 hT X (hm hmd) h1
        subst hq
        refine kk H1 locs ls ⟨?_, hS1⟩ hl T hT X
        rw [← wo_push]
        simp only [dc, List.length_replicate]
        exact hP1
    · cases ho
  · cases ho
theorem ok_newb {l : Launch} {own : String} {cc : ByteArray} {nL : Nat} {ret : Option FieldType} {ini : Bool} {D : va_G} {cA : Nat → ClassId} {B : Nat × Nat} {md : Bool} {d : Nat} {call : Call} {pc : Nat} (hw : Cond.arrayClass .byte ∈ tT) (hd : decode cc pc = .ok (.newarray .byte, 2)) : EOk l own cc nL ret ini D cA B md d call (eNewI md pc 1) := by
  intro lv st h out ho
  simp only [eNewI] at ho
  split at ho
  · next n r =>
    split at ho
    · next hg =>
      obtain ⟨hmd, hn, hb⟩ := hg
      cases ho
      have e2 : sl (h ++ [.inr (1, .inl (List.replicate n.toNatClampNeg 0))]) = sl h + n.toNatClampNeg := by rw [sl_push]; simp [sl1]
      refine ⟨by simp, by omega, ?_⟩
      intro p e R s m args below meth c Q Cx _ _ H locs ls c0 s0 hW hl hm h1 h2 h3 h4 kk
      have e1 : (h ++ [.inr (1, .inl (List.replicate n.toNatClampNeg 0))] : List AC).length - c0 = h.length - c0 + 1 := by simp; omega
      have e3 : sl (h ++ [.inr (1, .inl (List.replicate n.toNatClampNeg 0))]) - s0 = sl h - s0 + n.toNatClampNeg := by omega
      rw [e1] at h3
      rw [e3] at h4
      rw [e1, e3] at kk
      refine va_newa (D := D) (atype := .byte) (a0 := (n.toNatClampNeg, .inl (fun j => (List.replicate n.toNatClampNeg 0).getD j 0))) Cx.1 Cx.2.1 (Cx.2.2.2.2.1 _ hw) rfl Cx.2.2.2.2.2.2.2.2.1 hW.1 (wo_D B cA h) hW.2 (fun q hq => Nat.le_trans Cx.2.2.2.2.2.2.2.2.2.2 hq) (fun cA => ?_) hn rfl ?_ h3 h4 hd (fun q cB H1 hK1 hP1 hD1 hS1 => ?_)
      · rw [vp_cell_i]
        congr 1
        funext j
        rw [getD_rep]
        rfl
      · show n.toNatClampNeg * 1 ≤ 536870912
        omega
      · have hcB : cB = cA 1 := cA_one (Or.inr (Or.inl rfl)) (hK1.2 4 (cB, .byte) rfl).2 (Cx.2.2.2.2.2.2.2.2.1.2 1 (cA 1, .byte) rfl).2
        subst hcB
        intro T hT X
        have hq := new_q hP1 hD1 hT X (hm hmd) h1
        subst hq
        refine kk H1 locs ls ⟨?_, hS1⟩ hl T hT X
        rw [← wo_push]
        simp only [dc, List.length_replicate]
        exact hP1
    · cases ho
  · cases ho
theorem ok_newj {l : Launch} {own : String} {cc : ByteArray} {nL : Nat} {ret : Option FieldType} {ini : Bool} {D : va_G} {cA : Nat → ClassId} {B : Nat × Nat} {md : Bool} {d : Nat} {call : Call} {pc : Nat} (hw : Cond.arrayClass .long ∈ tT) (hd : decode cc pc = .ok (.newarray .long, 2)) : EOk l own cc nL ret ini D cA B md d call (eNewJ md pc) := by
  intro lv st h out ho
  simp only [eNewJ] at ho
  split at ho
  · next n r =>
    split at ho
    · next hg =>
      obtain ⟨hmd, hn, hb⟩ := hg
      cases ho
      have e2 : sl (h ++ [.inr (2, .inr (.inl (List.replicate n.toNatClampNeg 0)))]) = sl h + n.toNatClampNeg := by rw [sl_push]; simp [sl1]
      refine ⟨by simp, by omega, ?_⟩
      intro p e R s m args below meth c Q Cx _ _ H locs ls c0 s0 hW hl hm h1 h2 h3 h4 kk
      have e1 : (h ++ [.inr (2, .inr (.inl (List.replicate n.toNatClampNeg 0)))] : List AC).length - c0 = h.length - c0 + 1 := by simp; omega
      have e3 : sl (h ++ [.inr (2, .inr (.inl (List.replicate n.toNatClampNeg 0)))]) - s0 = sl h - s0 + n.toNatClampNeg := by omega
      rw [e1] at h3
      rw [e3] at h4
      rw [e1, e3] at kk
      refine va_newa (D := D) (atype := .long) (a0 := (n.toNatClampNeg, .inr (.inl (fun j => (List.replicate n.toNatClampNeg 0).getD j 0)))) Cx.1 Cx.2.1 (Cx.2.2.2.2.1 _ hw) rfl Cx.2.2.2.2.2.2.2.2.1 hW.1 (wo_D B cA h) hW.2 (fun q hq => Nat.le_trans Cx.2.2.2.2.2.2.2.2.2.2 hq) (fun cA => ?_) hn rfl ?_ h3 h4 hd (fun q cB H1 hK1 hP1 hD1 hS1 => ?_)
      · rw [vp_cell_l]
        congr 1
        funext j
        rw [getD_rep]
        rfl
      · show n.toNatClampNeg * 8 ≤ 536870912
        omega
      · have hcB : cB = cA 2 := cA_one (Or.inr (Or.inr rfl)) (hK1.2 4 (cB, .long) rfl).2 (Cx.2.2.2.2.2.2.2.2.1.2 2 (cA 2, .long) rfl).2
        subst hcB
        intro T hT X
        have hq := new_q hP1 hD1 hT X (hm hmd) h1
        subst hq
        refine kk H1 locs ls ⟨?_, hS1⟩ hl T hT X
        rw [← wo_push]
        simp only [dc, List.length_replicate]
        exact hP1
    · cases ho
  · cases ho
theorem ok_newA {l : Launch} {own : String} {cc : ByteArray} {nL : Nat} {ret : Option FieldType} {ini : Bool} {D : va_G} {cA : Nat → ClassId} {B : Nat × Nat} {md : Bool} {d : Nat} {call : Call} {pc idx : Nat} (hw : Cond.classLink own idx "TankerDesk$State" ∈ tT) (hd : decode cc pc = .ok (.anewarray idx, 3)) : EOk l own cc nL ret ini D cA B md d call (eNewA md pc) := by
  intro lv st h out ho
  simp only [eNewA] at ho
  split at ho
  · next n r =>
    split at ho
    · next hg =>
      obtain ⟨hmd, hn, hb⟩ := hg
      cases ho
      have e2 : sl (h ++ [.inr (3, .inr (.inr (List.replicate n.toNatClampNeg none)))]) = sl h + n.toNatClampNeg := by rw [sl_push]; simp [sl1]
      refine ⟨by simp, by omega, ?_⟩
      intro p e R s m args below meth c Q Cx _ _ H locs ls c0 s0 hW hl hm h1 h2 h3 h4 kk
      have e1 : (h ++ [.inr (3, .inr (.inr (List.replicate n.toNatClampNeg none)))] : List AC).length - c0 = h.length - c0 + 1 := by simp; omega
      have e3 : sl (h ++ [.inr (3, .inr (.inr (List.replicate n.toNatClampNeg none)))]) - s0 = sl h - s0 + n.toNatClampNeg := by omega
      rw [e1] at h3
      rw [e3] at h4
      rw [e1, e3] at kk
      refine va_newq (D := D) Cx.1 Cx.2.1 Cx.2.2.2.1 (Cx.2.2.2.2.1 _ hw) Cx.2.2.2.2.2.2.2.2.2.1.2 Cx.2.2.2.2.2.2.2.2.1 hW.1 (wo_D B cA h) hW.2 (fun q hq => Nat.le_trans Cx.2.2.2.2.2.2.2.2.2.2 hq) hn rfl (by omega) h3 h4 hd (fun q cB H1 hK1 hP1 hD1 hS1 => ?_)
      have hcB : cB = cA 3 := cA_oneA (hK1.2 4 (cB, .object "TankerDesk$State") rfl).2 (Cx.2.2.2.2.2.2.2.2.1.2 3 (cA 3, .object "TankerDesk$State") rfl).2
      subst hcB
      intro T hT X
      have hq := new_q hP1 hD1 hT X (hm hmd) h1
      subst hq
      refine kk H1 locs ls ⟨?_, hS1⟩ hl T hT X
      rw [← wo_push]
      have e5 : dc B cA (.inr (3, .inr (.inr (List.replicate n.toNatClampNeg none)))) = .inl (cA 3, n.toNatClampNeg, .inr (.inr (.inr (.inr (fun _ => none))))) := by
        simp only [dc, List.length_replicate]
        congr 7
        funext j
        rw [getD_rep]
        rfl
      rw [e5]
      exact hP1
    · cases ho
  · cases ho
end
section
/-! calls -/
abbrev MI : Type := MethodName × ByteArray × Nat × Option FieldType × Bool
def rmD (d mc ms : Nat) : Room := { frames := d, cells := mc, slots := ms, locals := 100 * d }
def PreU (D : va_G) (cA : Nat → ClassId) (B : Nat × Nat) (md : Bool) (h : List AC) (U : State) : Prop :=
  B.1 ≤ U.heap.size ∧ va_P D vwCl (wo B cA h) U.heap ∧ va_K D vwCl (tysA cA) U ∧ Xt U ∧ (md = true → U.heap.size = B.1 + h.length)
def mWs (y : MethodName) (bytes : ByteArray) (maxL : Nat) (rt : Option FieldType) : List Cond := Cond.code y bytes maxL rt :: tT
/-- what a call means: the method's contract -/
def COk (l : Launch) (D : va_G) (cA : Nat → ClassId) (B : Nat × Nat) (md : Bool) (d : Nat) (mI : Nat → MI) (call : Call) : Prop :=
  ∀ (id : Nat) (as : List Value) (h : List AC) (r : Option Value) (h' : List AC), call id as h = some (r, h') → h.length ≤ h'.length ∧ sl h ≤ sl h' ∧
    Met l (mI id).1 (mWs (mI id).1 (mI id).2.1 (mI id).2.2.1 (mI id).2.2.2.1) (rmD d (h'.length - h.length) (sl h' - sl h)) (va_Pc (as.map (dv B)) (PreU D cA B md h)) (Qr D cA B r h') (h'.length - h.length) (sl h' - sl h) (fun q => B.1 ≤ q)
theorem tT_good {y : MethodName} {bytes : ByteArray} {maxL : Nat} {rt : Option FieldType} (hw : Cond.code y bytes maxL rt ∈ tT) : GoodIn tT (mWs y bytes maxL rt) := by
  have hg : ∀ w ∈ tT, w ∈ tT ∧ ((w.onTables && w.keeps) = true ∨ ∃ ty, w = .arrayClass ty) := fun w h => ⟨h, good_of_word (List.mem_filter.mp h).2⟩
  intro w h
  rcases List.mem_cons.mp h with rfl | h
  · exact hg _ hw
  · exact hg _ h
theorem blind {D : va_G} {cA : Nat → ClassId} {B : Nat × Nat} {md : Bool} {h : List AC} {av : List Value} : FrameBlind (va_Pc av (PreU D cA B md h)) := by
  intro a U g mk q
  obtain ⟨q0, q1, q2, q3, q4, q5⟩ := q
  exact ⟨q0, q1, q2, va_K.moved (u := U) (U := U.calling g mk a) (Vm.Alike.refl U.vm) q3, Xt.same (u := U) (U := U.calling g mk a) rfl q4, q5⟩
/-- the heap's size, where only our cells were made -/
theorem size_q {l : Launch} {p : Program} {e : Env} {R : Room} {s : State} {m : MethodId} {args : Array Value} {below : List Frame} {meth : Method} {c : Code} {D : va_G} {cA : Nat → ClassId} {B : Nat × Nat} {h : List AC} {H : Heap} {locs : List Loc} {c0 slots : Nat} {T : State} (hW : Wd D cA B s h H locs) (hT : T.heap = H) (X : Stand p l e R s m args below meth c T locs (h.length - c0) slots) (hs : s.heap.size = B.1 + c0) (hc : c0 ≤ h.length) : H.size = B.1 + h.length := by
  have h2 : T.heap.size ≤ s.heap.size + (h.length - c0) := X.same.2.2.1
  have h3 : s.heap.size ≤ H.size := hW.2.1
  rw [hT] at h2
  rcases Nat.eq_zero_or_pos h.length with h0 | h0
  · omega
  · have hk : h.length - 1 < h.length := by omega
    have h4 : B.1 + (h.length - 1) < H.size := (hW.1 _ _ (wo_get (List.getElem?_eq_getElem hk))).lt
    omega
theorem wcall {l : Launch} {p : Program} {e : Env} {R : Room} {s : State} {m : MethodId} {args : Array Value} {below : List Frame} {meth : Method} {c : Code} {D : va_G} {cA : Nat → ClassId} {B : Nat × Nat} {h' : List AC} {r : Option Value} {H : Heap} {locs : List Loc} {cells slots mc ms pc : Nat} {ls : Array Slot} {st0 rest : List Value} {a : Array Value} {Q : State → Prop}
    (hr : va_Run p l e R s m args below meth c H locs cells slots mc ms (F0 m pc ls st0) rest (Qr D cA B r h' a) (fun q => B.1 ≤ q)) (hS : va_S (fun q => B.1 ≤ q) s.heap H locs)
    (kk : ∀ (H1 : Heap) (locs1 : List Loc), Wd D cA B s h' H1 locs1 → W p l e R s m args below meth c H1 locs1 (cells + mc) (slots + ms) Q (F0 m (pc + 3) ls ((r.map (dv B)).toList ++ rest))) : W p l e R s m args below meth c H locs cells slots Q (F0 m pc ls st0) := by
  intro T hT X
  obtain ⟨v, st₀, t, T', L, h0, X', hL, e1, e2, ⟨hv, hP1, hz, hk⟩, st⟩ := hr T hT X
  cases hv
  rw [h0] at hz hk
  obtain ⟨t2, a1, b1⟩ := kk T'.heap (locs ++ L) ⟨by rw [e1]; exact hP1, ⟨Nat.le_trans hS.1 (by rw [e1]; exact hz), fun q h1 h2 => by rw [e1, hk q (Nat.lt_of_lt_of_le h1 hS.1) h2]; exact hS.2.1 q h1 h2, fun q hq => by
      rcases List.mem_append.mp hq with h | h
      · exact hS.2.2 q h
      · exact hL q h⟩⟩ T' rfl X'
  exact ⟨t2, st t2 a1, b1⟩
theorem take_drop_cons {α : Type} {xs : List α} {n : Nat} {b : α} {r : List α} (h : xs.drop n = b :: r) : xs = xs.take n ++ b :: r ∧ (xs.take n).length = n := by
  have h1 := List.take_append_drop n xs
  rw [h] at h1
  refine ⟨h1.symm, ?_⟩
  have h2 : (xs.drop n).length = (b :: r).length := by rw [h]
  simp only [List.length_drop, List.length_cons] at h2
  rw [List.length_take]
  omega
def cats (st : List Value) : Nat := (st.map fun v => v.category).sum
theorem cats_dv (B : Nat × Nat) (st : List Value) : ((st.map (dv B)).map fun v => v.category).sum = cats st := by
  unfold cats
  rw [List.map_map]
  congr 1
  apply List.map_congr_left
  intro v _
  exact dv_cat B v
theorem optmap (B : Nat × Nat) (r : Option Value) (rest : List Value) : (r.map (dv B)).toList ++ rest.map (dv B) = (r.toList ++ rest).map (dv B) := by cases r <;> simp
/-- a method of an object of class ci (n arguments beside it) -/
def eCallV (pc n id ci : Nat) : Ent := (pc, fun call lv st h => match st.drop n with
  | .ref b :: r => match h[b]? with
    | some (.inl (cj, _)) => if cj = ci ∧ cats r ≤ 8 then match call id (.ref b :: (st.take n).reverse) h with
        | some (v, h') => some (.inl (pc + 3, lv, v.toList ++ r, h'))
        | none => none
      else none
    | _ => none
  | _ => none)
theorem ok_callV {l : Launch} {own : String} {cc : ByteArray} {nL : Nat} {ret : Option FieldType} {ini : Bool} {D : va_G} {cA : Nat → ClassId} {B : Nat × Nat} {md : Bool} {d : Nat} {call : Call} {mI : Nat → MI} {pc n id ci N idx maxL : Nat} {C : String} {T : u_T} {y : MethodName} {bytes : ByteArray} {rt : Option FieldType} {z : Bool} (hok : COk l D cA B md d mI call) (hid : mI id = (y, bytes, maxL, rt, z)) (hc : vwCl[ci]? = some (C, T, N)) (hwl : Cond.methodLink own idx y ∈ tT) (hwi : Cond.instanceMethod y ∈ tT) (hws : Cond.selects C y y ∈ tT) (hwn : Cond.initialized y.cls ∈ tT) (hwc : Cond.code y bytes maxL rt ∈ tT) (hd9 : y.cls ≠ "java/lang/invoke/MethodHandle" ∧ y.cls ≠ "java/lang/invoke/VarHandle" ∧ (parseMethodDescriptor y.desc).map (fun d => d.parameters.length) = some n) (hL : maxL ≤ 80) (hd : decode cc pc = .ok (.invokevirtual idx, 3)) : EOk l own cc nL ret ini D cA B md d call (eCallV pc n id ci) := by
  intro lv st h out ho
  simp only [eCallV] at ho
  split at ho
  · next b r hdr =>
    obtain ⟨hst, hln⟩ := take_drop_cons hdr
    split at ho
    · next cj fs hb =>
      split at ho
      · next hg =>
        obtain ⟨rfl, hcat⟩ := hg
        split at ho
        · next v h' hcl =>
          cases ho
          obtain ⟨m1, m2, hM⟩ := hok _ _ _ _ _ hcl
          refine ⟨m1, m2, ?_⟩
          rw [hid] at hM
          intro p e R s m args below meth c Q Cx hfr hlo H locs ls c0 s0 hW hl hm h1 h2 h3 h4 kk
          intro T hT X
          have hsz : md = true → H.size = B.1 + h.length := fun q => size_q hW hT X (hm q) h1
          have e1 : h.length - c0 + (h'.length - h.length) = h'.length - c0 := by omega
          have e2 : sl h - s0 + (sl h' - sl h) = sl h' - s0 := by omega
          refine wcall (pc := pc) (rest := r.map (dv B)) (va_runV (As := ((st.take n).reverse).map (dv B)) (C := C) ⟨Cx.1, Cx.2.1, Cx.2.2.1, Cx.2.2.2.1, Cx.2.2.2.2.1⟩ hM ⟨callB_of n Cx.2.2.2.2.1 (tT_good hwc) rfl rfl rfl (Cx.2.2.2.2.1 _ hwn) (Cx.2.2.2.2.1 _ hwl) hd9 ⟨hfr, ?_⟩, Cx.2.2.2.2.1 _ hwi, Cx.2.2.2.2.1 _ hws⟩ ⟨blind, va_recv Cx.2.2.2.2.2.2.2.2.1 hW.1 hc (wo_get hb), fun U hU hWm => ⟨rfl, ?_, ?_, va_K.moved hWm.alike Cx.2.2.2.2.2.2.2.2.1, Xt.warm hWm Cx.2.2.2.2.2.2.2.2.2.1, fun q => by rw [hU]; exact hsz q⟩⟩ rfl ?_ hl.1 ?_ (lv_room (by rw [cats_dv]; exact hcat)) hd ⟨?_, ?_⟩) hW.2 (fun H1 locs1 hW1 => ?_) T hT X
          · show 8 + (maxL + 11) + 100 * d ≤ R.locals
            omega
          · rw [hU]
            exact Nat.le_trans Cx.2.2.2.2.2.2.2.2.2.2 hW.2.1
          · rw [hU]
            exact hW.1
          · rw [List.length_map, List.length_reverse]
            exact hln
          · show st.map (dv B) = _
            rw [← List.map_reverse, List.reverse_reverse]
            conv => lhs; rw [hst]
            rw [List.map_append]
            rfl
          · show h.length - c0 + (h'.length - h.length) ≤ R.cells
            omega
          · show sl h - s0 + (sl h' - sl h) ≤ R.slots
            omega
          · rw [e1, e2, optmap]
            exact kk H1 locs1 ls hW1 hl
        · cases ho
      · cases ho
    · cases ho
  · cases ho
/-- a constructor -/
def eCallI (pc n id : Nat) : Ent := (pc, fun call lv st h => match st.drop n with
  | .ref b :: r => if cats r ≤ 8 then match call id (.ref b :: (st.take n).reverse) h with
        | some (v, h') => some (.inl (pc + 3, lv, v.toList ++ r, h'))
        | none => none
      else none
  | _ => none)
/-- a static method -/
def eCallS (pc n id : Nat) : Ent := (pc, fun call lv st h => if n ≤ st.length ∧ cats (st.drop n) ≤ 8 then match call id (st.take n).reverse h with
        | some (v, h') => some (.inl (pc + 3, lv, v.toList ++ st.drop n, h'))
        | none => none
      else none)
theorem ok_callI {l : Launch} {own : String} {cc : ByteArray} {nL : Nat} {ret : Option FieldType} {ini : Bool} {D : va_G} {cA : Nat → ClassId} {B : Nat × Nat} {md : Bool} {d : Nat} {call : Call} {mI : Nat → MI} {pc n id idx maxL : Nat} {y : MethodName} {bytes : ByteArray} {z : Bool} (hok : COk l D cA B md d mI call) (hid : mI id = (y, bytes, maxL, none, z)) (hwl : Cond.methodLink own idx y ∈ tT) (hwi : Cond.instanceMethod y ∈ tT) (hwn : Cond.initialized y.cls ∈ tT) (hwc : Cond.code y bytes maxL none ∈ tT) (hyn : y.name = "<init>") (hd9 : y.cls ≠ "java/lang/invoke/MethodHandle" ∧ y.cls ≠ "java/lang/invoke/VarHandle" ∧ (parseMethodDescriptor y.desc).map (fun d => d.parameters.length) = some n) (hL : maxL ≤ 80) (hd : decode cc pc = .ok (.invokespecial idx, 3)) : EOk l own cc nL ret ini D cA B md d call (eCallI pc n id) := by
  intro lv st h out ho
  simp only [eCallI] at ho
  split at ho
  · next b r hdr =>
    obtain ⟨hst, hln⟩ := take_drop_cons hdr
    split at ho
    · next hcat =>
        split at ho
        · next v h' hcl =>
          cases ho
          obtain ⟨m1, m2, hM⟩ := hok _ _ _ _ _ hcl
          refine ⟨m1, m2, ?_⟩
          rw [hid] at hM
          intro p e R s m args below meth c Q Cx hfr hlo H locs ls c0 s0 hW hl hm h1 h2 h3 h4 kk
          intro T hT X
          have hsz : md = true → H.size = B.1 + h.length := fun q => size_q hW hT X (hm q) h1
          have e1 : h.length - c0 + (h'.length - h.length) = h'.length - c0 := by omega
          have e2 : sl h - s0 + (sl h' - sl h) = sl h' - s0 := by omega
          refine wcall (pc := pc) (rest := r.map (dv B)) (va_runI (As := ((st.take n).reverse).map (dv B)) ⟨Cx.1, Cx.2.1, Cx.2.2.1, Cx.2.2.2.1, Cx.2.2.2.2.1⟩ hM ⟨callB_of n Cx.2.2.2.2.1 (tT_good hwc) rfl rfl rfl (Cx.2.2.2.2.1 _ hwn) (Cx.2.2.2.2.1 _ hwl) hd9 ⟨hfr, ?_⟩, hyn, Cx.2.2.2.2.1 _ hwi⟩ ⟨blind, fun U hU hWm => ⟨rfl, ?_, ?_, va_K.moved hWm.alike Cx.2.2.2.2.2.2.2.2.1, Xt.warm hWm Cx.2.2.2.2.2.2.2.2.2.1, fun q => by rw [hU]; exact hsz q⟩⟩ rfl ?_ hl.1 ?_ (lv_room (by rw [cats_dv]; exact hcat)) hd ⟨?_, ?_⟩) hW.2 (fun H1 locs1 hW1 => ?_) T hT X
          · show 8 + (maxL + 11) + 100 * d ≤ R.locals
            omega
          · rw [hU]
            exact Nat.le_trans Cx.2.2.2.2.2.2.2.2.2.2 hW.2.1
          · rw [hU]
            exact hW.1
          · rw [List.length_map, List.length_reverse]
            exact hln
          · show st.map (dv B) = _
            rw [← List.map_reverse, List.reverse_reverse]
            conv => lhs; rw [hst]
            rw [List.map_append]
            rfl
          · show h.length - c0 + (h'.length - h.length) ≤ R.cells
            omega
          · show sl h - s0 + (sl h' - sl h) ≤ R.slots
            omega
          · rw [e1, e2, optmap]
            exact kk H1 locs1 ls hW1 hl
        · cases ho
    · cases ho
  · cases ho
theorem ok_callIN {l : Launch} {own : String} {cc : ByteArray} {nL : Nat} {ret : Option FieldType} {ini : Bool} {D : va_G} {cA : Nat → ClassId} {B : Nat × Nat} {md : Bool} {d : Nat} {call : Call} {mI : Nat → MI} {pc n id idx maxL : Nat} {y : MethodName} {bytes : ByteArray} {z : Bool} (hok : COk l D cA B md d mI call) (hid : mI id = (y, bytes, maxL, none, z)) {host : String} (hwl : Cond.methodLinkNest own idx y host ∈ tN) (hwi : Cond.instanceMethod y ∈ tT) (hwn : Cond.initialized y.cls ∈ tT) (hwc : Cond.code y bytes maxL none ∈ tT) (hyn : y.name = "<init>") (hd9 : y.cls ≠ "java/lang/invoke/MethodHandle" ∧ y.cls ≠ "java/lang/invoke/VarHandle" ∧ (parseMethodDescriptor y.desc).map (fun d => d.parameters.length) = some n) (hL : maxL ≤ 80) (hd : decode cc pc = .ok (.invokespecial idx, 3)) : EOk l own cc nL ret ini D cA B md d call (eCallI pc n id) := by
  intro lv st h out ho
  simp only [eCallI] at ho
  split at ho
  · next b r hdr =>
    obtain ⟨hst, hln⟩ := take_drop_cons hdr
    split at ho
    · next hcat =>
        split at ho
        · next v h' hcl =>
          cases ho
          obtain ⟨m1, m2, hM⟩ := hok _ _ _ _ _ hcl
          refine ⟨m1, m2, ?_⟩
          rw [hid] at hM
          intro p e R s m args below meth c Q Cx hfr hlo H locs ls c0 s0 hW hl hm h1 h2 h3 h4 kk
          intro T hT X
          have hsz : md = true → H.size = B.1 + h.length := fun q => size_q hW hT X (hm q) h1
          have e1 : h.length - c0 + (h'.length - h.length) = h'.length - c0 := by omega
          have e2 : sl h - s0 + (sl h' - sl h) = sl h' - s0 := by omega
          refine wcall (pc := pc) (rest := r.map (dv B)) (va_runIN (As := ((st.take n).reverse).map (dv B)) ⟨Cx.1, Cx.2.1, Cx.2.2.1, Cx.2.2.2.1, Cx.2.2.2.2.1⟩ hM ⟨va_cnB n Cx.2.2.2.2.1 (tT_good hwc) rfl rfl rfl (Cx.2.2.2.2.2.2.2.2.2.1.1 _ hwl) (Cx.2.2.2.2.1 _ hwn) hd9 ⟨hfr, ?_⟩, hyn, Cx.2.2.2.2.1 _ hwi⟩ ⟨blind, fun U hU hWm => ⟨rfl, ?_, ?_, va_K.moved hWm.alike Cx.2.2.2.2.2.2.2.2.1, Xt.warm hWm Cx.2.2.2.2.2.2.2.2.2.1, fun q => by rw [hU]; exact hsz q⟩⟩ rfl ?_ hl.1 ?_ (lv_room (by rw [cats_dv]; exact hcat)) hd ⟨?_, ?_⟩) hW.2 (fun H1 locs1 hW1 => ?_) T hT X
          · show 8 + (maxL + 11) + 100 * d ≤ R.locals
            omega
          · rw [hU]
            exact Nat.le_trans Cx.2.2.2.2.2.2.2.2.2.2 hW.2.1
          · rw [hU]
            exact hW.1
          · rw [List.length_map, List.length_reverse]
            exact hln
          · show st.map (dv B) = _
            rw [← List.map_reverse, List.reverse_reverse]
            conv => lhs; rw [hst]
            rw [List.map_append]
            rfl
          · show h.length - c0 + (h'.length - h.length) ≤ R.cells
            omega
          · show sl h - s0 + (sl h' - sl h) ≤ R.slots
            omega
          · rw [e1, e2, optmap]
            exact kk H1 locs1 ls hW1 hl
        · cases ho
    · cases ho
  · cases ho
theorem ok_callS {l : Launch} {own : String} {cc : ByteArray} {nL : Nat} {ret : Option FieldType} {ini : Bool} {D : va_G} {cA : Nat → ClassId} {B : Nat × Nat} {md : Bool} {d : Nat} {call : Call} {mI : Nat → MI} {pc n id idx maxL : Nat} {y : MethodName} {bytes : ByteArray} {rt : Option FieldType} {z : Bool} (hok : COk l D cA B md d mI call) (hid : mI id = (y, bytes, maxL, rt, z)) (hwl : Cond.methodLink own idx y ∈ tT) (hwi : Cond.static y ∈ tT) (hwn : Cond.initialized y.cls ∈ tT) (hwc : Cond.code y bytes maxL rt ∈ tT) (hd9 : y.cls ≠ "java/lang/invoke/MethodHandle" ∧ y.cls ≠ "java/lang/invoke/VarHandle" ∧ (parseMethodDescriptor y.desc).map (fun d => d.parameters.length) = some n) (hL : maxL ≤ 80) (hd : decode cc pc = .ok (.invokestatic idx, 3)) : EOk l own cc nL ret ini D cA B md d call (eCallS pc n id) := by
  intro lv st h out ho
  simp only [eCallS] at ho
  split at ho
  · next hg =>
        obtain ⟨hln, hcat⟩ := hg
        split at ho
        · next v h' hcl =>
          cases ho
          obtain ⟨m1, m2, hM⟩ := hok _ _ _ _ _ hcl
          refine ⟨m1, m2, ?_⟩
          rw [hid] at hM
          intro p e R s m args below meth c Q Cx hfr hlo H locs ls c0 s0 hW hl hm h1 h2 h3 h4 kk
          intro T hT X
          have hsz : md = true → H.size = B.1 + h.length := fun q => size_q hW hT X (hm q) h1
          have e1 : h.length - c0 + (h'.length - h.length) = h'.length - c0 := by omega
          have e2 : sl h - s0 + (sl h' - sl h) = sl h' - s0 := by omega
          refine wcall (pc := pc) (rest := (st.drop n).map (dv B)) (va_runS (As := ((st.take n).reverse).map (dv B)) ⟨Cx.1, Cx.2.1, Cx.2.2.1, Cx.2.2.2.1, Cx.2.2.2.2.1⟩ hM ⟨callB_of n Cx.2.2.2.2.1 (tT_good hwc) rfl rfl rfl (Cx.2.2.2.2.1 _ hwn) (Cx.2.2.2.2.1 _ hwl) hd9 ⟨hfr, ?_⟩, Cx.2.2.2.2.1 _ hwi⟩ ⟨blind, fun U hU hWm => ⟨rfl, ?_, ?_, va_K.moved hWm.alike Cx.2.2.2.2.2.2.2.2.1, Xt.warm hWm Cx.2.2.2.2.2.2.2.2.2.1, fun q => by rw [hU]; exact hsz q⟩⟩ rfl ?_ hl.1 ?_ (lv_room (by rw [cats_dv]; exact hcat)) hd ⟨?_, ?_⟩) hW.2 (fun H1 locs1 hW1 => ?_) T hT X
          · show 8 + (maxL + 11) + 100 * d ≤ R.locals
            omega
          · rw [hU]
            exact Nat.le_trans Cx.2.2.2.2.2.2.2.2.2.2 hW.2.1
          · rw [hU]
            exact hW.1
          · rw [List.length_map, List.length_reverse, List.length_take]
            omega
          · show st.map (dv B) = _
            rw [← List.map_reverse, List.reverse_reverse, ← List.map_append, List.take_append_drop]
          · show h.length - c0 + (h'.length - h.length) ≤ R.cells
            omega
          · show sl h - s0 + (sl h' - sl h) ≤ R.slots
            omega
          · rw [e1, e2, optmap]
            exact kk H1 locs1 ls hW1 hl
        · cases ho
  · cases ho
/-- Object's own constructor -/
def eObj (pc : Nat) : Ent := (pc, fun _ lv st h => match st with
  | .ref _ :: r => if cats r ≤ 8 then some (.inl (pc + 3, lv, r, h)) else none
  | _ => none)
theorem ok_obj {l : Launch} {own : String} {cc : ByteArray} {nL : Nat} {ret : Option FieldType} {ini : Bool} {D : va_G} {cA : Nat → ClassId} {B : Nat × Nat} {md : Bool} {d : Nat} {call : Call} {pc idx : Nat} (hw1 : Cond.methodLink own idx objectInit ∈ tT) (hw2 : Cond.instanceMethod objectInit ∈ tT) (hw3 : Cond.code objectInit ⟨#[0xb1]⟩ 1 none ∈ tT) (hd : decode cc pc = .ok (.invokespecial idx, 3)) : EOk l own cc nL ret ini D cA B md d call (eObj pc) := by
  intro lv st h out ho
  simp only [eObj] at ho
  split at ho
  · next b r =>
    split at ho
    · next hcat =>
      cases ho
      refine ⟨Nat.le_refl _, Nat.le_refl _, ?_⟩
      intro p e R s m args below meth c Q Cx hfr hlo H locs ls c0 s0 hW hl hm h1 h2 h3 h4 kk
      refine W.objInit (rest := r.map (dv B)) Cx.1 Cx.2.1 Cx.2.2.2.1 (Cx.2.2.2.2.1 _ hw1) (Cx.2.2.2.2.1 _ hw2) (Cx.2.2.2.2.1 _ hw3) rfl (by rw [Cx.2.2.1]; exact hl.1) rfl hd (by omega) ?_ (kk H locs ls hW hl)
      have := cats_dv B r
      show 2 * 0 + ((r.map (dv B)).map fun v => v.category).sum + 12 ≤ R.locals
      omega
    · cases ho
  · cases ho
/-- System.arraycopy of a whole row onto a row of its length -/
def eCopy (pc : Nat) : Ent := (pc, fun _ lv st h => match st with
  | .int n :: .int dp :: .ref a :: .int sp :: .ref a0 :: r => match h[a0]?, h[a]? with
    | some (.inr (u, .inl xs)), some (.inr (u', .inl ys)) => if u = 0 ∧ u' = 0 ∧ sp = 0 ∧ dp = 0 ∧ ¬ n < 0 ∧ n.toNatClampNeg = xs.length ∧ n.toNatClampNeg = ys.length ∧ cats r ≤ 8 then some (.inl (pc + 3, lv, r, h.set a (.inr (0, .inl xs)))) else none
    | _, _ => none
  | _ => none)
theorem ok_copy {l : Launch} {own : String} {cc : ByteArray} {nL : Nat} {ret : Option FieldType} {ini : Bool} {D : va_G} {cA : Nat → ClassId} {B : Nat × Nat} {md : Bool} {d : Nat} {call : Call} {pc idx : Nat} (hw1 : Cond.methodLink own idx arraycopyName ∈ tT) (hw2 : Cond.native arraycopyName ∈ tT) (hw3 : Cond.static arraycopyName ∈ tT) (hw4 : Cond.initialized "java/lang/System" ∈ tT) (hd : decode cc pc = .ok (.invokestatic idx, 3)) : EOk l own cc nL ret ini D cA B md d call (eCopy pc) := by
  intro lv st h out ho
  simp only [eCopy] at ho
  split at ho
  · next n dp a sp a0 r =>
    split at ho
    · next u xs u' ys ha0 ha =>
      split at ho
      · next hg =>
        obtain ⟨rfl, rfl, rfl, rfl, hn, hx, hy, hcat⟩ := hg
        cases ho
        have e2 : sl (h.set a (.inr (0, .inl xs))) = sl h := sl_set ha (by simp only [sl1]; omega)
        refine ⟨by simp, by rw [e2]; exact Nat.le_refl _, ?_⟩
        intro p e R s m args below meth c Q Cx hfr hlo H locs ls c0 s0 hW hl hm h1 h2 h3 h4 kk
        rw [List.length_set, e2] at kk
        refine va_copyi (D := D) (ty := .int) Cx.1 Cx.2.1 (by rw [Cx.2.2.1, hl.1]) Cx.2.2.2.1 (Cx.2.2.2.2.1 _ hw1) (Cx.2.2.2.2.1 _ hw2) (Cx.2.2.2.2.1 _ hw3) (Cx.2.2.2.2.1 _ hw4) Cx.2.2.2.2.2.2.2.2.1 hW.1 (wo_D B cA h) hW.2 a0 a 0 0 (wo_get ha0) (wo_get ha) rfl rfl rfl (by decide) (by decide) hn ?_ ?_ (fun i _ => rfl) (by omega) ?_ hd (fun H1 locs1 hP1 _ hS1 => kk H1 locs1 ls ⟨?_, hS1⟩ hl)
        · show 0 + n.toNatClampNeg ≤ xs.length
          omega
        · show 0 + n.toNatClampNeg ≤ ys.length
          omega
        · have e6 : nativeFrameWords "java/lang/System" "arraycopy" 5 ≤ 60 := by decide
          rw [cats_dv]
          omega
        · rw [← wo_set]
          have e3 : dc B cA (.inr (0, .inl xs)) = .inl (cA 0, ys.length, .inl (va_cpy (fun j => xs.getD j 0) (fun j => ys.getD j 0) 0 0 n.toNatClampNeg)) := by
            simp only [dc]
            rw [← hx, ← hy]
            congr 3
            congr 1
            funext j
            unfold va_cpy
            by_cases z : j < n.toNatClampNeg
            · rw [if_pos ⟨Nat.zero_le _, by omega⟩]
              congr 1
              omega
            · rw [if_neg (fun q => z (by omega))]
              show xs.getD j 0 = ys.getD j 0
              rw [List.getD_eq_getElem?_getD, List.getD_eq_getElem?_getD, List.getElem?_eq_none (by omega), List.getElem?_eq_none (by omega)]
          rw [e3]
          exact hP1
      · cases ho
    · cases ho
  · cases ho
/-- Math.min -/
def eMin (pc : Nat) : Ent := (pc, fun _ lv st h => match st with
  | .int y :: .int x :: r => if cats r ≤ 8 then some (.inl (pc + 3, lv, .int (if y < x then y else x) :: r, h)) else none
  | _ => none)
theorem ok_min {l : Launch} {own : String} {cc : ByteArray} {nL : Nat} {ret : Option FieldType} {ini : Bool} {D : va_G} {cA : Nat → ClassId} {B : Nat × Nat} {md : Bool} {d : Nat} {call : Call} {pc idx : Nat} (hw1 : Cond.methodLink own idx Lib.Math.min.name ∈ tT) (hw2 : Cond.static Lib.Math.min.name ∈ tT) (hw3 : Cond.initialized "java/lang/Math" ∈ tT) (hw4 : Cond.code Lib.Math.min.name Lib.Math.min.code 2 (some .int) ∈ tT) (hd : decode cc pc = .ok (.invokestatic idx, 3)) : EOk l own cc nL ret ini D cA B md d call (eMin pc) := by
  intro lv st h out ho
  simp only [eMin] at ho
  split at ho
  · next y x r =>
    split at ho
    · next hcat =>
      cases ho
      refine ⟨Nat.le_refl _, Nat.le_refl _, ?_⟩
      intro p e R s m args below meth c Q Cx hfr hlo H locs ls c0 s0 hW hl hm h1 h2 h3 h4 kk
      refine va_mmin Cx.1 Cx.2.1 (by rw [Cx.2.2.1, hl.1]) Cx.2.2.2.1 (Cx.2.2.2.2.1 _ hw1) (Cx.2.2.2.2.1 _ hw2) (Cx.2.2.2.2.1 _ hw3) (Cx.2.2.2.2.1 _ hw4) (by omega) ?_ h3 h4 hd (kk H locs ls hW hl)
      rw [cats_dv]
      omega
    · cases ho
  · cases ho
/-! a method's body -/
def nxt (code rest : List Ent) (pc : Nat) : List Ent := match rest with
  | e :: _ => if e.1 = pc then rest else code.dropWhile (fun e => e.1 != pc)
  | [] => code.dropWhile (fun e => e.1 != pc)
theorem nxt_in {code rest : List Ent} {pc : Nat} (h : ∀ e ∈ rest, e ∈ code) : ∀ e ∈ nxt code rest pc, e ∈ code := by
  have hdw : ∀ e ∈ code.dropWhile (fun e => e.1 != pc), e ∈ code := fun e he => (List.dropWhile_suffix _).subset he
  intro e he
  unfold nxt at he
  split at he
  · split at he
    · exact h e he
    · exact hdw e he
  · exact hdw e he
def run (call : Call) (code : List Ent) : Nat → Nat → List Ent → Lv → List Value → List AC → Option (Option Value × List AC)
  | 0, _, _, _, _, _ => none
  | n + 1, pc, is, lv, st, h => match is with
    | [] => none
    | en :: rest => if en.1 = pc then match en.2 call lv st h with
        | none => none
        | some (.inr r) => some r
        | some (.inl (pc', lv', st', h')) => run call code n pc' (nxt code rest pc') lv' st' h'
      else none
theorem run_mono {l : Launch} {own : String} {cc : ByteArray} {nL : Nat} {ret : Option FieldType} {ini : Bool} {D : va_G} {cA : Nat → ClassId} {B : Nat × Nat} {md : Bool} {d : Nat} {call : Call} {code : List Ent} (hc : ∀ e ∈ code, EOk l own cc nL ret ini D cA B md d call e) : ∀ (n pc : Nat) (is : List Ent) (lv : Lv) (st : List Value) (h : List AC) (r : Option Value) (h' : List AC), (∀ e ∈ is, e ∈ code) → run call code n pc is lv st h = some (r, h') → h.length ≤ h'.length ∧ sl h ≤ sl h' := by
  intro n
  induction n with
  | zero => intro pc is lv st h r h' _ hr; cases hr
  | succ n ih =>
    intro pc is lv st h r h' hi hr
    unfold run at hr
    split at hr
    · cases hr
    · next en rest =>
      split at hr
      · next hpc =>
        have ho := hc en (hi en List.mem_cons_self)
        split at hr
        · cases hr
        · next r0 hs =>
          cases hr
          have := ho lv st h _ hs
          obtain ⟨e, -⟩ := this
          subst e
          exact ⟨Nat.le_refl _, Nat.le_refl _⟩
        · next pc' lv' st' h1 hs =>
          obtain ⟨a1, a2, -⟩ := ho lv st h _ hs
          obtain ⟨b1, b2⟩ := ih pc' _ lv' st' h1 r h' (nxt_in (fun e he => hi e (List.mem_cons_of_mem _ he))) hr
          exact ⟨Nat.le_trans a1 b1, Nat.le_trans a2 b2⟩
      · cases hr
theorem run_ok {l : Launch} {own : String} {cc : ByteArray} {nL : Nat} {ret : Option FieldType} {ini : Bool} {D : va_G} {cA : Nat → ClassId} {B : Nat × Nat} {md : Bool} {d : Nat} {call : Call} {code : List Ent} (hc : ∀ e ∈ code, EOk l own cc nL ret ini D cA B md d call e) : ∀ (n pc : Nat) (is : List Ent) (lv : Lv) (st : List Value) (h : List AC) (r : Option Value) (h' : List AC), (∀ e ∈ is, e ∈ code) → run call code n pc is lv st h = some (r, h') →
    ∀ (p : Program) (e : Env) (R : Room) (s : State) (m : MethodId) (args : Array Value) (below : List Frame) (meth : Method) (c : Code), Cx own cc nL ret ini D cA B p s m args meth c → d + 1 ≤ R.frames → 100 * (d + 1) ≤ R.locals → ∀ (H : Heap) (locs : List Loc) (ls : Array Slot) (c0 s0 : Nat), Wd D cA B s h H locs → lv_has ls nL (dl B lv) → (md = true → s.heap.size = B.1 + c0) → c0 ≤ h.length → s0 ≤ sl h → h'.length - c0 ≤ R.cells → sl h' - s0 ≤ R.slots →
      W p l e R s m args below meth c H locs (h.length - c0) (sl h - s0) (MQ below (Qr D cA B r h') args s (h'.length - c0) (sl h' - s0) (fun q => B.1 ≤ q)) (F0 m pc ls (st.map (dv B))) := by
  intro n
  induction n with
  | zero => intro pc is lv st h r h' _ hr; cases hr
  | succ n ih =>
    intro pc is lv st h r h' hi hr p e R s m args below meth c C hfr hlo H locs ls c0 s0 hW hl hm h1 h2 h3 h4
    unfold run at hr
    split at hr
    · cases hr
    · next en rest =>
      split at hr
      · next hpc =>
        have ho := hc en (hi en List.mem_cons_self)
        subst hpc
        split at hr
        · cases hr
        · next r0 hs =>
          cases hr
          obtain ⟨e0, k⟩ := ho lv st h _ hs
          subst e0
          exact k p e R s m args below meth c C H locs ls _ _ hW
        · next pc' lv' st' hh hs =>
          have hi' : ∀ e ∈ nxt code rest pc', e ∈ code := nxt_in (fun e he => hi e (List.mem_cons_of_mem _ he))
          obtain ⟨a1, a2, k⟩ := ho lv st h _ hs
          obtain ⟨b1, b2⟩ := run_mono hc n pc' _ lv' st' hh r h' hi' hr
          exact k p e R s m args below meth c _ C hfr hlo H locs ls c0 s0 hW hl hm h1 h2 (by omega) (by omega) (fun H' locs' ls' hW' hl' => ih pc' _ lv' st' hh r h' hi' hr p e R s m args below meth c C hfr hlo H' locs' ls' c0 s0 hW' hl' hm (by omega) (by omega) h3 h4)
      · cases hr
/-- all methods, d calls deep, f steps each -/
def callD (code : Nat → List Ent) (mI : Nat → MI) (f : Nat) : Nat → Call
  | 0 => fun _ _ _ => none
  | d + 1 => fun id as h => if cats as ≤ (mI id).2.2.1 then run (callD code mI f d) (code id) f 0 (code id) (lv_args 0 as) [] h else none
theorem lg_len (vs : List Value) : (lg_sl vs).length = cats vs := by
  unfold lg_sl cats
  induction vs with
  | nil => rfl
  | cons v r ih =>
    rw [List.flatMap_cons, List.length_append, ih, List.map_cons, List.sum_cons]
    congr 1
    rcases lv_cat v with q | q <;> rw [q] <;> rfl
/-- a method is as its table says -/
def MOk (l : Launch) (D : va_G) (cA : Nat → ClassId) (B : Nat × Nat) (md : Bool) (mI : Nat → MI) (code : Nat → List Ent) (id : Nat) : Prop :=
  code id = [] ∨ (plainName (mI id).1.cls = true ∧ ((mI id).2.2.2.2 = true → (mI id).1.name = "<init>") ∧ ∀ (d : Nat) (call : Call), COk l D cA B md d mI call → ∀ e ∈ code id, EOk l (mI id).1.cls (mI id).2.1 (mI id).2.2.1 (mI id).2.2.2.1 (mI id).2.2.2.2 D cA B md d call e)
theorem call_ok {l : Launch} {D : va_G} {cA : Nat → ClassId} {B : Nat × Nat} {md : Bool} {mI : Nat → MI} {code : Nat → List Ent} (hm : ∀ id, MOk l D cA B md mI code id) (f : Nat) : ∀ d, COk l D cA B md d mI (callD code mI f d) := by
  intro d
  induction d with
  | zero => intro id as h r h' hc; cases hc
  | succ d ih =>
    intro id as h r h' hc
    unfold callD at hc
    split at hc
    · next hcat =>
      rcases hm id with h0 | ⟨hpl, hini, hmk⟩
      · rw [h0] at hc
        cases f <;> (unfold run at hc; cases hc)
      · have hall := hmk d _ ih
        obtain ⟨a1, a2⟩ := run_mono hall f 0 _ _ _ h r h' (fun _ z => z) hc
        refine ⟨a1, a2, ?_⟩
        refine Met.ofW (cc := (mI id).2.1) (maxL := (mI id).2.2.1) (ret := (mI id).2.2.2.1) hpl rfl ?_
        intro p e s m args below meth c s₁ Bd hml hv
        obtain ⟨rfl, hv1, hv2, hv3, hv4, hv5⟩ := hv
        have hts := atoms_spec (ws := mWs (mI id).1 (mI id).2.1 (mI id).2.2.1 (mI id).2.2.2.1) Bd.pre
        have hCx : Cx (mI id).1.cls (mI id).2.1 (mI id).2.2.1 (mI id).2.2.2.1 (mI id).2.2.2.2 D cA B p s m (as.map (dv B)).toArray meth c :=
          ⟨Bd.exec, Bd.bytes, hml, findClass_of_methodNamed Bd.named, fun w hw => hts w (List.mem_cons_of_mem _ hw), Bd.returns, Bd.notSynchronized, fun z => (name_of_methodNamed Bd.named Bd.method).1.trans (hini z), hv3, hv4, hv1⟩
        have hlen : (lg_sl (as.map (dv B))).length ≤ (mI id).2.2.1 := by
          rw [lg_len]
          show ((as.map (dv B)).map fun v => v.category).sum ≤ _
          rw [cats_dv]
          exact hcat
        have hl := lv_entry (as.map (dv B)) hlen
        rw [dl_args] at hl
        rw [lg_entry_eq]
        have k := run_ok hall f 0 _ (lv_args 0 as) [] h r h' (fun _ z => z) hc p e (rmD (d + 1) (h'.length - h.length) (sl h' - sl h)) s m (as.map (dv B)).toArray below meth c hCx (Nat.le_refl _) (Nat.le_refl _) s.heap [] _ h.length (sl h) ⟨hv2, va_S.rf⟩ hl hv5 (Nat.le_refl _) (Nat.le_refl _) (Nat.le_refl _) (Nat.le_refl _)
        rw [Nat.sub_self, Nat.sub_self] at k
        exact k
    · cases hc
end
