section
-- ===== PART A: goes FIRST, ahead of the names: the tables' words, and 'selects' of the private methods out of them =====
/-- a private method of a class that the tables say can be made, by its rows of tables_1 -/
def lw_okq (q : MethodName × Nat) : Prop := (q.1.cls ≠ "java/lang/invoke/MethodHandle" ∧ q.1.cls ≠ "java/lang/invoke/VarHandle") ∧ Cond.instantiable q.1.cls q.2 ∈ tables_1 ∧ Cond.privateMethod q.1 ∈ tables_1 ∧ Cond.instanceMethod q.1 ∈ tables_1
theorem lw_p0 : lw_okq (⟨"PutAwayAssign", "isGroup", "(I)Z"⟩, 11) := ⟨⟨by decide +kernel, by decide +kernel⟩, List.mem_of_getElem? (i := 17) (by decide +kernel), List.mem_of_getElem? (i := 145) (by decide +kernel), List.mem_of_getElem? (i := 146) (by decide +kernel)⟩
theorem lw_p1 : lw_okq (⟨"PutAwayAssign", "isIn", "(II)Z"⟩, 11) := ⟨⟨by decide +kernel, by decide +kernel⟩, List.mem_of_getElem? (i := 17) (by decide +kernel), List.mem_of_getElem? (i := 149) (by decide +kernel), List.mem_of_getElem? (i := 150) (by decide +kernel)⟩
theorem lw_p2 : lw_okq (⟨"PutAwayAssign", "gather", "(I)LPutAwayAssign$Group;"⟩, 11) := ⟨⟨by decide +kernel, by decide +kernel⟩, List.mem_of_getElem? (i := 17) (by decide +kernel), List.mem_of_getElem? (i := 153) (by decide +kernel), List.mem_of_getElem? (i := 154) (by decide +kernel)⟩
theorem lw_p3 : lw_okq (⟨"PutAwayAssign", "cheapestPlace", "(LPutAwayAssign$Group;I)I"⟩, 11) := ⟨⟨by decide +kernel, by decide +kernel⟩, List.mem_of_getElem? (i := 17) (by decide +kernel), List.mem_of_getElem? (i := 168) (by decide +kernel), List.mem_of_getElem? (i := 169) (by decide +kernel)⟩
theorem lw_p4 : lw_okq (⟨"PutAwayAssign", "brokenRule", "(LPutAwayAssign$Group;I)I"⟩, 11) := ⟨⟨by decide +kernel, by decide +kernel⟩, List.mem_of_getElem? (i := 17) (by decide +kernel), List.mem_of_getElem? (i := 172) (by decide +kernel), List.mem_of_getElem? (i := 173) (by decide +kernel)⟩
theorem lw_p5 : lw_okq (⟨"PutAwayAssign", "costAt", "(LPutAwayAssign$Group;I)I"⟩, 11) := ⟨⟨by decide +kernel, by decide +kernel⟩, List.mem_of_getElem? (i := 17) (by decide +kernel), List.mem_of_getElem? (i := 176) (by decide +kernel), List.mem_of_getElem? (i := 177) (by decide +kernel)⟩
theorem lw_p6 : lw_okq (⟨"PutAwayAssign", "groupCount", "()I"⟩, 11) := ⟨⟨by decide +kernel, by decide +kernel⟩, List.mem_of_getElem? (i := 17) (by decide +kernel), List.mem_of_getElem? (i := 184) (by decide +kernel), List.mem_of_getElem? (i := 185) (by decide +kernel)⟩
theorem lw_p7 : lw_okq (⟨"PutAwayAssign", "doneCount", "()I"⟩, 11) := ⟨⟨by decide +kernel, by decide +kernel⟩, List.mem_of_getElem? (i := 17) (by decide +kernel), List.mem_of_getElem? (i := 188) (by decide +kernel), List.mem_of_getElem? (i := 189) (by decide +kernel)⟩
theorem lw_p8 : lw_okq (⟨"java/lang/Throwable", "fillInStackTrace", "(I)Ljava/lang/Throwable;"⟩, 6) := ⟨⟨by decide +kernel, by decide +kernel⟩, List.mem_of_getElem? (i := 244) (by decide +kernel), List.mem_of_getElem? (i := 242) (by decide +kernel), List.mem_of_getElem? (i := 243) (by decide +kernel)⟩
theorem lw_p9 : lw_okq (⟨"PutAwayAssign", "unitOf", "(I)LPutAwayAssign$Unit;"⟩, 11) := ⟨⟨by decide +kernel, by decide +kernel⟩, List.mem_of_getElem? (i := 17) (by decide +kernel), List.mem_of_getElem? (i := 381) (by decide +kernel), List.mem_of_getElem? (i := 382) (by decide +kernel)⟩
theorem lw_p10 : lw_okq (⟨"PutAwayAssign", "placeOf", "(I)LPutAwayAssign$Place;"⟩, 11) := ⟨⟨by decide +kernel, by decide +kernel⟩, List.mem_of_getElem? (i := 17) (by decide +kernel), List.mem_of_getElem? (i := 401) (by decide +kernel), List.mem_of_getElem? (i := 402) (by decide +kernel)⟩
theorem lw_p11 : lw_okq (⟨"PutAwayAssign", "join", "(II)V"⟩, 11) := ⟨⟨by decide +kernel, by decide +kernel⟩, List.mem_of_getElem? (i := 17) (by decide +kernel), List.mem_of_getElem? (i := 444) (by decide +kernel), List.mem_of_getElem? (i := 445) (by decide +kernel)⟩
theorem lw_p12 : lw_okq (⟨"PutAwayAssign", "planFor", "(II)V"⟩, 11) := ⟨⟨by decide +kernel, by decide +kernel⟩, List.mem_of_getElem? (i := 17) (by decide +kernel), List.mem_of_getElem? (i := 448) (by decide +kernel), List.mem_of_getElem? (i := 449) (by decide +kernel)⟩
theorem lw_p13 : lw_okq (⟨"PutAwayAssign", "draftBest", "()I"⟩, 11) := ⟨⟨by decide +kernel, by decide +kernel⟩, List.mem_of_getElem? (i := 17) (by decide +kernel), List.mem_of_getElem? (i := 476) (by decide +kernel), List.mem_of_getElem? (i := 477) (by decide +kernel)⟩
theorem lw_p14 : lw_okq (⟨"PutAwayAssign", "offerPlaces", "(LPutAwayAssign$Group;)V"⟩, 11) := ⟨⟨by decide +kernel, by decide +kernel⟩, List.mem_of_getElem? (i := 17) (by decide +kernel), List.mem_of_getElem? (i := 485) (by decide +kernel), List.mem_of_getElem? (i := 486) (by decide +kernel)⟩
theorem lw_p15 : lw_okq (⟨"PutAwayAssign$BestPlan", "giveColumn", "(I)V"⟩, 9) := ⟨⟨by decide +kernel, by decide +kernel⟩, List.mem_of_getElem? (i := 65) (by decide +kernel), List.mem_of_getElem? (i := 505) (by decide +kernel), List.mem_of_getElem? (i := 506) (by decide +kernel)⟩
def lw_privs_1 : List (MethodName × Nat) := [(⟨"PutAwayAssign", "isGroup", "(I)Z"⟩, 11), (⟨"PutAwayAssign", "isIn", "(II)Z"⟩, 11), (⟨"PutAwayAssign", "gather", "(I)LPutAwayAssign$Group;"⟩, 11), (⟨"PutAwayAssign", "cheapestPlace", "(LPutAwayAssign$Group;I)I"⟩, 11), (⟨"PutAwayAssign", "brokenRule", "(LPutAwayAssign$Group;I)I"⟩, 11), (⟨"PutAwayAssign", "costAt", "(LPutAwayAssign$Group;I)I"⟩, 11), (⟨"PutAwayAssign", "groupCount", "()I"⟩, 11), (⟨"PutAwayAssign", "doneCount", "()I"⟩, 11), (⟨"java/lang/Throwable", "fillInStackTrace", "(I)Ljava/lang/Throwable;"⟩, 6), (⟨"PutAwayAssign", "unitOf", "(I)LPutAwayAssign$Unit;"⟩, 11), (⟨"PutAwayAssign", "placeOf", "(I)LPutAwayAssign$Place;"⟩, 11), (⟨"PutAwayAssign", "join", "(II)V"⟩, 11), (⟨"PutAwayAssign", "planFor", "(II)V"⟩, 11), (⟨"PutAwayAssign", "draftBest", "()I"⟩, 11), (⟨"PutAwayAssign", "offerPlaces", "(LPutAwayAssign$Group;)V"⟩, 11), (⟨"PutAwayAssign$BestPlan", "giveColumn", "(I)V"⟩, 9)]
theorem lw_r1 : ∀ q ∈ lw_privs_1, lw_okq q := List.forall_mem_cons.mpr ⟨lw_p0, List.forall_mem_cons.mpr ⟨lw_p1, List.forall_mem_cons.mpr ⟨lw_p2, List.forall_mem_cons.mpr ⟨lw_p3, List.forall_mem_cons.mpr ⟨lw_p4, List.forall_mem_cons.mpr ⟨lw_p5, List.forall_mem_cons.mpr ⟨lw_p6, List.forall_mem_cons.mpr ⟨lw_p7, List.forall_mem_cons.mpr ⟨lw_p8, List.forall_mem_cons.mpr ⟨lw_p9, List.forall_mem_cons.mpr ⟨lw_p10, List.forall_mem_cons.mpr ⟨lw_p11, List.forall_mem_cons.mpr ⟨lw_p12, List.forall_mem_cons.mpr ⟨lw_p13, List.forall_mem_cons.mpr ⟨lw_p14, List.forall_mem_cons.mpr ⟨lw_p15, fun _ h => absurd h List.not_mem_nil⟩⟩⟩⟩⟩⟩⟩⟩⟩⟩⟩⟩⟩⟩⟩⟩
theorem lw_p16 : lw_okq (⟨"PutAwayAssign$BestPlan", "measureFrom", "(I)V"⟩, 9) := ⟨⟨by decide +kernel, by decide +kernel⟩, List.mem_of_getElem? (i := 65) (by decide +kernel), List.mem_of_getElem? (i := 510) (by decide +kernel), List.mem_of_getElem? (i := 511) (by decide +kernel)⟩
theorem lw_p17 : lw_okq (⟨"PutAwayAssign$BestPlan", "nearestColumn", "()I"⟩, 9) := ⟨⟨by decide +kernel, by decide +kernel⟩, List.mem_of_getElem? (i := 65) (by decide +kernel), List.mem_of_getElem? (i := 514) (by decide +kernel), List.mem_of_getElem? (i := 515) (by decide +kernel)⟩
theorem lw_p18 : lw_okq (⟨"PutAwayAssign$BestPlan", "shiftBy", "(J)V"⟩, 9) := ⟨⟨by decide +kernel, by decide +kernel⟩, List.mem_of_getElem? (i := 65) (by decide +kernel), List.mem_of_getElem? (i := 518) (by decide +kernel), List.mem_of_getElem? (i := 519) (by decide +kernel)⟩
theorem lw_p19 : lw_okq (⟨"PutAwayAssign", "draftOneByOne", "()I"⟩, 11) := ⟨⟨by decide +kernel, by decide +kernel⟩, List.mem_of_getElem? (i := 17) (by decide +kernel), List.mem_of_getElem? (i := 526) (by decide +kernel), List.mem_of_getElem? (i := 527) (by decide +kernel)⟩
theorem lw_p20 : lw_okq (⟨"PutAwayAssign", "takeDraft", "()V"⟩, 11) := ⟨⟨by decide +kernel, by decide +kernel⟩, List.mem_of_getElem? (i := 17) (by decide +kernel), List.mem_of_getElem? (i := 530) (by decide +kernel), List.mem_of_getElem? (i := 531) (by decide +kernel)⟩
theorem lw_p21 : lw_okq (⟨"PutAwayAssign", "finish", "(I)V"⟩, 11) := ⟨⟨by decide +kernel, by decide +kernel⟩, List.mem_of_getElem? (i := 17) (by decide +kernel), List.mem_of_getElem? (i := 560) (by decide +kernel), List.mem_of_getElem? (i := 561) (by decide +kernel)⟩
theorem lw_p22 : lw_okq (⟨"PutAwayAssign", "groupPlannedFor", "(I)I"⟩, 11) := ⟨⟨by decide +kernel, by decide +kernel⟩, List.mem_of_getElem? (i := 17) (by decide +kernel), List.mem_of_getElem? (i := 572) (by decide +kernel), List.mem_of_getElem? (i := 573) (by decide +kernel)⟩
theorem lw_p23 : lw_okq (⟨"PutAwayAssign", "plannedPlaces", "()I"⟩, 11) := ⟨⟨by decide +kernel, by decide +kernel⟩, List.mem_of_getElem? (i := 17) (by decide +kernel), List.mem_of_getElem? (i := 576) (by decide +kernel), List.mem_of_getElem? (i := 577) (by decide +kernel)⟩
theorem lw_p24 : lw_okq (⟨"PutAwayAssign", "plannedCosts", "()I"⟩, 11) := ⟨⟨by decide +kernel, by decide +kernel⟩, List.mem_of_getElem? (i := 17) (by decide +kernel), List.mem_of_getElem? (i := 596) (by decide +kernel), List.mem_of_getElem? (i := 597) (by decide +kernel)⟩
theorem lw_p25 : lw_okq (⟨"PutAwayAssign", "goesTo", "(LPutAwayAssign$Unit;I)Z"⟩, 11) := ⟨⟨by decide +kernel, by decide +kernel⟩, List.mem_of_getElem? (i := 17) (by decide +kernel), List.mem_of_getElem? (i := 623) (by decide +kernel), List.mem_of_getElem? (i := 624) (by decide +kernel)⟩
theorem lw_p26 : lw_okq (⟨"PutAwayAssignModel", "isUnit", "(I)Z"⟩, 26) := ⟨⟨by decide +kernel, by decide +kernel⟩, List.mem_of_getElem? (i := 635) (by decide +kernel), List.mem_of_getElem? (i := 743) (by decide +kernel), List.mem_of_getElem? (i := 744) (by decide +kernel)⟩
theorem lw_p27 : lw_okq (⟨"PutAwayAssignModel", "isPlace", "(I)Z"⟩, 26) := ⟨⟨by decide +kernel, by decide +kernel⟩, List.mem_of_getElem? (i := 635) (by decide +kernel), List.mem_of_getElem? (i := 747) (by decide +kernel), List.mem_of_getElem? (i := 748) (by decide +kernel)⟩
theorem lw_p28 : lw_okq (⟨"PutAwayAssignModel", "collect", "()V"⟩, 26) := ⟨⟨by decide +kernel, by decide +kernel⟩, List.mem_of_getElem? (i := 635) (by decide +kernel), List.mem_of_getElem? (i := 772) (by decide +kernel), List.mem_of_getElem? (i := 773) (by decide +kernel)⟩
theorem lw_p29 : lw_okq (⟨"PutAwayAssignModel", "isGroup", "(I)Z"⟩, 26) := ⟨⟨by decide +kernel, by decide +kernel⟩, List.mem_of_getElem? (i := 635) (by decide +kernel), List.mem_of_getElem? (i := 776) (by decide +kernel), List.mem_of_getElem? (i := 777) (by decide +kernel)⟩
theorem lw_p30 : lw_okq (⟨"PutAwayAssignModel", "isAllowed", "(III)Z"⟩, 26) := ⟨⟨by decide +kernel, by decide +kernel⟩, List.mem_of_getElem? (i := 635) (by decide +kernel), List.mem_of_getElem? (i := 780) (by decide +kernel), List.mem_of_getElem? (i := 781) (by decide +kernel)⟩
theorem lw_p31 : lw_okq (⟨"PutAwayAssignModel", "keeps", "(III)Z"⟩, 26) := ⟨⟨by decide +kernel, by decide +kernel⟩, List.mem_of_getElem? (i := 635) (by decide +kernel), List.mem_of_getElem? (i := 784) (by decide +kernel), List.mem_of_getElem? (i := 785) (by decide +kernel)⟩
def lw_privs_2 : List (MethodName × Nat) := [(⟨"PutAwayAssign$BestPlan", "measureFrom", "(I)V"⟩, 9), (⟨"PutAwayAssign$BestPlan", "nearestColumn", "()I"⟩, 9), (⟨"PutAwayAssign$BestPlan", "shiftBy", "(J)V"⟩, 9), (⟨"PutAwayAssign", "draftOneByOne", "()I"⟩, 11), (⟨"PutAwayAssign", "takeDraft", "()V"⟩, 11), (⟨"PutAwayAssign", "finish", "(I)V"⟩, 11), (⟨"PutAwayAssign", "groupPlannedFor", "(I)I"⟩, 11), (⟨"PutAwayAssign", "plannedPlaces", "()I"⟩, 11), (⟨"PutAwayAssign", "plannedCosts", "()I"⟩, 11), (⟨"PutAwayAssign", "goesTo", "(LPutAwayAssign$Unit;I)Z"⟩, 11), (⟨"PutAwayAssignModel", "isUnit", "(I)Z"⟩, 26), (⟨"PutAwayAssignModel", "isPlace", "(I)Z"⟩, 26), (⟨"PutAwayAssignModel", "collect", "()V"⟩, 26), (⟨"PutAwayAssignModel", "isGroup", "(I)Z"⟩, 26), (⟨"PutAwayAssignModel", "isAllowed", "(III)Z"⟩, 26), (⟨"PutAwayAssignModel", "keeps", "(III)Z"⟩, 26)]
theorem lw_r2 : ∀ q ∈ lw_privs_2, lw_okq q := List.forall_mem_cons.mpr ⟨lw_p16, List.forall_mem_cons.mpr ⟨lw_p17, List.forall_mem_cons.mpr ⟨lw_p18, List.forall_mem_cons.mpr ⟨lw_p19, List.forall_mem_cons.mpr ⟨lw_p20, List.forall_mem_cons.mpr ⟨lw_p21, List.forall_mem_cons.mpr ⟨lw_p22, List.forall_mem_cons.mpr ⟨lw_p23, List.forall_mem_cons.mpr ⟨lw_p24, List.forall_mem_cons.mpr ⟨lw_p25, List.forall_mem_cons.mpr ⟨lw_p26, List.forall_mem_cons.mpr ⟨lw_p27, List.forall_mem_cons.mpr ⟨lw_p28, List.forall_mem_cons.mpr ⟨lw_p29, List.forall_mem_cons.mpr ⟨lw_p30, List.forall_mem_cons.mpr ⟨lw_p31, fun _ h => absurd h List.not_mem_nil⟩⟩⟩⟩⟩⟩⟩⟩⟩⟩⟩⟩⟩⟩⟩⟩
theorem lw_p32 : lw_okq (⟨"PutAwayAssignModel", "sizeOf", "(I)I"⟩, 26) := ⟨⟨by decide +kernel, by decide +kernel⟩, List.mem_of_getElem? (i := 635) (by decide +kernel), List.mem_of_getElem? (i := 788) (by decide +kernel), List.mem_of_getElem? (i := 789) (by decide +kernel)⟩
theorem lw_p33 : lw_okq (⟨"PutAwayAssignModel", "costOf", "(II)I"⟩, 26) := ⟨⟨by decide +kernel, by decide +kernel⟩, List.mem_of_getElem? (i := 635) (by decide +kernel), List.mem_of_getElem? (i := 792) (by decide +kernel), List.mem_of_getElem? (i := 793) (by decide +kernel)⟩
theorem lw_p34 : lw_okq (⟨"PutAwayAssignModel", "best", "()V"⟩, 26) := ⟨⟨by decide +kernel, by decide +kernel⟩, List.mem_of_getElem? (i := 635) (by decide +kernel), List.mem_of_getElem? (i := 796) (by decide +kernel), List.mem_of_getElem? (i := 797) (by decide +kernel)⟩
theorem lw_p35 : lw_okq (⟨"PutAwayAssignModel", "lay", "(I)V"⟩, 26) := ⟨⟨by decide +kernel, by decide +kernel⟩, List.mem_of_getElem? (i := 635) (by decide +kernel), List.mem_of_getElem? (i := 800) (by decide +kernel), List.mem_of_getElem? (i := 801) (by decide +kernel)⟩
theorem lw_p36 : lw_okq (⟨"PutAwayAssignModel", "oneByOne", "()V"⟩, 26) := ⟨⟨by decide +kernel, by decide +kernel⟩, List.mem_of_getElem? (i := 635) (by decide +kernel), List.mem_of_getElem? (i := 805) (by decide +kernel), List.mem_of_getElem? (i := 806) (by decide +kernel)⟩
theorem lw_p37 : lw_okq (⟨"PutAwayAssignModel", "cheapest", "(II)I"⟩, 26) := ⟨⟨by decide +kernel, by decide +kernel⟩, List.mem_of_getElem? (i := 635) (by decide +kernel), List.mem_of_getElem? (i := 809) (by decide +kernel), List.mem_of_getElem? (i := 810) (by decide +kernel)⟩
theorem lw_p38 : lw_okq (⟨"PutAwayAssignModel", "plannedFor", "(I)I"⟩, 26) := ⟨⟨by decide +kernel, by decide +kernel⟩, List.mem_of_getElem? (i := 635) (by decide +kernel), List.mem_of_getElem? (i := 837) (by decide +kernel), List.mem_of_getElem? (i := 838) (by decide +kernel)⟩
theorem lw_p39 : lw_okq (⟨"PutAwayAssignModel", "isPlanned", "(I)Z"⟩, 26) := ⟨⟨by decide +kernel, by decide +kernel⟩, List.mem_of_getElem? (i := 635) (by decide +kernel), List.mem_of_getElem? (i := 853) (by decide +kernel), List.mem_of_getElem? (i := 854) (by decide +kernel)⟩
def lw_privs_3 : List (MethodName × Nat) := [(⟨"PutAwayAssignModel", "sizeOf", "(I)I"⟩, 26), (⟨"PutAwayAssignModel", "costOf", "(II)I"⟩, 26), (⟨"PutAwayAssignModel", "best", "()V"⟩, 26), (⟨"PutAwayAssignModel", "lay", "(I)V"⟩, 26), (⟨"PutAwayAssignModel", "oneByOne", "()V"⟩, 26), (⟨"PutAwayAssignModel", "cheapest", "(II)I"⟩, 26), (⟨"PutAwayAssignModel", "plannedFor", "(I)I"⟩, 26), (⟨"PutAwayAssignModel", "isPlanned", "(I)Z"⟩, 26)]
theorem lw_r3 : ∀ q ∈ lw_privs_3, lw_okq q := List.forall_mem_cons.mpr ⟨lw_p32, List.forall_mem_cons.mpr ⟨lw_p33, List.forall_mem_cons.mpr ⟨lw_p34, List.forall_mem_cons.mpr ⟨lw_p35, List.forall_mem_cons.mpr ⟨lw_p36, List.forall_mem_cons.mpr ⟨lw_p37, List.forall_mem_cons.mpr ⟨lw_p38, List.forall_mem_cons.mpr ⟨lw_p39, fun _ h => absurd h List.not_mem_nil⟩⟩⟩⟩⟩⟩⟩⟩
def lw_privs : List (MethodName × Nat) := lw_privs_1 ++ (lw_privs_2 ++ (lw_privs_3))
def lw_tbl : List Cond := k2_sels lw_privs ++ tables_1
theorem lw_privs_ok : ∀ q ∈ lw_privs, lw_okq q := by
  show ∀ q ∈ lw_privs_1 ++ (lw_privs_2 ++ (lw_privs_3)), lw_okq q
  exact List.forall_mem_append.mpr ⟨lw_r1, List.forall_mem_append.mpr ⟨lw_r2, lw_r3⟩⟩
end
section
/-! ===== BEGIN words of one list among another's, by their places ===== -/
theorem goodIn_r {big : List Cond} (ws : List Cond) (ps : List Nat) (hp : ws = ps.filterMap (fun i => big[i]?)) (h : ws.all goodWord = true) : GoodIn big ws := by
  intro w hw
  have h1 := List.all_eq_true.mp h w hw
  rw [hp] at hw
  obtain ⟨i, -, hi⟩ := List.mem_filterMap.mp hw
  have hm : w ∈ big := by first | exact List.mem_of_getElem? hi | exact List.getElem?_mem hi
  exact ⟨hm, good_of_word h1⟩
theorem goodIn_app {big a b : List Cond} (ha : GoodIn big a) (hb : GoodIn big b) : GoodIn big (a ++ b) := fun w h => (List.mem_append.mp h).elim (ha w) (hb w)
theorem goodIn_ca {big a b : List Cond} {c : Cond} (ha : GoodIn big (c :: a)) (hb : GoodIn big b) : GoodIn big (c :: (a ++ b)) := fun w h => (List.mem_cons.mp h).elim (fun e => ha w (List.mem_cons.mpr (Or.inl e))) (fun h => (List.mem_append.mp h).elim (fun h => ha w (List.mem_cons.mpr (Or.inr h))) (hb w))
theorem goodIn_sub {big ws : List Cond} (hm : ∀ w ∈ ws, w ∈ big) (h : ws.all goodWord = true) : GoodIn big ws := fun w hw => ⟨hm w hw, good_of_word (List.all_eq_true.mp h w hw)⟩
/-! ===== END ===== -/

/-! ===== BEGIN new T[n][m]: the outer array a place, the inner ones among the pooled ===== -/
/-- f, but v at every address of l -/
def vr_up {α : Type} (f : Nat → α) (l : List Nat) (v : α) : Nat → α := fun a => if a ∈ l then v else f a
theorem vr_up_in {α : Type} {f : Nat → α} {l : List Nat} {v : α} {a : Nat} (h : a ∈ l) : vr_up f l v a = v := if_pos h
theorem vr_up_ne {α : Type} {f : Nat → α} {l : List Nat} {v : α} {a : Nat} (h : a ∉ l) : vr_up f l v a = f a := if_neg h
theorem vr_rows {L l : List Nat} {f : Nat → va_E} {e : va_E} (h : ∀ a, a ∈ l → a ∉ L) : va_pl L f ++ l.map (fun a => (a, e)) = va_pl (L ++ l) (vr_up f l e) := by
  unfold va_pl
  rw [List.map_append]
  congr 1
  · apply List.map_congr_left
    intro a ha
    rw [vr_up_ne (fun q => h a q ha)]
  · apply List.map_congr_left
    intro a ha
    rw [vr_up_in ha]
theorem vr_lay {X rows : va_W} {x : Nat × va_E} {pl : va_W} {D : va_G} {cl : List vw_C} {H : Heap} (hP : va_P D cl (((X ++ pl) ++ [x]) ++ rows) H) : va_P D cl ((X ++ [x]) ++ (pl ++ rows)) H := by
  rw [List.append_assoc (X ++ pl)] at hP
  have h := va_P.swap hP
  rw [← List.append_assoc X] at h
  have h2 := va_P.swap h
  rw [List.append_assoc (X ++ [x])] at h2
  exact h2
theorem vr_layD {X rows : va_W} {x : Nat × va_E} {pl : va_W} {A : Nat → Prop} (hD : va_D A (((X ++ pl) ++ [x]) ++ rows)) : va_D A ((X ++ [x]) ++ (pl ++ rows)) := by
  rw [List.append_assoc (X ++ pl)] at hD
  have h := va_D.swap hD
  rw [← List.append_assoc X] at h
  have h2 := va_D.swap h
  rw [List.append_assoc (X ++ [x])] at h2
  exact h2
theorem vr_outer (c : ClassId) (N h0 : Nat) : ∀ i : Nat, Jvm.Free.Multi.outerC c N h0 i = arrV c N (fun j => va_rf (if j < i then some (h0 + 1 + j) else none))
  | 0 => by
    show ({ cls := c, slots := Array.replicate N .null, vm := .none } : Cell) = _
    rw [arrV_new]
    refine congrArg (arrV c N) (funext fun j => ?_)
    simp [va_rf]
  | i + 1 => by
    show (Jvm.Free.Multi.outerC c N h0 i).setSlot i (.ref (h0 + 1 + i)) = _
    rw [vr_outer c N h0 i, arrV_store]
    refine congrArg (arrV c N) (funext fun j => ?_)
    by_cases e : j = i
    · subst e
      simp [updV, va_rf]
    · by_cases h : j < i
      · simp [updV, e, h, Nat.lt_succ_of_lt h]
      · simp [updV, e, h, show ¬ j < i + 1 by omega]
def va_AOA (ty : FieldType) (U : State) : Prop := (Cond.arrayOver (.array ty)).before #[] U = true
theorem va_AOA.use {ty : FieldType} {A : Array Value} {U : State} (h : va_AOA ty U) : (Cond.arrayOver (.array ty)).before A U = true := h
section VGM
variable {p : Program} {l : Launch} {e : Env} {R : Room} {s : State} {m : MethodId} {args : Array Value} {below : List Frame} {meth : Method} {c : Code} {H : Heap} {locs : List Loc} {cells slots : Nat} {Q : State → Prop}
variable {cc : ByteArray} {pc : Nat} {ls : Array Slot} {rest : List Value} {D : va_G} {cl : List vw_C} {A : Nat → Prop} {a : Nat} {tys : List (ClassId × FieldType)} {ws : va_W} {H0 : Heap}
theorem va_mna {X : va_W} {L : List Nat} {f : Nat → va_E} {cc : ByteArray} (hexec : p.tables.exec = Jvm.exec) (hb : c.code = cc) {own : String} {index : Nat} {ty : FieldType} {cy : ClassId} (hown : s.vm.findClass own = some m.cls) (hclink : (Cond.classLink own index ("[" ++ (FieldType.array ty).toString)).before args s = true) (hover : va_AOA ty s) (harr : (Cond.arrayClass ty).before args s = true) (hcy : s.vm.findClass (FieldType.array ty).toString = some cy)
    (hK : va_K D cl tys s) (hP : va_P D cl (X ++ va_pl L f) H) (hD : va_D A (X ++ va_pl L f)) (hS : va_S A H0 H locs) (hA : ∀ q, H0.size ≤ q → A q) {n k : Int32} {N' K' : Nat} {z : vp_A} (hn : ¬ n < 0) (hk : ¬ k < 0) (hN : n.toNatClampNeg = N') (hM : k.toNatClampNeg = K')
    (hb1 : N' * 4 ≤ 536870912) (hb2 : K' * componentBytes ty ≤ 536870912) (hb3 : K' ≤ 536870912) (hdf : fits ty (defaultValue ty) = true) (hdd : (defaultValue ty).isDefault = true) (hcells : cells + (1 + N') ≤ R.cells) (hslots : slots + (N' + N' * K') ≤ R.slots) (hz : ∀ c : ClassId, Jvm.Free.Multi.innerC c K' (defaultValue ty) = vp_cell c z) (hdg : decode cc pc = .ok (.multianewarray index 2, 4))
    (kk : ∀ (q : Nat) (r : Nat → Nat) (cA : ClassId) (H1 : Heap), (∀ i j : Nat, i < N' → j < N' → r i = r j → i = j) → (∀ i : Nat, i < N' → r i ∉ L) → va_K D cl (tys ++ [(cA, .array ty)]) s →
      va_P D cl ((X ++ [(q, .inl (cA, N', .inr (.inr (.inr (.inr (fun i => if i < N' then some (r i) else none))))))]) ++ va_pl (L ++ (List.range N').map r) (vr_up f ((List.range N').map r) (.inl (cy, z)))) H1 → va_D A ((X ++ [(q, .inl (cA, N', .inr (.inr (.inr (.inr (fun i => if i < N' then some (r i) else none))))))]) ++ va_pl (L ++ (List.range N').map r) (vr_up f ((List.range N').map r) (.inl (cy, z)))) → va_S A H0 H1 locs →
      W p l e R s m args below meth c H1 locs (cells + 1 + N') (slots + N' + N' * K') Q (F0 m (pc + 4) ls (.ref q :: rest))) : W p l e R s m args below meth c H locs cells slots Q (F0 m pc ls (.int k :: .int n :: rest)) := by
  subst hN
  subst hM
  intro T hT Xs
  obtain ⟨vm₁, cA, comp, -, fA, fC, hO, -, X', step⟩ := Xs.multianewarray2F hexec hown hclink (va_AOA.use hover) harr (g := F0 m pc ls (.int k :: .int n :: rest)) rfl (by rw [hb]; exact hdg) rfl hn hk hb1 hb2 hb3 hdf hdd hcells hslots
  have ec : some cy = some comp := hcy.symm.trans fC
  cases ec
  generalize hF : Jvm.Free.Multi.fill (T.setVm vm₁) cA cy n.toNatClampNeg k.toNatClampNeg (defaultValue ty) n.toNatClampNeg = F at X' step
  have hTh : (T.setVm vm₁).heap = H := hT
  obtain ⟨f1, f2, -, -⟩ := Jvm.Free.Multi.fill_facts (T.setVm vm₁) cA cy n.toNatClampNeg k.toNatClampNeg (defaultValue ty) n.toNatClampNeg
  rw [hF, hTh] at f1 f2
  have hold : ∀ x : Nat, x < H.size → F.heap[x]? = H[x]? := fun x hx => by
    have := Jvm.Free.Multi.fill_old (T.setVm vm₁) cA cy n.toNatClampNeg k.toNatClampNeg (defaultValue ty) (a := x) (by rw [hTh]; exact hx) n.toNatClampNeg
    rw [hF, hTh] at this
    exact this
  have hrow : ∀ j : Nat, j < n.toNatClampNeg → F.heap[H.size + 1 + j]? = some (vp_cell cy z) := fun j hj => by
    have := Jvm.Free.Multi.fill_inner (T.setVm vm₁) cA cy n.toNatClampNeg k.toNatClampNeg (defaultValue ty) n.toNatClampNeg j hj
    rw [hF, hTh, hz] at this
    exact this
  have hout : Jvm.Free.Multi.outerC cA n.toNatClampNeg H.size n.toNatClampNeg = vp_cell cA (n.toNatClampNeg, .inr (.inr (.inr (.inr (fun i => if i < n.toNatClampNeg then some (H.size + 1 + i) else none))))) := by
    rw [vp_cell_q]
    exact vr_outer cA n.toNatClampNeg H.size n.toNatClampNeg
  rw [hout] at f2
  have hlt : ∀ a, a ∈ L → a < H.size := fun a ha => by
    obtain ⟨k9, hk9⟩ := va_pl_get (X := X) (f := f) ha
    exact (hP k9 _ hk9).lt
  have hnl : ∀ i : Nat, i < n.toNatClampNeg → H.size + 1 + i ∉ L := fun i _ h => by
    have := hlt _ h
    omega
  have hnm : ∀ a, a ∈ (List.range n.toNatClampNeg).map (fun i => H.size + 1 + i) → a ∉ L := fun a ha h => by
    obtain ⟨i, -, rfl⟩ := List.mem_map.mp ha
    have := hlt _ h
    omega
  have hP0 : va_P D cl (X ++ va_pl L f) F.heap := hP.kept (fun k9 x hx => hold x.1 ((hP k9 x hx).lt))
  have hP1 : va_P D cl ((X ++ va_pl L f) ++ [(H.size, .inl (cA, n.toNatClampNeg, .inr (.inr (.inr (.inr (fun i => if i < n.toNatClampNeg then some (H.size + 1 + i) else none))))))]) F.heap := hP0.app (fun k9 x hx => by
    have h0 : k9 < 1 := (List.getElem?_eq_some_iff.mp hx).1
    rw [show k9 = 0 by omega] at hx
    cases hx
    exact f2)
  have hP2 : va_P D cl (((X ++ va_pl L f) ++ [(H.size, .inl (cA, n.toNatClampNeg, .inr (.inr (.inr (.inr (fun i => if i < n.toNatClampNeg then some (H.size + 1 + i) else none))))))]) ++ ((List.range n.toNatClampNeg).map (fun i => H.size + 1 + i)).map (fun a => (a, .inl (cy, z)))) F.heap := hP1.app (fun k9 x hx => by
    obtain ⟨a, ha, rfl⟩ := List.mem_map.mp (List.mem_of_getElem? hx)
    obtain ⟨i, hi, rfl⟩ := List.mem_map.mp ha
    exact hrow i (List.mem_range.mp hi))
  have hD2 : va_D A (((X ++ va_pl L f) ++ [(H.size, .inl (cA, n.toNatClampNeg, .inr (.inr (.inr (.inr (fun i => if i < n.toNatClampNeg then some (H.size + 1 + i) else none))))))]) ++ ((List.range n.toNatClampNeg).map (fun i => H.size + 1 + i)).map (fun a => (a, .inl (cy, z)))) := by
    have hD1 := hD.push (e := .inl (cA, n.toNatClampNeg, .inr (.inr (.inr (.inr (fun i => if i < n.toNatClampNeg then some (H.size + 1 + i) else none)))))) hP rfl (hA _ hS.1)
    generalize hW1 : (X ++ va_pl L f) ++ [(H.size, .inl (cA, n.toNatClampNeg, .inr (.inr (.inr (.inr (fun i => if i < n.toNatClampNeg then some (H.size + 1 + i) else none))))))] = W1 at hD1 hP1 ⊢
    have hle : ∀ (k9 : Nat) (x : Nat × va_E), W1[k9]? = some x → x.1 ≤ H.size := fun k9 x hx => by
      rw [← hW1] at hx
      by_cases hl : k9 < (X ++ va_pl L f).length
      · rw [List.getElem?_append_left hl] at hx
        exact Nat.le_of_lt ((hP k9 x hx).lt)
      · rw [List.getElem?_append_right (by omega)] at hx
        have h0 : k9 - (X ++ va_pl L f).length < 1 := (List.getElem?_eq_some_iff.mp hx).1
        rw [show k9 - (X ++ va_pl L f).length = 0 by omega] at hx
        cases hx
        exact Nat.le_refl _
    have hr : ∀ (k9 : Nat) (x : Nat × va_E), (((List.range n.toNatClampNeg).map (fun i => H.size + 1 + i)).map (fun a => ((a, .inl (cy, z)) : Nat × va_E)))[k9]? = some x → x.1 = H.size + 1 + k9 := fun k9 x hx => by
      rw [List.getElem?_map, List.getElem?_map] at hx
      by_cases h9 : k9 < n.toNatClampNeg
      · rw [List.getElem?_range h9] at hx
        cases hx
        rfl
      · have hn0 : (List.range n.toNatClampNeg)[k9]? = none := List.getElem?_eq_none (by rw [List.length_range]; omega)
        rw [hn0] at hx
        cases hx
    refine ⟨fun i j x y hi hj hxy => ?_, fun k9 x hx => ?_⟩
    · by_cases h1 : i < W1.length <;> by_cases h2 : j < W1.length
      · rw [List.getElem?_append_left h1] at hi
        rw [List.getElem?_append_left h2] at hj
        exact hD1.1 i j x y hi hj hxy
      · rw [List.getElem?_append_left h1] at hi
        rw [List.getElem?_append_right (by omega)] at hj
        have := hle _ _ hi
        have := hr _ _ hj
        omega
      · rw [List.getElem?_append_right (by omega)] at hi
        rw [List.getElem?_append_left h2] at hj
        have := hle _ _ hj
        have := hr _ _ hi
        omega
      · rw [List.getElem?_append_right (by omega)] at hi hj
        have := hr _ _ hi
        have := hr _ _ hj
        omega
    · by_cases h1 : k9 < W1.length
      · rw [List.getElem?_append_left h1] at hx
        exact hD1.2 k9 x hx
      · rw [List.getElem?_append_right (by omega)] at hx
        have := hr _ _ hx
        exact hA _ (by have := hS.1; omega)
  have hAr : ArrOfT s cA (.array ty) := fun N9 z9 => by
    obtain ⟨-, k9, hk9, cm9, hkk9⟩ := (hO 0 0 0).1
    exact ⟨(fun q hq => by cases hq), k9, hk9, cm9, hkk9⟩
  have hK2 : va_K D cl (tys ++ [(cA, .array ty)]) s := ⟨hK.1, fun k9 x hx => by
    by_cases hl : k9 < tys.length
    · rw [List.getElem?_append_left hl] at hx
      exact hK.2 k9 x hx
    · rw [List.getElem?_append_right (by omega)] at hx
      have h0 : k9 - tys.length < 1 := (List.getElem?_eq_some_iff.mp hx).1
      rw [show k9 - tys.length = 0 by omega] at hx
      cases hx
      exact ⟨hAr, fA⟩⟩
  obtain ⟨t, a1, b1⟩ := kk H.size (fun i => H.size + 1 + i) cA F.heap (fun i j _ _ h => by have h9 : H.size + 1 + i = H.size + 1 + j := h; omega) hnl hK2 (by rw [← vr_rows hnm]; exact vr_lay hP2) (by rw [← vr_rows hnm]; exact vr_layD hD2) ⟨by rw [f1]; have := hS.1; omega, fun x h1 h2 => (hold x (Nat.lt_of_lt_of_le h1 hS.1)).trans (hS.2.1 x h1 h2), hS.2.2⟩ F rfl X'
  refine ⟨t, step t ?_, b1⟩
  have e : T.heap.size = H.size := by rw [hT]
  rw [e]
  exact a1
end VGM
/-! ===== END ===== -/

/-! ===== BEGIN exceptions that leave a method, and their catching by the caller (launches without stack traces) ===== -/
section VXA
/-! The laws vx_back, vx_callV, vx_callS, vx_callSW, vx_throw0, vx_throwS follow proofs of the library, with one case more: JvmDerived/Free/Laws.lean (Back.of_free), Shelf42/LK1.lean (callV, callS), Shelf/KitTraced.lean (throwNew0V, throwNewS). -/
/-- where a method has thrown q: the class by its name, the cell, what was written, the world -/
def vx_T (XC : String → State → State → Prop) (st : State) (q : Addr) (t : State) (mc ms : Nat) (free : Addr → Prop) : Prop :=
  ∃ (E : String) (ce : Cell) (L : List Loc), XC E st t ∧ t.heap[q]? = some ce ∧ ce.vm = .none ∧ st.vm.findClass E = some ce.cls ∧ st.WarmedH t.vm ∧ st.sameButNew ({ t with vm := st.vm } : State) L mc ms ∧ ∀ z ∈ L, free z.base
def vx_Q (Qc : Array Value → State → Outcome → State → Prop) (XC : String → State → State → Prop) (mc ms : Nat) (free : Addr → Prop) : Array Value → State → Outcome → State → Prop := fun a st o t =>
  (Qc a st o t ∧ ∃ L, FrameEnd st o t L mc ms ∧ ∀ q ∈ L, free q.base) ∨ ∃ q, o = .threw q ∧ vx_T XC st q t mc ms free
/-- a callee that returns or throws -/
def vx_Met (l : Launch) (y : MethodName) (ws : List Cond) (rm : Room) (Pc : Array Value → State → Prop) (Qc : Array Value → State → Outcome → State → Prop) (XC : String → State → State → Prop) (mc ms : Nat) (free : Addr → Prop) : Prop :=
  MetFree l y (headSpec ws rm) Pc (fun _ _ _ _ _ => True) (vx_Q Qc XC mc ms free)
def vx_Post (XC : String → State → State → Prop) (mc ms : Nat) (free : Addr → Prop) : Pt → Array Value → Addr → Pt → Prop := fun A a q B =>
  ∃ (g : JFrame) (mk : MethodId) (t : State) (L : List Loc) (E : String) (ce : Cell), B.U.heap = t.heap ∧ B.U.vm = t.vm ∧ XC E (A.U.calling g mk a) t ∧ t.heap[q]? = some ce ∧ ce.vm = .none ∧ A.U.vm.findClass E = some ce.cls ∧ B.locs = A.locs ++ L ∧ (∀ z ∈ L, free z.base) ∧ B.cells = A.cells + mc ∧ B.slots = A.slots + ms
def vx_Back (l : Launch) (R : Room) (p : Program) (e : Env) (below : List Frame) (s : State) (sargs : Array Value) (y : MethodName) (len W9 : Nat)
    (Pre : Pt → Array Value → Prop) (Post : Pt → Array Value → Option Value → Pt → Prop) (PostX : Pt → Array Value → Addr → Pt → Prop) : Prop :=
  ∀ (m : MethodId) (meth : Method) (c : Code) (A : Pt) (g : JFrame) (ig : Instr) (mk : MethodId) (a : Array Value),
    Stand p l e R s m sargs below meth c A.U A.locs A.cells A.slots → g.method = m → g.locals.size = c.maxLocals → decode c.code g.pc = .ok (ig, len) →
    2 * g.monitorRoom + (g.stack.map fun v => v.category).sum ≤ W9 → A.U.methodNamed? y = some mk → Pre A a →
    (∃ (v : Option Value) (B : Pt), Stand p l e R s m sargs below meth c B.U B.locs B.cells B.slots ∧ Post A a v B ∧
      Steps p.tables e below (doInvoke e (A.U.setTop g) [] mk a).1 (B.U.setTop { g with pc := g.pc + len, stack := v.toList ++ g.stack })) ∨
    (∃ (q : Addr) (B : Pt), Stand p l e R s m sargs below meth c B.U B.locs B.cells B.slots ∧ PostX A a q B ∧
      Steps p.tables e below (doInvoke e (A.U.setTop g) [] mk a).1 ((B.U.setTop g).pushFrame (.throwing q)))
section Payer
variable {l : Launch} {R : Room} {p : Program} {e : Env} {below : List Frame} {s : State} {sargs : Array Value} {y : MethodName} {len W9 : Nat}
theorem vx_back {ws : List Cond} {rm : Room} {Pc : Array Value → State → Prop} {Qc : Array Value → State → Outcome → State → Prop} {XC : String → State → State → Prop} {mc ms : Nat} {free : Addr → Prop} {bytes : ByteArray} {maxL : Nat} {ret : Option FieldType}
    (hM : vx_Met l y ws rm Pc Qc XC mc ms free) (hblind : FrameBlind Pc) (hrc : rm.cells = mc) (hrs : rm.slots = ms)
    (hframes : rm.frames + 1 ≤ R.frames) (hlocals : W9 + (maxL + 11) + rm.locals ≤ R.locals)
    (hws : ∀ w ∈ ws, ∀ a' U, s.WarmedH U.vm → w.before a' U = true) (hcode : Cond.code y bytes maxL ret ∈ ws) (hinit : ∀ a' U, s.WarmedH U.vm → (Cond.initialized y.cls).before a' U = true) :
    vx_Back l R p e below s sargs y len W9 (PreOf R mc ms Pc) (PostOf Qc mc ms free) (vx_Post XC mc ms free) := by
  intro m meth c A g ig mk a X hg hsize hdg hW hn hp
  have h1 : (headSpec ws rm).pre.before a A.U = true := atoms_intro fun w hw => hws w hw _ _ X.warmed
  have h2 : (Cond.code y bytes maxL ret).before a A.U = true := hws _ hcode _ _ X.warmed
  have h3 : (Cond.initialized y.cls).before a A.U = true := hinit _ _ X.warmed
  have h4 : A.cells + (headSpec ws rm).room.cells ≤ R.cells := by rw [show (headSpec ws rm).room.cells = mc from hrc]; exact hp.1
  have h5 : A.slots + (headSpec ws rm).room.slots ≤ R.slots := by rw [show (headSpec ws rm).room.slots = ms from hrs]; exact hp.2.1
  have hPc : Pc a (A.U.calling g mk a) := hblind _ _ _ _ hp.2.2
  obtain ⟨U, Ls, c0, s0⟩ := A
  dsimp only [Pt.U, Pt.locs, Pt.cells, Pt.slots] at h1 h2 h3 h4 h5 X hn hPc ⊢
  obtain ⟨methY, cY, hmY, hcY, -, hlY, -, -, -, -⟩ := Cond.code_spec hn h2
  obtain ⟨kY, hkY, -⟩ := className_of_methodNamed hn
  have hinitY : kY.init = .initialized := Cond.initialized_spec (findClass_of_methodNamed hn) hkY h3
  have h : At U g.method c below := by rw [hg]; exact X.here
  have hlocals9 : W9 + (maxL + 11) + (headSpec ws rm).room.locals ≤ R.locals := hlocals
  have happ : (headSpec ws rm).appliesLoose y e.platform (U.calling g mk a) = true :=
    Spec.appliesLoose_calling (g := g) h hdg hn hkY hinitY
      (X.room_calling (g := g) (R' := (headSpec ws rm).room) hsize hmY hcY hframes (by rw [hlY]; omega) h4 h5) h1
  obtain ⟨mid, hmid⟩ := h.above
  have hfr : (U.setTop g).frames = (.java g :: mid) ++ below := by rw [State.frames_setTop' g h.top, hmid]; rfl
  obtain ⟨o, s₂, hsteps, -, hend, hq⟩ := Steps.callFree hM p X.admits X.cas X.clock (acts := []) hfr happ hPc trivial
  have hq' : vx_Q Qc XC mc ms free a (U.calling g mk a) o s₂ := hq
  rw [State.frames_setTop' g h.top] at hend
  obtain ⟨g₀, hg0⟩ := Option.isSome_iff_exists.mp h.top
  obtain ⟨r, hr⟩ := State.topJava?_eq_some.mp hg0
  have hr' : (({ U with heap := s₂.heap, slotsUsed := s₂.slotsUsed } : State).setVm s₂.vm).frames = .java g₀ :: r := hr
  rcases hq' with ⟨hqc, L, hfe, hL⟩ | ⟨q, rfl, E, ce, L, hx, hce, hcv, hcl, hW₂, hsm, hL⟩
  · obtain ⟨⟨v, rfl⟩, hW₂, e2, q2, q3, q4, q5, q6⟩ := id hfe
    have e3 : s₂ = ({ (U.calling g mk a).setFrames s₂.frames with heap := s₂.heap, slotsUsed := s₂.slotsUsed } : State).setVm s₂.vm := by
      have : s₂ = ({ s₂ with vm := (U.calling g mk a).vm } : State).setVm s₂.vm := rfl
      rw [e2] at this
      exact this
    obtain ⟨c₂, i₂, len₂, hc₂, hd₂, hf₂⟩ := hend
    have hW' : U.WarmedH s₂.vm := hW₂
    have hcc : c₂ = c := by
      have h1 : s₂.code? g.method = U.code? g.method := by
        rw [State.code?_eq, State.code?_eq, hW'.alike.method?]
      exact Option.some.inj (hc₂.symm.trans (h1.trans h.code))
    subst hcc
    have hlen : len₂ = len := by rw [hdg] at hd₂; cases hd₂; rfl
    subst hlen
    have hs₂ : s₂ = (({ U with heap := s₂.heap, slotsUsed := s₂.slotsUsed } : State).setVm s₂.vm).setTop { g with pc := g.pc + len₂, stack := v.toList ++ g.stack } := by
      refine e3.trans ?_
      rw [hf₂, State.calling_eq h.top, State.setFrames_setFrames, State.setTop_of_frames _ hr', hr]
      rfl
    have hsame : U.sameButNew ({ U with heap := s₂.heap, slotsUsed := s₂.slotsUsed } : State) L mc ms := by
      refine ⟨?_, q2, q3, q4, q5, q6⟩
      obtain ⟨t, ht, -⟩ := State.frames_cons hr
      show ({ U with heap := s₂.heap, slotsUsed := s₂.slotsUsed } : State) = { U.setFrames U.frames with heap := s₂.heap, slotsUsed := s₂.slotsUsed }
      rw [State.setFrames_self ht]
    subst hg
    refine Or.inl ⟨v, ⟨(({ U with heap := s₂.heap, slotsUsed := s₂.slotsUsed } : State).setVm s₂.vm), Ls ++ L, c0 + mc, s0 + ms⟩,
      ⟨X.admits, X.cas, X.clock, X.frames, X.room, X.hears, X.method, X.code, (X.here.setHeapUsed s₂.heap s₂.slotsUsed).setVm hW'.alike, X.tail, State.WarmedH.trans X.warmed hW', X.limits, X.bytes, X.same.trans (hsame.setVm s.vm)⟩,
      ⟨g, mk, s₂, L, rfl, rfl, hqc, rfl, hL, rfl, rfl⟩, ?_⟩
    show Steps p.tables e below _ ((({ U with heap := s₂.heap, slotsUsed := s₂.slotsUsed } : State).setVm s₂.vm).setTop { g with pc := g.pc + len₂, stack := v.toList ++ g.stack })
    rw [← hs₂]
    exact hsteps
  · obtain ⟨e2, q2, q3, q4, q5, q6⟩ := id hsm
    have e3 : s₂ = ({ (U.calling g mk a).setFrames s₂.frames with heap := s₂.heap, slotsUsed := s₂.slotsUsed } : State).setVm s₂.vm := by
      have : s₂ = ({ s₂ with vm := (U.calling g mk a).vm } : State).setVm s₂.vm := rfl
      rw [e2] at this
      exact this
    have hf₂ : s₂.frames = .throwing q :: .java g :: U.frames.tail := hend
    have hW' : U.WarmedH s₂.vm := hW₂
    have hs₂ : s₂ = ((({ U with heap := s₂.heap, slotsUsed := s₂.slotsUsed } : State).setVm s₂.vm).setTop g).pushFrame (.throwing q) := by
      refine e3.trans ?_
      rw [hf₂, State.calling_eq h.top, State.setFrames_setFrames, State.pushFrame, State.frames_setTop _ hr', State.setTop_of_frames _ hr', State.setFrames_setFrames, hr]
      rfl
    have hsame : U.sameButNew ({ U with heap := s₂.heap, slotsUsed := s₂.slotsUsed } : State) L mc ms := by
      refine ⟨?_, q2, q3, q4, q5, q6⟩
      obtain ⟨t, ht, -⟩ := State.frames_cons hr
      show ({ U with heap := s₂.heap, slotsUsed := s₂.slotsUsed } : State) = { U.setFrames U.frames with heap := s₂.heap, slotsUsed := s₂.slotsUsed }
      rw [State.setFrames_self ht]
    subst hg
    refine Or.inr ⟨q, ⟨(({ U with heap := s₂.heap, slotsUsed := s₂.slotsUsed } : State).setVm s₂.vm), Ls ++ L, c0 + mc, s0 + ms⟩,
      ⟨X.admits, X.cas, X.clock, X.frames, X.room, X.hears, X.method, X.code, (X.here.setHeapUsed s₂.heap s₂.slotsUsed).setVm hW'.alike, X.tail, State.WarmedH.trans X.warmed hW', X.limits, X.bytes, X.same.trans (hsame.setVm s.vm)⟩,
      ⟨g, mk, s₂, L, E, ce, rfl, rfl, hx, hce, hcv, hcl, rfl, hL, rfl, rfl⟩, ?_⟩
    show Steps p.tables e below _ (((({ U with heap := s₂.heap, slotsUsed := s₂.slotsUsed } : State).setVm s₂.vm).setTop g).pushFrame (.throwing q))
    rw [← hs₂]
    exact hsteps
end Payer
section Calls
variable {p : Program} {l : Launch} {e : Env} {R : Room} {s : State} {m : MethodId} {args : Array Value} {below : List Frame} {meth : Method} {c : Code} {T : State} {locs : List Loc} {cells slots : Nat}
theorem vx_callV (X : Stand p l e R s m args below meth c T locs cells slots) (hexec : p.tables.exec = Jvm.exec) {own C : String} {index : Nat} {y : MethodName} {bytes : ByteArray} {maxL : Nat} {ret : Option FieldType}
    (hown : s.vm.findClass own = some m.cls) (hlink : (Cond.methodLink own index y).before args s = true) (hinst : (Cond.instanceMethod y).before args s = true) (hsel : (Cond.selects C y y).before args s = true)
    (hcode : (Cond.code y bytes maxL ret).before args s = true) (hy : y.cls ≠ "java/lang/invoke/MethodHandle" ∧ y.cls ≠ "java/lang/invoke/VarHandle")
    {W9 : Nat} {Pre : Pt → Array Value → Prop} {Post : Pt → Array Value → Option Value → Pt → Prop} {PostX : Pt → Array Value → Addr → Pt → Prop} (hK : vx_Back l R p e below s args y 3 W9 Pre Post PostX)
    {b : Addr} {cellB : Cell} (hcell : T.heap[b]? = some cellB) (hobj : cellB.vm.isStatics = false) (hcls : s.vm.findClass C = some cellB.cls)
    {g : JFrame} (hg : g.method = m) (hsize : g.locals.size = c.maxLocals) {argsL rest : List Value} (hlen : ∀ sig, parseMethodDescriptor y.desc = some sig → argsL.length = sig.parameters.length)
    (hstack : g.stack = argsL.reverse ++ .ref b :: rest) (hW : 2 * g.monitorRoom + (rest.map fun v => v.category).sum ≤ W9) (hdg : decode c.code g.pc = .ok (.invokevirtual index, 3))
    (hpre : ∀ vm₁, s.WarmedH vm₁ → Pre ⟨T.setVm vm₁, locs, cells, slots⟩ (Value.ref b :: argsL).toArray) :
    (∃ (v : Option Value) (vm₁ : Vm) (B : Pt), s.WarmedH vm₁ ∧ Stand p l e R s m args below meth c B.U B.locs B.cells B.slots ∧ Post ⟨T.setVm vm₁, locs, cells, slots⟩ (Value.ref b :: argsL).toArray v B ∧
      ∀ target, Steps p.tables e below (B.U.setTop { g with pc := g.pc + 3, stack := v.toList ++ rest }) target → Steps p.tables e below (T.setTop g) target) ∨
    (∃ (q : Addr) (vm₁ : Vm) (B : Pt), s.WarmedH vm₁ ∧ Stand p l e R s m args below meth c B.U B.locs B.cells B.slots ∧ PostX ⟨T.setVm vm₁, locs, cells, slots⟩ (Value.ref b :: argsL).toArray q B ∧
      Steps p.tables e below (T.setTop g) ((B.U.setTop { g with stack := rest }).pushFrame (.throwing q))) := by
  obtain ⟨mk, methM, hnamed, hmethM, hstM, habM⟩ := Cond.instanceMethod_spec hinst
  obtain ⟨methM', cM, hmethM', -, -, -, -, -, -, hsigM⟩ := Cond.code_spec hnamed hcode
  cases hmethM.symm.trans hmethM'
  obtain ⟨c2, r2, m2, q1, q2, q3, q4, kP, hkP, hkPi⟩ := Cond.selects_spec hsel
  cases hcls.symm.trans q1
  cases (State.methodFound?_of_named hnamed hy).symm.trans q2
  cases hnamed.symm.trans q3
  have hselP : selectMethod e.platform s.vm cellB.cls mk = .method mk := by rw [Launch.admits_selectMethod X.admits]; exact q4
  obtain ⟨vm₁, X₁, hstep₁⟩ := X.invokevirtual hexec hown hlink hnamed hmethM hstM hkP hkPi hy (a := b) (cell := cellB) hcell
    (fun z h => by rw [h] at hobj; cases hobj) hselP hmethM habM hkP hkPi (g := g) hg (argsL := argsL) (rest := rest) (hlen _ hsigM) hstack hdg
  rcases hK m meth c ⟨T.setVm vm₁, locs, cells, slots⟩ { g with stack := rest } (.invokevirtual index) mk (Value.ref b :: argsL).toArray X₁ hg hsize hdg hW (X₁.named hnamed) (hpre vm₁ X₁.warmed) with ⟨v, B, X', hpost, hsteps⟩ | ⟨q, B, X', hpost, hsteps⟩
  · exact Or.inl ⟨v, vm₁, B, X₁.warmed, X', hpost, fun target h => hstep₁ _ fun acts => by rw [doInvoke_state]; exact hsteps.trans h⟩
  · exact Or.inr ⟨q, vm₁, B, X₁.warmed, X', hpost, hstep₁ _ fun acts => by rw [doInvoke_state]; exact hsteps⟩
theorem vx_callS (X : Stand p l e R s m args below meth c T locs cells slots) (hexec : p.tables.exec = Jvm.exec) {own : String} {index : Nat} {y : MethodName} {bytes : ByteArray} {maxL : Nat} {ret : Option FieldType}
    (hown : s.vm.findClass own = some m.cls) (hlink : (Cond.methodLink own index y).before args s = true) (hstat : (Cond.static y).before args s = true) (hinit : (Cond.initialized y.cls).before args s = true)
    (hcode : (Cond.code y bytes maxL ret).before args s = true) (hy : y.cls ≠ "java/lang/invoke/MethodHandle" ∧ y.cls ≠ "java/lang/invoke/VarHandle")
    {W9 : Nat} {Pre : Pt → Array Value → Prop} {Post : Pt → Array Value → Option Value → Pt → Prop} {PostX : Pt → Array Value → Addr → Pt → Prop} (hK : vx_Back l R p e below s args y 3 W9 Pre Post PostX)
    {g : JFrame} (hg : g.method = m) (hsize : g.locals.size = c.maxLocals) {argsL rest : List Value} (hlen : ∀ sig, parseMethodDescriptor y.desc = some sig → argsL.length = sig.parameters.length)
    (hstack : g.stack = argsL.reverse ++ rest) (hW : 2 * g.monitorRoom + (rest.map fun v => v.category).sum ≤ W9) (hdg : decode c.code g.pc = .ok (.invokestatic index, 3))
    (hpre : ∀ vm₁, s.WarmedH vm₁ → Pre ⟨T.setVm vm₁, locs, cells, slots⟩ argsL.toArray) :
    (∃ (v : Option Value) (vm₁ : Vm) (B : Pt), s.WarmedH vm₁ ∧ Stand p l e R s m args below meth c B.U B.locs B.cells B.slots ∧ Post ⟨T.setVm vm₁, locs, cells, slots⟩ argsL.toArray v B ∧
      ∀ target, Steps p.tables e below (B.U.setTop { g with pc := g.pc + 3, stack := v.toList ++ rest }) target → Steps p.tables e below (T.setTop g) target) ∨
    (∃ (q : Addr) (vm₁ : Vm) (B : Pt), s.WarmedH vm₁ ∧ Stand p l e R s m args below meth c B.U B.locs B.cells B.slots ∧ PostX ⟨T.setVm vm₁, locs, cells, slots⟩ argsL.toArray q B ∧
      Steps p.tables e below (T.setTop g) ((B.U.setTop { g with stack := rest }).pushFrame (.throwing q))) := by
  obtain ⟨mk, hnamed⟩ := Cond.code_named hcode
  obtain ⟨methM, cM, hmethM, -, -, -, -, -, -, hsigM⟩ := Cond.code_spec hnamed hcode
  have hstatic : methM.isStatic = true := Cond.static_spec hnamed hmethM hstat
  obtain ⟨kP, hkP, -⟩ := className_of_methodNamed hnamed
  have hinitP : kP.init = .initialized := Cond.initialized_spec (findClass_of_methodNamed hnamed) hkP hinit
  obtain ⟨vm₁, X₁, hstep₁⟩ := X.invokestatic hexec hown hlink hnamed hmethM hstatic hkP hinitP hy (g := g) hg (argsL := argsL) (rest := rest) (hlen _ hsigM) hstack hdg
  rcases hK m meth c ⟨T.setVm vm₁, locs, cells, slots⟩ { g with stack := rest } (.invokestatic index) mk argsL.toArray X₁ hg hsize hdg hW (X₁.named hnamed) (hpre vm₁ X₁.warmed) with ⟨v, B, X', hpost, hsteps⟩ | ⟨q, B, X', hpost, hsteps⟩
  · exact Or.inl ⟨v, vm₁, B, X₁.warmed, X', hpost, fun target h => hstep₁ _ fun acts => by rw [doInvoke_state]; exact hsteps.trans h⟩
  · exact Or.inr ⟨q, vm₁, B, X₁.warmed, X', hpost, hstep₁ _ fun acts => by rw [doInvoke_state]; exact hsteps⟩
end Calls
theorem vx_cls {s : State} {T : State} {vm₁ : Vm} {E : String} {k : ClassId} (hW : s.WarmedH vm₁) (h : (T.setVm vm₁).vm.findClass E = some k) : s.vm.findClass E = some k := by
  have h1 : vm₁.findClass E = some k := h
  rw [hW.alike.findClass] at h1
  exact h1
/-- the method's frame g, with q thrown over it -/
def vx_W (p : Program) (l : Launch) (e : Env) (R : Room) (s : State) (m : MethodId) (args : Array Value) (below : List Frame) (meth : Method) (c : Code) (H : Heap) (locs : List Loc) (cells slots : Nat) (Q : State → Prop) (g : JFrame) (q : Addr) : Prop :=
  ∀ T : State, T.heap = H → Stand p l e R s m args below meth c T locs cells slots → ∃ t, Steps p.tables e below ((T.setTop g).pushFrame (.throwing q)) t ∧ Q t
def vx_Run (p : Program) (l : Launch) (e : Env) (R : Room) (s : State) (m : MethodId) (args : Array Value) (below : List Frame) (meth : Method) (c : Code) (H : Heap) (locs : List Loc) (cells slots mc ms : Nat) (g : JFrame) (rest : List Value) (Qa : State → Outcome → State → Prop) (XC : String → State → State → Prop) (free : Addr → Prop) : Prop :=
  ∀ T : State, T.heap = H → Stand p l e R s m args below meth c T locs cells slots →
    (∃ (v : Option Value) (st₀ t T' : State) (L : List Loc), st₀.heap = H ∧ Stand p l e R s m args below meth c T' (locs ++ L) (cells + mc) (slots + ms) ∧ (∀ q ∈ L, free q.base) ∧ T'.heap = t.heap ∧ T'.vm = t.vm ∧ Qa st₀ (.returned v) t ∧
      Goes p e below T g T' { g with pc := g.pc + 3, stack := v.toList ++ rest }) ∨
    (∃ (q : Addr) (st₀ t T' : State) (L : List Loc) (E : String) (ce : Cell), st₀.heap = H ∧ Stand p l e R s m args below meth c T' (locs ++ L) (cells + mc) (slots + ms) ∧ (∀ z ∈ L, free z.base) ∧ T'.heap = t.heap ∧ T'.vm = t.vm ∧ XC E st₀ t ∧ t.heap[q]? = some ce ∧ ce.vm = .none ∧ s.vm.findClass E = some ce.cls ∧
      Steps p.tables e below (T.setTop g) ((T'.setTop { g with stack := rest }).pushFrame (.throwing q)))
def vx_X {S : Type} (px : S → Prop) (B : String → S → State → Prop) (A : Nat → Prop) : String → State → State → Prop := fun E st t => ∃ u : S, px u ∧ B E u t ∧ va_F A st t
section Runs
variable {p : Program} {l : Launch} {e : Env} {R : Room} {s : State} {m : MethodId} {args : Array Value} {below : List Frame} {meth : Method} {c : Code} {H : Heap} {locs : List Loc} {cells slots : Nat}
variable {y : MethodName} {bytes cc : ByteArray} {maxL nL mc ms n index : Nat} {ret : Option FieldType} {ws : List Cond} {rm : Room} {Pc : Array Value → State → Prop} {Qc : Array Value → State → Outcome → State → Prop} {XC : String → State → State → Prop} {free : Addr → Prop} {Ts : List Cond} {own C : String} {b : Addr} {As rest : List Value} {g : JFrame}
theorem vx_callBack (cb : CallB R s args own index y bytes maxL ret ws rm mc ms n) (hM : vx_Met l y ws rm Pc Qc XC mc ms free) (hbl : FrameBlind Pc) : vx_Back l R p e below s args y 3 8 (PreOf R mc ms Pc) (PostOf Qc mc ms free) (vx_Post XC mc ms free) := by
  obtain ⟨hrc, hrs, hfr, hlo, hws, hcw, -, hini, -⟩ := cb
  exact vx_back (bytes := bytes) (maxL := maxL) (ret := ret) hM hbl hrc hrs hfr hlo hws hcw (fun a' U hW => word_at hW (Or.inl (by first | rfl | simp [Cond.onTables, Cond.keeps, Cond.steady])) hini)
theorem vx_runV (S : CallFix p m c cc nL s args Ts own) (hM : vx_Met l y ws rm Pc Qc XC mc ms free) (cw : CallW R s args own C index y bytes maxL ret ws rm mc ms n) (hp : PreV s H C b Pc As)
    (hg : g.method = m) (hn : As.length = n) (hsize : g.locals.size = nL) (hstack : g.stack = As.reverse ++ .ref b :: rest) (hW : 2 * g.monitorRoom + (rest.map fun v => v.category).sum ≤ 8) (hdg : decode cc g.pc = .ok (.invokevirtual index, 3)) (hf : cells + mc ≤ R.cells ∧ slots + ms ≤ R.slots) :
    vx_Run p l e R s m args below meth c H locs cells slots mc ms g rest (Qc (Value.ref b :: As).toArray) XC free := by
  have hK : vx_Back l R p e below s args y 3 8 (PreOf R mc ms Pc) (PostOf Qc mc ms free) (vx_Post XC mc ms free) := vx_callBack cw.1 hM hp.1
  obtain ⟨⟨-, -, -, -, -, -, hcode, -, hy, hlen, hl⟩, hin, hse⟩ := cw
  obtain ⟨hx, hb, hml, ho, -⟩ := S
  obtain ⟨-, ⟨cellB, hcB, hoB, hclB⟩, hPc⟩ := hp
  intro T hT X
  rcases vx_callV X hx (C := C) (bytes := bytes) (maxL := maxL) (ret := ret) ho hl hin hse hcode hy hK (by rw [hT]; exact hcB) hoB hclB hg (hsize.trans hml.symm) (argsL := As) (rest := rest) (fun sig h => hn.trans (hlen sig h)) hstack hW (by rw [hb]; exact hdg)
    (fun vm₁ hW₁ => ⟨hf.1, hf.2, hPc (T.setVm vm₁) hT hW₁⟩) with ⟨v, vm₁, ⟨U', l2, c2, s2⟩, hW₁, X', ⟨g', mk, t, L, e1, e2, hq, h1, hL, h2, h3⟩, st⟩ | ⟨q, vm₁, ⟨U', l2, c2, s2⟩, hW₁, X', ⟨g', mk, t, L, E, ce, e1, e2, hq, hce, hcv, hcl, h1, hL, h2, h3⟩, st⟩
  · dsimp only [Pt.U, Pt.locs, Pt.cells, Pt.slots] at X' e1 e2 h1 h2 h3 st
    subst h1; subst h2; subst h3
    exact Or.inl ⟨v, (T.setVm vm₁).calling g' mk (Value.ref b :: As).toArray, t, U', L, hT, X', hL, e1, e2, hq, st⟩
  · dsimp only [Pt.U, Pt.locs, Pt.cells, Pt.slots] at X' e1 e2 h1 h2 h3 st hcl
    subst h1; subst h2; subst h3
    exact Or.inr ⟨q, (T.setVm vm₁).calling g' mk (Value.ref b :: As).toArray, t, U', L, E, ce, hT, X', hL, e1, e2, hq, hce, hcv, vx_cls hW₁ hcl, st⟩
theorem vx_runS (S : CallFix p m c cc nL s args Ts own) (hM : vx_Met l y ws rm Pc Qc XC mc ms free) (cw : CallB R s args own index y bytes maxL ret ws rm mc ms n ∧ (Cond.static y).before args s = true) (hp : PreS s H Pc As)
    (hg : g.method = m) (hn : As.length = n) (hsize : g.locals.size = nL) (hstack : g.stack = As.reverse ++ rest) (hW : 2 * g.monitorRoom + (rest.map fun v => v.category).sum ≤ 8) (hdg : decode cc g.pc = .ok (.invokestatic index, 3)) (hf : cells + mc ≤ R.cells ∧ slots + ms ≤ R.slots) :
    vx_Run p l e R s m args below meth c H locs cells slots mc ms g rest (Qc As.toArray) XC free := by
  have hK : vx_Back l R p e below s args y 3 8 (PreOf R mc ms Pc) (PostOf Qc mc ms free) (vx_Post XC mc ms free) := vx_callBack cw.1 hM hp.1
  obtain ⟨⟨-, -, -, -, -, -, hcode, hini, hy, hlen, hl⟩, hstt⟩ := cw
  obtain ⟨hx, hb, hml, ho, -⟩ := S
  intro T hT X
  rcases vx_callS X hx (bytes := bytes) (maxL := maxL) (ret := ret) ho hl hstt hini hcode hy hK hg (hsize.trans hml.symm) (argsL := As) (rest := rest) (fun sig h => hn.trans (hlen sig h)) hstack hW (by rw [hb]; exact hdg)
    (fun vm₁ hW₁ => ⟨hf.1, hf.2, hp.2 (T.setVm vm₁) hT hW₁⟩) with ⟨v, vm₁, ⟨U', l2, c2, s2⟩, hW₁, X', ⟨g', mk, t, L, e1, e2, hq, h1, hL, h2, h3⟩, st⟩ | ⟨q, vm₁, ⟨U', l2, c2, s2⟩, hW₁, X', ⟨g', mk, t, L, E, ce, e1, e2, hq, hce, hcv, hcl, h1, hL, h2, h3⟩, st⟩
  · dsimp only [Pt.U, Pt.locs, Pt.cells, Pt.slots] at X' e1 e2 h1 h2 h3 st
    subst h1; subst h2; subst h3
    exact Or.inl ⟨v, (T.setVm vm₁).calling g' mk As.toArray, t, U', L, hT, X', hL, e1, e2, hq, st⟩
  · dsimp only [Pt.U, Pt.locs, Pt.cells, Pt.slots] at X' e1 e2 h1 h2 h3 st hcl
    subst h1; subst h2; subst h3
    exact Or.inr ⟨q, (T.setVm vm₁).calling g' mk As.toArray, t, U', L, E, ce, hT, X', hL, e1, e2, hq, hce, hcv, vx_cls hW₁ hcl, st⟩
end Runs
section Rows
variable {p : Program} {l : Launch} {e : Env} {R : Room} {s : State} {m : MethodId} {args : Array Value} {below : List Frame} {meth : Method} {c : Code} {H : Heap} {locs : List Loc} {cells slots : Nat} {Q : State → Prop}
variable {mc ms : Nat} {free : Addr → Prop} {A0 A1 : Nat → Prop} {H0 : Heap} {a : Array Value} {pc : Nat} {ls : Array Slot} {st0 rest : List Value}
theorem vx_keep {st₀ t T' : State} {L : List Loc} (h0 : st₀.heap = H) (e1 : T'.heap = t.heap) (hS : va_S A0 H0 H locs) (hA : ∀ q, q < H.size → A1 q → A0 q) (hf : ∀ q, free q → A0 q) (hL : ∀ q ∈ L, free q.base) (hF : va_F A1 st₀ t) :
    H.size ≤ T'.heap.size ∧ (∀ q : Nat, q < H.size → ¬ A1 q → T'.heap[q]? = H[q]?) ∧ va_S A0 H0 T'.heap (locs ++ L) := by
  obtain ⟨hz, hk⟩ := hF
  rw [h0] at hz hk
  exact ⟨by rw [e1]; exact hz, fun q h1 h2 => by rw [e1]; exact hk q h1 h2,
    ⟨Nat.le_trans hS.1 (by rw [e1]; exact hz), fun q h1 h2 => by rw [e1, hk q (Nat.lt_of_lt_of_le h1 hS.1) (fun z => h2 (hA q (Nat.lt_of_lt_of_le h1 hS.1) z))]; exact hS.2.1 q h1 h2, fun q hq => by
      rcases List.mem_append.mp hq with h | h
      · exact hS.2.2 q h
      · exact hf _ (hL q h)⟩⟩
theorem vx_calli {S SX : Type} {post : Int32 → S → Prop} {px : SX → Prop} {B : S → State → Prop} {BX : String → SX → State → Prop} {AX : Nat → Prop} (hr : vx_Run p l e R s m args below meth c H locs cells slots mc ms (F0 m pc ls st0) rest (va_Qi post B A1 a) (vx_X px BX AX) free) (hS : va_S A0 H0 H locs) (hA : ∀ q, q < H.size → A1 q → A0 q) (hf : ∀ q, free q → A0 q) (hAX : ∀ q, q < H.size → AX q → A0 q)
    (kx : ∀ (E : String) (ce : Cell) (q9 : Addr) (u : SX) (t : State) (H1 : Heap) (locs1 : List Loc), t.heap = H1 → s.vm.Alike t.vm → px u → BX E u t → H.size ≤ H1.size → (∀ q : Nat, q < H.size → ¬ AX q → H1[q]? = H[q]?) → va_S A0 H0 H1 locs1 → H1[q9]? = some ce → ce.vm = .none → s.vm.findClass E = some ce.cls → vx_W p l e R s m args below meth c H1 locs1 (cells + mc) (slots + ms) Q (F0 m pc ls rest) q9)
    (kk : ∀ (r : Int32) (u : S) (t : State) (H1 : Heap) (locs1 : List Loc), t.heap = H1 → s.vm.Alike t.vm → post r u → B u t → H.size ≤ H1.size → (∀ q : Nat, q < H.size → ¬ A1 q → H1[q]? = H[q]?) → va_S A0 H0 H1 locs1 → W p l e R s m args below meth c H1 locs1 (cells + mc) (slots + ms) Q (F0 m (pc + 3) ls (.int r :: rest))) : W p l e R s m args below meth c H locs cells slots Q (F0 m pc ls st0) := by
  intro T hT X
  rcases hr T hT X with ⟨v, st₀, t, T', L, h0, X', hL, e1, e2, ⟨⟨r, u, hv, hp, hb⟩, hF⟩, st⟩ | ⟨q, st₀, t, T', L, E, ce, h0, X', hL, e1, e2, ⟨u, hp, hb, hF⟩, hce, hcv, hcl, st⟩
  · cases hv
    obtain ⟨k1, k2, k3⟩ := vx_keep h0 e1 hS hA hf hL hF
    obtain ⟨t2, a1, b1⟩ := kk r u t T'.heap (locs ++ L) e1.symm (by rw [← e2]; exact X'.warmed.alike) hp hb k1 k2 k3 T' rfl X'
    exact ⟨t2, st t2 a1, b1⟩
  · obtain ⟨k1, k2, k3⟩ := vx_keep h0 e1 hS hAX hf hL hF
    obtain ⟨t2, a1, b1⟩ := kx E ce q u t T'.heap (locs ++ L) e1.symm (by rw [← e2]; exact X'.warmed.alike) hp hb k1 k2 k3 (by rw [e1]; exact hce) hcv hcl T' rfl X'
    exact ⟨t2, st.trans a1, b1⟩
theorem vx_calll {S SX : Type} {post : Int64 → S → Prop} {px : SX → Prop} {B : S → State → Prop} {BX : String → SX → State → Prop} {AX : Nat → Prop} (hr : vx_Run p l e R s m args below meth c H locs cells slots mc ms (F0 m pc ls st0) rest (va_Ql post B A1 a) (vx_X px BX AX) free) (hS : va_S A0 H0 H locs) (hA : ∀ q, q < H.size → A1 q → A0 q) (hf : ∀ q, free q → A0 q) (hAX : ∀ q, q < H.size → AX q → A0 q)
    (kx : ∀ (E : String) (ce : Cell) (q9 : Addr) (u : SX) (t : State) (H1 : Heap) (locs1 : List Loc), t.heap = H1 → s.vm.Alike t.vm → px u → BX E u t → H.size ≤ H1.size → (∀ q : Nat, q < H.size → ¬ AX q → H1[q]? = H[q]?) → va_S A0 H0 H1 locs1 → H1[q9]? = some ce → ce.vm = .none → s.vm.findClass E = some ce.cls → vx_W p l e R s m args below meth c H1 locs1 (cells + mc) (slots + ms) Q (F0 m pc ls rest) q9)
    (kk : ∀ (r : Int64) (u : S) (t : State) (H1 : Heap) (locs1 : List Loc), t.heap = H1 → s.vm.Alike t.vm → post r u → B u t → H.size ≤ H1.size → (∀ q : Nat, q < H.size → ¬ A1 q → H1[q]? = H[q]?) → va_S A0 H0 H1 locs1 → W p l e R s m args below meth c H1 locs1 (cells + mc) (slots + ms) Q (F0 m (pc + 3) ls (.long r :: rest))) : W p l e R s m args below meth c H locs cells slots Q (F0 m pc ls st0) := by
  intro T hT X
  rcases hr T hT X with ⟨v, st₀, t, T', L, h0, X', hL, e1, e2, ⟨⟨r, u, hv, hp, hb⟩, hF⟩, st⟩ | ⟨q, st₀, t, T', L, E, ce, h0, X', hL, e1, e2, ⟨u, hp, hb, hF⟩, hce, hcv, hcl, st⟩
  · cases hv
    obtain ⟨k1, k2, k3⟩ := vx_keep h0 e1 hS hA hf hL hF
    obtain ⟨t2, a1, b1⟩ := kk r u t T'.heap (locs ++ L) e1.symm (by rw [← e2]; exact X'.warmed.alike) hp hb k1 k2 k3 T' rfl X'
    exact ⟨t2, st t2 a1, b1⟩
  · obtain ⟨k1, k2, k3⟩ := vx_keep h0 e1 hS hAX hf hL hF
    obtain ⟨t2, a1, b1⟩ := kx E ce q u t T'.heap (locs ++ L) e1.symm (by rw [← e2]; exact X'.warmed.alike) hp hb k1 k2 k3 (by rw [e1]; exact hce) hcv hcl T' rfl X'
    exact ⟨t2, st.trans a1, b1⟩
theorem vx_callf {S SX : Type} {post : UInt32 → S → Prop} {px : SX → Prop} {B : S → State → Prop} {BX : String → SX → State → Prop} {AX : Nat → Prop} (hr : vx_Run p l e R s m args below meth c H locs cells slots mc ms (F0 m pc ls st0) rest (va_Qf post B A1 a) (vx_X px BX AX) free) (hS : va_S A0 H0 H locs) (hA : ∀ q, q < H.size → A1 q → A0 q) (hf : ∀ q, free q → A0 q) (hAX : ∀ q, q < H.size → AX q → A0 q)
    (kx : ∀ (E : String) (ce : Cell) (q9 : Addr) (u : SX) (t : State) (H1 : Heap) (locs1 : List Loc), t.heap = H1 → s.vm.Alike t.vm → px u → BX E u t → H.size ≤ H1.size → (∀ q : Nat, q < H.size → ¬ AX q → H1[q]? = H[q]?) → va_S A0 H0 H1 locs1 → H1[q9]? = some ce → ce.vm = .none → s.vm.findClass E = some ce.cls → vx_W p l e R s m args below meth c H1 locs1 (cells + mc) (slots + ms) Q (F0 m pc ls rest) q9)
    (kk : ∀ (r : UInt32) (u : S) (t : State) (H1 : Heap) (locs1 : List Loc), t.heap = H1 → s.vm.Alike t.vm → post r u → B u t → H.size ≤ H1.size → (∀ q : Nat, q < H.size → ¬ A1 q → H1[q]? = H[q]?) → va_S A0 H0 H1 locs1 → W p l e R s m args below meth c H1 locs1 (cells + mc) (slots + ms) Q (F0 m (pc + 3) ls (.float r :: rest))) : W p l e R s m args below meth c H locs cells slots Q (F0 m pc ls st0) := by
  intro T hT X
  rcases hr T hT X with ⟨v, st₀, t, T', L, h0, X', hL, e1, e2, ⟨⟨r, u, hv, hp, hb⟩, hF⟩, st⟩ | ⟨q, st₀, t, T', L, E, ce, h0, X', hL, e1, e2, ⟨u, hp, hb, hF⟩, hce, hcv, hcl, st⟩
  · cases hv
    obtain ⟨k1, k2, k3⟩ := vx_keep h0 e1 hS hA hf hL hF
    obtain ⟨t2, a1, b1⟩ := kk r u t T'.heap (locs ++ L) e1.symm (by rw [← e2]; exact X'.warmed.alike) hp hb k1 k2 k3 T' rfl X'
    exact ⟨t2, st t2 a1, b1⟩
  · obtain ⟨k1, k2, k3⟩ := vx_keep h0 e1 hS hAX hf hL hF
    obtain ⟨t2, a1, b1⟩ := kx E ce q u t T'.heap (locs ++ L) e1.symm (by rw [← e2]; exact X'.warmed.alike) hp hb k1 k2 k3 (by rw [e1]; exact hce) hcv hcl T' rfl X'
    exact ⟨t2, st.trans a1, b1⟩
theorem vx_calld {S SX : Type} {post : UInt64 → S → Prop} {px : SX → Prop} {B : S → State → Prop} {BX : String → SX → State → Prop} {AX : Nat → Prop} (hr : vx_Run p l e R s m args below meth c H locs cells slots mc ms (F0 m pc ls st0) rest (va_Qd post B A1 a) (vx_X px BX AX) free) (hS : va_S A0 H0 H locs) (hA : ∀ q, q < H.size → A1 q → A0 q) (hf : ∀ q, free q → A0 q) (hAX : ∀ q, q < H.size → AX q → A0 q)
    (kx : ∀ (E : String) (ce : Cell) (q9 : Addr) (u : SX) (t : State) (H1 : Heap) (locs1 : List Loc), t.heap = H1 → s.vm.Alike t.vm → px u → BX E u t → H.size ≤ H1.size → (∀ q : Nat, q < H.size → ¬ AX q → H1[q]? = H[q]?) → va_S A0 H0 H1 locs1 → H1[q9]? = some ce → ce.vm = .none → s.vm.findClass E = some ce.cls → vx_W p l e R s m args below meth c H1 locs1 (cells + mc) (slots + ms) Q (F0 m pc ls rest) q9)
    (kk : ∀ (r : UInt64) (u : S) (t : State) (H1 : Heap) (locs1 : List Loc), t.heap = H1 → s.vm.Alike t.vm → post r u → B u t → H.size ≤ H1.size → (∀ q : Nat, q < H.size → ¬ A1 q → H1[q]? = H[q]?) → va_S A0 H0 H1 locs1 → W p l e R s m args below meth c H1 locs1 (cells + mc) (slots + ms) Q (F0 m (pc + 3) ls (.double r :: rest))) : W p l e R s m args below meth c H locs cells slots Q (F0 m pc ls st0) := by
  intro T hT X
  rcases hr T hT X with ⟨v, st₀, t, T', L, h0, X', hL, e1, e2, ⟨⟨r, u, hv, hp, hb⟩, hF⟩, st⟩ | ⟨q, st₀, t, T', L, E, ce, h0, X', hL, e1, e2, ⟨u, hp, hb, hF⟩, hce, hcv, hcl, st⟩
  · cases hv
    obtain ⟨k1, k2, k3⟩ := vx_keep h0 e1 hS hA hf hL hF
    obtain ⟨t2, a1, b1⟩ := kk r u t T'.heap (locs ++ L) e1.symm (by rw [← e2]; exact X'.warmed.alike) hp hb k1 k2 k3 T' rfl X'
    exact ⟨t2, st t2 a1, b1⟩
  · obtain ⟨k1, k2, k3⟩ := vx_keep h0 e1 hS hAX hf hL hF
    obtain ⟨t2, a1, b1⟩ := kx E ce q u t T'.heap (locs ++ L) e1.symm (by rw [← e2]; exact X'.warmed.alike) hp hb k1 k2 k3 (by rw [e1]; exact hce) hcv hcl T' rfl X'
    exact ⟨t2, st.trans a1, b1⟩
theorem vx_callv {S SX : Type} {post : S → Prop} {px : SX → Prop} {B : S → State → Prop} {BX : String → SX → State → Prop} {AX : Nat → Prop} (hr : vx_Run p l e R s m args below meth c H locs cells slots mc ms (F0 m pc ls st0) rest (va_Qv post B A1 a) (vx_X px BX AX) free) (hS : va_S A0 H0 H locs) (hA : ∀ q, q < H.size → A1 q → A0 q) (hf : ∀ q, free q → A0 q) (hAX : ∀ q, q < H.size → AX q → A0 q)
    (kx : ∀ (E : String) (ce : Cell) (q9 : Addr) (u : SX) (t : State) (H1 : Heap) (locs1 : List Loc), t.heap = H1 → s.vm.Alike t.vm → px u → BX E u t → H.size ≤ H1.size → (∀ q : Nat, q < H.size → ¬ AX q → H1[q]? = H[q]?) → va_S A0 H0 H1 locs1 → H1[q9]? = some ce → ce.vm = .none → s.vm.findClass E = some ce.cls → vx_W p l e R s m args below meth c H1 locs1 (cells + mc) (slots + ms) Q (F0 m pc ls rest) q9)
    (kk : ∀ (u : S) (t : State) (H1 : Heap) (locs1 : List Loc), t.heap = H1 → s.vm.Alike t.vm → post u → B u t → H.size ≤ H1.size → (∀ q : Nat, q < H.size → ¬ A1 q → H1[q]? = H[q]?) → va_S A0 H0 H1 locs1 → W p l e R s m args below meth c H1 locs1 (cells + mc) (slots + ms) Q (F0 m (pc + 3) ls (rest))) : W p l e R s m args below meth c H locs cells slots Q (F0 m pc ls st0) := by
  intro T hT X
  rcases hr T hT X with ⟨v, st₀, t, T', L, h0, X', hL, e1, e2, ⟨⟨u, hv, hp, hb⟩, hF⟩, st⟩ | ⟨q, st₀, t, T', L, E, ce, h0, X', hL, e1, e2, ⟨u, hp, hb, hF⟩, hce, hcv, hcl, st⟩
  · cases hv
    obtain ⟨k1, k2, k3⟩ := vx_keep h0 e1 hS hA hf hL hF
    obtain ⟨t2, a1, b1⟩ := kk u t T'.heap (locs ++ L) e1.symm (by rw [← e2]; exact X'.warmed.alike) hp hb k1 k2 k3 T' rfl X'
    exact ⟨t2, st t2 a1, b1⟩
  · obtain ⟨k1, k2, k3⟩ := vx_keep h0 e1 hS hAX hf hL hF
    obtain ⟨t2, a1, b1⟩ := kx E ce q u t T'.heap (locs ++ L) e1.symm (by rw [← e2]; exact X'.warmed.alike) hp hb k1 k2 k3 (by rw [e1]; exact hce) hcv hcl T' rfl X'
    exact ⟨t2, st.trans a1, b1⟩
/-- caught by the row x of this method's table; the rows ahead don't take it -/
theorem vx_catch {own name : String} {E : String} {ce : Cell} {q : Addr} (hown : s.vm.findClass own = some m.cls) (pre : List ExceptionTableEntry) (x : ExceptionTableEntry) (suf : List ExceptionTableEntry) (hsplit : c.exceptionTable.toList = pre ++ x :: suf)
    (hpass : ∀ z ∈ pre, covers z pc = false ∨ (z.catchType ≠ 0 ∧ ∃ nm : String, (Cond.classLink own z.catchType nm).before args s = true ∧ va_Nc E nm s)) (hx : covers x pc = true) (h0 : x.catchType ≠ 0)
    (hlink : (Cond.classLink own x.catchType name).before args s = true) (hcast : (Cond.castable E name).before args s = true) (hcell : H[q]? = some ce) (hv : ce.vm = .none) (hcl : s.vm.findClass E = some ce.cls)
    (kk : W p l e R s m args below meth c H locs cells slots Q (F0 m x.handlerPc ls [.ref q])) : vx_W p l e R s m args below meth c H locs cells slots Q (F0 m pc ls rest) q := by
  intro T hT X
  have hpl : e.platform.magicAccessors = ({} : Platform).magicAccessors := by rw [X.admits.platform]
  obtain ⟨c3, c4, hc3, hc4, hasg⟩ := Cond.castable_spec hcast
  cases Option.some.inj (hc3.symm.trans hcl)
  obtain ⟨c5, hc5, hcl5⟩ := Cond.classLink_spec hown hlink e.platform hpl
  cases Option.some.inj (hc4.symm.trans hc5)
  obtain ⟨vm', X', st⟩ := X.thenCaughtThrough q (g := F0 m pc ls rest) rfl (Steps.refl _) (by rw [hT]; exact hcell) (by rw [hv]; rfl) (by obtain ⟨k9, h9, -⟩ := Vm.findClass_spec hcl; exact ⟨k9, h9⟩) pre x suf hsplit
    (fun z hz => by
      rcases hpass z hz with h | ⟨hz0, nm, hl1, hn1⟩
      · exact Or.inl h
      · obtain ⟨c6, hc6, hcl6⟩ := Cond.classLink_spec hown hl1 e.platform hpl
        obtain ⟨a8, b8, h1, h2, h3⟩ := hn1
        cases Option.some.inj (h1.symm.trans hcl)
        cases Option.some.inj (h2.symm.trans hc6)
        exact Or.inr ⟨hz0, _, hcl6, h3⟩) hx (Or.inr ⟨h0, c4, hcl5, hasg⟩)
  obtain ⟨t, a1, b1⟩ := kk (T.setVm vm') hT X'
  exact ⟨t, st.trans a1, b1⟩
end Rows
section Ends
variable {p : Program} {l : Launch} {e : Env} {R : Room} {s : State} {m : MethodId} {args : Array Value} {below : List Frame} {meth : Method} {c : Code} {H : Heap} {locs : List Loc} {cells slots : Nat} {Q : State → Prop}
variable {mc ms : Nat} {free : Addr → Prop} {A0 A1 : Nat → Prop} {H0 : Heap} {a : Array Value} {ls : Array Slot} {st0 rest : List Value}
variable {Qc : Array Value → State → Outcome → State → Prop} {XC : String → State → State → Prop}
/-- what a body that may throw owes at its end -/
def vx_MQ (below : List Frame) (Qc : Array Value → State → Outcome → State → Prop) (XC : String → State → State → Prop) (a : Array Value) (s : State) (mc ms : Nat) (free : Addr → Prop) : State → Prop := fun t =>
  ∃ o, t.status = .running ∧ Ended t below o ∧ vx_Q Qc XC mc ms free a s o t
theorem vx_ret {g : JFrame} {mc ms : Nat} (k : W p l e R s m args below meth c H locs cells slots (MQ below Qc args s mc ms free) g) : W p l e R s m args below meth c H locs cells slots (vx_MQ below Qc XC args s mc ms free) g := by
  intro T hT X
  obtain ⟨t, a1, o, b1, b2, b3, b4⟩ := k T hT X
  exact ⟨t, a1, o, b1, b2, Or.inl ⟨b3, b4⟩⟩
/-- not caught here: it goes on to the caller -/
theorem vx_widen {g : JFrame} {q : Addr} {k n : Nat} (h1 : cells ≤ k) (h2 : slots ≤ n) (kk : vx_W p l e R s m args below meth c H locs k n Q g q) : vx_W p l e R s m args below meth c H locs cells slots Q g q := fun T hT X => kk T hT (stand_widen X h1 h2)
theorem vx_out {pc : Nat} {E : String} {ce : Cell} {q : Addr} {mc ms : Nat} (hout : ∀ x ∈ c.exceptionTable.toList, covers x pc = false) (hlocks : meth.locks = false) (hcell : H[q]? = some ce) (hv : ce.vm = .none) (hcl : s.vm.findClass E = some ce.cls)
    (hx : ∀ t : State, t.heap = H → s.vm.Alike t.vm → XC E s t) (hf : ∀ z ∈ locs, free z.base) (hc : cells ≤ mc) (hs : slots ≤ ms) :
    vx_W p l e R s m args below meth c H locs cells slots (vx_MQ below Qc XC args s mc ms free) (F0 m pc ls rest) q := by
  intro T hT X
  obtain ⟨st1, hrun, hend, hW, hsm⟩ := X.leaveThrown q (g := F0 m pc ls rest) rfl rfl rfl hout hlocks
  have hcell9 : (T.setFrames (.throwing q :: below)).heap[q]? = some ce := by
    show T.heap[q]? = some ce
    rw [hT]; exact hcell
  exact ⟨_, st1, .threw q, hrun, hend, Or.inr ⟨q, rfl, E, ce, locs, hx _ hT hW.alike, hcell9, hv, hcl, hW, hsm.mono hc hs, hf⟩⟩
theorem vx_frame {U : State} {k n : Nat} (h : s.sameButNew ({ U with vm := s.vm } : State) locs k n) : s.heap.size ≤ U.heap.size ∧ ∀ q : Nat, q < s.heap.size → (∀ z ∈ locs, z.base ≠ q) → U.heap[q]? = s.heap[q]? := by
  obtain ⟨-, h2, -, -, -, h6⟩ := h
  refine ⟨h2, fun q hq hz => ?_⟩
  obtain ⟨c9, e1, e2, e3, e4⟩ := h6 q _ (Array.getElem?_eq_getElem hq)
  have hs : c9.slots = (s.heap[q]).slots := Array.ext_getElem? fun i => e4 i fun hm => hz _ hm rfl
  have h9 : c9 = s.heap[q] := by
    rw [hs] at e2
    exact e2
  have e5 : U.heap[q]? = some c9 := e1
  rw [e5, h9, Array.getElem?_eq_getElem hq]
/-- the words of a throw but the four that speak of the heap -/
def vx_no (w : Cond) : Bool := decide (w ≠ .isRef (.static Bundle.tN "UNASSIGNED_STACK" Bundle.steD)) && decide (w ≠ .isRef (.static Bundle.tN "SUPPRESSED_SENTINEL" Bundle.listD)) && decide (w ≠ .laysStatic Bundle.tN "UNASSIGNED_STACK" Bundle.steD) && decide (w ≠ .laysStatic Bundle.tN "SUPPRESSED_SENTINEL" Bundle.listD)
def vx_at0 (own : String) (ic : Nat) (X : String) (names : List String) : List Cond := (Bundle.ownAtoms0 own ic X names).filter vx_no
def vx_atS (own : String) (ic : Nat) (X : String) (names : List String) : List Cond := (Bundle.ownAtoms own ic X names).filter vx_no
/-- a word that the tables alone decide, or a good one -/
def vx_ot (w : Cond) : Bool := w.onTables || goodWord w
theorem vx_ot_at {args a' : Array Value} {s U : State} {w : Cond} (hW : s.WarmedH U.vm) (hvm : s.vm = U.vm) (hg : vx_ot w = true) (h : w.before args s = true) : w.before a' U = true := by
  simp only [vx_ot, Bool.or_eq_true] at hg
  rcases hg with hg | hg
  · exact va_tabs hg hvm h
  · exact word_at hW (good_of_word hg) h
/-- a list's words: the good ones out of the method's own list, the others by premises of their own -/
theorem vx_hat {args : Array Value} {s : State} {L B : List Cond} (h1 : ∀ w ∈ L.filter goodWord, w.before args s = true) (h2 : ∀ w ∈ L.filter (fun w => !goodWord w), w ∈ B) (h3 : ∀ w ∈ B, w.before args s = true) : ∀ w ∈ L, w.before args s = true := by
  intro w hw
  by_cases g : goodWord w = true
  · exact h1 w (List.mem_filter.mpr ⟨hw, g⟩)
  · refine h3 w (h2 w (List.mem_filter.mpr ⟨hw, ?_⟩))
    show (!goodWord w) = true
    cases hgw : goodWord w
    · rfl
    · exact absurd hgw g
theorem vx_c {args : Array Value} {s : State} {w : Cond} {B : List Cond} (h : w.before args s = true) (t : ∀ w ∈ B, w.before args s = true) : ∀ w' ∈ w :: B, w'.before args s = true := fun w' h' => (List.mem_cons.mp h').elim (fun e => by rw [e]; exact h) (t w')
theorem vx_n {args : Array Value} {s : State} : ∀ w ∈ ([] : List Cond), w.before args s = true := fun _ h => nomatch h
theorem vx_own {args : Array Value} {s : State} {L : List Cond} (h1 : ∀ w ∈ L.filter vx_no, w.before args s = true)
    (hU : (Cond.isRef (.static Bundle.tN "UNASSIGNED_STACK" Bundle.steD)).before args s = true) (hN : (Cond.isRef (.static Bundle.tN "SUPPRESSED_SENTINEL" Bundle.listD)).before args s = true)
    (lU : (Cond.laysStatic Bundle.tN "UNASSIGNED_STACK" Bundle.steD).before args s = true) (lN : (Cond.laysStatic Bundle.tN "SUPPRESSED_SENTINEL" Bundle.listD).before args s = true) : ∀ w ∈ L, w.before args s = true := by
  intro w hw
  by_cases e1 : w = .isRef (.static Bundle.tN "UNASSIGNED_STACK" Bundle.steD)
  · rw [e1]; exact hU
  · by_cases e2 : w = .isRef (.static Bundle.tN "SUPPRESSED_SENTINEL" Bundle.listD)
    · rw [e2]; exact hN
    · by_cases e3 : w = .laysStatic Bundle.tN "UNASSIGNED_STACK" Bundle.steD
      · rw [e3]; exact lU
      · by_cases e4 : w = .laysStatic Bundle.tN "SUPPRESSED_SENTINEL" Bundle.listD
        · rw [e4]; exact lN
        · exact h1 w (List.mem_filter.mpr ⟨hw, by unfold vx_no; rw [decide_eq_true e1, decide_eq_true e2, decide_eq_true e3, decide_eq_true e4]; rfl⟩)
/-- where a static field lies, its class's statics cell in H -/
def vx_L (C n d : String) (A : Nat → Prop) (U : State) (H : Heap) : Prop := ∃ (c : ClassId) (k : Class) (i : Nat) (f : Field) (a : Nat) (cell : Cell), U.vm.findClass C = some c ∧ U.fieldFound? C n d = some (c, k, i, f) ∧ f.isStatic = true ∧ k.statics = some a ∧ H[a]? = some cell ∧ cell.vm.isStatics = true ∧ cell.cls = c ∧ f.slot < cell.slots.size ∧ k.staticTypes[f.slot]? = some f.type ∧ ¬ A a
theorem vx_L.moved {C n d : String} {A : Nat → Prop} {u U : State} {H : Heap} (hvm : u.vm.Alike U.vm) (h : vx_L C n d A u H) : vx_L C n d A U H := by
  obtain ⟨c, k, i, f, a, cell, h1, h2, h3, h4, h5, h6, h7, h8, h9, h10⟩ := h
  obtain ⟨k', hi', he⟩ := State.fieldFound?_setVm hvm h2
  exact ⟨c, k', i, f, a, cell, by rw [hvm.findClass]; exact h1, hi', h3, by rw [he]; exact h4, h5, h6, h7, h8, by rw [he]; exact h9, h10⟩
theorem vx_L.kept {C n d : String} {A : Nat → Prop} {U : State} {H H1 : Heap} (h : vx_L C n d A U H) (hq : ∀ a : Nat, a < H.size → ¬ A a → H1[a]? = H[a]?) : vx_L C n d A U H1 := by
  obtain ⟨c, k, i, f, a, cell, h1, h2, h3, h4, h5, h6, h7, h8, h9, h10⟩ := h
  exact ⟨c, k, i, f, a, cell, h1, h2, h3, h4, by rw [hq a (Array.getElem?_eq_some_iff.mp h5).1 h10]; exact h5, h6, h7, h8, h9, h10⟩
theorem vx_L.narrow {C n d : String} {A B : Nat → Prop} {U : State} {H : Heap} (h : vx_L C n d A U H) (hAB : ∀ q, B q → A q) : vx_L C n d B U H := by
  obtain ⟨c, k, i, f, a, cell, h1, h2, h3, h4, h5, h6, h7, h8, h9, h10⟩ := h
  exact ⟨c, k, i, f, a, cell, h1, h2, h3, h4, h5, h6, h7, h8, h9, fun z => h10 (hAB _ z)⟩
theorem vx_L.word {C n d : String} {A : Nat → Prop} {s : State} {args : Array Value} (h : vx_L C n d A s s.heap) : (Cond.laysStatic C n d).before args s = true := by
  obtain ⟨c, k, i, f, a, cell, h1, h2, h3, h4, h5, h6, h7, h8, h9, -⟩ := h
  show (Cond.laysStatic C n d).holds args s none s [] = true
  exact Cond.laysStatic_of h1 h2 h3 h4 h5 h6 h7 h8 h9
/-- .. and what it holds: null or some reference -/
def vx_Zq (C n d : String) (A : Nat → Prop) (U : State) (H : Heap) : Prop := va_Zq C n d A U H ∧ vx_L C n d A U H
theorem vx_Zq.moved {C n d : String} {A : Nat → Prop} {u U : State} {H : Heap} (hvm : u.vm.Alike U.vm) (h : vx_Zq C n d A u H) : vx_Zq C n d A U H := ⟨va_Zq.moved hvm h.1, vx_L.moved hvm h.2⟩
theorem vx_Zq.kept {C n d : String} {A : Nat → Prop} {U : State} {H H1 : Heap} (h : vx_Zq C n d A U H) (hq : ∀ a : Nat, a < H.size → ¬ A a → H1[a]? = H[a]?) : vx_Zq C n d A U H1 := ⟨va_Zq.kept h.1 hq, vx_L.kept h.2 hq⟩
theorem vx_Zq.narrow {C n d : String} {A B : Nat → Prop} {U : State} {H : Heap} (h : vx_Zq C n d A U H) (hAB : ∀ q, B q → A q) : vx_Zq C n d B U H := ⟨va_Zq.narrow h.1 hAB, vx_L.narrow h.2 hAB⟩
theorem vx_Zqof {args : Array Value} {s : State} {C n d : String} {A : Nat → Prop} (hl : (Cond.laysStatic C n d).before args s = true) (hini : (Cond.initialized C).before args s = true) (h : (Cond.isRef (.static C n d)).before args s = true) (hA : ∀ a : Nat, a < s.heap.size → ¬ A a) : vx_Zq C n d A s s.heap := by
  refine ⟨va_Zqof hl hini h hA, ?_⟩
  obtain ⟨c, k, i, f, a, cell, h1, h2, h3, h4, h5, h6, h7, h8, h9⟩ := Cond.laysStatic_spec hl
  exact ⟨c, k, i, f, a, cell, h1, h2, h3, h4, h5, h6, h7, h8, h9, hA a (Array.getElem?_eq_some_iff.mp h5).1⟩
theorem vx_isRef {C n d : String} {v : Value} {A : Nat → Prop} {s : State} {args : Array Value} (h : va_Z C n d v A s s.heap) (hv : v.isRef = true) : (Cond.isRef (.static C n d)).before args s = true := by
  obtain ⟨cf, kf, fi, f, a, cell, h1, h2, h3, h4, h5, h6, h7, -⟩ := h
  have he : (Term.static C n d).eval args s none [] s = some v := by
    simp [Term.eval, State.fieldNamed?, h1, h2, h4, h5, h6, h7]
  simp only [Cond.before, Cond.holds, Cond.value, he]
  cases v <;> simp_all [Value.isRef]
theorem vx_isRefq {C n d : String} {A : Nat → Prop} {s : State} {args : Array Value} (h : va_Zq C n d A s s.heap) : (Cond.isRef (.static C n d)).before args s = true := by
  rcases h with h | ⟨t, h⟩
  · exact vx_isRef h rfl
  · exact vx_isRef h rfl
/-- the same frame, seen from here: as if the method were called anew in this heap -/
theorem vx_rebase {T : State} (X : Stand p l e R s m args below meth c T locs cells slots) {R' : Room} (hf : R'.frames ≤ R.frames) (hl : R'.locals ≤ R.locals) (hc : cells + R'.cells ≤ R.cells) (hs : slots + R'.slots ≤ R.slots) :
    Stand p l e R' ((T.setVm s.vm).setFrames (.invoking m args :: below)) m args below meth c T [] 0 0 := by
  have htop : (T.setVm s.vm).topJava?.isSome := X.here.top
  have hF : ((T.setVm s.vm).setFrames (.invoking m args :: below)).frames = .invoking m args :: below := State.frames_setFrames _ (State.cur_lt_of_top htop)
  obtain ⟨g₀, hg0⟩ := Option.isSome_iff_exists.mp htop
  obtain ⟨r, hr⟩ := State.topJava?_eq_some.mp hg0
  have hl9 : e.platform.stackLimits (T.setVm s.vm).me = e.platform.stackLimits s.me := X.limits
  have hb9 : (T.setVm s.vm).me.stackBytes = s.me.stackBytes := X.bytes
  refine ⟨X.admits, X.cas, X.clock, hF, ?_, X.hears, X.method, X.code, X.here, X.tail, X.warmed, ?_, ?_, ?_⟩
  · have h := X.room
    have hU : ((T.setVm s.vm).setFrames (.invoking m args :: below)).localsInUse = s.localsInUse := by
      rw [State.localsInUse_invoking hF (meth := meth) (c := c) X.method X.code, State.localsInUse_invoking X.frames X.method X.code]
    simp only [State.hasRoom, Bool.and_eq_true, decide_eq_true_eq] at h ⊢
    obtain ⟨⟨⟨⟨h1, h2, h3, h4, h5, h6⟩, h7⟩, h8⟩, h9⟩ := h
    rw [X.frames, List.length_cons] at h2 h3
    have q1 := X.heapSize
    have q2 := X.used
    simp only [hF, hU, List.length_cons, State.stackLimits_setFrames, State.stackBytes_setFrames, hl9, hb9]
    refine ⟨⟨⟨⟨by omega, by omega, by omega, by omega, by omega, h6⟩, ?_⟩, ?_⟩, X.book⟩
    · show T.heap.size + R'.cells ≤ e.platform.maxCells
      omega
    · show T.slotsUsed + R'.slots ≤ e.platform.maxSlots
      omega
  · rw [State.stackLimits_setFrames]; rfl
  · rw [State.stackBytes_setFrames]; rfl
  · refine ⟨?_, Nat.le_refl _, Nat.le_refl _, ?_, ?_, fun a c9 h9 => ⟨c9, h9, rfl, rfl, fun _ _ => rfl⟩⟩
    · obtain ⟨t, ht, -⟩ := State.frames_cons hr
      show T.setVm s.vm = { ((T.setVm s.vm).setFrames (.invoking m args :: below)).setFrames (T.setVm s.vm).frames with heap := T.heap, slotsUsed := T.slotsUsed }
      rw [State.setFrames_setFrames, State.setFrames_self ht]
      rfl
    · show T.slotsUsed = T.slotsUsed + ((T.heap.toList.drop T.heap.size).map (·.slots.size)).sum
      rw [List.drop_eq_nil_of_le (Nat.le_of_eq Array.length_toList)]
      rfl
    · show ((T.heap.toList.drop T.heap.size).map (·.slots.size)).sum ≤ 0
      rw [List.drop_eq_nil_of_le (Nat.le_of_eq Array.length_toList)]
      exact Nat.le_refl _
/-- 'throw new E()': new; dup; invokespecial; athrow -/
theorem vx_throw0 {cc : ByteArray} {pc : Nat} (hexec : p.tables.exec = Jvm.exec) (hb : c.code = cc) (hl : l.stackTraces = false) {own cls : String} {names : List String} {ik ic mc ms : Nat} {A : Nat → Prop}
    (hown : s.vm.findClass own = some m.cls) (hcls : Bundle.fit cls = true) (hnames : ∀ n ∈ names, Bundle.fit n = true)
    (hk : (Cond.classLink own ik cls).before args s = true) (hini : (Cond.initialized cls).before args s = true) (hat : ∀ w ∈ vx_at0 own ic cls names, w.before args s = true)
    (hgood : ∀ w ∈ Cond.classLink own ik cls :: Cond.initialized cls :: vx_at0 own ic cls names, vx_ot w = true)
    (hU : vx_Zq Bundle.tN "UNASSIGNED_STACK" Bundle.steD A s s.heap) (hN : vx_Zq Bundle.tN "SUPPRESSED_SENTINEL" Bundle.listD A s s.heap) (hS : va_S A s.heap H locs) (hsize : ls.size = c.maxLocals)
    (d0 : decode cc pc = .ok (.new ik, 3)) (d3 : decode cc (pc + 3) = .ok (.dup, 1)) (d4 : decode cc (pc + 4) = .ok (.invokespecial ic, 3)) (d7 : decode cc (pc + 7) = .ok (.athrow, 1))
    (hout : ∀ x ∈ c.exceptionTable.toList, covers x (pc + 7) = false)
    (hRframes : names.length + 3 < R.frames) (hRlocals : (rest.map fun v => v.category).sum + (13 * (names.length + 1) + 42) ≤ R.locals) (hRcells : cells + 1 ≤ R.cells) (hRslots : slots + 6 ≤ R.slots) (hlocks : meth.locks = false)
    (hx : ∀ t : State, s.vm.Alike t.vm → H.size ≤ t.heap.size → (∀ q : Nat, q < H.size → t.heap[q]? = H[q]?) → XC cls s t)
    (hf : ∀ z ∈ locs, free z.base) (hc : cells + 1 ≤ mc) (hs : slots + 6 ≤ ms) :
    W p l e R s m args below meth c H locs cells slots (vx_MQ below Qc XC args s mc ms free) (F0 m pc ls rest) := by
  intro T hT X
  have htr : e.platform.stackTraces = false := (show e.platform.stackTraces = l.stackTraces by rw [X.admits.platform]).trans hl
  have Y := vx_rebase X (R' := { frames := R.frames, locals := R.locals, cells := 1, slots := 6 }) (Nat.le_refl _) (Nat.le_refl _) hRcells hRslots
  obtain ⟨s', hA⟩ : ∃ z, z = (T.setVm s.vm).setFrames (.invoking m args :: below) := ⟨_, rfl⟩
  rw [← hA] at Y
  have hvm : s'.vm = s.vm := by rw [hA]; rfl
  have hhp : s'.heap = H := by rw [hA]; exact hT
  have hW0 : s.WarmedH s'.vm := by rw [hvm]; exact State.WarmedH.refl s
  have hat' : ∀ w ∈ vx_at0 own ic cls names, w.before args s' = true := fun w hw => vx_ot_at hW0 hvm.symm (hgood w (List.mem_cons_of_mem _ (List.mem_cons_of_mem _ hw))) (hat w hw)
  have hk' : (Cond.classLink own ik cls).before args s' = true := vx_ot_at hW0 hvm.symm (hgood _ List.mem_cons_self) hk
  have hini' : (Cond.initialized cls).before args s' = true := vx_ot_at hW0 hvm.symm (hgood _ (List.mem_cons_of_mem _ List.mem_cons_self)) hini
  have hU' : vx_Zq Bundle.tN "UNASSIGNED_STACK" Bundle.steD A s' s'.heap := by rw [hhp]; exact vx_Zq.moved hW0.alike (hU.kept hS.2.1)
  have hN' : vx_Zq Bundle.tN "SUPPRESSED_SENTINEL" Bundle.listD A s' s'.heap := by rw [hhp]; exact vx_Zq.moved hW0.alike (hN.kept hS.2.1)
  have h : ∀ w ∈ Bundle.ownAtoms0 own ic cls names, w.before args s' = true := vx_own hat' (vx_isRefq hU'.1) (vx_isRefq hN'.1) hU'.2.word hN'.2.word
  have hown' : s'.vm.findClass own = some m.cls := by rw [hvm]; exact hown
  have hins : (Cond.instantiable cls 6).before args s' = true := h _ (by simp [Bundle.ownAtoms0])
  obtain ⟨vm₁, cX, kX, hfX, hkX, -, -, X₁, st1⟩ := Y.newCold hexec (own := own) (C := cls) (index := ik) (n := 6) hown' hk' hins hini'
    (g := F0 m pc ls rest) rfl (by rw [hb]; exact d0) (Nat.le_refl _) (Nat.le_refl _)
  generalize hT1 : (T.setVm vm₁).pushCell { cls := cX, slots := kX.instanceTypes.map defaultValue, vm := .none } = T1 at X₁ st1
  have hcat : (Value.ref T.heap.size).category = 1 := rfl
  have hcellA : T1.heap[T.heap.size]? = some (freshCell cX kX) := by rw [← hT1]; exact State.heap_pushCell_size _ _
  have d3' : decode c.code (pc + 3) = .ok (.dup, 1) := by rw [hb]; exact d3
  obtain ⟨U, hsteps, hrun, hend, hW, hsame, ce, hce, hO⟩ := X₁.ctorThrow0 hexec htr (own := own) (cls := cls) (names := names) (ic := ic) hown' hcls hnames h (fun x hx => nomatch hx) hfX hkX hcellA (by rw [hhp, hT]; exact Nat.le_refl _)
    (g := { method := m, pc := pc + 4, locals := ls, stack := .ref T.heap.size :: .ref T.heap.size :: rest, locked := none }) rfl hsize rfl rfl (rest := rest) rfl
    (by rw [hb]; exact d4) (by rw [hb]; exact d7) hout hRframes (by simp only [List.map_cons, List.sum_cons, hcat]; omega) hlocks
  obtain ⟨f1, f2⟩ := vx_frame hsame
  rw [hhp] at f1 f2
  have hWs : s.WarmedH U.vm := State.WarmedH.trans hW0 hW
  have hcl : s.vm.findClass cls = some ce.cls := by
    have h9 := hO.cls
    rw [hvm] at h9
    exact h9
  have hall : s.sameButNew ({ U with vm := s.vm } : State) locs mc ms := by
    subst hA
    obtain ⟨e1, e2⟩ := hsame
    rw [State.setFrames_setFrames] at e1
    have h2 : (T.setVm s.vm).sameButNew ({ U with vm := s.vm } : State) [] (0 + 1) (0 + 6) := ⟨e1, e2⟩
    have h3 := X.same.trans h2
    rw [List.append_nil] at h3
    exact h3.mono hc hs
  refine ⟨U, ?_, .threw T.heap.size, hrun, hend, Or.inr ⟨T.heap.size, rfl, cls, ce, locs, hx U hWs.alike f1 (fun q hq => f2 q hq (fun z hz => nomatch hz)), hce, hO.vm, hcl, hWs, hall, hf⟩⟩
  refine st1 _ ?_
  show Steps p.tables e below (T1.setTop { method := m, pc := pc + 3, locals := ls, stack := .ref T.heap.size :: rest, locked := none }) _
  jvm_step X₁.here [X₁.here.top, hexec, d3', Value.category]
  exact hsteps
/-- 'throw new E("text")': new; dup; ldc; invokespecial; athrow -/
theorem vx_throwS {cc : ByteArray} {pc : Nat} (hexec : p.tables.exec = Jvm.exec) (hb : c.code = cc) (hl : l.stackTraces = false) {own cls text : String} {names : List String} {ik is ic mc ms sa : Nat} {A : Nat → Prop}
    (hown : s.vm.findClass own = some m.cls) (hcls : Bundle.fit cls = true) (hnames : ∀ n ∈ names, Bundle.fit n = true)
    (hk : (Cond.classLink own ik cls).before args s = true) (hini : (Cond.initialized cls).before args s = true) (hstr : vk_R own is text sa s) (hat : ∀ w ∈ vx_atS own ic cls names, w.before args s = true)
    (hgood : ∀ w ∈ Cond.classLink own ik cls :: Cond.initialized cls :: vx_atS own ic cls names, vx_ot w = true)
    (hU : vx_Zq Bundle.tN "UNASSIGNED_STACK" Bundle.steD A s s.heap) (hN : vx_Zq Bundle.tN "SUPPRESSED_SENTINEL" Bundle.listD A s s.heap) (hS : va_S A s.heap H locs) (hsize : ls.size = c.maxLocals)
    (d0 : decode cc pc = .ok (.new ik, 3)) (d3 : decode cc (pc + 3) = .ok (.dup, 1)) (d4 : decode cc (pc + 4) = .ok (.ldc is, 2)) (d6 : decode cc (pc + 6) = .ok (.invokespecial ic, 3)) (d9 : decode cc (pc + 9) = .ok (.athrow, 1))
    (hout : ∀ x ∈ c.exceptionTable.toList, covers x (pc + 9) = false)
    (hRframes : names.length + 3 < R.frames) (hRlocals : (rest.map fun v => v.category).sum + (13 * (names.length + 1) + 43) ≤ R.locals) (hRcells : cells + 1 ≤ R.cells) (hRslots : slots + 6 ≤ R.slots) (hlocks : meth.locks = false)
    (hx : ∀ t : State, s.vm.Alike t.vm → H.size ≤ t.heap.size → (∀ q : Nat, q < H.size → t.heap[q]? = H[q]?) → XC cls s t)
    (hf : ∀ z ∈ locs, free z.base) (hc : cells + 1 ≤ mc) (hs : slots + 6 ≤ ms) :
    W p l e R s m args below meth c H locs cells slots (vx_MQ below Qc XC args s mc ms free) (F0 m pc ls rest) := by
  intro T hT X
  have htr : e.platform.stackTraces = false := (show e.platform.stackTraces = l.stackTraces by rw [X.admits.platform]).trans hl
  have Y := vx_rebase X (R' := { frames := R.frames, locals := R.locals, cells := 1, slots := 6 }) (Nat.le_refl _) (Nat.le_refl _) hRcells hRslots
  obtain ⟨s', hA⟩ : ∃ z, z = (T.setVm s.vm).setFrames (.invoking m args :: below) := ⟨_, rfl⟩
  rw [← hA] at Y
  have hvm : s'.vm = s.vm := by rw [hA]; rfl
  have hhp : s'.heap = H := by rw [hA]; exact hT
  have hW0 : s.WarmedH s'.vm := by rw [hvm]; exact State.WarmedH.refl s
  have hat' : ∀ w ∈ vx_atS own ic cls names, w.before args s' = true := fun w hw => vx_ot_at hW0 hvm.symm (hgood w (List.mem_cons_of_mem _ (List.mem_cons_of_mem _ hw))) (hat w hw)
  have hk' : (Cond.classLink own ik cls).before args s' = true := vx_ot_at hW0 hvm.symm (hgood _ List.mem_cons_self) hk
  have hini' : (Cond.initialized cls).before args s' = true := vx_ot_at hW0 hvm.symm (hgood _ (List.mem_cons_of_mem _ List.mem_cons_self)) hini
  have hU' : vx_Zq Bundle.tN "UNASSIGNED_STACK" Bundle.steD A s' s'.heap := by rw [hhp]; exact vx_Zq.moved hW0.alike (hU.kept hS.2.1)
  have hN' : vx_Zq Bundle.tN "SUPPRESSED_SENTINEL" Bundle.listD A s' s'.heap := by rw [hhp]; exact vx_Zq.moved hW0.alike (hN.kept hS.2.1)
  have h : ∀ w ∈ Bundle.ownAtoms own ic cls names, w.before args s' = true := vx_own hat' (vx_isRefq hU'.1) (vx_isRefq hN'.1) hU'.2.word hN'.2.word
  have hown' : s'.vm.findClass own = some m.cls := by rw [hvm]; exact hown
  have hins : (Cond.instantiable cls 6).before args s' = true := h _ (by simp [Bundle.ownAtoms])
  obtain ⟨vm₁, cX, kX, hfX, hkX, -, -, X₁, st1⟩ := Y.newCold hexec (own := own) (C := cls) (index := ik) (n := 6) hown' hk' hins hini'
    (g := F0 m pc ls rest) rfl (by rw [hb]; exact d0) (Nat.le_refl _) (Nat.le_refl _)
  generalize hT1 : (T.setVm vm₁).pushCell { cls := cX, slots := kX.instanceTypes.map defaultValue, vm := .none } = T1 at X₁ st1
  have hcat : (Value.ref T.heap.size).category = 1 := rfl
  have hcellA : T1.heap[T.heap.size]? = some (freshCell cX kX) := by rw [← hT1]; exact State.heap_pushCell_size _ _
  have d3' : decode c.code (pc + 3) = .ok (.dup, 1) := by rw [hb]; exact d3
  have d4' : decode c.code (pc + 4) = .ok (.ldc is, 2) := by rw [hb]; exact d4
  have hstr' : vk_R own is text sa s' := vk_R.warm hW0 hstr
  obtain ⟨U, hsteps, hrun, hend, hW, hsame, ce, hce, hO⟩ := X₁.ctorThrowS hexec htr (own := own) (cls := cls) (names := names) (ic := ic) hown' hcls hnames h (fun x hx => nomatch hx) hfX hkX hcellA (by rw [hhp, hT]; exact Nat.le_refl _) (msg := .ref sa) rfl
    (g := { method := m, pc := pc + 6, locals := ls, stack := .ref sa :: .ref T.heap.size :: .ref T.heap.size :: rest, locked := none }) rfl hsize rfl rfl (rest := rest) rfl
    (by rw [hb]; exact d6) (by rw [hb]; exact d9) hout hRframes (by simp only [List.map_cons, List.sum_cons, hcat]; omega) hlocks
  obtain ⟨f1, f2⟩ := vx_frame hsame
  rw [hhp] at f1 f2
  have hWs : s.WarmedH U.vm := State.WarmedH.trans hW0 hW
  have hcl : s.vm.findClass cls = some ce.cls := by
    have h9 := hO.cls
    rw [hvm] at h9
    exact h9
  have hall : s.sameButNew ({ U with vm := s.vm } : State) locs mc ms := by
    subst hA
    obtain ⟨e1, e2⟩ := hsame
    rw [State.setFrames_setFrames] at e1
    have h2 : (T.setVm s.vm).sameButNew ({ U with vm := s.vm } : State) [] (0 + 1) (0 + 6) := ⟨e1, e2⟩
    have h3 := X.same.trans h2
    rw [List.append_nil] at h3
    exact h3.mono hc hs
  refine ⟨U, ?_, .threw T.heap.size, hrun, hend, Or.inr ⟨T.heap.size, rfl, cls, ce, locs, hx U hWs.alike f1 (fun q hq => f2 q hq (fun z hz => nomatch hz)), hce, hO.vm, hcl, hWs, hall, hf⟩⟩
  refine st1 _ ?_
  show Steps p.tables e below (T1.setTop { method := m, pc := pc + 3, locals := ls, stack := .ref T.heap.size :: rest, locked := none }) _
  jvm_step X₁.here [X₁.here.top, hexec, d3', Value.category]
  exact X₁.ldcString hexec (own := own) (text := text) (index := is) (a := sa) hown' hstr'.1 hstr'.2
    (g := { method := m, pc := pc + 4, locals := ls, stack := .ref T.heap.size :: .ref T.heap.size :: rest, locked := none }) rfl d4' _ hsteps
/-- 'throw new E("text")', the text by a wide index -/
theorem vx_throwSW {cc : ByteArray} {pc : Nat} (hexec : p.tables.exec = Jvm.exec) (hb : c.code = cc) (hl : l.stackTraces = false) {own cls text : String} {names : List String} {ik is ic mc ms sa : Nat} {A : Nat → Prop}
    (hown : s.vm.findClass own = some m.cls) (hcls : Bundle.fit cls = true) (hnames : ∀ n ∈ names, Bundle.fit n = true)
    (hk : (Cond.classLink own ik cls).before args s = true) (hini : (Cond.initialized cls).before args s = true) (hstr : vk_R own is text sa s) (hat : ∀ w ∈ vx_atS own ic cls names, w.before args s = true)
    (hgood : ∀ w ∈ Cond.classLink own ik cls :: Cond.initialized cls :: vx_atS own ic cls names, vx_ot w = true)
    (hU : vx_Zq Bundle.tN "UNASSIGNED_STACK" Bundle.steD A s s.heap) (hN : vx_Zq Bundle.tN "SUPPRESSED_SENTINEL" Bundle.listD A s s.heap) (hS : va_S A s.heap H locs) (hsize : ls.size = c.maxLocals)
    (d0 : decode cc pc = .ok (.new ik, 3)) (d3 : decode cc (pc + 3) = .ok (.dup, 1)) (d4 : decode cc (pc + 4) = .ok (.ldc_w is, 3)) (d7 : decode cc (pc + 7) = .ok (.invokespecial ic, 3)) (d10 : decode cc (pc + 10) = .ok (.athrow, 1))
    (hout : ∀ x ∈ c.exceptionTable.toList, covers x (pc + 10) = false)
    (hRframes : names.length + 3 < R.frames) (hRlocals : (rest.map fun v => v.category).sum + (13 * (names.length + 1) + 43) ≤ R.locals) (hRcells : cells + 1 ≤ R.cells) (hRslots : slots + 6 ≤ R.slots) (hlocks : meth.locks = false)
    (hx : ∀ t : State, s.vm.Alike t.vm → H.size ≤ t.heap.size → (∀ q : Nat, q < H.size → t.heap[q]? = H[q]?) → XC cls s t)
    (hf : ∀ z ∈ locs, free z.base) (hc : cells + 1 ≤ mc) (hs : slots + 6 ≤ ms) :
    W p l e R s m args below meth c H locs cells slots (vx_MQ below Qc XC args s mc ms free) (F0 m pc ls rest) := by
  intro T hT X
  have htr : e.platform.stackTraces = false := (show e.platform.stackTraces = l.stackTraces by rw [X.admits.platform]).trans hl
  have Y := vx_rebase X (R' := { frames := R.frames, locals := R.locals, cells := 1, slots := 6 }) (Nat.le_refl _) (Nat.le_refl _) hRcells hRslots
  obtain ⟨s', hA⟩ : ∃ z, z = (T.setVm s.vm).setFrames (.invoking m args :: below) := ⟨_, rfl⟩
  rw [← hA] at Y
  have hvm : s'.vm = s.vm := by rw [hA]; rfl
  have hhp : s'.heap = H := by rw [hA]; exact hT
  have hW0 : s.WarmedH s'.vm := by rw [hvm]; exact State.WarmedH.refl s
  have hat' : ∀ w ∈ vx_atS own ic cls names, w.before args s' = true := fun w hw => vx_ot_at hW0 hvm.symm (hgood w (List.mem_cons_of_mem _ (List.mem_cons_of_mem _ hw))) (hat w hw)
  have hk' : (Cond.classLink own ik cls).before args s' = true := vx_ot_at hW0 hvm.symm (hgood _ List.mem_cons_self) hk
  have hini' : (Cond.initialized cls).before args s' = true := vx_ot_at hW0 hvm.symm (hgood _ (List.mem_cons_of_mem _ List.mem_cons_self)) hini
  have hU' : vx_Zq Bundle.tN "UNASSIGNED_STACK" Bundle.steD A s' s'.heap := by rw [hhp]; exact vx_Zq.moved hW0.alike (hU.kept hS.2.1)
  have hN' : vx_Zq Bundle.tN "SUPPRESSED_SENTINEL" Bundle.listD A s' s'.heap := by rw [hhp]; exact vx_Zq.moved hW0.alike (hN.kept hS.2.1)
  have h : ∀ w ∈ Bundle.ownAtoms own ic cls names, w.before args s' = true := vx_own hat' (vx_isRefq hU'.1) (vx_isRefq hN'.1) hU'.2.word hN'.2.word
  have hown' : s'.vm.findClass own = some m.cls := by rw [hvm]; exact hown
  have hins : (Cond.instantiable cls 6).before args s' = true := h _ (by simp [Bundle.ownAtoms])
  obtain ⟨vm₁, cX, kX, hfX, hkX, -, -, X₁, st1⟩ := Y.newCold hexec (own := own) (C := cls) (index := ik) (n := 6) hown' hk' hins hini'
    (g := F0 m pc ls rest) rfl (by rw [hb]; exact d0) (Nat.le_refl _) (Nat.le_refl _)
  generalize hT1 : (T.setVm vm₁).pushCell { cls := cX, slots := kX.instanceTypes.map defaultValue, vm := .none } = T1 at X₁ st1
  have hcat : (Value.ref T.heap.size).category = 1 := rfl
  have hcellA : T1.heap[T.heap.size]? = some (freshCell cX kX) := by rw [← hT1]; exact State.heap_pushCell_size _ _
  have d3' : decode c.code (pc + 3) = .ok (.dup, 1) := by rw [hb]; exact d3
  have d4' : decode c.code (pc + 4) = .ok (.ldc_w is, 3) := by rw [hb]; exact d4
  have hstr' : vk_R own is text sa s' := vk_R.warm hW0 hstr
  obtain ⟨U, hsteps, hrun, hend, hW, hsame, ce, hce, hO⟩ := X₁.ctorThrowS hexec htr (own := own) (cls := cls) (names := names) (ic := ic) hown' hcls hnames h (fun x hx => nomatch hx) hfX hkX hcellA (by rw [hhp, hT]; exact Nat.le_refl _) (msg := .ref sa) rfl
    (g := { method := m, pc := pc + 7, locals := ls, stack := .ref sa :: .ref T.heap.size :: .ref T.heap.size :: rest, locked := none }) rfl hsize rfl rfl (rest := rest) rfl
    (by rw [hb]; exact d7) (by rw [hb]; exact d10) hout hRframes (by simp only [List.map_cons, List.sum_cons, hcat]; omega) hlocks
  obtain ⟨f1, f2⟩ := vx_frame hsame
  rw [hhp] at f1 f2
  have hWs : s.WarmedH U.vm := State.WarmedH.trans hW0 hW
  have hcl : s.vm.findClass cls = some ce.cls := by
    have h9 := hO.cls
    rw [hvm] at h9
    exact h9
  have hall : s.sameButNew ({ U with vm := s.vm } : State) locs mc ms := by
    subst hA
    obtain ⟨e1, e2⟩ := hsame
    rw [State.setFrames_setFrames] at e1
    have h2 : (T.setVm s.vm).sameButNew ({ U with vm := s.vm } : State) [] (0 + 1) (0 + 6) := ⟨e1, e2⟩
    have h3 := X.same.trans h2
    rw [List.append_nil] at h3
    exact h3.mono hc hs
  refine ⟨U, ?_, .threw T.heap.size, hrun, hend, Or.inr ⟨T.heap.size, rfl, cls, ce, locs, hx U hWs.alike f1 (fun q hq => f2 q hq (fun z hz => nomatch hz)), hce, hO.vm, hcl, hWs, hall, hf⟩⟩
  refine st1 _ ?_
  show Steps p.tables e below (T1.setTop { method := m, pc := pc + 3, locals := ls, stack := .ref T.heap.size :: rest, locked := none }) _
  jvm_step X₁.here [X₁.here.top, hexec, d3', Value.category]
  exact X₁.ldcStringW hexec (own := own) (text := text) (index := is) (a := sa) hown' hstr'.1 hstr'.2
    (g := { method := m, pc := pc + 4, locals := ls, stack := .ref T.heap.size :: .ref T.heap.size :: rest, locked := none }) rfl d4' _ hsteps
end Ends
section Bodies
variable {l : Launch}
theorem vx_ofW {y : MethodName} {ws ws' : List Cond} {rm : Room} {Pc : Array Value → State → Prop} {Qc : Array Value → State → Outcome → State → Prop} {XC : String → State → State → Prop} {mc ms : Nat} {free : Addr → Prop} {cc : ByteArray} {maxL : Nat} {ret : Option FieldType}
    (hy : plainName y.cls = true) (hw : ws = Cond.code y cc maxL ret :: ws')
    (body : ∀ p e s m args below meth c s₁, BodyLoose p l y (headSpec ws rm) cc maxL ret e s m args below meth c s₁ → c.maxLocals = maxL → (∀ x ∈ c.exceptionTable.toList, False) → Pc args s →
      W p l e (headSpec ws rm).room s m args below meth c s.heap [] 0 0 (vx_MQ below Qc XC args s mc ms free) (entryFrame m args maxL)) : vx_Met l y ws rm Pc Qc XC mc ms free := by
  refine MetFree.of_bodyS (code := cc) (maxLocals := maxL) (ret := ret) hy ?_ ?_
  · intro args s m h hn
    obtain ⟨meth, c, h1, h2, h3, h4, h5, h6, -, -⟩ := Cond.code_spec hn (atoms_spec (ws := ws) h _ (by rw [hw]; exact List.mem_cons_self))
    exact ⟨meth, c, h1, h2, h3, h4, h5, h6⟩
  · intro p e s m args below meth c s₁ B hml hP _
    have hh0 : s₁.heap = s.heap := by rw [B.state]; rfl
    have ht : ∀ x ∈ c.exceptionTable.toList, False := by
      obtain ⟨meth9, c9, h1, h2, -, -, -, -, h7, -⟩ := Cond.code_spec B.named (atoms_spec (ws := ws) B.pre _ (by rw [hw]; exact List.mem_cons_self))
      cases Option.some.inj (h1.symm.trans B.method)
      cases Option.some.inj (h2.symm.trans (Stand.of_body B).code)
      intro x hx
      rw [Array.isEmpty_iff.mp h7] at hx
      cases hx
    obtain ⟨t, a1, o, b1, b2, b3⟩ := body p e s m args below meth c s₁ B hml ht hP s₁ hh0 (Stand.of_body B)
    exact ⟨t, o, a1, b1, b2, b3⟩
/-- the table of a body with handlers -/
theorem vx_table {p : Program} {x y : MethodName} {S : Spec} {cc bytes : ByteArray} {maxL maxL' : Nat} {ret ret' : Option FieldType} {e : Env} {s s₁ : State} {m : MethodId} {args : Array Value} {below : List Frame} {meth : Method} {c : Code} {hh : List (Nat × Nat × Nat × Nat)}
    (B : BodyLoose p l y S cc maxL ret e s m args below meth c s₁) (h : (Cond.codeWith y bytes maxL' ret' hh).before args s = true) : c.exceptionTable.toList = tableOf hh := by
  obtain ⟨m9, meth9, c9, hn9, h1, h2, -, -, h6, -⟩ := Cond.codeWith_spec h
  cases Option.some.inj (hn9.symm.trans B.named)
  cases Option.some.inj (h1.symm.trans B.method)
  cases Option.some.inj (h2.symm.trans (Stand.of_body B).code)
  rw [← h6, table_eq]
end Bodies
end VXA
/-! ===== END ===== -/
/-! ===== BEGIN a static call of a method with an exception table ===== -/
section VXS
variable {p : Program} {l : Launch} {e : Env} {R : Room} {s : State} {m : MethodId} {args : Array Value} {below : List Frame} {meth : Method} {c : Code} {T : State} {H : Heap} {locs : List Loc} {cells slots : Nat}
abbrev vx_CSW (R : Room) (s : State) (args : Array Value) (own : String) (index : Nat) (y : MethodName) (bytes : ByteArray) (maxL : Nat) (ret : Option FieldType) (hh : List (Nat × Nat × Nat × Nat)) (ws : List Cond) (rm : Room) (mc ms n : Nat) : Prop :=
  (rm.cells = mc ∧ rm.slots = ms ∧ rm.frames + 1 ≤ R.frames ∧ 8 + (maxL + 11) + rm.locals ≤ R.locals ∧ (∀ w ∈ ws, ∀ (a' : Array Value) (U : State), s.WarmedH U.vm → w.before a' U = true) ∧ Cond.codeWith y bytes maxL ret hh ∈ ws) ∧
  (Cond.codeWith y bytes maxL ret hh).before args s = true ∧ (Cond.initialized y.cls).before args s = true ∧ (y.cls ≠ "java/lang/invoke/MethodHandle" ∧ y.cls ≠ "java/lang/invoke/VarHandle") ∧
  (∀ sig, parseMethodDescriptor y.desc = some sig → n = sig.parameters.length) ∧ (Cond.methodLink own index y).before args s = true ∧ (Cond.static y).before args s = true
theorem vx_cwSW {own : String} {index maxL mc ms : Nat} {y : MethodName} {bytes : ByteArray} {ret : Option FieldType} {hh : List (Nat × Nat × Nat × Nat)} {Ts ws ws' : List Cond} {rm : Room} (n : Nat) (ht : ∀ w ∈ Ts, w.before args s = true) (hT : GoodIn Ts (va_wsS own index y ws)) (hw : ws = Cond.codeWith y bytes maxL ret hh :: ws') (hrc : rm.cells = mc) (hrs : rm.slots = ms)
    (hd : y.cls ≠ "java/lang/invoke/MethodHandle" ∧ y.cls ≠ "java/lang/invoke/VarHandle" ∧ (parseMethodDescriptor y.desc).map (fun d => d.parameters.length) = some n) (hR : rm.frames + 1 ≤ R.frames ∧ 8 + (maxL + 11) + rm.locals ≤ R.locals) :
    vx_CSW R s args own index y bytes maxL ret hh ws rm mc ms n := by
  have ok : ∀ w ∈ va_wsS own index y ws, w.before args s = true := fun w h => ht w (hT w h).1
  have hG : GoodIn Ts ws := fun w h => hT w (by unfold va_wsS; exact List.mem_append_right _ h)
  have hc : Cond.codeWith y bytes maxL ret hh ∈ ws := by rw [hw]; exact List.mem_cons_self
  refine ⟨⟨hrc, hrs, hR.1, hR.2, pay_in ht hG, hc⟩, ht _ (hG _ hc).1, ok _ (by simp [va_wsS]), ⟨hd.1, hd.2.1⟩, fun sig h => ?_, ok _ (by simp [va_wsS]), ok _ (by simp [va_wsS])⟩
  have h2 := hd.2.2
  rw [h] at h2
  exact (Option.some.inj h2).symm
theorem vx_callSW (X : Stand p l e R s m args below meth c T locs cells slots) (hexec : p.tables.exec = Jvm.exec) {own : String} {index : Nat} {y : MethodName} {bytes : ByteArray} {maxL : Nat} {ret : Option FieldType} {hh : List (Nat × Nat × Nat × Nat)}
    (hown : s.vm.findClass own = some m.cls) (hlink : (Cond.methodLink own index y).before args s = true) (hstat : (Cond.static y).before args s = true) (hinit : (Cond.initialized y.cls).before args s = true)
    (hcode : (Cond.codeWith y bytes maxL ret hh).before args s = true) (hy : y.cls ≠ "java/lang/invoke/MethodHandle" ∧ y.cls ≠ "java/lang/invoke/VarHandle")
    {W9 : Nat} {Pre : Pt → Array Value → Prop} {Post : Pt → Array Value → Option Value → Pt → Prop} (hK : Back l R p e below s args y 3 W9 Pre Post)
    {g : JFrame} (hg : g.method = m) (hsize : g.locals.size = c.maxLocals) {argsL rest : List Value} (hlen : ∀ sig, parseMethodDescriptor y.desc = some sig → argsL.length = sig.parameters.length)
    (hstack : g.stack = argsL.reverse ++ rest) (hW : 2 * g.monitorRoom + (rest.map fun v => v.category).sum ≤ W9) (hdg : decode c.code g.pc = .ok (.invokestatic index, 3))
    (hpre : ∀ vm₁, s.WarmedH vm₁ → Pre ⟨T.setVm vm₁, locs, cells, slots⟩ argsL.toArray) :
    ∃ (v : Option Value) (vm₁ : Vm) (B : Pt), s.WarmedH vm₁ ∧ Stand p l e R s m args below meth c B.U B.locs B.cells B.slots ∧ Post ⟨T.setVm vm₁, locs, cells, slots⟩ argsL.toArray v B ∧
      ∀ target, Steps p.tables e below (B.U.setTop { g with pc := g.pc + 3, stack := v.toList ++ rest }) target → Steps p.tables e below (T.setTop g) target := by
  obtain ⟨mk, methM, cM, hnamed, hmethM, -, -, -, -, -, -, hsigM⟩ := Cond.codeWith_spec hcode
  have hstatic : methM.isStatic = true := Cond.static_spec hnamed hmethM hstat
  obtain ⟨kP, hkP, -⟩ := className_of_methodNamed hnamed
  have hinitP : kP.init = .initialized := Cond.initialized_spec (findClass_of_methodNamed hnamed) hkP hinit
  obtain ⟨vm₁, X₁, hstep₁⟩ := X.invokestatic hexec hown hlink hnamed hmethM hstatic hkP hinitP hy (g := g) hg (argsL := argsL) (rest := rest) (hlen _ hsigM) hstack hdg
  obtain ⟨v, B, X', hpost, hsteps⟩ := hK m meth c ⟨T.setVm vm₁, locs, cells, slots⟩ { g with stack := rest } (.invokestatic index) mk argsL.toArray X₁ hg hsize hdg hW (X₁.named hnamed) (hpre vm₁ X₁.warmed)
  exact ⟨v, vm₁, B, X₁.warmed, X', hpost, fun target h => hstep₁ _ fun acts => by rw [doInvoke_state]; exact hsteps.trans h⟩
theorem vx_runSW {y : MethodName} {bytes cc : ByteArray} {maxL nL mc ms n index : Nat} {ret : Option FieldType} {hh : List (Nat × Nat × Nat × Nat)} {ws : List Cond} {rm : Room} {Pc : Array Value → State → Prop} {Qc : Array Value → State → Outcome → State → Prop} {free : Addr → Prop} {Ts : List Cond} {own : String} {As rest : List Value} {g : JFrame}
    (S : CallFix p m c cc nL s args Ts own) (hM : Met l y ws rm Pc Qc mc ms free) (cw : vx_CSW R s args own index y bytes maxL ret hh ws rm mc ms n) (hp : PreS s H Pc As)
    (hg : g.method = m) (hn : As.length = n) (hsize : g.locals.size = nL) (hstack : g.stack = As.reverse ++ rest) (hW : 2 * g.monitorRoom + (rest.map fun v => v.category).sum ≤ 8) (hdg : decode cc g.pc = .ok (.invokestatic index, 3)) (hf : cells + mc ≤ R.cells ∧ slots + ms ≤ R.slots) :
    va_Run p l e R s m args below meth c H locs cells slots mc ms g rest (Qc As.toArray) (free) := by
  obtain ⟨⟨hrc, hrs, hfr, hlo, hws, hcw⟩, hcode, hini, hy, hlen, hl, hstt⟩ := cw
  have hK : Back l R p e below s args y 3 8 (PreOf R mc ms Pc) (PostOf Qc mc ms free) := va_backW (hh := hh) (bytes := bytes) (maxL := maxL) (ret := ret) hM hp.1 hrc hrs hfr hlo hws hcw (fun a' U hW => word_at hW (Or.inl (by first | rfl | simp [Cond.onTables, Cond.keeps, Cond.steady])) hini)
  obtain ⟨hx, hb, hml, ho, -⟩ := S
  intro T hT X
  obtain ⟨v, vm₁, ⟨U', l2, c2, s2⟩, hW₁, X', ⟨g', mk, t, L, e1, e2, hq, h1, hL, h2, h3⟩, st⟩ := vx_callSW X hx (hh := hh) (bytes := bytes) (maxL := maxL) (ret := ret) ho hl hstt hini hcode hy hK hg (hsize.trans hml.symm) (argsL := As) (rest := rest) (fun sig h => hn.trans (hlen sig h)) hstack hW (by rw [hb]; exact hdg)
    (fun vm₁ hW₁ => ⟨hf.1, hf.2, hp.2 (T.setVm vm₁) hT hW₁⟩)
  dsimp only [Pt.U, Pt.locs, Pt.cells, Pt.slots] at X' e1 e2 h1 h2 h3 st
  subst h1; subst h2; subst h3
  exact ⟨v, (T.setVm vm₁).calling g' mk As.toArray, t, U', L, hT, X', hL, e1, e2, hq, st⟩
/-- not caught here, past rows that name other classes: it goes on to the caller -/
theorem vx_outP {p : Program} {l : Launch} {e : Env} {R : Room} {s : State} {m : MethodId} {args : Array Value} {below : List Frame} {meth : Method} {c : Code} {H : Heap} {locs : List Loc} {cells slots : Nat} {free : Addr → Prop} {ls : Array Slot} {rest : List Value} {Qc : Array Value → State → Outcome → State → Prop} {XC : String → State → State → Prop}
    {pc : Nat} {own E : String} {ce : Cell} {q : Addr} {mc ms : Nat} (hown : s.vm.findClass own = some m.cls) (hlocks : meth.locks = false)
    (hpass : ∀ z ∈ c.exceptionTable.toList, covers z pc = false ∨ (z.catchType ≠ 0 ∧ ∃ nm : String, (Cond.classLink own z.catchType nm).before args s = true ∧ va_Nc E nm s)) (hcell : H[q]? = some ce) (hv : ce.vm = .none) (hcl : s.vm.findClass E = some ce.cls)
    (hx : ∀ t : State, t.heap = H → s.vm.Alike t.vm → XC E s t) (hf : ∀ z ∈ locs, free z.base) (hc : cells ≤ mc) (hs : slots ≤ ms) :
    vx_W p l e R s m args below meth c H locs cells slots (vx_MQ below Qc XC args s mc ms free) (F0 m pc ls rest) q := by
  intro T hT X
  have hpl : e.platform.magicAccessors = ({} : Platform).magicAccessors := by rw [X.admits.platform]
  obtain ⟨vm', hW', X', st⟩ := X.outThrough hlocks q (g := F0 m pc ls rest) rfl rfl rfl (cell := ce) (by rw [hT]; exact hcell) (by rw [hv]; rfl)
    (by obtain ⟨k9, h9, -⟩ := Vm.findClass_spec hcl; exact ⟨k9, h9⟩) (fun z hz => by
      rcases hpass z hz with h | ⟨hz0, nm, hl1, hn1⟩
      · exact Or.inl h
      · obtain ⟨c6, hc6, hcl6⟩ := Cond.classLink_spec hown hl1 e.platform hpl
        obtain ⟨a8, b8, h1, h2, h3⟩ := hn1
        cases Option.some.inj (h1.symm.trans hcl)
        cases Option.some.inj (h2.symm.trans hc6)
        exact Or.inr ⟨hz0, _, hcl6, h3⟩)
  obtain ⟨g₀, hfr⟩ := X'.frames_eq
  have hcell9 : ((T.setVm vm').setFrames (.throwing q :: below)).heap[q]? = some ce := by
    show T.heap[q]? = some ce
    rw [hT]; exact hcell
  have hend : Ended ((T.setVm vm').setFrames (.throwing q :: below)) below (.threw q) := State.frames_setFrames _ (State.cur_lt_of_frames hfr)
  refine ⟨(T.setVm vm').setFrames (.throwing q :: below), ?_, .threw q, X'.here.running, hend, Or.inr ⟨q, rfl, E, ce, locs, hx _ hT (X'.ends _).1.alike, hcell9, hv, hcl, (X'.ends _).1, (X'.ends _).2.mono hc hs, hf⟩⟩
  rw [X.pushThrowing_eq]
  exact st
/-- a thing of a world lies in the heap -/
theorem vx_lt {D : va_G} {cl : List vw_C} {ws : va_W} {H1 : Heap} (h : va_P D cl ws H1) {k : Nat} {q : Nat × va_E} (hk : ws[k]? = some q) : q.1 < H1.size := (h k q hk).lt
end VXS
/-! ===== END ===== -/
/-! ===== BEGIN methods with a table of their own: called by a name, returning or throwing ===== -/
section VXH
/-! vx_backW, vx_callVX, vx_callSX, vx_callVW, vx_runVW, vx_runVX, vx_runSX, vx_ofWH follow the same proofs as their sisters above (Free/Laws.lean, Shelf42/LK1.lean); vx_outP calls Shelf42/NT130.lean (outThrough). -/
section
variable {l : Launch} {R : Room} {p : Program} {e : Env} {below : List Frame} {s : State} {sargs : Array Value} {y : MethodName} {len W9 : Nat}
theorem vx_backW {ws : List Cond} {rm : Room} {Pc : Array Value → State → Prop} {Qc : Array Value → State → Outcome → State → Prop} {XC : String → State → State → Prop} {mc ms : Nat} {free : Addr → Prop} {bytes : ByteArray} {maxL : Nat} {ret : Option FieldType} {hh : List (Nat × Nat × Nat × Nat)}
    (hM : vx_Met l y ws rm Pc Qc XC mc ms free) (hblind : FrameBlind Pc) (hrc : rm.cells = mc) (hrs : rm.slots = ms)
    (hframes : rm.frames + 1 ≤ R.frames) (hlocals : W9 + (maxL + 11) + rm.locals ≤ R.locals)
    (hws : ∀ w ∈ ws, ∀ a' U, s.WarmedH U.vm → w.before a' U = true) (hcode : Cond.codeWith y bytes maxL ret hh ∈ ws) (hinit : ∀ a' U, s.WarmedH U.vm → (Cond.initialized y.cls).before a' U = true) :
    vx_Back l R p e below s sargs y len W9 (PreOf R mc ms Pc) (PostOf Qc mc ms free) (vx_Post XC mc ms free) := by
  intro m meth c A g ig mk a X hg hsize hdg hW hn hp
  have h1 : (headSpec ws rm).pre.before a A.U = true := atoms_intro fun w hw => hws w hw _ _ X.warmed
  have h2 : (Cond.codeWith y bytes maxL ret hh).before a A.U = true := hws _ hcode _ _ X.warmed
  have h3 : (Cond.initialized y.cls).before a A.U = true := hinit _ _ X.warmed
  have h4 : A.cells + (headSpec ws rm).room.cells ≤ R.cells := by rw [show (headSpec ws rm).room.cells = mc from hrc]; exact hp.1
  have h5 : A.slots + (headSpec ws rm).room.slots ≤ R.slots := by rw [show (headSpec ws rm).room.slots = ms from hrs]; exact hp.2.1
  have hPc : Pc a (A.U.calling g mk a) := hblind _ _ _ _ hp.2.2
  obtain ⟨U, Ls, c0, s0⟩ := A
  dsimp only [Pt.U, Pt.locs, Pt.cells, Pt.slots] at h1 h2 h3 h4 h5 X hn hPc ⊢
  obtain ⟨m9, methY, cY, hn9, hmY, hcY, -, hlY, -⟩ := Cond.codeWith_spec h2
  cases Option.some.inj (hn9.symm.trans hn)
  obtain ⟨kY, hkY, -⟩ := className_of_methodNamed hn
  have hinitY : kY.init = .initialized := Cond.initialized_spec (findClass_of_methodNamed hn) hkY h3
  have h : At U g.method c below := by rw [hg]; exact X.here
  have hlocals9 : W9 + (maxL + 11) + (headSpec ws rm).room.locals ≤ R.locals := hlocals
  have happ : (headSpec ws rm).appliesLoose y e.platform (U.calling g mk a) = true :=
    Spec.appliesLoose_calling (g := g) h hdg hn hkY hinitY
      (X.room_calling (g := g) (R' := (headSpec ws rm).room) hsize hmY hcY hframes (by rw [hlY]; omega) h4 h5) h1
  obtain ⟨mid, hmid⟩ := h.above
  have hfr : (U.setTop g).frames = (.java g :: mid) ++ below := by rw [State.frames_setTop' g h.top, hmid]; rfl
  obtain ⟨o, s₂, hsteps, -, hend, hq⟩ := Steps.callFree hM p X.admits X.cas X.clock (acts := []) hfr happ hPc trivial
  have hq' : vx_Q Qc XC mc ms free a (U.calling g mk a) o s₂ := hq
  rw [State.frames_setTop' g h.top] at hend
  obtain ⟨g₀, hg0⟩ := Option.isSome_iff_exists.mp h.top
  obtain ⟨r, hr⟩ := State.topJava?_eq_some.mp hg0
  have hr' : (({ U with heap := s₂.heap, slotsUsed := s₂.slotsUsed } : State).setVm s₂.vm).frames = .java g₀ :: r := hr
  rcases hq' with ⟨hqc, L, hfe, hL⟩ | ⟨q, rfl, E, ce, L, hx, hce, hcv, hcl, hW₂, hsm, hL⟩
  · obtain ⟨⟨v, rfl⟩, hW₂, e2, q2, q3, q4, q5, q6⟩ := id hfe
    have e3 : s₂ = ({ (U.calling g mk a).setFrames s₂.frames with heap := s₂.heap, slotsUsed := s₂.slotsUsed } : State).setVm s₂.vm := by
      have : s₂ = ({ s₂ with vm := (U.calling g mk a).vm } : State).setVm s₂.vm := rfl
      rw [e2] at this
      exact this
    obtain ⟨c₂, i₂, len₂, hc₂, hd₂, hf₂⟩ := hend
    have hW' : U.WarmedH s₂.vm := hW₂
    have hcc : c₂ = c := by
      have h1 : s₂.code? g.method = U.code? g.method := by
        rw [State.code?_eq, State.code?_eq, hW'.alike.method?]
      exact Option.some.inj (hc₂.symm.trans (h1.trans h.code))
    subst hcc
    have hlen : len₂ = len := by rw [hdg] at hd₂; cases hd₂; rfl
    subst hlen
    have hs₂ : s₂ = (({ U with heap := s₂.heap, slotsUsed := s₂.slotsUsed } : State).setVm s₂.vm).setTop { g with pc := g.pc + len₂, stack := v.toList ++ g.stack } := by
      refine e3.trans ?_
      rw [hf₂, State.calling_eq h.top, State.setFrames_setFrames, State.setTop_of_frames _ hr', hr]
      rfl
    have hsame : U.sameButNew ({ U with heap := s₂.heap, slotsUsed := s₂.slotsUsed } : State) L mc ms := by
      refine ⟨?_, q2, q3, q4, q5, q6⟩
      obtain ⟨t, ht, -⟩ := State.frames_cons hr
      show ({ U with heap := s₂.heap, slotsUsed := s₂.slotsUsed } : State) = { U.setFrames U.frames with heap := s₂.heap, slotsUsed := s₂.slotsUsed }
      rw [State.setFrames_self ht]
    subst hg
    refine Or.inl ⟨v, ⟨(({ U with heap := s₂.heap, slotsUsed := s₂.slotsUsed } : State).setVm s₂.vm), Ls ++ L, c0 + mc, s0 + ms⟩,
      ⟨X.admits, X.cas, X.clock, X.frames, X.room, X.hears, X.method, X.code, (X.here.setHeapUsed s₂.heap s₂.slotsUsed).setVm hW'.alike, X.tail, State.WarmedH.trans X.warmed hW', X.limits, X.bytes, X.same.trans (hsame.setVm s.vm)⟩,
      ⟨g, mk, s₂, L, rfl, rfl, hqc, rfl, hL, rfl, rfl⟩, ?_⟩
    show Steps p.tables e below _ ((({ U with heap := s₂.heap, slotsUsed := s₂.slotsUsed } : State).setVm s₂.vm).setTop { g with pc := g.pc + len₂, stack := v.toList ++ g.stack })
    rw [← hs₂]
    exact hsteps
  · obtain ⟨e2, q2, q3, q4, q5, q6⟩ := id hsm
    have e3 : s₂ = ({ (U.calling g mk a).setFrames s₂.frames with heap := s₂.heap, slotsUsed := s₂.slotsUsed } : State).setVm s₂.vm := by
      have : s₂ = ({ s₂ with vm := (U.calling g mk a).vm } : State).setVm s₂.vm := rfl
      rw [e2] at this
      exact this
    have hf₂ : s₂.frames = .throwing q :: .java g :: U.frames.tail := hend
    have hW' : U.WarmedH s₂.vm := hW₂
    have hs₂ : s₂ = ((({ U with heap := s₂.heap, slotsUsed := s₂.slotsUsed } : State).setVm s₂.vm).setTop g).pushFrame (.throwing q) := by
      refine e3.trans ?_
      rw [hf₂, State.calling_eq h.top, State.setFrames_setFrames, State.pushFrame, State.frames_setTop _ hr', State.setTop_of_frames _ hr', State.setFrames_setFrames, hr]
      rfl
    have hsame : U.sameButNew ({ U with heap := s₂.heap, slotsUsed := s₂.slotsUsed } : State) L mc ms := by
      refine ⟨?_, q2, q3, q4, q5, q6⟩
      obtain ⟨t, ht, -⟩ := State.frames_cons hr
      show ({ U with heap := s₂.heap, slotsUsed := s₂.slotsUsed } : State) = { U.setFrames U.frames with heap := s₂.heap, slotsUsed := s₂.slotsUsed }
      rw [State.setFrames_self ht]
    subst hg
    refine Or.inr ⟨q, ⟨(({ U with heap := s₂.heap, slotsUsed := s₂.slotsUsed } : State).setVm s₂.vm), Ls ++ L, c0 + mc, s0 + ms⟩,
      ⟨X.admits, X.cas, X.clock, X.frames, X.room, X.hears, X.method, X.code, (X.here.setHeapUsed s₂.heap s₂.slotsUsed).setVm hW'.alike, X.tail, State.WarmedH.trans X.warmed hW', X.limits, X.bytes, X.same.trans (hsame.setVm s.vm)⟩,
      ⟨g, mk, s₂, L, E, ce, rfl, rfl, hx, hce, hcv, hcl, rfl, hL, rfl, rfl⟩, ?_⟩
    show Steps p.tables e below _ (((({ U with heap := s₂.heap, slotsUsed := s₂.slotsUsed } : State).setVm s₂.vm).setTop g).pushFrame (.throwing q))
    rw [← hs₂]
    exact hsteps
end
variable {p : Program} {l : Launch} {e : Env} {R : Room} {s : State} {m : MethodId} {args : Array Value} {below : List Frame} {meth : Method} {c : Code} {T : State} {H : Heap} {locs : List Loc} {cells slots : Nat}
theorem vx_callVX (X : Stand p l e R s m args below meth c T locs cells slots) (hexec : p.tables.exec = Jvm.exec) {own C : String} {index : Nat} {y : MethodName} {bytes : ByteArray} {maxL : Nat} {ret : Option FieldType} {hh : List (Nat × Nat × Nat × Nat)}
    (hown : s.vm.findClass own = some m.cls) (hlink : (Cond.methodLink own index y).before args s = true) (hinst : (Cond.instanceMethod y).before args s = true) (hsel : (Cond.selects C y y).before args s = true)
    (hcode : (Cond.codeWith y bytes maxL ret hh).before args s = true) (hy : y.cls ≠ "java/lang/invoke/MethodHandle" ∧ y.cls ≠ "java/lang/invoke/VarHandle")
    {W9 : Nat} {Pre : Pt → Array Value → Prop} {Post : Pt → Array Value → Option Value → Pt → Prop} {PostX : Pt → Array Value → Addr → Pt → Prop} (hK : vx_Back l R p e below s args y 3 W9 Pre Post PostX)
    {b : Addr} {cellB : Cell} (hcell : T.heap[b]? = some cellB) (hobj : cellB.vm.isStatics = false) (hcls : s.vm.findClass C = some cellB.cls)
    {g : JFrame} (hg : g.method = m) (hsize : g.locals.size = c.maxLocals) {argsL rest : List Value} (hlen : ∀ sig, parseMethodDescriptor y.desc = some sig → argsL.length = sig.parameters.length)
    (hstack : g.stack = argsL.reverse ++ .ref b :: rest) (hW : 2 * g.monitorRoom + (rest.map fun v => v.category).sum ≤ W9) (hdg : decode c.code g.pc = .ok (.invokevirtual index, 3))
    (hpre : ∀ vm₁, s.WarmedH vm₁ → Pre ⟨T.setVm vm₁, locs, cells, slots⟩ (Value.ref b :: argsL).toArray) :
    (∃ (v : Option Value) (vm₁ : Vm) (B : Pt), s.WarmedH vm₁ ∧ Stand p l e R s m args below meth c B.U B.locs B.cells B.slots ∧ Post ⟨T.setVm vm₁, locs, cells, slots⟩ (Value.ref b :: argsL).toArray v B ∧
      ∀ target, Steps p.tables e below (B.U.setTop { g with pc := g.pc + 3, stack := v.toList ++ rest }) target → Steps p.tables e below (T.setTop g) target) ∨
    (∃ (q : Addr) (vm₁ : Vm) (B : Pt), s.WarmedH vm₁ ∧ Stand p l e R s m args below meth c B.U B.locs B.cells B.slots ∧ PostX ⟨T.setVm vm₁, locs, cells, slots⟩ (Value.ref b :: argsL).toArray q B ∧
      Steps p.tables e below (T.setTop g) ((B.U.setTop { g with stack := rest }).pushFrame (.throwing q))) := by
  obtain ⟨mk, methM, hnamed, hmethM, hstM, habM⟩ := Cond.instanceMethod_spec hinst
  obtain ⟨m8, methM', cM, hn8, hmethM', -, -, -, -, -, -, hsigM⟩ := Cond.codeWith_spec hcode
  cases Option.some.inj (hn8.symm.trans hnamed)
  cases hmethM.symm.trans hmethM'
  obtain ⟨c2, r2, m2, q1, q2, q3, q4, kP, hkP, hkPi⟩ := Cond.selects_spec hsel
  cases hcls.symm.trans q1
  cases (State.methodFound?_of_named hnamed hy).symm.trans q2
  cases hnamed.symm.trans q3
  have hselP : selectMethod e.platform s.vm cellB.cls mk = .method mk := by rw [Launch.admits_selectMethod X.admits]; exact q4
  obtain ⟨vm₁, X₁, hstep₁⟩ := X.invokevirtual hexec hown hlink hnamed hmethM hstM hkP hkPi hy (a := b) (cell := cellB) hcell
    (fun z h => by rw [h] at hobj; cases hobj) hselP hmethM habM hkP hkPi (g := g) hg (argsL := argsL) (rest := rest) (hlen _ hsigM) hstack hdg
  rcases hK m meth c ⟨T.setVm vm₁, locs, cells, slots⟩ { g with stack := rest } (.invokevirtual index) mk (Value.ref b :: argsL).toArray X₁ hg hsize hdg hW (X₁.named hnamed) (hpre vm₁ X₁.warmed) with ⟨v, B, X', hpost, hsteps⟩ | ⟨q, B, X', hpost, hsteps⟩
  · exact Or.inl ⟨v, vm₁, B, X₁.warmed, X', hpost, fun target h => hstep₁ _ fun acts => by rw [doInvoke_state]; exact hsteps.trans h⟩
  · exact Or.inr ⟨q, vm₁, B, X₁.warmed, X', hpost, hstep₁ _ fun acts => by rw [doInvoke_state]; exact hsteps⟩
theorem vx_callSX (X : Stand p l e R s m args below meth c T locs cells slots) (hexec : p.tables.exec = Jvm.exec) {own : String} {index : Nat} {y : MethodName} {bytes : ByteArray} {maxL : Nat} {ret : Option FieldType} {hh : List (Nat × Nat × Nat × Nat)}
    (hown : s.vm.findClass own = some m.cls) (hlink : (Cond.methodLink own index y).before args s = true) (hstat : (Cond.static y).before args s = true) (hinit : (Cond.initialized y.cls).before args s = true)
    (hcode : (Cond.codeWith y bytes maxL ret hh).before args s = true) (hy : y.cls ≠ "java/lang/invoke/MethodHandle" ∧ y.cls ≠ "java/lang/invoke/VarHandle")
    {W9 : Nat} {Pre : Pt → Array Value → Prop} {Post : Pt → Array Value → Option Value → Pt → Prop} {PostX : Pt → Array Value → Addr → Pt → Prop} (hK : vx_Back l R p e below s args y 3 W9 Pre Post PostX)
    {g : JFrame} (hg : g.method = m) (hsize : g.locals.size = c.maxLocals) {argsL rest : List Value} (hlen : ∀ sig, parseMethodDescriptor y.desc = some sig → argsL.length = sig.parameters.length)
    (hstack : g.stack = argsL.reverse ++ rest) (hW : 2 * g.monitorRoom + (rest.map fun v => v.category).sum ≤ W9) (hdg : decode c.code g.pc = .ok (.invokestatic index, 3))
    (hpre : ∀ vm₁, s.WarmedH vm₁ → Pre ⟨T.setVm vm₁, locs, cells, slots⟩ argsL.toArray) :
    (∃ (v : Option Value) (vm₁ : Vm) (B : Pt), s.WarmedH vm₁ ∧ Stand p l e R s m args below meth c B.U B.locs B.cells B.slots ∧ Post ⟨T.setVm vm₁, locs, cells, slots⟩ argsL.toArray v B ∧
      ∀ target, Steps p.tables e below (B.U.setTop { g with pc := g.pc + 3, stack := v.toList ++ rest }) target → Steps p.tables e below (T.setTop g) target) ∨
    (∃ (q : Addr) (vm₁ : Vm) (B : Pt), s.WarmedH vm₁ ∧ Stand p l e R s m args below meth c B.U B.locs B.cells B.slots ∧ PostX ⟨T.setVm vm₁, locs, cells, slots⟩ argsL.toArray q B ∧
      Steps p.tables e below (T.setTop g) ((B.U.setTop { g with stack := rest }).pushFrame (.throwing q))) := by
  obtain ⟨mk, methM, cM, hnamed, hmethM, -, -, -, -, -, -, hsigM⟩ := Cond.codeWith_spec hcode
  have hstatic : methM.isStatic = true := Cond.static_spec hnamed hmethM hstat
  obtain ⟨kP, hkP, -⟩ := className_of_methodNamed hnamed
  have hinitP : kP.init = .initialized := Cond.initialized_spec (findClass_of_methodNamed hnamed) hkP hinit
  obtain ⟨vm₁, X₁, hstep₁⟩ := X.invokestatic hexec hown hlink hnamed hmethM hstatic hkP hinitP hy (g := g) hg (argsL := argsL) (rest := rest) (hlen _ hsigM) hstack hdg
  rcases hK m meth c ⟨T.setVm vm₁, locs, cells, slots⟩ { g with stack := rest } (.invokestatic index) mk argsL.toArray X₁ hg hsize hdg hW (X₁.named hnamed) (hpre vm₁ X₁.warmed) with ⟨v, B, X', hpost, hsteps⟩ | ⟨q, B, X', hpost, hsteps⟩
  · exact Or.inl ⟨v, vm₁, B, X₁.warmed, X', hpost, fun target h => hstep₁ _ fun acts => by rw [doInvoke_state]; exact hsteps.trans h⟩
  · exact Or.inr ⟨q, vm₁, B, X₁.warmed, X', hpost, hstep₁ _ fun acts => by rw [doInvoke_state]; exact hsteps⟩
theorem vx_callVW (X : Stand p l e R s m args below meth c T locs cells slots) (hexec : p.tables.exec = Jvm.exec) {own C : String} {index : Nat} {y : MethodName} {bytes : ByteArray} {maxL : Nat} {ret : Option FieldType} {hh : List (Nat × Nat × Nat × Nat)}
    (hown : s.vm.findClass own = some m.cls) (hlink : (Cond.methodLink own index y).before args s = true) (hinst : (Cond.instanceMethod y).before args s = true) (hsel : (Cond.selects C y y).before args s = true)
    (hcode : (Cond.codeWith y bytes maxL ret hh).before args s = true) (hy : y.cls ≠ "java/lang/invoke/MethodHandle" ∧ y.cls ≠ "java/lang/invoke/VarHandle")
    {W9 : Nat} {Pre : Pt → Array Value → Prop} {Post : Pt → Array Value → Option Value → Pt → Prop} (hK : Back l R p e below s args y 3 W9 Pre Post)
    {b : Addr} {cellB : Cell} (hcell : T.heap[b]? = some cellB) (hobj : cellB.vm.isStatics = false) (hcls : s.vm.findClass C = some cellB.cls)
    {g : JFrame} (hg : g.method = m) (hsize : g.locals.size = c.maxLocals) {argsL rest : List Value} (hlen : ∀ sig, parseMethodDescriptor y.desc = some sig → argsL.length = sig.parameters.length)
    (hstack : g.stack = argsL.reverse ++ .ref b :: rest) (hW : 2 * g.monitorRoom + (rest.map fun v => v.category).sum ≤ W9) (hdg : decode c.code g.pc = .ok (.invokevirtual index, 3))
    (hpre : ∀ vm₁, s.WarmedH vm₁ → Pre ⟨T.setVm vm₁, locs, cells, slots⟩ (Value.ref b :: argsL).toArray) :
    ∃ (v : Option Value) (vm₁ : Vm) (B : Pt), s.WarmedH vm₁ ∧ Stand p l e R s m args below meth c B.U B.locs B.cells B.slots ∧ Post ⟨T.setVm vm₁, locs, cells, slots⟩ (Value.ref b :: argsL).toArray v B ∧
      ∀ target, Steps p.tables e below (B.U.setTop { g with pc := g.pc + 3, stack := v.toList ++ rest }) target → Steps p.tables e below (T.setTop g) target := by
  obtain ⟨mk, methM, hnamed, hmethM, hstM, habM⟩ := Cond.instanceMethod_spec hinst
  obtain ⟨m8, methM', cM, hn8, hmethM', -, -, -, -, -, -, hsigM⟩ := Cond.codeWith_spec hcode
  cases Option.some.inj (hn8.symm.trans hnamed)
  cases hmethM.symm.trans hmethM'
  obtain ⟨c2, r2, m2, q1, q2, q3, q4, kP, hkP, hkPi⟩ := Cond.selects_spec hsel
  cases hcls.symm.trans q1
  cases (State.methodFound?_of_named hnamed hy).symm.trans q2
  cases hnamed.symm.trans q3
  have hselP : selectMethod e.platform s.vm cellB.cls mk = .method mk := by rw [Launch.admits_selectMethod X.admits]; exact q4
  obtain ⟨vm₁, X₁, hstep₁⟩ := X.invokevirtual hexec hown hlink hnamed hmethM hstM hkP hkPi hy (a := b) (cell := cellB) hcell
    (fun z h => by rw [h] at hobj; cases hobj) hselP hmethM habM hkP hkPi (g := g) hg (argsL := argsL) (rest := rest) (hlen _ hsigM) hstack hdg
  obtain ⟨v, B, X', hpost, hsteps⟩ := hK m meth c ⟨T.setVm vm₁, locs, cells, slots⟩ { g with stack := rest } (.invokevirtual index) mk (Value.ref b :: argsL).toArray X₁ hg hsize hdg hW (X₁.named hnamed) (hpre vm₁ X₁.warmed)
  exact ⟨v, vm₁, B, X₁.warmed, X', hpost, fun target h => hstep₁ _ fun acts => by rw [doInvoke_state]; exact hsteps.trans h⟩
abbrev vx_CVW (R : Room) (s : State) (args : Array Value) (own C : String) (index : Nat) (y : MethodName) (bytes : ByteArray) (maxL : Nat) (ret : Option FieldType) (hh : List (Nat × Nat × Nat × Nat)) (ws : List Cond) (rm : Room) (mc ms n : Nat) : Prop :=
  (rm.cells = mc ∧ rm.slots = ms ∧ rm.frames + 1 ≤ R.frames ∧ 8 + (maxL + 11) + rm.locals ≤ R.locals ∧ (∀ w ∈ ws, ∀ (a' : Array Value) (U : State), s.WarmedH U.vm → w.before a' U = true) ∧ Cond.codeWith y bytes maxL ret hh ∈ ws) ∧
  (Cond.codeWith y bytes maxL ret hh).before args s = true ∧ (Cond.initialized y.cls).before args s = true ∧ (y.cls ≠ "java/lang/invoke/MethodHandle" ∧ y.cls ≠ "java/lang/invoke/VarHandle") ∧
  (∀ sig, parseMethodDescriptor y.desc = some sig → n = sig.parameters.length) ∧ (Cond.methodLink own index y).before args s = true ∧ (Cond.instanceMethod y).before args s = true ∧ (Cond.selects C y y).before args s = true
theorem vx_cwVW {own C : String} {index maxL mc ms : Nat} {y : MethodName} {bytes : ByteArray} {ret : Option FieldType} {hh : List (Nat × Nat × Nat × Nat)} {Ts ws ws' : List Cond} {rm : Room} (n : Nat) (ht : ∀ w ∈ Ts, w.before args s = true) (hT : GoodIn Ts (wsV own index C y ws)) (hw : ws = Cond.codeWith y bytes maxL ret hh :: ws') (hrc : rm.cells = mc) (hrs : rm.slots = ms)
    (hd : y.cls = C ∧ y.cls ≠ "java/lang/invoke/MethodHandle" ∧ y.cls ≠ "java/lang/invoke/VarHandle" ∧ (parseMethodDescriptor y.desc).map (fun d => d.parameters.length) = some n) (hR : rm.frames + 1 ≤ R.frames ∧ 8 + (maxL + 11) + rm.locals ≤ R.locals) :
    vx_CVW R s args own C index y bytes maxL ret hh ws rm mc ms n := by
  obtain ⟨hC, hd⟩ := hd
  subst hC
  have ok : ∀ w ∈ wsV own index y.cls y ws, w.before args s = true := fun w h => ht w (hT w h).1
  have hG : GoodIn Ts ws := fun w h => hT w (by unfold wsV; exact List.mem_append_right _ h)
  have hc : Cond.codeWith y bytes maxL ret hh ∈ ws := by rw [hw]; exact List.mem_cons_self
  refine ⟨⟨hrc, hrs, hR.1, hR.2, pay_in ht hG, hc⟩, ht _ (hG _ hc).1, ok _ (by simp [wsV]), ⟨hd.1, hd.2.1⟩, fun sig h => ?_, ok _ (by simp [wsV]), ok _ (by simp [wsV]), ok _ (by simp [wsV])⟩
  have h2 := hd.2.2
  rw [h] at h2
  exact (Option.some.inj h2).symm
theorem vx_runVW {y : MethodName} {bytes cc : ByteArray} {maxL nL mc ms n index : Nat} {ret : Option FieldType} {hh : List (Nat × Nat × Nat × Nat)} {ws : List Cond} {rm : Room} {Pc : Array Value → State → Prop} {Qc : Array Value → State → Outcome → State → Prop} {free : Addr → Prop} {Ts : List Cond} {own C : String} {b : Addr} {As rest : List Value} {g : JFrame}
    (S : CallFix p m c cc nL s args Ts own) (hM : Met l y ws rm Pc Qc mc ms free) (cw : vx_CVW R s args own C index y bytes maxL ret hh ws rm mc ms n) (hp : PreV s H C b Pc As)
    (hg : g.method = m) (hn : As.length = n) (hsize : g.locals.size = nL) (hstack : g.stack = As.reverse ++ .ref b :: rest) (hW : 2 * g.monitorRoom + (rest.map fun v => v.category).sum ≤ 8) (hdg : decode cc g.pc = .ok (.invokevirtual index, 3)) (hf : cells + mc ≤ R.cells ∧ slots + ms ≤ R.slots) :
    va_Run p l e R s m args below meth c H locs cells slots mc ms g rest (Qc (Value.ref b :: As).toArray) free := by
  obtain ⟨⟨hrc, hrs, hfr, hlo, hws, hcw⟩, hcode, hini, hy, hlen, hl, hin, hse⟩ := cw
  have hK : Back l R p e below s args y 3 8 (PreOf R mc ms Pc) (PostOf Qc mc ms free) := va_backW (hh := hh) (bytes := bytes) (maxL := maxL) (ret := ret) hM hp.1 hrc hrs hfr hlo hws hcw (fun a' U hW => word_at hW (Or.inl (by first | rfl | simp [Cond.onTables, Cond.keeps, Cond.steady])) hini)
  obtain ⟨hx, hb, hml, ho, -⟩ := S
  obtain ⟨-, ⟨cellB, hcB, hoB, hclB⟩, hPc⟩ := hp
  intro T hT X
  obtain ⟨v, vm₁, ⟨U', l2, c2, s2⟩, hW₁, X', ⟨g', mk, t, L, e1, e2, hq, h1, hL, h2, h3⟩, st⟩ := vx_callVW X hx (C := C) (hh := hh) (bytes := bytes) (maxL := maxL) (ret := ret) ho hl hin hse hcode hy hK (by rw [hT]; exact hcB) hoB hclB hg (hsize.trans hml.symm) (argsL := As) (rest := rest) (fun sig h => hn.trans (hlen sig h)) hstack hW (by rw [hb]; exact hdg)
    (fun vm₁ hW₁ => ⟨hf.1, hf.2, hPc (T.setVm vm₁) hT hW₁⟩)
  dsimp only [Pt.U, Pt.locs, Pt.cells, Pt.slots] at X' e1 e2 h1 h2 h3 st
  subst h1; subst h2; subst h3
  exact ⟨v, (T.setVm vm₁).calling g' mk (Value.ref b :: As).toArray, t, U', L, hT, X', hL, e1, e2, hq, st⟩
section
variable {y : MethodName} {bytes cc : ByteArray} {maxL nL mc ms n index : Nat} {ret : Option FieldType} {ws : List Cond} {rm : Room} {Pc : Array Value → State → Prop} {Qc : Array Value → State → Outcome → State → Prop} {XC : String → State → State → Prop} {free : Addr → Prop} {Ts : List Cond} {own C : String} {b : Addr} {As rest : List Value} {g : JFrame}
theorem vx_runVX {hh : List (Nat × Nat × Nat × Nat)} (S : CallFix p m c cc nL s args Ts own) (hM : vx_Met l y ws rm Pc Qc XC mc ms free) (cw : vx_CVW R s args own C index y bytes maxL ret hh ws rm mc ms n) (hp : PreV s H C b Pc As)
    (hg : g.method = m) (hn : As.length = n) (hsize : g.locals.size = nL) (hstack : g.stack = As.reverse ++ .ref b :: rest) (hW : 2 * g.monitorRoom + (rest.map fun v => v.category).sum ≤ 8) (hdg : decode cc g.pc = .ok (.invokevirtual index, 3)) (hf : cells + mc ≤ R.cells ∧ slots + ms ≤ R.slots) :
    vx_Run p l e R s m args below meth c H locs cells slots mc ms g rest (Qc (Value.ref b :: As).toArray) XC free := by
  obtain ⟨⟨hrc, hrs, hfr, hlo, hws, hcw⟩, hcode, hini, hy, hlen, hl, hin, hse⟩ := cw
  have hK : vx_Back l R p e below s args y 3 8 (PreOf R mc ms Pc) (PostOf Qc mc ms free) (vx_Post XC mc ms free) := vx_backW (hh := hh) (bytes := bytes) (maxL := maxL) (ret := ret) hM hp.1 hrc hrs hfr hlo hws hcw (fun a' U hW => word_at hW (Or.inl (by first | rfl | simp [Cond.onTables, Cond.keeps, Cond.steady])) hini)
  obtain ⟨hx, hb, hml, ho, -⟩ := S
  obtain ⟨-, ⟨cellB, hcB, hoB, hclB⟩, hPc⟩ := hp
  intro T hT X
  rcases vx_callVX X hx (C := C) (hh := hh) (bytes := bytes) (maxL := maxL) (ret := ret) ho hl hin hse hcode hy hK (by rw [hT]; exact hcB) hoB hclB hg (hsize.trans hml.symm) (argsL := As) (rest := rest) (fun sig h => hn.trans (hlen sig h)) hstack hW (by rw [hb]; exact hdg)
    (fun vm₁ hW₁ => ⟨hf.1, hf.2, hPc (T.setVm vm₁) hT hW₁⟩) with ⟨v, vm₁, ⟨U', l2, c2, s2⟩, hW₁, X', ⟨g', mk, t, L, e1, e2, hq, h1, hL, h2, h3⟩, st⟩ | ⟨q, vm₁, ⟨U', l2, c2, s2⟩, hW₁, X', ⟨g', mk, t, L, E, ce, e1, e2, hq, hce, hcv, hcl, h1, hL, h2, h3⟩, st⟩
  · dsimp only [Pt.U, Pt.locs, Pt.cells, Pt.slots] at X' e1 e2 h1 h2 h3 st
    subst h1; subst h2; subst h3
    exact Or.inl ⟨v, (T.setVm vm₁).calling g' mk (Value.ref b :: As).toArray, t, U', L, hT, X', hL, e1, e2, hq, st⟩
  · dsimp only [Pt.U, Pt.locs, Pt.cells, Pt.slots] at X' e1 e2 h1 h2 h3 st hcl
    subst h1; subst h2; subst h3
    exact Or.inr ⟨q, (T.setVm vm₁).calling g' mk (Value.ref b :: As).toArray, t, U', L, E, ce, hT, X', hL, e1, e2, hq, hce, hcv, vx_cls hW₁ hcl, st⟩
theorem vx_runSX {hh : List (Nat × Nat × Nat × Nat)} (S : CallFix p m c cc nL s args Ts own) (hM : vx_Met l y ws rm Pc Qc XC mc ms free) (cw : vx_CSW R s args own index y bytes maxL ret hh ws rm mc ms n) (hp : PreS s H Pc As)
    (hg : g.method = m) (hn : As.length = n) (hsize : g.locals.size = nL) (hstack : g.stack = As.reverse ++ rest) (hW : 2 * g.monitorRoom + (rest.map fun v => v.category).sum ≤ 8) (hdg : decode cc g.pc = .ok (.invokestatic index, 3)) (hf : cells + mc ≤ R.cells ∧ slots + ms ≤ R.slots) :
    vx_Run p l e R s m args below meth c H locs cells slots mc ms g rest (Qc As.toArray) XC free := by
  obtain ⟨⟨hrc, hrs, hfr, hlo, hws, hcw⟩, hcode, hini, hy, hlen, hl, hstt⟩ := cw
  have hK : vx_Back l R p e below s args y 3 8 (PreOf R mc ms Pc) (PostOf Qc mc ms free) (vx_Post XC mc ms free) := vx_backW (hh := hh) (bytes := bytes) (maxL := maxL) (ret := ret) hM hp.1 hrc hrs hfr hlo hws hcw (fun a' U hW => word_at hW (Or.inl (by first | rfl | simp [Cond.onTables, Cond.keeps, Cond.steady])) hini)
  obtain ⟨hx, hb, hml, ho, -⟩ := S
  intro T hT X
  rcases vx_callSX X hx (hh := hh) (bytes := bytes) (maxL := maxL) (ret := ret) ho hl hstt hini hcode hy hK hg (hsize.trans hml.symm) (argsL := As) (rest := rest) (fun sig h => hn.trans (hlen sig h)) hstack hW (by rw [hb]; exact hdg)
    (fun vm₁ hW₁ => ⟨hf.1, hf.2, hp.2 (T.setVm vm₁) hT hW₁⟩) with ⟨v, vm₁, ⟨U', l2, c2, s2⟩, hW₁, X', ⟨g', mk, t, L, e1, e2, hq, h1, hL, h2, h3⟩, st⟩ | ⟨q, vm₁, ⟨U', l2, c2, s2⟩, hW₁, X', ⟨g', mk, t, L, E, ce, e1, e2, hq, hce, hcv, hcl, h1, hL, h2, h3⟩, st⟩
  · dsimp only [Pt.U, Pt.locs, Pt.cells, Pt.slots] at X' e1 e2 h1 h2 h3 st
    subst h1; subst h2; subst h3
    exact Or.inl ⟨v, (T.setVm vm₁).calling g' mk As.toArray, t, U', L, hT, X', hL, e1, e2, hq, st⟩
  · dsimp only [Pt.U, Pt.locs, Pt.cells, Pt.slots] at X' e1 e2 h1 h2 h3 st hcl
    subst h1; subst h2; subst h3
    exact Or.inr ⟨q, (T.setVm vm₁).calling g' mk As.toArray, t, U', L, E, ce, hT, X', hL, e1, e2, hq, hce, hcv, vx_cls hW₁ hcl, st⟩
end
end VXH
theorem vx_ofWH {l : Launch} {y : MethodName} {ws ws' : List Cond} {rm : Room} {Pc : Array Value → State → Prop} {Qc : Array Value → State → Outcome → State → Prop} {XC : String → State → State → Prop} {mc ms : Nat} {free : Addr → Prop} {cc : ByteArray} {maxL : Nat} {ret : Option FieldType} {hh : List (Nat × Nat × Nat × Nat)}
    (hy : plainName y.cls = true) (hw : ws = Cond.codeWith y cc maxL ret hh :: ws')
    (body : ∀ p e s m args below meth c s₁, BodyLoose p l y (headSpec ws rm) cc maxL ret e s m args below meth c s₁ → c.maxLocals = maxL → Pc args s →
      W p l e (headSpec ws rm).room s m args below meth c s.heap [] 0 0 (vx_MQ below Qc XC args s mc ms free) (entryFrame m args maxL)) : vx_Met l y ws rm Pc Qc XC mc ms free := by
  refine MetFree.of_bodyS (code := cc) (maxLocals := maxL) (ret := ret) hy ?_ ?_
  · intro args s m h hn
    obtain ⟨m9, meth, c, hn9, h1, h2, h3, h4, -, h5, h6, -⟩ := Cond.codeWith_spec (atoms_spec (ws := ws) h _ (by rw [hw]; exact List.mem_cons_self))
    cases hn.symm.trans hn9
    exact ⟨meth, c, h1, h2, h3, h4, h5, h6⟩
  · intro p e s m args below meth c s₁ B hml hP _
    have hh0 : s₁.heap = s.heap := by rw [B.state]; rfl
    obtain ⟨t, a1, o, b1, b2, b3⟩ := body p e s m args below meth c s₁ B hml hP s₁ hh0 (Stand.of_body B)
    exact ⟨t, o, a1, b1, b2, b3⟩
/-! ===== END ===== -/
end
section
/-! NAMES, by program (wip/whole/gen/names.py): kinds, fields, methods, rows that decode them, words by their places -/
def zn_A : String := "PutAwayAssign"
def zn_B : String := "PutAwayAssign$BestPlan"
def zn_G : String := "PutAwayAssign$Group"
def zn_P : String := "PutAwayAssign$Place"
def zn_U : String := "PutAwayAssign$Unit"
def zn_M : String := "PutAwayAssignModel"
def zn_L : String := "PutAwayAssignLaw"
def zf_A : u_T := fun k => match k with
  | 0 => ("PutAwayAssign", "units", "[LPutAwayAssign$Unit;", true)
  | 1 => ("PutAwayAssign", "places", "[LPutAwayAssign$Place;", true)
  | 2 => ("PutAwayAssign", "weights", "[I", true)
  | 3 => ("PutAwayAssign", "looked", "LPutAwayAssign$Group;", true)
  | 4 => ("PutAwayAssign", "bestPlan", "LPutAwayAssign$BestPlan;", true)
  | 5 => ("PutAwayAssign", "draft", "[I", true)
  | 6 => ("PutAwayAssign", "unitCount", "I", false)
  | 7 => ("PutAwayAssign", "placeCount", "I", false)
  | 8 => ("PutAwayAssign", "exactLimit", "I", false)
  | 9 => ("PutAwayAssign", "cartSize", "I", false)
  | _ => ("PutAwayAssign", "madeAsBest", "Z", false)
def zt_A : Nat → FieldType := fun k => match k with
  | 0 => (.array (.object "PutAwayAssign$Unit"))
  | 1 => (.array (.object "PutAwayAssign$Place"))
  | 2 => (.array .int)
  | 3 => (.object "PutAwayAssign$Group")
  | 4 => (.object "PutAwayAssign$BestPlan")
  | 5 => (.array .int)
  | 6 => .int
  | 7 => .int
  | 8 => .int
  | 9 => .int
  | _ => .boolean
theorem zm_A : ∀ a, a < 11 → ∀ b, b < 11 → a ≠ b → (zf_A a).2.1 ≠ (zf_A b).2.1 := by decide +kernel
theorem zp_A : ∀ k, k < 11 → parseFieldDescriptor (zf_A k).2.2.1 = some (zt_A k) := by decide +kernel
def zf_B : u_T := fun k => match k with
  | 0 => ("PutAwayAssign$BestPlan", "prices", "[[J", true)
  | 1 => ("PutAwayAssign$BestPlan", "rowShift", "[J", true)
  | 2 => ("PutAwayAssign$BestPlan", "columnShift", "[J", true)
  | 3 => ("PutAwayAssign$BestPlan", "rowWith", "[I", true)
  | 4 => ("PutAwayAssign$BestPlan", "columnBefore", "[I", true)
  | 5 => ("PutAwayAssign$BestPlan", "distance", "[J", true)
  | 6 => ("PutAwayAssign$BestPlan", "reached", "[Z", true)
  | 7 => ("PutAwayAssign$BestPlan", "rows", "I", false)
  | _ => ("PutAwayAssign$BestPlan", "digitWorth", "J", false)
def zt_B : Nat → FieldType := fun k => match k with
  | 0 => (.array (.array .long))
  | 1 => (.array .long)
  | 2 => (.array .long)
  | 3 => (.array .int)
  | 4 => (.array .int)
  | 5 => (.array .long)
  | 6 => (.array .boolean)
  | 7 => .int
  | _ => .long
theorem zm_B : ∀ a, a < 9 → ∀ b, b < 9 → a ≠ b → (zf_B a).2.1 ≠ (zf_B b).2.1 := by decide +kernel
theorem zp_B : ∀ k, k < 9 → parseFieldDescriptor (zf_B k).2.2.1 = some (zt_B k) := by decide +kernel
def zf_G : u_T := fun k => match k with
  | 0 => ("PutAwayAssign$Group", "number", "I", false)
  | 1 => ("PutAwayAssign$Group", "count", "I", false)
  | 2 => ("PutAwayAssign$Group", "size", "I", false)
  | 3 => ("PutAwayAssign$Group", "heaviest", "I", false)
  | 4 => ("PutAwayAssign$Group", "kinds", "I", false)
  | 5 => ("PutAwayAssign$Group", "notAt", "I", false)
  | _ => ("PutAwayAssign$Group", "fixed", "I", false)
def zt_G : Nat → FieldType := fun k => match k with
  | 0 => .int
  | 1 => .int
  | 2 => .int
  | 3 => .int
  | 4 => .int
  | 5 => .int
  | _ => .int
theorem zm_G : ∀ a, a < 7 → ∀ b, b < 7 → a ≠ b → (zf_G a).2.1 ≠ (zf_G b).2.1 := by decide +kernel
theorem zp_G : ∀ k, k < 7 → parseFieldDescriptor (zf_G k).2.2.1 = some (zt_G k) := by decide +kernel
def zf_P : u_T := fun k => match k with
  | 0 => ("PutAwayAssign$Place", "kinds", "I", true)
  | 1 => ("PutAwayAssign$Place", "zone", "I", true)
  | 2 => ("PutAwayAssign$Place", "way", "I", true)
  | 3 => ("PutAwayAssign$Place", "free", "I", false)
  | _ => ("PutAwayAssign$Place", "blocked", "Z", false)
def zt_P : Nat → FieldType := fun k => match k with
  | 0 => .int
  | 1 => .int
  | 2 => .int
  | 3 => .int
  | _ => .boolean
theorem zm_P : ∀ a, a < 5 → ∀ b, b < 5 → a ≠ b → (zf_P a).2.1 ≠ (zf_P b).2.1 := by decide +kernel
theorem zp_P : ∀ k, k < 5 → parseFieldDescriptor (zf_P k).2.2.1 = some (zt_P k) := by decide +kernel
def zf_U : u_T := fun k => match k with
  | 0 => ("PutAwayAssign$Unit", "kind", "I", true)
  | 1 => ("PutAwayAssign$Unit", "size", "I", true)
  | 2 => ("PutAwayAssign$Unit", "group", "I", false)
  | 3 => ("PutAwayAssign$Unit", "stand", "I", false)
  | 4 => ("PutAwayAssign$Unit", "fixed", "I", false)
  | 5 => ("PutAwayAssign$Unit", "done", "Z", false)
  | 6 => ("PutAwayAssign$Unit", "notAt", "I", false)
  | _ => ("PutAwayAssign$Unit", "toldCosts", "[I", true)
def zt_U : Nat → FieldType := fun k => match k with
  | 0 => .int
  | 1 => .int
  | 2 => .int
  | 3 => .int
  | 4 => .int
  | 5 => .boolean
  | 6 => .int
  | _ => (.array .int)
theorem zm_U : ∀ a, a < 8 → ∀ b, b < 8 → a ≠ b → (zf_U a).2.1 ≠ (zf_U b).2.1 := by decide +kernel
theorem zp_U : ∀ k, k < 8 → parseFieldDescriptor (zf_U k).2.2.1 = some (zt_U k) := by decide +kernel
def zf_M : u_T := fun k => match k with
  | 0 => ("PutAwayAssignModel", "code", "I", false)
  | 1 => ("PutAwayAssignModel", "units", "I", false)
  | 2 => ("PutAwayAssignModel", "kind", "[I", true)
  | 3 => ("PutAwayAssignModel", "size", "[I", true)
  | 4 => ("PutAwayAssignModel", "group", "[I", true)
  | 5 => ("PutAwayAssignModel", "fixed", "[I", true)
  | 6 => ("PutAwayAssignModel", "at", "[I", true)
  | 7 => ("PutAwayAssignModel", "done", "[Z", true)
  | 8 => ("PutAwayAssignModel", "barredAt", "[Z", true)
  | 9 => ("PutAwayAssignModel", "toldCost", "[I", true)
  | 10 => ("PutAwayAssignModel", "places", "I", false)
  | 11 => ("PutAwayAssignModel", "fits", "[I", true)
  | 12 => ("PutAwayAssignModel", "zone", "[I", true)
  | 13 => ("PutAwayAssignModel", "free", "[I", true)
  | 14 => ("PutAwayAssignModel", "way", "[I", true)
  | 15 => ("PutAwayAssignModel", "blocked", "[Z", true)
  | 16 => ("PutAwayAssignModel", "weights", "[I", true)
  | 17 => ("PutAwayAssignModel", "exactMost", "I", false)
  | 18 => ("PutAwayAssignModel", "cart", "I", false)
  | 19 => ("PutAwayAssignModel", "exact", "Z", false)
  | 20 => ("PutAwayAssignModel", "groups", "I", false)
  | 21 => ("PutAwayAssignModel", "leader", "[I", true)
  | 22 => ("PutAwayAssignModel", "given", "[I", true)
  | 23 => ("PutAwayAssignModel", "prices", "[I", true)
  | 24 => ("PutAwayAssignModel", "layer", "[J", true)
  | _ => ("PutAwayAssignModel", "next", "[J", true)
def zt_M : Nat → FieldType := fun k => match k with
  | 0 => .int
  | 1 => .int
  | 2 => (.array .int)
  | 3 => (.array .int)
  | 4 => (.array .int)
  | 5 => (.array .int)
  | 6 => (.array .int)
  | 7 => (.array .boolean)
  | 8 => (.array .boolean)
  | 9 => (.array .int)
  | 10 => .int
  | 11 => (.array .int)
  | 12 => (.array .int)
  | 13 => (.array .int)
  | 14 => (.array .int)
  | 15 => (.array .boolean)
  | 16 => (.array .int)
  | 17 => .int
  | 18 => .int
  | 19 => .boolean
  | 20 => .int
  | 21 => (.array .int)
  | 22 => (.array .int)
  | 23 => (.array .int)
  | 24 => (.array .long)
  | _ => (.array .long)
theorem zm_M : ∀ a, a < 26 → ∀ b, b < 26 → a ≠ b → (zf_M a).2.1 ≠ (zf_M b).2.1 := by decide +kernel
theorem zp_M : ∀ k, k < 26 → parseFieldDescriptor (zf_M k).2.2.1 = some (zt_M k) := by decide +kernel
abbrev zcl : List vw_C := [(zn_A, zf_A, 11), (zn_B, zf_B, 9), (zn_G, zf_G, 7), (zn_P, zf_P, 5), (zn_U, zf_U, 8), (zn_M, zf_M, 26)]
/-- all good words of the tables: every method here has these words, and its own code ahead -/
def zw_all : List Cond := lw_tbl.filter goodWord
theorem zw_mem {w : Cond} (i : Nat) (h : lw_tbl[i]? = some w) (g : goodWord w = true) : w ∈ zw_all := List.mem_filter.mpr ⟨List.mem_of_getElem? h, g⟩
theorem zw_lw : ∀ w ∈ zw_all, w ∈ lw_tbl := fun w h => (List.mem_filter.mp h).1
theorem zw_good : ∀ w ∈ zw_all, goodWord w = true := fun w h => (List.mem_filter.mp h).2
abbrev zb_A_init : ByteArray := prog_1_method_1_code
def zy_A_init : MethodName := ⟨zn_A, "<init>", "()V"⟩
abbrev zb_A_unit : ByteArray := prog_1_method_2_code
def zy_A_unit : MethodName := ⟨zn_A, "unit", "(II)I"⟩
abbrev zb_A_place : ByteArray := prog_1_method_3_code
def zy_A_place : MethodName := ⟨zn_A, "place", "(IIII)I"⟩
abbrev zb_A_weight : ByteArray := prog_1_method_4_code
def zy_A_weight : MethodName := ⟨zn_A, "weight", "(II)V"⟩
abbrev zb_A_fits : ByteArray := prog_1_method_5_code
def zy_A_fits : MethodName := ⟨zn_A, "fits", "(IIZ)V"⟩
abbrev zb_A_cost : ByteArray := prog_1_method_6_code
def zy_A_cost : MethodName := ⟨zn_A, "cost", "(III)V"⟩
abbrev zb_A_together : ByteArray := prog_1_method_7_code
def zy_A_together : MethodName := ⟨zn_A, "together", "(II)I"⟩
abbrev zb_A_fix : ByteArray := prog_1_method_8_code
def zy_A_fix : MethodName := ⟨zn_A, "fix", "(II)V"⟩
abbrev zb_A_limits : ByteArray := prog_1_method_9_code
def zy_A_limits : MethodName := ⟨zn_A, "limits", "(II)V"⟩
abbrev zb_A_assign : ByteArray := prog_1_method_10_code
def zy_A_assign : MethodName := ⟨zn_A, "assign", "(I)I"⟩
abbrev zb_A_at : ByteArray := prog_1_method_11_code
def zy_A_at : MethodName := ⟨zn_A, "at", "(I)I"⟩
abbrev zb_A_exact : ByteArray := prog_1_method_12_code
def zy_A_exact : MethodName := ⟨zn_A, "exact", "()Z"⟩
abbrev zb_A_bound : ByteArray := prog_1_method_13_code
def zy_A_bound : MethodName := ⟨zn_A, "bound", "()I"⟩
abbrev zb_A_barred : ByteArray := prog_1_method_14_code
def zy_A_barred : MethodName := ⟨zn_A, "barred", "(I)I"⟩
abbrev zb_A_put : ByteArray := prog_1_method_15_code
def zy_A_put : MethodName := ⟨zn_A, "put", "(I)I"⟩
abbrev zb_A_block : ByteArray := prog_1_method_16_code
def zy_A_block : MethodName := ⟨zn_A, "block", "(I)I"⟩
abbrev zb_A_open : ByteArray := prog_1_method_17_code
def zy_A_open : MethodName := ⟨zn_A, "open", "(I)V"⟩
abbrev zb_A_share : ByteArray := prog_1_method_18_code
def zy_A_share : MethodName := ⟨zn_A, "share", "(I)I"⟩
abbrev zb_A_trip : ByteArray := prog_1_method_19_code
def zy_A_trip : MethodName := ⟨zn_A, "trip", "(I)I"⟩
abbrev zb_A_told : ByteArray := prog_1_method_20_code
def zy_A_told : MethodName := ⟨zn_A, "told", "(II)I"⟩
abbrev zb_A_count : ByteArray := prog_1_method_21_code
def zy_A_count : MethodName := ⟨zn_A, "count", "(I)I"⟩
abbrev zb_A_outside : ByteArray := prog_1_method_22_code
def zy_A_outside : MethodName := ⟨zn_A, "outside", "(III)Z"⟩
abbrev zb_A_unitOf : ByteArray := prog_1_method_23_code
def zy_A_unitOf : MethodName := ⟨zn_A, "unitOf", "(I)LPutAwayAssign$Unit;"⟩
abbrev zb_A_placeOf : ByteArray := prog_1_method_24_code
def zy_A_placeOf : MethodName := ⟨zn_A, "placeOf", "(I)LPutAwayAssign$Place;"⟩
abbrev zb_A_isIn : ByteArray := prog_1_method_25_code
def zy_A_isIn : MethodName := ⟨zn_A, "isIn", "(II)Z"⟩
abbrev zb_A_isGroup : ByteArray := prog_1_method_26_code
def zy_A_isGroup : MethodName := ⟨zn_A, "isGroup", "(I)Z"⟩
abbrev zb_A_isPlanned : ByteArray := prog_1_method_27_code
def zy_A_isPlanned : MethodName := ⟨zn_A, "isPlanned", "(LPutAwayAssign$Unit;)Z"⟩
abbrev zb_A_goesTo : ByteArray := prog_1_method_28_code
def zy_A_goesTo : MethodName := ⟨zn_A, "goesTo", "(LPutAwayAssign$Unit;I)Z"⟩
abbrev zb_A_groupCount : ByteArray := prog_1_method_29_code
def zy_A_groupCount : MethodName := ⟨zn_A, "groupCount", "()I"⟩
abbrev zb_A_doneCount : ByteArray := prog_1_method_30_code
def zy_A_doneCount : MethodName := ⟨zn_A, "doneCount", "()I"⟩
abbrev zb_A_gather : ByteArray := prog_1_method_31_code
def zy_A_gather : MethodName := ⟨zn_A, "gather", "(I)LPutAwayAssign$Group;"⟩
abbrev zb_A_join : ByteArray := prog_1_method_32_code
def zy_A_join : MethodName := ⟨zn_A, "join", "(II)V"⟩
abbrev zb_A_planFor : ByteArray := prog_1_method_33_code
def zy_A_planFor : MethodName := ⟨zn_A, "planFor", "(II)V"⟩
abbrev zb_A_finish : ByteArray := prog_1_method_34_code
def zy_A_finish : MethodName := ⟨zn_A, "finish", "(I)V"⟩
abbrev zb_A_groupPlannedFor : ByteArray := prog_1_method_35_code
def zy_A_groupPlannedFor : MethodName := ⟨zn_A, "groupPlannedFor", "(I)I"⟩
abbrev zb_A_plannedPlaces : ByteArray := prog_1_method_36_code
def zy_A_plannedPlaces : MethodName := ⟨zn_A, "plannedPlaces", "()I"⟩
abbrev zb_A_plannedCosts : ByteArray := prog_1_method_37_code
def zy_A_plannedCosts : MethodName := ⟨zn_A, "plannedCosts", "()I"⟩
abbrev zb_A_brokenRule : ByteArray := prog_1_method_38_code
def zy_A_brokenRule : MethodName := ⟨zn_A, "brokenRule", "(LPutAwayAssign$Group;I)I"⟩
abbrev zb_A_costAt : ByteArray := prog_1_method_39_code
def zy_A_costAt : MethodName := ⟨zn_A, "costAt", "(LPutAwayAssign$Group;I)I"⟩
abbrev zb_A_cheapestPlace : ByteArray := prog_1_method_40_code
def zy_A_cheapestPlace : MethodName := ⟨zn_A, "cheapestPlace", "(LPutAwayAssign$Group;I)I"⟩
abbrev zb_A_draftOneByOne : ByteArray := prog_1_method_41_code
def zy_A_draftOneByOne : MethodName := ⟨zn_A, "draftOneByOne", "()I"⟩
abbrev zb_A_draftBest : ByteArray := prog_1_method_42_code
def zy_A_draftBest : MethodName := ⟨zn_A, "draftBest", "()I"⟩
abbrev zb_A_offerPlaces : ByteArray := prog_1_method_43_code
def zy_A_offerPlaces : MethodName := ⟨zn_A, "offerPlaces", "(LPutAwayAssign$Group;)V"⟩
abbrev zb_A_takeDraft : ByteArray := prog_1_method_44_code
def zy_A_takeDraft : MethodName := ⟨zn_A, "takeDraft", "()V"⟩
abbrev zb_M_init : ByteArray := prog_7_method_1_code
def zy_M_init : MethodName := ⟨zn_M, "<init>", "()V"⟩
abbrev zb_M_thrown : ByteArray := prog_7_method_2_code
def zy_M_thrown : MethodName := ⟨zn_M, "thrown", "()I"⟩
abbrev zb_M_in : ByteArray := prog_7_method_3_code
def zy_M_in : MethodName := ⟨zn_M, "in", "(III)Z"⟩
abbrev zb_M_isUnit : ByteArray := prog_7_method_4_code
def zy_M_isUnit : MethodName := ⟨zn_M, "isUnit", "(I)Z"⟩
abbrev zb_M_isPlace : ByteArray := prog_7_method_5_code
def zy_M_isPlace : MethodName := ⟨zn_M, "isPlace", "(I)Z"⟩
abbrev zb_M_unit : ByteArray := prog_7_method_6_code
def zy_M_unit : MethodName := ⟨zn_M, "unit", "(II)I"⟩
abbrev zb_M_place : ByteArray := prog_7_method_7_code
def zy_M_place : MethodName := ⟨zn_M, "place", "(IIII)I"⟩
abbrev zb_M_weight : ByteArray := prog_7_method_8_code
def zy_M_weight : MethodName := ⟨zn_M, "weight", "(II)V"⟩
abbrev zb_M_fits : ByteArray := prog_7_method_9_code
def zy_M_fits : MethodName := ⟨zn_M, "fits", "(IIZ)V"⟩
abbrev zb_M_cost : ByteArray := prog_7_method_10_code
def zy_M_cost : MethodName := ⟨zn_M, "cost", "(III)V"⟩
abbrev zb_M_together : ByteArray := prog_7_method_11_code
def zy_M_together : MethodName := ⟨zn_M, "together", "(II)I"⟩
abbrev zb_M_fix : ByteArray := prog_7_method_12_code
def zy_M_fix : MethodName := ⟨zn_M, "fix", "(II)V"⟩
abbrev zb_M_limits : ByteArray := prog_7_method_13_code
def zy_M_limits : MethodName := ⟨zn_M, "limits", "(II)V"⟩
abbrev zb_M_sizeOf : ByteArray := prog_7_method_14_code
def zy_M_sizeOf : MethodName := ⟨zn_M, "sizeOf", "(I)I"⟩
abbrev zb_M_keeps : ByteArray := prog_7_method_15_code
def zy_M_keeps : MethodName := ⟨zn_M, "keeps", "(III)Z"⟩
abbrev zb_M_isAllowed : ByteArray := prog_7_method_16_code
def zy_M_isAllowed : MethodName := ⟨zn_M, "isAllowed", "(III)Z"⟩
abbrev zb_M_costOf : ByteArray := prog_7_method_17_code
def zy_M_costOf : MethodName := ⟨zn_M, "costOf", "(II)I"⟩
abbrev zb_M_isGroup : ByteArray := prog_7_method_18_code
def zy_M_isGroup : MethodName := ⟨zn_M, "isGroup", "(I)Z"⟩
abbrev zb_M_collect : ByteArray := prog_7_method_19_code
def zy_M_collect : MethodName := ⟨zn_M, "collect", "()V"⟩
abbrev zb_M_lay : ByteArray := prog_7_method_20_code
def zy_M_lay : MethodName := ⟨zn_M, "lay", "(I)V"⟩
abbrev zb_M_best : ByteArray := prog_7_method_21_code
def zy_M_best : MethodName := ⟨zn_M, "best", "()V"⟩
abbrev zb_M_cheapest : ByteArray := prog_7_method_22_code
def zy_M_cheapest : MethodName := ⟨zn_M, "cheapest", "(II)I"⟩
abbrev zb_M_oneByOne : ByteArray := prog_7_method_23_code
def zy_M_oneByOne : MethodName := ⟨zn_M, "oneByOne", "()V"⟩
abbrev zb_M_assign : ByteArray := prog_7_method_24_code
def zy_M_assign : MethodName := ⟨zn_M, "assign", "(I)I"⟩
abbrev zb_M_at : ByteArray := prog_7_method_25_code
def zy_M_at : MethodName := ⟨zn_M, "at", "(I)I"⟩
abbrev zb_M_exact : ByteArray := prog_7_method_26_code
def zy_M_exact : MethodName := ⟨zn_M, "exact", "()Z"⟩
abbrev zb_M_bound : ByteArray := prog_7_method_27_code
def zy_M_bound : MethodName := ⟨zn_M, "bound", "()I"⟩
abbrev zb_M_barred : ByteArray := prog_7_method_28_code
def zy_M_barred : MethodName := ⟨zn_M, "barred", "(I)I"⟩
abbrev zb_M_put : ByteArray := prog_7_method_29_code
def zy_M_put : MethodName := ⟨zn_M, "put", "(I)I"⟩
abbrev zb_M_plannedFor : ByteArray := prog_7_method_30_code
def zy_M_plannedFor : MethodName := ⟨zn_M, "plannedFor", "(I)I"⟩
abbrev zb_M_block : ByteArray := prog_7_method_31_code
def zy_M_block : MethodName := ⟨zn_M, "block", "(I)I"⟩
abbrev zb_M_open : ByteArray := prog_7_method_32_code
def zy_M_open : MethodName := ⟨zn_M, "open", "(I)V"⟩
abbrev zb_M_share : ByteArray := prog_7_method_33_code
def zy_M_share : MethodName := ⟨zn_M, "share", "(I)I"⟩
abbrev zb_M_isPlanned : ByteArray := prog_7_method_34_code
def zy_M_isPlanned : MethodName := ⟨zn_M, "isPlanned", "(I)Z"⟩
abbrev zb_M_trip : ByteArray := prog_7_method_35_code
def zy_M_trip : MethodName := ⟨zn_M, "trip", "(I)I"⟩
abbrev zb_M_told : ByteArray := prog_7_method_36_code
def zy_M_told : MethodName := ⟨zn_M, "told", "(II)I"⟩
abbrev zb_M_count : ByteArray := prog_7_method_37_code
def zy_M_count : MethodName := ⟨zn_M, "count", "(I)I"⟩
abbrev zb_B_init : ByteArray := prog_2_method_1_code
def zy_B_init : MethodName := ⟨zn_B, "<init>", "()V"⟩
abbrev zb_B_clear : ByteArray := prog_2_method_2_code
def zy_B_clear : MethodName := ⟨zn_B, "clear", "()V"⟩
abbrev zb_B_addGroup : ByteArray := prog_2_method_3_code
def zy_B_addGroup : MethodName := ⟨zn_B, "addGroup", "()V"⟩
abbrev zb_B_offer : ByteArray := prog_2_method_4_code
def zy_B_offer : MethodName := ⟨zn_B, "offer", "(II)V"⟩
abbrev zb_B_solve : ByteArray := prog_2_method_5_code
def zy_B_solve : MethodName := ⟨zn_B, "solve", "()V"⟩
abbrev zb_B_placeGiven : ByteArray := prog_2_method_6_code
def zy_B_placeGiven : MethodName := ⟨zn_B, "placeGiven", "(I)I"⟩
abbrev zb_B_giveColumn : ByteArray := prog_2_method_7_code
def zy_B_giveColumn : MethodName := ⟨zn_B, "giveColumn", "(I)V"⟩
abbrev zb_B_measureFrom : ByteArray := prog_2_method_8_code
def zy_B_measureFrom : MethodName := ⟨zn_B, "measureFrom", "(I)V"⟩
abbrev zb_B_nearestColumn : ByteArray := prog_2_method_9_code
def zy_B_nearestColumn : MethodName := ⟨zn_B, "nearestColumn", "()I"⟩
abbrev zb_B_shiftBy : ByteArray := prog_2_method_10_code
def zy_B_shiftBy : MethodName := ⟨zn_B, "shiftBy", "(J)V"⟩
abbrev zb_G_init : ByteArray := prog_3_method_1_code
def zy_G_init : MethodName := ⟨zn_G, "<init>", "()V"⟩
abbrev zb_G_clear : ByteArray := prog_3_method_2_code
def zy_G_clear : MethodName := ⟨zn_G, "clear", "(I)V"⟩
abbrev zb_G_take : ByteArray := prog_3_method_3_code
def zy_G_take : MethodName := ⟨zn_G, "take", "(LPutAwayAssign$Unit;I)V"⟩
abbrev zb_P_init : ByteArray := prog_4_method_1_code
def zy_P_init : MethodName := ⟨zn_P, "<init>", "(IIII)V"⟩
abbrev zb_U_init : ByteArray := prog_5_method_1_code
def zy_U_init : MethodName := ⟨zn_U, "<init>", "(III)V"⟩
abbrev zb_L_unit : ByteArray := method_3_code
def zy_L_unit : MethodName := ⟨zn_L, "unit", "(LPutAwayAssign;II[J)I"⟩
abbrev zb_L_place : ByteArray := method_4_code
def zy_L_place : MethodName := ⟨zn_L, "place", "(LPutAwayAssign;IIII[J)I"⟩
abbrev zb_L_weight : ByteArray := method_5_code
def zy_L_weight : MethodName := ⟨zn_L, "weight", "(LPutAwayAssign;II)I"⟩
abbrev zb_L_fits : ByteArray := method_6_code
def zy_L_fits : MethodName := ⟨zn_L, "fits", "(LPutAwayAssign;IIZ)I"⟩
abbrev zb_L_cost : ByteArray := method_7_code
def zy_L_cost : MethodName := ⟨zn_L, "cost", "(LPutAwayAssign;III)I"⟩
abbrev zb_L_together : ByteArray := method_8_code
def zy_L_together : MethodName := ⟨zn_L, "together", "(LPutAwayAssign;II[J)I"⟩
abbrev zb_L_fix : ByteArray := method_9_code
def zy_L_fix : MethodName := ⟨zn_L, "fix", "(LPutAwayAssign;II)I"⟩
abbrev zb_L_limits : ByteArray := method_10_code
def zy_L_limits : MethodName := ⟨zn_L, "limits", "(LPutAwayAssign;II)I"⟩
abbrev zb_L_assign : ByteArray := method_11_code
def zy_L_assign : MethodName := ⟨zn_L, "assign", "(LPutAwayAssign;I[J)I"⟩
abbrev zb_L_at : ByteArray := method_12_code
def zy_L_at : MethodName := ⟨zn_L, "at", "(LPutAwayAssign;I[J)I"⟩
abbrev zb_L_barred : ByteArray := method_13_code
def zy_L_barred : MethodName := ⟨zn_L, "barred", "(LPutAwayAssign;I[J)I"⟩
abbrev zb_L_put : ByteArray := method_14_code
def zy_L_put : MethodName := ⟨zn_L, "put", "(LPutAwayAssign;I[J)I"⟩
abbrev zb_L_block : ByteArray := method_15_code
def zy_L_block : MethodName := ⟨zn_L, "block", "(LPutAwayAssign;I[J)I"⟩
abbrev zb_L_open : ByteArray := method_16_code
def zy_L_open : MethodName := ⟨zn_L, "open", "(LPutAwayAssign;I)I"⟩
abbrev zb_L_share : ByteArray := method_17_code
def zy_L_share : MethodName := ⟨zn_L, "share", "(LPutAwayAssign;I[J)I"⟩
abbrev zb_L_trip : ByteArray := method_18_code
def zy_L_trip : MethodName := ⟨zn_L, "trip", "(LPutAwayAssign;I[J)I"⟩
abbrev zb_L_told : ByteArray := method_19_code
def zy_L_told : MethodName := ⟨zn_L, "told", "(LPutAwayAssign;II[J)I"⟩
end
section
theorem zd_A_init_0 : decode zb_A_init 0 = .ok (.aload_n 0, 1) := by decide +kernel
theorem zd_A_init_1 : decode zb_A_init 1 = .ok (.invokespecial 1, 3) := by decide +kernel
theorem zd_A_init_4 : decode zb_A_init 4 = .ok (.aload_n 0, 1) := by decide +kernel
theorem zd_A_init_5 : decode zb_A_init 5 = .ok (.bipush 12, 2) := by decide +kernel
theorem zd_A_init_7 : decode zb_A_init 7 = .ok (.anewarray 9, 3) := by decide +kernel
theorem zd_A_init_10 : decode zb_A_init 10 = .ok (.putfield 11, 3) := by decide +kernel
theorem zd_A_init_13 : decode zb_A_init 13 = .ok (.aload_n 0, 1) := by decide +kernel
theorem zd_A_init_14 : decode zb_A_init 14 = .ok (.bipush 12, 2) := by decide +kernel
theorem zd_A_init_16 : decode zb_A_init 16 = .ok (.anewarray 15, 3) := by decide +kernel
theorem zd_A_init_19 : decode zb_A_init 19 = .ok (.putfield 17, 3) := by decide +kernel
theorem zd_A_init_22 : decode zb_A_init 22 = .ok (.aload_n 0, 1) := by decide +kernel
theorem zd_A_init_23 : decode zb_A_init 23 = .ok (.bipush 8, 2) := by decide +kernel
theorem zd_A_init_25 : decode zb_A_init 25 = .ok (.newarray .int, 2) := by decide +kernel
theorem zd_A_init_27 : decode zb_A_init 27 = .ok (.putfield 21, 3) := by decide +kernel
theorem zd_A_init_30 : decode zb_A_init 30 = .ok (.aload_n 0, 1) := by decide +kernel
theorem zd_A_init_31 : decode zb_A_init 31 = .ok (.new 25, 3) := by decide +kernel
theorem zd_A_init_34 : decode zb_A_init 34 = .ok (.dup, 1) := by decide +kernel
theorem zd_A_init_35 : decode zb_A_init 35 = .ok (.invokespecial 27, 3) := by decide +kernel
theorem zd_A_init_38 : decode zb_A_init 38 = .ok (.putfield 28, 3) := by decide +kernel
theorem zd_A_init_41 : decode zb_A_init 41 = .ok (.aload_n 0, 1) := by decide +kernel
theorem zd_A_init_42 : decode zb_A_init 42 = .ok (.new 32, 3) := by decide +kernel
theorem zd_A_init_45 : decode zb_A_init 45 = .ok (.dup, 1) := by decide +kernel
theorem zd_A_init_46 : decode zb_A_init 46 = .ok (.invokespecial 34, 3) := by decide +kernel
theorem zd_A_init_49 : decode zb_A_init 49 = .ok (.putfield 35, 3) := by decide +kernel
theorem zd_A_init_52 : decode zb_A_init 52 = .ok (.aload_n 0, 1) := by decide +kernel
theorem zd_A_init_53 : decode zb_A_init 53 = .ok (.bipush 12, 2) := by decide +kernel
theorem zd_A_init_55 : decode zb_A_init 55 = .ok (.newarray .int, 2) := by decide +kernel
theorem zd_A_init_57 : decode zb_A_init 57 = .ok (.putfield 39, 3) := by decide +kernel
theorem zd_A_init_60 : decode zb_A_init 60 = .ok (.aload_n 0, 1) := by decide +kernel
theorem zd_A_init_61 : decode zb_A_init 61 = .ok (.bipush 6, 2) := by decide +kernel
theorem zd_A_init_63 : decode zb_A_init 63 = .ok (.putfield 42, 3) := by decide +kernel
theorem zd_A_init_66 : decode zb_A_init 66 = .ok (.aload_n 0, 1) := by decide +kernel
theorem zd_A_init_67 : decode zb_A_init 67 = .ok (.bipush 100, 2) := by decide +kernel
theorem zd_A_init_69 : decode zb_A_init 69 = .ok (.putfield 46, 3) := by decide +kernel
theorem zd_A_init_72 : decode zb_A_init 72 = .ok (.iconst 0, 1) := by decide +kernel
theorem zd_A_init_73 : decode zb_A_init 73 = .ok (.istore_n 1, 1) := by decide +kernel
theorem zd_A_init_74 : decode zb_A_init 74 = .ok (.iload_n 1, 1) := by decide +kernel
theorem zd_A_init_75 : decode zb_A_init 75 = .ok (.bipush 8, 2) := by decide +kernel
theorem zd_A_init_77 : decode zb_A_init 77 = .ok (.if_icmp .ge 16, 3) := by decide +kernel
theorem zd_A_init_80 : decode zb_A_init 80 = .ok (.aload_n 0, 1) := by decide +kernel
theorem zd_A_init_81 : decode zb_A_init 81 = .ok (.getfield 21, 3) := by decide +kernel
theorem zd_A_init_84 : decode zb_A_init 84 = .ok (.iload_n 1, 1) := by decide +kernel
theorem zd_A_init_85 : decode zb_A_init 85 = .ok (.iconst 1, 1) := by decide +kernel
theorem zd_A_init_86 : decode zb_A_init 86 = .ok (.iastore, 1) := by decide +kernel
theorem zd_A_init_87 : decode zb_A_init 87 = .ok (.iinc 1 1, 3) := by decide +kernel
theorem zd_A_init_90 : decode zb_A_init 90 = .ok (.goto (-16), 3) := by decide +kernel
theorem zd_A_init_93 : decode zb_A_init 93 = .ok (.return_, 1) := by decide +kernel
theorem zd_A_unit_0 : decode zb_A_unit 0 = .ok (.iload_n 1, 1) := by decide +kernel
theorem zd_A_unit_1 : decode zb_A_unit 1 = .ok (.iconst 0, 1) := by decide +kernel
theorem zd_A_unit_2 : decode zb_A_unit 2 = .ok (.bipush 7, 2) := by decide +kernel
theorem zd_A_unit_4 : decode zb_A_unit 4 = .ok (.invokestatic 49, 3) := by decide +kernel
theorem zd_A_unit_7 : decode zb_A_unit 7 = .ok (.ifCond .ne 13, 3) := by decide +kernel
theorem zd_A_unit_10 : decode zb_A_unit 10 = .ok (.iload_n 2, 1) := by decide +kernel
theorem zd_A_unit_11 : decode zb_A_unit 11 = .ok (.iconst 1, 1) := by decide +kernel
theorem zd_A_unit_12 : decode zb_A_unit 12 = .ok (.bipush 100, 2) := by decide +kernel
theorem zd_A_unit_14 : decode zb_A_unit 14 = .ok (.invokestatic 49, 3) := by decide +kernel
theorem zd_A_unit_17 : decode zb_A_unit 17 = .ok (.ifCond .eq 13, 3) := by decide +kernel
theorem zd_A_unit_20 : decode zb_A_unit 20 = .ok (.new 53, 3) := by decide +kernel
theorem zd_A_unit_23 : decode zb_A_unit 23 = .ok (.dup, 1) := by decide +kernel
theorem zd_A_unit_24 : decode zb_A_unit 24 = .ok (.ldc 55, 2) := by decide +kernel
theorem zd_A_unit_26 : decode zb_A_unit 26 = .ok (.invokespecial 57, 3) := by decide +kernel
theorem zd_A_unit_29 : decode zb_A_unit 29 = .ok (.athrow, 1) := by decide +kernel
theorem zd_A_unit_30 : decode zb_A_unit 30 = .ok (.aload_n 0, 1) := by decide +kernel
theorem zd_A_unit_31 : decode zb_A_unit 31 = .ok (.getfield 60, 3) := by decide +kernel
theorem zd_A_unit_34 : decode zb_A_unit 34 = .ok (.bipush 12, 2) := by decide +kernel
theorem zd_A_unit_36 : decode zb_A_unit 36 = .ok (.if_icmp .lt 13, 3) := by decide +kernel
theorem zd_A_unit_39 : decode zb_A_unit 39 = .ok (.new 63, 3) := by decide +kernel
theorem zd_A_unit_42 : decode zb_A_unit 42 = .ok (.dup, 1) := by decide +kernel
theorem zd_A_unit_43 : decode zb_A_unit 43 = .ok (.ldc 65, 2) := by decide +kernel
theorem zd_A_unit_45 : decode zb_A_unit 45 = .ok (.invokespecial 67, 3) := by decide +kernel
theorem zd_A_unit_48 : decode zb_A_unit 48 = .ok (.athrow, 1) := by decide +kernel
theorem zd_A_unit_49 : decode zb_A_unit 49 = .ok (.aload_n 0, 1) := by decide +kernel
theorem zd_A_unit_50 : decode zb_A_unit 50 = .ok (.getfield 11, 3) := by decide +kernel
theorem zd_A_unit_53 : decode zb_A_unit 53 = .ok (.aload_n 0, 1) := by decide +kernel
theorem zd_A_unit_54 : decode zb_A_unit 54 = .ok (.getfield 60, 3) := by decide +kernel
theorem zd_A_unit_57 : decode zb_A_unit 57 = .ok (.new 9, 3) := by decide +kernel
theorem zd_A_unit_60 : decode zb_A_unit 60 = .ok (.dup, 1) := by decide +kernel
theorem zd_A_unit_61 : decode zb_A_unit 61 = .ok (.aload_n 0, 1) := by decide +kernel
theorem zd_A_unit_62 : decode zb_A_unit 62 = .ok (.getfield 60, 3) := by decide +kernel
theorem zd_A_unit_65 : decode zb_A_unit 65 = .ok (.iload_n 1, 1) := by decide +kernel
theorem zd_A_unit_66 : decode zb_A_unit 66 = .ok (.iload_n 2, 1) := by decide +kernel
theorem zd_A_unit_67 : decode zb_A_unit 67 = .ok (.invokespecial 68, 3) := by decide +kernel
theorem zd_A_unit_70 : decode zb_A_unit 70 = .ok (.aastore, 1) := by decide +kernel
theorem zd_A_unit_71 : decode zb_A_unit 71 = .ok (.aload_n 0, 1) := by decide +kernel
theorem zd_A_unit_72 : decode zb_A_unit 72 = .ok (.dup, 1) := by decide +kernel
theorem zd_A_unit_73 : decode zb_A_unit 73 = .ok (.getfield 60, 3) := by decide +kernel
theorem zd_A_unit_76 : decode zb_A_unit 76 = .ok (.iconst 1, 1) := by decide +kernel
theorem zd_A_unit_77 : decode zb_A_unit 77 = .ok (.iadd, 1) := by decide +kernel
theorem zd_A_unit_78 : decode zb_A_unit 78 = .ok (.putfield 60, 3) := by decide +kernel
theorem zd_A_unit_81 : decode zb_A_unit 81 = .ok (.aload_n 0, 1) := by decide +kernel
theorem zd_A_unit_82 : decode zb_A_unit 82 = .ok (.getfield 60, 3) := by decide +kernel
theorem zd_A_unit_85 : decode zb_A_unit 85 = .ok (.iconst 1, 1) := by decide +kernel
theorem zd_A_unit_86 : decode zb_A_unit 86 = .ok (.isub, 1) := by decide +kernel
theorem zd_A_unit_87 : decode zb_A_unit 87 = .ok (.ireturn, 1) := by decide +kernel
theorem zd_A_place_0 : decode zb_A_place 0 = .ok (.iload_n 1, 1) := by decide +kernel
theorem zd_A_place_1 : decode zb_A_place 1 = .ok (.iconst 0, 1) := by decide +kernel
theorem zd_A_place_2 : decode zb_A_place 2 = .ok (.sipush 255, 3) := by decide +kernel
theorem zd_A_place_5 : decode zb_A_place 5 = .ok (.invokestatic 49, 3) := by decide +kernel
theorem zd_A_place_8 : decode zb_A_place 8 = .ok (.ifCond .ne 12, 3) := by decide +kernel
theorem zd_A_place_11 : decode zb_A_place 11 = .ok (.iload_n 2, 1) := by decide +kernel
theorem zd_A_place_12 : decode zb_A_place 12 = .ok (.iconst 0, 1) := by decide +kernel
theorem zd_A_place_13 : decode zb_A_place 13 = .ok (.iconst 3, 1) := by decide +kernel
theorem zd_A_place_14 : decode zb_A_place 14 = .ok (.invokestatic 49, 3) := by decide +kernel
theorem zd_A_place_17 : decode zb_A_place 17 = .ok (.ifCond .eq 13, 3) := by decide +kernel
theorem zd_A_place_20 : decode zb_A_place 20 = .ok (.new 53, 3) := by decide +kernel
theorem zd_A_place_23 : decode zb_A_place 23 = .ok (.dup, 1) := by decide +kernel
theorem zd_A_place_24 : decode zb_A_place 24 = .ok (.ldc 71, 2) := by decide +kernel
theorem zd_A_place_26 : decode zb_A_place 26 = .ok (.invokespecial 57, 3) := by decide +kernel
theorem zd_A_place_29 : decode zb_A_place 29 = .ok (.athrow, 1) := by decide +kernel
theorem zd_A_place_30 : decode zb_A_place 30 = .ok (.iload_n 3, 1) := by decide +kernel
theorem zd_A_place_31 : decode zb_A_place 31 = .ok (.iconst 0, 1) := by decide +kernel
theorem zd_A_place_32 : decode zb_A_place 32 = .ok (.sipush 1000, 3) := by decide +kernel
theorem zd_A_place_35 : decode zb_A_place 35 = .ok (.invokestatic 49, 3) := by decide +kernel
theorem zd_A_place_38 : decode zb_A_place 38 = .ok (.ifCond .ne 15, 3) := by decide +kernel
theorem zd_A_place_41 : decode zb_A_place 41 = .ok (.iload 4, 2) := by decide +kernel
theorem zd_A_place_43 : decode zb_A_place 43 = .ok (.iconst 0, 1) := by decide +kernel
theorem zd_A_place_44 : decode zb_A_place 44 = .ok (.sipush 1000, 3) := by decide +kernel
theorem zd_A_place_47 : decode zb_A_place 47 = .ok (.invokestatic 49, 3) := by decide +kernel
theorem zd_A_place_50 : decode zb_A_place 50 = .ok (.ifCond .eq 13, 3) := by decide +kernel
theorem zd_A_place_53 : decode zb_A_place 53 = .ok (.new 53, 3) := by decide +kernel
theorem zd_A_place_56 : decode zb_A_place 56 = .ok (.dup, 1) := by decide +kernel
theorem zd_A_place_57 : decode zb_A_place 57 = .ok (.ldc 73, 2) := by decide +kernel
theorem zd_A_place_59 : decode zb_A_place 59 = .ok (.invokespecial 57, 3) := by decide +kernel
theorem zd_A_place_62 : decode zb_A_place 62 = .ok (.athrow, 1) := by decide +kernel
theorem zd_A_place_63 : decode zb_A_place 63 = .ok (.aload_n 0, 1) := by decide +kernel
theorem zd_A_place_64 : decode zb_A_place 64 = .ok (.getfield 75, 3) := by decide +kernel
theorem zd_A_place_67 : decode zb_A_place 67 = .ok (.bipush 12, 2) := by decide +kernel
theorem zd_A_place_69 : decode zb_A_place 69 = .ok (.if_icmp .lt 13, 3) := by decide +kernel
theorem zd_A_place_72 : decode zb_A_place 72 = .ok (.new 63, 3) := by decide +kernel
theorem zd_A_place_75 : decode zb_A_place 75 = .ok (.dup, 1) := by decide +kernel
theorem zd_A_place_76 : decode zb_A_place 76 = .ok (.ldc 78, 2) := by decide +kernel
theorem zd_A_place_78 : decode zb_A_place 78 = .ok (.invokespecial 67, 3) := by decide +kernel
theorem zd_A_place_81 : decode zb_A_place 81 = .ok (.athrow, 1) := by decide +kernel
theorem zd_A_place_82 : decode zb_A_place 82 = .ok (.aload_n 0, 1) := by decide +kernel
theorem zd_A_place_83 : decode zb_A_place 83 = .ok (.getfield 17, 3) := by decide +kernel
theorem zd_A_place_86 : decode zb_A_place 86 = .ok (.aload_n 0, 1) := by decide +kernel
theorem zd_A_place_87 : decode zb_A_place 87 = .ok (.getfield 75, 3) := by decide +kernel
theorem zd_A_place_90 : decode zb_A_place 90 = .ok (.new 15, 3) := by decide +kernel
theorem zd_A_place_93 : decode zb_A_place 93 = .ok (.dup, 1) := by decide +kernel
theorem zd_A_place_94 : decode zb_A_place 94 = .ok (.iload_n 1, 1) := by decide +kernel
theorem zd_A_place_95 : decode zb_A_place 95 = .ok (.iload_n 2, 1) := by decide +kernel
theorem zd_A_place_96 : decode zb_A_place 96 = .ok (.iload_n 3, 1) := by decide +kernel
theorem zd_A_place_97 : decode zb_A_place 97 = .ok (.iload 4, 2) := by decide +kernel
theorem zd_A_place_99 : decode zb_A_place 99 = .ok (.invokespecial 80, 3) := by decide +kernel
theorem zd_A_place_102 : decode zb_A_place 102 = .ok (.aastore, 1) := by decide +kernel
theorem zd_A_place_103 : decode zb_A_place 103 = .ok (.aload_n 0, 1) := by decide +kernel
theorem zd_A_place_104 : decode zb_A_place 104 = .ok (.dup, 1) := by decide +kernel
theorem zd_A_place_105 : decode zb_A_place 105 = .ok (.getfield 75, 3) := by decide +kernel
theorem zd_A_place_108 : decode zb_A_place 108 = .ok (.iconst 1, 1) := by decide +kernel
theorem zd_A_place_109 : decode zb_A_place 109 = .ok (.iadd, 1) := by decide +kernel
theorem zd_A_place_110 : decode zb_A_place 110 = .ok (.putfield 75, 3) := by decide +kernel
theorem zd_A_place_113 : decode zb_A_place 113 = .ok (.aload_n 0, 1) := by decide +kernel
theorem zd_A_place_114 : decode zb_A_place 114 = .ok (.getfield 75, 3) := by decide +kernel
theorem zd_A_place_117 : decode zb_A_place 117 = .ok (.iconst 1, 1) := by decide +kernel
theorem zd_A_place_118 : decode zb_A_place 118 = .ok (.isub, 1) := by decide +kernel
theorem zd_A_place_119 : decode zb_A_place 119 = .ok (.ireturn, 1) := by decide +kernel
theorem zd_A_weight_0 : decode zb_A_weight 0 = .ok (.iload_n 1, 1) := by decide +kernel
theorem zd_A_weight_1 : decode zb_A_weight 1 = .ok (.iconst 0, 1) := by decide +kernel
theorem zd_A_weight_2 : decode zb_A_weight 2 = .ok (.bipush 7, 2) := by decide +kernel
theorem zd_A_weight_4 : decode zb_A_weight 4 = .ok (.invokestatic 49, 3) := by decide +kernel
theorem zd_A_weight_7 : decode zb_A_weight 7 = .ok (.ifCond .ne 13, 3) := by decide +kernel
theorem zd_A_weight_10 : decode zb_A_weight 10 = .ok (.iload_n 2, 1) := by decide +kernel
theorem zd_A_weight_11 : decode zb_A_weight 11 = .ok (.iconst 0, 1) := by decide +kernel
theorem zd_A_weight_12 : decode zb_A_weight 12 = .ok (.bipush 100, 2) := by decide +kernel
theorem zd_A_weight_14 : decode zb_A_weight 14 = .ok (.invokestatic 49, 3) := by decide +kernel
theorem zd_A_weight_17 : decode zb_A_weight 17 = .ok (.ifCond .eq 13, 3) := by decide +kernel
theorem zd_A_weight_20 : decode zb_A_weight 20 = .ok (.new 53, 3) := by decide +kernel
theorem zd_A_weight_23 : decode zb_A_weight 23 = .ok (.dup, 1) := by decide +kernel
theorem zd_A_weight_24 : decode zb_A_weight 24 = .ok (.ldc 83, 2) := by decide +kernel
theorem zd_A_weight_26 : decode zb_A_weight 26 = .ok (.invokespecial 57, 3) := by decide +kernel
theorem zd_A_weight_29 : decode zb_A_weight 29 = .ok (.athrow, 1) := by decide +kernel
theorem zd_A_weight_30 : decode zb_A_weight 30 = .ok (.aload_n 0, 1) := by decide +kernel
theorem zd_A_weight_31 : decode zb_A_weight 31 = .ok (.getfield 21, 3) := by decide +kernel
theorem zd_A_weight_34 : decode zb_A_weight 34 = .ok (.iload_n 1, 1) := by decide +kernel
theorem zd_A_weight_35 : decode zb_A_weight 35 = .ok (.iload_n 2, 1) := by decide +kernel
theorem zd_A_weight_36 : decode zb_A_weight 36 = .ok (.iastore, 1) := by decide +kernel
theorem zd_A_weight_37 : decode zb_A_weight 37 = .ok (.return_, 1) := by decide +kernel
theorem zd_A_fits_0 : decode zb_A_fits 0 = .ok (.aload_n 0, 1) := by decide +kernel
theorem zd_A_fits_1 : decode zb_A_fits 1 = .ok (.iload_n 1, 1) := by decide +kernel
theorem zd_A_fits_2 : decode zb_A_fits 2 = .ok (.invokevirtual 85, 3) := by decide +kernel
theorem zd_A_fits_5 : decode zb_A_fits 5 = .ok (.astore 4, 2) := by decide +kernel
theorem zd_A_fits_7 : decode zb_A_fits 7 = .ok (.aload_n 0, 1) := by decide +kernel
theorem zd_A_fits_8 : decode zb_A_fits 8 = .ok (.iload_n 2, 1) := by decide +kernel
theorem zd_A_fits_9 : decode zb_A_fits 9 = .ok (.invokevirtual 89, 3) := by decide +kernel
theorem zd_A_fits_12 : decode zb_A_fits 12 = .ok (.pop, 1) := by decide +kernel
theorem zd_A_fits_13 : decode zb_A_fits 13 = .ok (.iload_n 3, 1) := by decide +kernel
theorem zd_A_fits_14 : decode zb_A_fits 14 = .ok (.ifCond .eq 21, 3) := by decide +kernel
theorem zd_A_fits_17 : decode zb_A_fits 17 = .ok (.aload 4, 2) := by decide +kernel
theorem zd_A_fits_19 : decode zb_A_fits 19 = .ok (.dup, 1) := by decide +kernel
theorem zd_A_fits_20 : decode zb_A_fits 20 = .ok (.getfield 93, 3) := by decide +kernel
theorem zd_A_fits_23 : decode zb_A_fits 23 = .ok (.iconst 1, 1) := by decide +kernel
theorem zd_A_fits_24 : decode zb_A_fits 24 = .ok (.iload_n 2, 1) := by decide +kernel
theorem zd_A_fits_25 : decode zb_A_fits 25 = .ok (.ishl, 1) := by decide +kernel
theorem zd_A_fits_26 : decode zb_A_fits 26 = .ok (.iconst (-1), 1) := by decide +kernel
theorem zd_A_fits_27 : decode zb_A_fits 27 = .ok (.ixor, 1) := by decide +kernel
theorem zd_A_fits_28 : decode zb_A_fits 28 = .ok (.iand, 1) := by decide +kernel
theorem zd_A_fits_29 : decode zb_A_fits 29 = .ok (.putfield 93, 3) := by decide +kernel
theorem zd_A_fits_32 : decode zb_A_fits 32 = .ok (.goto 16, 3) := by decide +kernel
theorem zd_A_fits_35 : decode zb_A_fits 35 = .ok (.aload 4, 2) := by decide +kernel
theorem zd_A_fits_37 : decode zb_A_fits 37 = .ok (.dup, 1) := by decide +kernel
theorem zd_A_fits_38 : decode zb_A_fits 38 = .ok (.getfield 93, 3) := by decide +kernel
theorem zd_A_fits_41 : decode zb_A_fits 41 = .ok (.iconst 1, 1) := by decide +kernel
theorem zd_A_fits_42 : decode zb_A_fits 42 = .ok (.iload_n 2, 1) := by decide +kernel
theorem zd_A_fits_43 : decode zb_A_fits 43 = .ok (.ishl, 1) := by decide +kernel
theorem zd_A_fits_44 : decode zb_A_fits 44 = .ok (.ior, 1) := by decide +kernel
theorem zd_A_fits_45 : decode zb_A_fits 45 = .ok (.putfield 93, 3) := by decide +kernel
theorem zd_A_fits_48 : decode zb_A_fits 48 = .ok (.return_, 1) := by decide +kernel
theorem zd_A_cost_0 : decode zb_A_cost 0 = .ok (.aload_n 0, 1) := by decide +kernel
theorem zd_A_cost_1 : decode zb_A_cost 1 = .ok (.iload_n 1, 1) := by decide +kernel
theorem zd_A_cost_2 : decode zb_A_cost 2 = .ok (.invokevirtual 85, 3) := by decide +kernel
theorem zd_A_cost_5 : decode zb_A_cost 5 = .ok (.astore 4, 2) := by decide +kernel
theorem zd_A_cost_7 : decode zb_A_cost 7 = .ok (.aload_n 0, 1) := by decide +kernel
theorem zd_A_cost_8 : decode zb_A_cost 8 = .ok (.iload_n 2, 1) := by decide +kernel
theorem zd_A_cost_9 : decode zb_A_cost 9 = .ok (.invokevirtual 89, 3) := by decide +kernel
theorem zd_A_cost_12 : decode zb_A_cost 12 = .ok (.pop, 1) := by decide +kernel
theorem zd_A_cost_13 : decode zb_A_cost 13 = .ok (.iload_n 3, 1) := by decide +kernel
theorem zd_A_cost_14 : decode zb_A_cost 14 = .ok (.ldc 96, 2) := by decide +kernel
theorem zd_A_cost_16 : decode zb_A_cost 16 = .ok (.if_icmp .le 13, 3) := by decide +kernel
theorem zd_A_cost_19 : decode zb_A_cost 19 = .ok (.new 53, 3) := by decide +kernel
theorem zd_A_cost_22 : decode zb_A_cost 22 = .ok (.dup, 1) := by decide +kernel
theorem zd_A_cost_23 : decode zb_A_cost 23 = .ok (.ldc 97, 2) := by decide +kernel
theorem zd_A_cost_25 : decode zb_A_cost 25 = .ok (.invokespecial 57, 3) := by decide +kernel
theorem zd_A_cost_28 : decode zb_A_cost 28 = .ok (.athrow, 1) := by decide +kernel
theorem zd_A_cost_29 : decode zb_A_cost 29 = .ok (.aload 4, 2) := by decide +kernel
theorem zd_A_cost_31 : decode zb_A_cost 31 = .ok (.getfield 99, 3) := by decide +kernel
theorem zd_A_cost_34 : decode zb_A_cost 34 = .ok (.iload_n 2, 1) := by decide +kernel
theorem zd_A_cost_35 : decode zb_A_cost 35 = .ok (.iload_n 3, 1) := by decide +kernel
theorem zd_A_cost_36 : decode zb_A_cost 36 = .ok (.ifCond .ge 7, 3) := by decide +kernel
theorem zd_A_cost_39 : decode zb_A_cost 39 = .ok (.iconst (-1), 1) := by decide +kernel
theorem zd_A_cost_40 : decode zb_A_cost 40 = .ok (.goto 4, 3) := by decide +kernel
theorem zd_A_cost_43 : decode zb_A_cost 43 = .ok (.iload_n 3, 1) := by decide +kernel
theorem zd_A_cost_44 : decode zb_A_cost 44 = .ok (.iastore, 1) := by decide +kernel
theorem zd_A_cost_45 : decode zb_A_cost 45 = .ok (.return_, 1) := by decide +kernel
theorem zd_A_together_0 : decode zb_A_together 0 = .ok (.aload_n 0, 1) := by decide +kernel
theorem zd_A_together_1 : decode zb_A_together 1 = .ok (.iload_n 1, 1) := by decide +kernel
theorem zd_A_together_2 : decode zb_A_together 2 = .ok (.invokevirtual 85, 3) := by decide +kernel
theorem zd_A_together_5 : decode zb_A_together 5 = .ok (.astore_n 3, 1) := by decide +kernel
theorem zd_A_together_6 : decode zb_A_together 6 = .ok (.aload_n 0, 1) := by decide +kernel
theorem zd_A_together_7 : decode zb_A_together 7 = .ok (.iload_n 2, 1) := by decide +kernel
theorem zd_A_together_8 : decode zb_A_together 8 = .ok (.invokevirtual 85, 3) := by decide +kernel
theorem zd_A_together_11 : decode zb_A_together 11 = .ok (.astore 4, 2) := by decide +kernel
theorem zd_A_together_13 : decode zb_A_together 13 = .ok (.aload_n 3, 1) := by decide +kernel
theorem zd_A_together_14 : decode zb_A_together 14 = .ok (.getfield 102, 3) := by decide +kernel
theorem zd_A_together_17 : decode zb_A_together 17 = .ok (.ifCond .ne 11, 3) := by decide +kernel
theorem zd_A_together_20 : decode zb_A_together 20 = .ok (.aload 4, 2) := by decide +kernel
theorem zd_A_together_22 : decode zb_A_together 22 = .ok (.getfield 102, 3) := by decide +kernel
theorem zd_A_together_25 : decode zb_A_together 25 = .ok (.ifCond .eq 13, 3) := by decide +kernel
theorem zd_A_together_28 : decode zb_A_together 28 = .ok (.new 106, 3) := by decide +kernel
theorem zd_A_together_31 : decode zb_A_together 31 = .ok (.dup, 1) := by decide +kernel
theorem zd_A_together_32 : decode zb_A_together 32 = .ok (.ldc 108, 2) := by decide +kernel
theorem zd_A_together_34 : decode zb_A_together 34 = .ok (.invokespecial 110, 3) := by decide +kernel
theorem zd_A_together_37 : decode zb_A_together 37 = .ok (.athrow, 1) := by decide +kernel
theorem zd_A_together_38 : decode zb_A_together 38 = .ok (.aload_n 3, 1) := by decide +kernel
theorem zd_A_together_39 : decode zb_A_together 39 = .ok (.getfield 111, 3) := by decide +kernel
theorem zd_A_together_42 : decode zb_A_together 42 = .ok (.aload 4, 2) := by decide +kernel
theorem zd_A_together_44 : decode zb_A_together 44 = .ok (.getfield 111, 3) := by decide +kernel
theorem zd_A_together_47 : decode zb_A_together 47 = .ok (.if_icmp .ne 13, 3) := by decide +kernel
theorem zd_A_together_50 : decode zb_A_together 50 = .ok (.new 106, 3) := by decide +kernel
theorem zd_A_together_53 : decode zb_A_together 53 = .ok (.dup, 1) := by decide +kernel
theorem zd_A_together_54 : decode zb_A_together 54 = .ok (.ldc 114, 2) := by decide +kernel
theorem zd_A_together_56 : decode zb_A_together 56 = .ok (.invokespecial 110, 3) := by decide +kernel
theorem zd_A_together_59 : decode zb_A_together 59 = .ok (.athrow, 1) := by decide +kernel
theorem zd_A_together_60 : decode zb_A_together 60 = .ok (.aload_n 3, 1) := by decide +kernel
theorem zd_A_together_61 : decode zb_A_together 61 = .ok (.getfield 111, 3) := by decide +kernel
theorem zd_A_together_64 : decode zb_A_together 64 = .ok (.aload 4, 2) := by decide +kernel
theorem zd_A_together_66 : decode zb_A_together 66 = .ok (.getfield 111, 3) := by decide +kernel
theorem zd_A_together_69 : decode zb_A_together 69 = .ok (.invokestatic 116, 3) := by decide +kernel
theorem zd_A_together_72 : decode zb_A_together 72 = .ok (.istore 5, 2) := by decide +kernel
theorem zd_A_together_74 : decode zb_A_together 74 = .ok (.aload_n 0, 1) := by decide +kernel
theorem zd_A_together_75 : decode zb_A_together 75 = .ok (.iload 5, 2) := by decide +kernel
theorem zd_A_together_77 : decode zb_A_together 77 = .ok (.aload_n 3, 1) := by decide +kernel
theorem zd_A_together_78 : decode zb_A_together 78 = .ok (.getfield 111, 3) := by decide +kernel
theorem zd_A_together_81 : decode zb_A_together 81 = .ok (.aload 4, 2) := by decide +kernel
theorem zd_A_together_83 : decode zb_A_together 83 = .ok (.getfield 111, 3) := by decide +kernel
theorem zd_A_together_86 : decode zb_A_together 86 = .ok (.invokestatic 122, 3) := by decide +kernel
theorem zd_A_together_89 : decode zb_A_together 89 = .ok (.invokevirtual 125, 3) := by decide +kernel
theorem zd_A_together_92 : decode zb_A_together 92 = .ok (.aload_n 0, 1) := by decide +kernel
theorem zd_A_together_93 : decode zb_A_together 93 = .ok (.iload 5, 2) := by decide +kernel
theorem zd_A_together_95 : decode zb_A_together 95 = .ok (.iconst (-1), 1) := by decide +kernel
theorem zd_A_together_96 : decode zb_A_together 96 = .ok (.invokevirtual 129, 3) := by decide +kernel
theorem zd_A_together_99 : decode zb_A_together 99 = .ok (.aload_n 0, 1) := by decide +kernel
theorem zd_A_together_100 : decode zb_A_together 100 = .ok (.iload 5, 2) := by decide +kernel
theorem zd_A_together_102 : decode zb_A_together 102 = .ok (.invokevirtual 132, 3) := by decide +kernel
theorem zd_A_together_105 : decode zb_A_together 105 = .ok (.getfield 136, 3) := by decide +kernel
theorem zd_A_together_108 : decode zb_A_together 108 = .ok (.ireturn, 1) := by decide +kernel
theorem zd_A_fix_0 : decode zb_A_fix 0 = .ok (.aload_n 0, 1) := by decide +kernel
theorem zd_A_fix_1 : decode zb_A_fix 1 = .ok (.iload_n 1, 1) := by decide +kernel
theorem zd_A_fix_2 : decode zb_A_fix 2 = .ok (.invokevirtual 85, 3) := by decide +kernel
theorem zd_A_fix_5 : decode zb_A_fix 5 = .ok (.astore_n 3, 1) := by decide +kernel
theorem zd_A_fix_6 : decode zb_A_fix 6 = .ok (.iload_n 2, 1) := by decide +kernel
theorem zd_A_fix_7 : decode zb_A_fix 7 = .ok (.iconst (-1), 1) := by decide +kernel
theorem zd_A_fix_8 : decode zb_A_fix 8 = .ok (.if_icmp .eq 9, 3) := by decide +kernel
theorem zd_A_fix_11 : decode zb_A_fix 11 = .ok (.aload_n 0, 1) := by decide +kernel
theorem zd_A_fix_12 : decode zb_A_fix 12 = .ok (.iload_n 2, 1) := by decide +kernel
theorem zd_A_fix_13 : decode zb_A_fix 13 = .ok (.invokevirtual 89, 3) := by decide +kernel
theorem zd_A_fix_16 : decode zb_A_fix 16 = .ok (.pop, 1) := by decide +kernel
theorem zd_A_fix_17 : decode zb_A_fix 17 = .ok (.aload_n 3, 1) := by decide +kernel
theorem zd_A_fix_18 : decode zb_A_fix 18 = .ok (.getfield 102, 3) := by decide +kernel
theorem zd_A_fix_21 : decode zb_A_fix 21 = .ok (.ifCond .eq 13, 3) := by decide +kernel
theorem zd_A_fix_24 : decode zb_A_fix 24 = .ok (.new 106, 3) := by decide +kernel
theorem zd_A_fix_27 : decode zb_A_fix 27 = .ok (.dup, 1) := by decide +kernel
theorem zd_A_fix_28 : decode zb_A_fix 28 = .ok (.ldc 139, 2) := by decide +kernel
theorem zd_A_fix_30 : decode zb_A_fix 30 = .ok (.invokespecial 110, 3) := by decide +kernel
theorem zd_A_fix_33 : decode zb_A_fix 33 = .ok (.athrow, 1) := by decide +kernel
theorem zd_A_fix_34 : decode zb_A_fix 34 = .ok (.aload_n 3, 1) := by decide +kernel
theorem zd_A_fix_35 : decode zb_A_fix 35 = .ok (.iload_n 2, 1) := by decide +kernel
theorem zd_A_fix_36 : decode zb_A_fix 36 = .ok (.putfield 141, 3) := by decide +kernel
theorem zd_A_fix_39 : decode zb_A_fix 39 = .ok (.return_, 1) := by decide +kernel
theorem zd_A_limits_0 : decode zb_A_limits 0 = .ok (.iload_n 1, 1) := by decide +kernel
theorem zd_A_limits_1 : decode zb_A_limits 1 = .ok (.iconst 0, 1) := by decide +kernel
theorem zd_A_limits_2 : decode zb_A_limits 2 = .ok (.bipush 8, 2) := by decide +kernel
theorem zd_A_limits_4 : decode zb_A_limits 4 = .ok (.invokestatic 49, 3) := by decide +kernel
theorem zd_A_limits_7 : decode zb_A_limits 7 = .ok (.ifCond .ne 14, 3) := by decide +kernel
theorem zd_A_limits_10 : decode zb_A_limits 10 = .ok (.iload_n 2, 1) := by decide +kernel
theorem zd_A_limits_11 : decode zb_A_limits 11 = .ok (.iconst 1, 1) := by decide +kernel
theorem zd_A_limits_12 : decode zb_A_limits 12 = .ok (.sipush 1000, 3) := by decide +kernel
theorem zd_A_limits_15 : decode zb_A_limits 15 = .ok (.invokestatic 49, 3) := by decide +kernel
theorem zd_A_limits_18 : decode zb_A_limits 18 = .ok (.ifCond .eq 13, 3) := by decide +kernel
theorem zd_A_limits_21 : decode zb_A_limits 21 = .ok (.new 53, 3) := by decide +kernel
theorem zd_A_limits_24 : decode zb_A_limits 24 = .ok (.dup, 1) := by decide +kernel
theorem zd_A_limits_25 : decode zb_A_limits 25 = .ok (.ldc 144, 2) := by decide +kernel
theorem zd_A_limits_27 : decode zb_A_limits 27 = .ok (.invokespecial 57, 3) := by decide +kernel
theorem zd_A_limits_30 : decode zb_A_limits 30 = .ok (.athrow, 1) := by decide +kernel
theorem zd_A_limits_31 : decode zb_A_limits 31 = .ok (.aload_n 0, 1) := by decide +kernel
theorem zd_A_limits_32 : decode zb_A_limits 32 = .ok (.iload_n 1, 1) := by decide +kernel
theorem zd_A_limits_33 : decode zb_A_limits 33 = .ok (.putfield 42, 3) := by decide +kernel
theorem zd_A_limits_36 : decode zb_A_limits 36 = .ok (.aload_n 0, 1) := by decide +kernel
theorem zd_A_limits_37 : decode zb_A_limits 37 = .ok (.iload_n 2, 1) := by decide +kernel
theorem zd_A_limits_38 : decode zb_A_limits 38 = .ok (.putfield 46, 3) := by decide +kernel
theorem zd_A_limits_41 : decode zb_A_limits 41 = .ok (.return_, 1) := by decide +kernel
theorem zd_A_assign_0 : decode zb_A_assign 0 = .ok (.iload_n 1, 1) := by decide +kernel
theorem zd_A_assign_1 : decode zb_A_assign 1 = .ok (.ifCond .ge 13, 3) := by decide +kernel
theorem zd_A_assign_4 : decode zb_A_assign 4 = .ok (.new 53, 3) := by decide +kernel
theorem zd_A_assign_7 : decode zb_A_assign 7 = .ok (.dup, 1) := by decide +kernel
theorem zd_A_assign_8 : decode zb_A_assign 8 = .ok (.ldc 146, 2) := by decide +kernel
theorem zd_A_assign_10 : decode zb_A_assign 10 = .ok (.invokespecial 57, 3) := by decide +kernel
theorem zd_A_assign_13 : decode zb_A_assign 13 = .ok (.athrow, 1) := by decide +kernel
theorem zd_A_assign_14 : decode zb_A_assign 14 = .ok (.aload_n 0, 1) := by decide +kernel
theorem zd_A_assign_15 : decode zb_A_assign 15 = .ok (.invokevirtual 148, 3) := by decide +kernel
theorem zd_A_assign_18 : decode zb_A_assign 18 = .ok (.aload_n 0, 1) := by decide +kernel
theorem zd_A_assign_19 : decode zb_A_assign 19 = .ok (.getfield 42, 3) := by decide +kernel
theorem zd_A_assign_22 : decode zb_A_assign 22 = .ok (.if_icmp .gt 7, 3) := by decide +kernel
theorem zd_A_assign_25 : decode zb_A_assign 25 = .ok (.iconst 1, 1) := by decide +kernel
theorem zd_A_assign_26 : decode zb_A_assign 26 = .ok (.goto 4, 3) := by decide +kernel
theorem zd_A_assign_29 : decode zb_A_assign 29 = .ok (.iconst 0, 1) := by decide +kernel
theorem zd_A_assign_30 : decode zb_A_assign 30 = .ok (.istore_n 2, 1) := by decide +kernel
theorem zd_A_assign_31 : decode zb_A_assign 31 = .ok (.iload_n 2, 1) := by decide +kernel
theorem zd_A_assign_32 : decode zb_A_assign 32 = .ok (.ifCond .eq 10, 3) := by decide +kernel
theorem zd_A_assign_35 : decode zb_A_assign 35 = .ok (.aload_n 0, 1) := by decide +kernel
theorem zd_A_assign_36 : decode zb_A_assign 36 = .ok (.invokevirtual 152, 3) := by decide +kernel
theorem zd_A_assign_39 : decode zb_A_assign 39 = .ok (.goto 7, 3) := by decide +kernel
theorem zd_A_assign_42 : decode zb_A_assign 42 = .ok (.aload_n 0, 1) := by decide +kernel
theorem zd_A_assign_43 : decode zb_A_assign 43 = .ok (.invokevirtual 155, 3) := by decide +kernel
theorem zd_A_assign_46 : decode zb_A_assign 46 = .ok (.istore_n 3, 1) := by decide +kernel
theorem zd_A_assign_47 : decode zb_A_assign 47 = .ok (.iload_n 3, 1) := by decide +kernel
theorem zd_A_assign_48 : decode zb_A_assign 48 = .ok (.iload_n 1, 1) := by decide +kernel
theorem zd_A_assign_49 : decode zb_A_assign 49 = .ok (.if_icmp .le 5, 3) := by decide +kernel
theorem zd_A_assign_52 : decode zb_A_assign 52 = .ok (.iconst (-1), 1) := by decide +kernel
theorem zd_A_assign_53 : decode zb_A_assign 53 = .ok (.ireturn, 1) := by decide +kernel
theorem zd_A_assign_54 : decode zb_A_assign 54 = .ok (.aload_n 0, 1) := by decide +kernel
theorem zd_A_assign_55 : decode zb_A_assign 55 = .ok (.invokevirtual 158, 3) := by decide +kernel
theorem zd_A_assign_58 : decode zb_A_assign 58 = .ok (.aload_n 0, 1) := by decide +kernel
theorem zd_A_assign_59 : decode zb_A_assign 59 = .ok (.iload_n 2, 1) := by decide +kernel
theorem zd_A_assign_60 : decode zb_A_assign 60 = .ok (.putfield 161, 3) := by decide +kernel
theorem zd_A_assign_63 : decode zb_A_assign 63 = .ok (.iload_n 3, 1) := by decide +kernel
theorem zd_A_assign_64 : decode zb_A_assign 64 = .ok (.ireturn, 1) := by decide +kernel
theorem zd_A_at_0 : decode zb_A_at 0 = .ok (.aload_n 0, 1) := by decide +kernel
theorem zd_A_at_1 : decode zb_A_at 1 = .ok (.iload_n 1, 1) := by decide +kernel
theorem zd_A_at_2 : decode zb_A_at 2 = .ok (.invokevirtual 85, 3) := by decide +kernel
theorem zd_A_at_5 : decode zb_A_at 5 = .ok (.getfield 164, 3) := by decide +kernel
theorem zd_A_at_8 : decode zb_A_at 8 = .ok (.ireturn, 1) := by decide +kernel
theorem zd_A_exact_0 : decode zb_A_exact 0 = .ok (.aload_n 0, 1) := by decide +kernel
theorem zd_A_exact_1 : decode zb_A_exact 1 = .ok (.getfield 161, 3) := by decide +kernel
theorem zd_A_exact_4 : decode zb_A_exact 4 = .ok (.ireturn, 1) := by decide +kernel
theorem zd_A_bound_0 : decode zb_A_bound 0 = .ok (.iconst 0, 1) := by decide +kernel
theorem zd_A_bound_1 : decode zb_A_bound 1 = .ok (.istore_n 1, 1) := by decide +kernel
theorem zd_A_bound_2 : decode zb_A_bound 2 = .ok (.iconst 0, 1) := by decide +kernel
theorem zd_A_bound_3 : decode zb_A_bound 3 = .ok (.istore_n 2, 1) := by decide +kernel
theorem zd_A_bound_4 : decode zb_A_bound 4 = .ok (.iload_n 2, 1) := by decide +kernel
theorem zd_A_bound_5 : decode zb_A_bound 5 = .ok (.aload_n 0, 1) := by decide +kernel
theorem zd_A_bound_6 : decode zb_A_bound 6 = .ok (.getfield 60, 3) := by decide +kernel
theorem zd_A_bound_9 : decode zb_A_bound 9 = .ok (.if_icmp .ge 49, 3) := by decide +kernel
theorem zd_A_bound_12 : decode zb_A_bound 12 = .ok (.aload_n 0, 1) := by decide +kernel
theorem zd_A_bound_13 : decode zb_A_bound 13 = .ok (.iload_n 2, 1) := by decide +kernel
theorem zd_A_bound_14 : decode zb_A_bound 14 = .ok (.invokevirtual 167, 3) := by decide +kernel
theorem zd_A_bound_17 : decode zb_A_bound 17 = .ok (.ifCond .eq 35, 3) := by decide +kernel
theorem zd_A_bound_20 : decode zb_A_bound 20 = .ok (.aload_n 0, 1) := by decide +kernel
theorem zd_A_bound_21 : decode zb_A_bound 21 = .ok (.iload_n 2, 1) := by decide +kernel
theorem zd_A_bound_22 : decode zb_A_bound 22 = .ok (.invokevirtual 132, 3) := by decide +kernel
theorem zd_A_bound_25 : decode zb_A_bound 25 = .ok (.astore_n 3, 1) := by decide +kernel
theorem zd_A_bound_26 : decode zb_A_bound 26 = .ok (.aload_n 0, 1) := by decide +kernel
theorem zd_A_bound_27 : decode zb_A_bound 27 = .ok (.aload_n 3, 1) := by decide +kernel
theorem zd_A_bound_28 : decode zb_A_bound 28 = .ok (.iconst 0, 1) := by decide +kernel
theorem zd_A_bound_29 : decode zb_A_bound 29 = .ok (.invokevirtual 171, 3) := by decide +kernel
theorem zd_A_bound_32 : decode zb_A_bound 32 = .ok (.istore 4, 2) := by decide +kernel
theorem zd_A_bound_34 : decode zb_A_bound 34 = .ok (.iload 4, 2) := by decide +kernel
theorem zd_A_bound_36 : decode zb_A_bound 36 = .ok (.iconst (-1), 1) := by decide +kernel
theorem zd_A_bound_37 : decode zb_A_bound 37 = .ok (.if_icmp .ne 5, 3) := by decide +kernel
theorem zd_A_bound_40 : decode zb_A_bound 40 = .ok (.iconst (-1), 1) := by decide +kernel
theorem zd_A_bound_41 : decode zb_A_bound 41 = .ok (.ireturn, 1) := by decide +kernel
theorem zd_A_bound_42 : decode zb_A_bound 42 = .ok (.iload_n 1, 1) := by decide +kernel
theorem zd_A_bound_43 : decode zb_A_bound 43 = .ok (.aload_n 0, 1) := by decide +kernel
theorem zd_A_bound_44 : decode zb_A_bound 44 = .ok (.aload_n 3, 1) := by decide +kernel
theorem zd_A_bound_45 : decode zb_A_bound 45 = .ok (.iload 4, 2) := by decide +kernel
theorem zd_A_bound_47 : decode zb_A_bound 47 = .ok (.invokevirtual 175, 3) := by decide +kernel
theorem zd_A_bound_50 : decode zb_A_bound 50 = .ok (.iadd, 1) := by decide +kernel
theorem zd_A_bound_51 : decode zb_A_bound 51 = .ok (.istore_n 1, 1) := by decide +kernel
theorem zd_A_bound_52 : decode zb_A_bound 52 = .ok (.iinc 2 1, 3) := by decide +kernel
theorem zd_A_bound_55 : decode zb_A_bound 55 = .ok (.goto (-51), 3) := by decide +kernel
theorem zd_A_bound_58 : decode zb_A_bound 58 = .ok (.iload_n 1, 1) := by decide +kernel
theorem zd_A_bound_59 : decode zb_A_bound 59 = .ok (.ireturn, 1) := by decide +kernel
theorem zd_A_barred_0 : decode zb_A_barred 0 = .ok (.aload_n 0, 1) := by decide +kernel
theorem zd_A_barred_1 : decode zb_A_barred 1 = .ok (.iload_n 1, 1) := by decide +kernel
theorem zd_A_barred_2 : decode zb_A_barred 2 = .ok (.invokevirtual 85, 3) := by decide +kernel
theorem zd_A_barred_5 : decode zb_A_barred 5 = .ok (.astore_n 2, 1) := by decide +kernel
theorem zd_A_barred_6 : decode zb_A_barred 6 = .ok (.aload_n 2, 1) := by decide +kernel
theorem zd_A_barred_7 : decode zb_A_barred 7 = .ok (.getfield 102, 3) := by decide +kernel
theorem zd_A_barred_10 : decode zb_A_barred 10 = .ok (.ifCond .eq 13, 3) := by decide +kernel
theorem zd_A_barred_13 : decode zb_A_barred 13 = .ok (.new 106, 3) := by decide +kernel
theorem zd_A_barred_16 : decode zb_A_barred 16 = .ok (.dup, 1) := by decide +kernel
theorem zd_A_barred_17 : decode zb_A_barred 17 = .ok (.ldc 139, 2) := by decide +kernel
theorem zd_A_barred_19 : decode zb_A_barred 19 = .ok (.invokespecial 110, 3) := by decide +kernel
theorem zd_A_barred_22 : decode zb_A_barred 22 = .ok (.athrow, 1) := by decide +kernel
theorem zd_A_barred_23 : decode zb_A_barred 23 = .ok (.aload_n 0, 1) := by decide +kernel
theorem zd_A_barred_24 : decode zb_A_barred 24 = .ok (.aload_n 2, 1) := by decide +kernel
theorem zd_A_barred_25 : decode zb_A_barred 25 = .ok (.getfield 111, 3) := by decide +kernel
theorem zd_A_barred_28 : decode zb_A_barred 28 = .ok (.invokevirtual 132, 3) := by decide +kernel
theorem zd_A_barred_31 : decode zb_A_barred 31 = .ok (.astore_n 3, 1) := by decide +kernel
theorem zd_A_barred_32 : decode zb_A_barred 32 = .ok (.iconst 1, 1) := by decide +kernel
theorem zd_A_barred_33 : decode zb_A_barred 33 = .ok (.istore 4, 2) := by decide +kernel
theorem zd_A_barred_35 : decode zb_A_barred 35 = .ok (.iconst 0, 1) := by decide +kernel
theorem zd_A_barred_36 : decode zb_A_barred 36 = .ok (.istore 5, 2) := by decide +kernel
theorem zd_A_barred_38 : decode zb_A_barred 38 = .ok (.iload 5, 2) := by decide +kernel
theorem zd_A_barred_40 : decode zb_A_barred 40 = .ok (.aload_n 0, 1) := by decide +kernel
theorem zd_A_barred_41 : decode zb_A_barred 41 = .ok (.getfield 75, 3) := by decide +kernel
theorem zd_A_barred_44 : decode zb_A_barred 44 = .ok (.if_icmp .ge 34, 3) := by decide +kernel
theorem zd_A_barred_47 : decode zb_A_barred 47 = .ok (.aload_n 0, 1) := by decide +kernel
theorem zd_A_barred_48 : decode zb_A_barred 48 = .ok (.aload_n 3, 1) := by decide +kernel
theorem zd_A_barred_49 : decode zb_A_barred 49 = .ok (.iload 5, 2) := by decide +kernel
theorem zd_A_barred_51 : decode zb_A_barred 51 = .ok (.invokevirtual 178, 3) := by decide +kernel
theorem zd_A_barred_54 : decode zb_A_barred 54 = .ok (.istore 6, 2) := by decide +kernel
theorem zd_A_barred_56 : decode zb_A_barred 56 = .ok (.iload 6, 2) := by decide +kernel
theorem zd_A_barred_58 : decode zb_A_barred 58 = .ok (.ifCond .ne 5, 3) := by decide +kernel
theorem zd_A_barred_61 : decode zb_A_barred 61 = .ok (.iconst 0, 1) := by decide +kernel
theorem zd_A_barred_62 : decode zb_A_barred 62 = .ok (.ireturn, 1) := by decide +kernel
theorem zd_A_barred_63 : decode zb_A_barred 63 = .ok (.iload 4, 2) := by decide +kernel
theorem zd_A_barred_65 : decode zb_A_barred 65 = .ok (.iload 6, 2) := by decide +kernel
theorem zd_A_barred_67 : decode zb_A_barred 67 = .ok (.invokestatic 122, 3) := by decide +kernel
theorem zd_A_barred_70 : decode zb_A_barred 70 = .ok (.istore 4, 2) := by decide +kernel
theorem zd_A_barred_72 : decode zb_A_barred 72 = .ok (.iinc 5 1, 3) := by decide +kernel
theorem zd_A_barred_75 : decode zb_A_barred 75 = .ok (.goto (-37), 3) := by decide +kernel
theorem zd_A_barred_78 : decode zb_A_barred 78 = .ok (.iload 4, 2) := by decide +kernel
theorem zd_A_barred_80 : decode zb_A_barred 80 = .ok (.ireturn, 1) := by decide +kernel
theorem zd_A_put_0 : decode zb_A_put 0 = .ok (.aload_n 0, 1) := by decide +kernel
theorem zd_A_put_1 : decode zb_A_put 1 = .ok (.iload_n 1, 1) := by decide +kernel
theorem zd_A_put_2 : decode zb_A_put 2 = .ok (.invokevirtual 85, 3) := by decide +kernel
theorem zd_A_put_5 : decode zb_A_put 5 = .ok (.astore_n 2, 1) := by decide +kernel
theorem zd_A_put_6 : decode zb_A_put 6 = .ok (.aload_n 2, 1) := by decide +kernel
theorem zd_A_put_7 : decode zb_A_put 7 = .ok (.invokestatic 181, 3) := by decide +kernel
theorem zd_A_put_10 : decode zb_A_put 10 = .ok (.ifCond .ne 13, 3) := by decide +kernel
theorem zd_A_put_13 : decode zb_A_put 13 = .ok (.new 106, 3) := by decide +kernel
theorem zd_A_put_16 : decode zb_A_put 16 = .ok (.dup, 1) := by decide +kernel
theorem zd_A_put_17 : decode zb_A_put 17 = .ok (.ldc 185, 2) := by decide +kernel
theorem zd_A_put_19 : decode zb_A_put 19 = .ok (.invokespecial 110, 3) := by decide +kernel
theorem zd_A_put_22 : decode zb_A_put 22 = .ok (.athrow, 1) := by decide +kernel
theorem zd_A_put_23 : decode zb_A_put 23 = .ok (.aload_n 0, 1) := by decide +kernel
theorem zd_A_put_24 : decode zb_A_put 24 = .ok (.aload_n 2, 1) := by decide +kernel
theorem zd_A_put_25 : decode zb_A_put 25 = .ok (.getfield 111, 3) := by decide +kernel
theorem zd_A_put_28 : decode zb_A_put 28 = .ok (.invokevirtual 132, 3) := by decide +kernel
theorem zd_A_put_31 : decode zb_A_put 31 = .ok (.astore_n 3, 1) := by decide +kernel
theorem zd_A_put_32 : decode zb_A_put 32 = .ok (.aload_n 0, 1) := by decide +kernel
theorem zd_A_put_33 : decode zb_A_put 33 = .ok (.aload_n 3, 1) := by decide +kernel
theorem zd_A_put_34 : decode zb_A_put 34 = .ok (.aload_n 2, 1) := by decide +kernel
theorem zd_A_put_35 : decode zb_A_put 35 = .ok (.getfield 164, 3) := by decide +kernel
theorem zd_A_put_38 : decode zb_A_put 38 = .ok (.invokevirtual 178, 3) := by decide +kernel
theorem zd_A_put_41 : decode zb_A_put 41 = .ok (.ifCond .eq 13, 3) := by decide +kernel
theorem zd_A_put_44 : decode zb_A_put 44 = .ok (.new 106, 3) := by decide +kernel
theorem zd_A_put_47 : decode zb_A_put 47 = .ok (.dup, 1) := by decide +kernel
theorem zd_A_put_48 : decode zb_A_put 48 = .ok (.ldc 187, 2) := by decide +kernel
theorem zd_A_put_50 : decode zb_A_put 50 = .ok (.invokespecial 110, 3) := by decide +kernel
theorem zd_A_put_53 : decode zb_A_put 53 = .ok (.athrow, 1) := by decide +kernel
theorem zd_A_put_54 : decode zb_A_put 54 = .ok (.aload_n 0, 1) := by decide +kernel
theorem zd_A_put_55 : decode zb_A_put 55 = .ok (.getfield 17, 3) := by decide +kernel
theorem zd_A_put_58 : decode zb_A_put 58 = .ok (.aload_n 2, 1) := by decide +kernel
theorem zd_A_put_59 : decode zb_A_put 59 = .ok (.getfield 164, 3) := by decide +kernel
theorem zd_A_put_62 : decode zb_A_put 62 = .ok (.aaload, 1) := by decide +kernel
theorem zd_A_put_63 : decode zb_A_put 63 = .ok (.dup, 1) := by decide +kernel
theorem zd_A_put_64 : decode zb_A_put 64 = .ok (.getfield 189, 3) := by decide +kernel
theorem zd_A_put_67 : decode zb_A_put 67 = .ok (.aload_n 3, 1) := by decide +kernel
theorem zd_A_put_68 : decode zb_A_put 68 = .ok (.getfield 192, 3) := by decide +kernel
theorem zd_A_put_71 : decode zb_A_put 71 = .ok (.isub, 1) := by decide +kernel
theorem zd_A_put_72 : decode zb_A_put 72 = .ok (.putfield 189, 3) := by decide +kernel
theorem zd_A_put_75 : decode zb_A_put 75 = .ok (.aload_n 0, 1) := by decide +kernel
theorem zd_A_put_76 : decode zb_A_put 76 = .ok (.aload_n 3, 1) := by decide +kernel
theorem zd_A_put_77 : decode zb_A_put 77 = .ok (.getfield 195, 3) := by decide +kernel
theorem zd_A_put_80 : decode zb_A_put 80 = .ok (.invokevirtual 198, 3) := by decide +kernel
theorem zd_A_put_83 : decode zb_A_put 83 = .ok (.aload_n 3, 1) := by decide +kernel
theorem zd_A_put_84 : decode zb_A_put 84 = .ok (.getfield 136, 3) := by decide +kernel
theorem zd_A_put_87 : decode zb_A_put 87 = .ok (.ireturn, 1) := by decide +kernel
theorem zd_A_block_0 : decode zb_A_block 0 = .ok (.aload_n 0, 1) := by decide +kernel
theorem zd_A_block_1 : decode zb_A_block 1 = .ok (.iload_n 1, 1) := by decide +kernel
theorem zd_A_block_2 : decode zb_A_block 2 = .ok (.invokevirtual 89, 3) := by decide +kernel
theorem zd_A_block_5 : decode zb_A_block 5 = .ok (.astore_n 2, 1) := by decide +kernel
theorem zd_A_block_6 : decode zb_A_block 6 = .ok (.aload_n 2, 1) := by decide +kernel
theorem zd_A_block_7 : decode zb_A_block 7 = .ok (.getfield 202, 3) := by decide +kernel
theorem zd_A_block_10 : decode zb_A_block 10 = .ok (.ifCond .eq 13, 3) := by decide +kernel
theorem zd_A_block_13 : decode zb_A_block 13 = .ok (.new 106, 3) := by decide +kernel
theorem zd_A_block_16 : decode zb_A_block 16 = .ok (.dup, 1) := by decide +kernel
theorem zd_A_block_17 : decode zb_A_block 17 = .ok (.ldc 205, 2) := by decide +kernel
theorem zd_A_block_19 : decode zb_A_block 19 = .ok (.invokespecial 110, 3) := by decide +kernel
theorem zd_A_block_22 : decode zb_A_block 22 = .ok (.athrow, 1) := by decide +kernel
theorem zd_A_block_23 : decode zb_A_block 23 = .ok (.aload_n 2, 1) := by decide +kernel
theorem zd_A_block_24 : decode zb_A_block 24 = .ok (.iconst 1, 1) := by decide +kernel
theorem zd_A_block_25 : decode zb_A_block 25 = .ok (.putfield 202, 3) := by decide +kernel
theorem zd_A_block_28 : decode zb_A_block 28 = .ok (.aload_n 0, 1) := by decide +kernel
theorem zd_A_block_29 : decode zb_A_block 29 = .ok (.iload_n 1, 1) := by decide +kernel
theorem zd_A_block_30 : decode zb_A_block 30 = .ok (.invokevirtual 207, 3) := by decide +kernel
theorem zd_A_block_33 : decode zb_A_block 33 = .ok (.istore_n 3, 1) := by decide +kernel
theorem zd_A_block_34 : decode zb_A_block 34 = .ok (.iload_n 3, 1) := by decide +kernel
theorem zd_A_block_35 : decode zb_A_block 35 = .ok (.iconst (-1), 1) := by decide +kernel
theorem zd_A_block_36 : decode zb_A_block 36 = .ok (.if_icmp .ne 5, 3) := by decide +kernel
theorem zd_A_block_39 : decode zb_A_block 39 = .ok (.iconst 0, 1) := by decide +kernel
theorem zd_A_block_40 : decode zb_A_block 40 = .ok (.ireturn, 1) := by decide +kernel
theorem zd_A_block_41 : decode zb_A_block 41 = .ok (.aload_n 0, 1) := by decide +kernel
theorem zd_A_block_42 : decode zb_A_block 42 = .ok (.aload_n 0, 1) := by decide +kernel
theorem zd_A_block_43 : decode zb_A_block 43 = .ok (.iload_n 3, 1) := by decide +kernel
theorem zd_A_block_44 : decode zb_A_block 44 = .ok (.invokevirtual 132, 3) := by decide +kernel
theorem zd_A_block_47 : decode zb_A_block 47 = .ok (.aload_n 0, 1) := by decide +kernel
theorem zd_A_block_48 : decode zb_A_block 48 = .ok (.invokevirtual 211, 3) := by decide +kernel
theorem zd_A_block_51 : decode zb_A_block 51 = .ok (.invokevirtual 171, 3) := by decide +kernel
theorem zd_A_block_54 : decode zb_A_block 54 = .ok (.istore 4, 2) := by decide +kernel
theorem zd_A_block_56 : decode zb_A_block 56 = .ok (.aload_n 0, 1) := by decide +kernel
theorem zd_A_block_57 : decode zb_A_block 57 = .ok (.iload_n 3, 1) := by decide +kernel
theorem zd_A_block_58 : decode zb_A_block 58 = .ok (.iload 4, 2) := by decide +kernel
theorem zd_A_block_60 : decode zb_A_block 60 = .ok (.invokevirtual 129, 3) := by decide +kernel
theorem zd_A_block_63 : decode zb_A_block 63 = .ok (.iload 4, 2) := by decide +kernel
theorem zd_A_block_65 : decode zb_A_block 65 = .ok (.iconst (-1), 1) := by decide +kernel
theorem zd_A_block_66 : decode zb_A_block 66 = .ok (.if_icmp .ne 7, 3) := by decide +kernel
theorem zd_A_block_69 : decode zb_A_block 69 = .ok (.iconst 0, 1) := by decide +kernel
theorem zd_A_block_70 : decode zb_A_block 70 = .ok (.goto 4, 3) := by decide +kernel
theorem zd_A_block_73 : decode zb_A_block 73 = .ok (.iconst 1, 1) := by decide +kernel
theorem zd_A_block_74 : decode zb_A_block 74 = .ok (.ireturn, 1) := by decide +kernel
theorem zd_A_open_0 : decode zb_A_open 0 = .ok (.aload_n 0, 1) := by decide +kernel
theorem zd_A_open_1 : decode zb_A_open 1 = .ok (.iload_n 1, 1) := by decide +kernel
theorem zd_A_open_2 : decode zb_A_open 2 = .ok (.invokevirtual 89, 3) := by decide +kernel
theorem zd_A_open_5 : decode zb_A_open 5 = .ok (.astore_n 2, 1) := by decide +kernel
theorem zd_A_open_6 : decode zb_A_open 6 = .ok (.aload_n 2, 1) := by decide +kernel
theorem zd_A_open_7 : decode zb_A_open 7 = .ok (.getfield 202, 3) := by decide +kernel
theorem zd_A_open_10 : decode zb_A_open 10 = .ok (.ifCond .ne 13, 3) := by decide +kernel
theorem zd_A_open_13 : decode zb_A_open 13 = .ok (.new 106, 3) := by decide +kernel
theorem zd_A_open_16 : decode zb_A_open 16 = .ok (.dup, 1) := by decide +kernel
theorem zd_A_open_17 : decode zb_A_open 17 = .ok (.ldc 214, 2) := by decide +kernel
theorem zd_A_open_19 : decode zb_A_open 19 = .ok (.invokespecial 110, 3) := by decide +kernel
theorem zd_A_open_22 : decode zb_A_open 22 = .ok (.athrow, 1) := by decide +kernel
theorem zd_A_open_23 : decode zb_A_open 23 = .ok (.aload_n 2, 1) := by decide +kernel
theorem zd_A_open_24 : decode zb_A_open 24 = .ok (.iconst 0, 1) := by decide +kernel
theorem zd_A_open_25 : decode zb_A_open 25 = .ok (.putfield 202, 3) := by decide +kernel
theorem zd_A_open_28 : decode zb_A_open 28 = .ok (.return_, 1) := by decide +kernel
theorem zd_A_share_0 : decode zb_A_share 0 = .ok (.aload_n 0, 1) := by decide +kernel
theorem zd_A_share_1 : decode zb_A_share 1 = .ok (.iload_n 1, 1) := by decide +kernel
theorem zd_A_share_2 : decode zb_A_share 2 = .ok (.invokevirtual 85, 3) := by decide +kernel
theorem zd_A_share_5 : decode zb_A_share 5 = .ok (.astore_n 2, 1) := by decide +kernel
theorem zd_A_share_6 : decode zb_A_share 6 = .ok (.aload_n 2, 1) := by decide +kernel
theorem zd_A_share_7 : decode zb_A_share 7 = .ok (.invokestatic 181, 3) := by decide +kernel
theorem zd_A_share_10 : decode zb_A_share 10 = .ok (.ifCond .ne 13, 3) := by decide +kernel
theorem zd_A_share_13 : decode zb_A_share 13 = .ok (.new 106, 3) := by decide +kernel
theorem zd_A_share_16 : decode zb_A_share 16 = .ok (.dup, 1) := by decide +kernel
theorem zd_A_share_17 : decode zb_A_share 17 = .ok (.ldc 185, 2) := by decide +kernel
theorem zd_A_share_19 : decode zb_A_share 19 = .ok (.invokespecial 110, 3) := by decide +kernel
theorem zd_A_share_22 : decode zb_A_share 22 = .ok (.athrow, 1) := by decide +kernel
theorem zd_A_share_23 : decode zb_A_share 23 = .ok (.aload_n 0, 1) := by decide +kernel
theorem zd_A_share_24 : decode zb_A_share 24 = .ok (.invokevirtual 216, 3) := by decide +kernel
theorem zd_A_share_27 : decode zb_A_share 27 = .ok (.istore_n 3, 1) := by decide +kernel
theorem zd_A_share_28 : decode zb_A_share 28 = .ok (.iload_n 3, 1) := by decide +kernel
theorem zd_A_share_29 : decode zb_A_share 29 = .ok (.ifCond .ne 13, 3) := by decide +kernel
theorem zd_A_share_32 : decode zb_A_share 32 = .ok (.new 219, 3) := by decide +kernel
theorem zd_A_share_35 : decode zb_A_share 35 = .ok (.dup, 1) := by decide +kernel
theorem zd_A_share_36 : decode zb_A_share 36 = .ok (.ldc 221, 2) := by decide +kernel
theorem zd_A_share_38 : decode zb_A_share 38 = .ok (.invokespecial 223, 3) := by decide +kernel
theorem zd_A_share_41 : decode zb_A_share 41 = .ok (.athrow, 1) := by decide +kernel
theorem zd_A_share_42 : decode zb_A_share 42 = .ok (.bipush 100, 2) := by decide +kernel
theorem zd_A_share_44 : decode zb_A_share 44 = .ok (.aload_n 0, 1) := by decide +kernel
theorem zd_A_share_45 : decode zb_A_share 45 = .ok (.aload_n 0, 1) := by decide +kernel
theorem zd_A_share_46 : decode zb_A_share 46 = .ok (.aload_n 2, 1) := by decide +kernel
theorem zd_A_share_47 : decode zb_A_share 47 = .ok (.getfield 111, 3) := by decide +kernel
theorem zd_A_share_50 : decode zb_A_share 50 = .ok (.invokevirtual 132, 3) := by decide +kernel
theorem zd_A_share_53 : decode zb_A_share 53 = .ok (.aload_n 2, 1) := by decide +kernel
theorem zd_A_share_54 : decode zb_A_share 54 = .ok (.getfield 164, 3) := by decide +kernel
theorem zd_A_share_57 : decode zb_A_share 57 = .ok (.invokevirtual 175, 3) := by decide +kernel
theorem zd_A_share_60 : decode zb_A_share 60 = .ok (.imul, 1) := by decide +kernel
theorem zd_A_share_61 : decode zb_A_share 61 = .ok (.iload_n 3, 1) := by decide +kernel
theorem zd_A_share_62 : decode zb_A_share 62 = .ok (.idiv, 1) := by decide +kernel
theorem zd_A_share_63 : decode zb_A_share 63 = .ok (.ireturn, 1) := by decide +kernel
theorem zd_A_trip_0 : decode zb_A_trip 0 = .ok (.aload_n 0, 1) := by decide +kernel
theorem zd_A_trip_1 : decode zb_A_trip 1 = .ok (.iload_n 1, 1) := by decide +kernel
theorem zd_A_trip_2 : decode zb_A_trip 2 = .ok (.invokevirtual 85, 3) := by decide +kernel
theorem zd_A_trip_5 : decode zb_A_trip 5 = .ok (.pop, 1) := by decide +kernel
theorem zd_A_trip_6 : decode zb_A_trip 6 = .ok (.iconst (-1), 1) := by decide +kernel
theorem zd_A_trip_7 : decode zb_A_trip 7 = .ok (.istore_n 2, 1) := by decide +kernel
theorem zd_A_trip_8 : decode zb_A_trip 8 = .ok (.iconst 0, 1) := by decide +kernel
theorem zd_A_trip_9 : decode zb_A_trip 9 = .ok (.istore_n 3, 1) := by decide +kernel
theorem zd_A_trip_10 : decode zb_A_trip 10 = .ok (.iload_n 3, 1) := by decide +kernel
theorem zd_A_trip_11 : decode zb_A_trip 11 = .ok (.iconst 4, 1) := by decide +kernel
theorem zd_A_trip_12 : decode zb_A_trip 12 = .ok (.if_icmp .ge 105, 3) := by decide +kernel
theorem zd_A_trip_15 : decode zb_A_trip 15 = .ok (.iconst 0, 1) := by decide +kernel
theorem zd_A_trip_16 : decode zb_A_trip 16 = .ok (.istore 4, 2) := by decide +kernel
theorem zd_A_trip_18 : decode zb_A_trip 18 = .ok (.iconst 0, 1) := by decide +kernel
theorem zd_A_trip_19 : decode zb_A_trip 19 = .ok (.istore 5, 2) := by decide +kernel
theorem zd_A_trip_21 : decode zb_A_trip 21 = .ok (.iconst 0, 1) := by decide +kernel
theorem zd_A_trip_22 : decode zb_A_trip 22 = .ok (.istore 6, 2) := by decide +kernel
theorem zd_A_trip_24 : decode zb_A_trip 24 = .ok (.iload 6, 2) := by decide +kernel
theorem zd_A_trip_26 : decode zb_A_trip 26 = .ok (.aload_n 0, 1) := by decide +kernel
theorem zd_A_trip_27 : decode zb_A_trip 27 = .ok (.getfield 60, 3) := by decide +kernel
theorem zd_A_trip_30 : decode zb_A_trip 30 = .ok (.if_icmp .ge 81, 3) := by decide +kernel
theorem zd_A_trip_33 : decode zb_A_trip 33 = .ok (.aload_n 0, 1) := by decide +kernel
theorem zd_A_trip_34 : decode zb_A_trip 34 = .ok (.aload_n 0, 1) := by decide +kernel
theorem zd_A_trip_35 : decode zb_A_trip 35 = .ok (.getfield 11, 3) := by decide +kernel
theorem zd_A_trip_38 : decode zb_A_trip 38 = .ok (.iload 6, 2) := by decide +kernel
theorem zd_A_trip_40 : decode zb_A_trip 40 = .ok (.aaload, 1) := by decide +kernel
theorem zd_A_trip_41 : decode zb_A_trip 41 = .ok (.iload_n 3, 1) := by decide +kernel
theorem zd_A_trip_42 : decode zb_A_trip 42 = .ok (.invokevirtual 224, 3) := by decide +kernel
theorem zd_A_trip_45 : decode zb_A_trip 45 = .ok (.ifCond .eq 60, 3) := by decide +kernel
theorem zd_A_trip_48 : decode zb_A_trip 48 = .ok (.iload 4, 2) := by decide +kernel
theorem zd_A_trip_50 : decode zb_A_trip 50 = .ok (.ifCond .eq 23, 3) := by decide +kernel
theorem zd_A_trip_53 : decode zb_A_trip 53 = .ok (.iload 5, 2) := by decide +kernel
theorem zd_A_trip_55 : decode zb_A_trip 55 = .ok (.aload_n 0, 1) := by decide +kernel
theorem zd_A_trip_56 : decode zb_A_trip 56 = .ok (.getfield 11, 3) := by decide +kernel
theorem zd_A_trip_59 : decode zb_A_trip 59 = .ok (.iload 6, 2) := by decide +kernel
theorem zd_A_trip_61 : decode zb_A_trip 61 = .ok (.aaload, 1) := by decide +kernel
theorem zd_A_trip_62 : decode zb_A_trip 62 = .ok (.getfield 228, 3) := by decide +kernel
theorem zd_A_trip_65 : decode zb_A_trip 65 = .ok (.iadd, 1) := by decide +kernel
theorem zd_A_trip_66 : decode zb_A_trip 66 = .ok (.aload_n 0, 1) := by decide +kernel
theorem zd_A_trip_67 : decode zb_A_trip 67 = .ok (.getfield 46, 3) := by decide +kernel
theorem zd_A_trip_70 : decode zb_A_trip 70 = .ok (.if_icmp .le 9, 3) := by decide +kernel
theorem zd_A_trip_73 : decode zb_A_trip 73 = .ok (.iinc 2 1, 3) := by decide +kernel
theorem zd_A_trip_76 : decode zb_A_trip 76 = .ok (.iconst 0, 1) := by decide +kernel
theorem zd_A_trip_77 : decode zb_A_trip 77 = .ok (.istore 5, 2) := by decide +kernel
theorem zd_A_trip_79 : decode zb_A_trip 79 = .ok (.iconst 1, 1) := by decide +kernel
theorem zd_A_trip_80 : decode zb_A_trip 80 = .ok (.istore 4, 2) := by decide +kernel
theorem zd_A_trip_82 : decode zb_A_trip 82 = .ok (.iload 5, 2) := by decide +kernel
theorem zd_A_trip_84 : decode zb_A_trip 84 = .ok (.aload_n 0, 1) := by decide +kernel
theorem zd_A_trip_85 : decode zb_A_trip 85 = .ok (.getfield 11, 3) := by decide +kernel
theorem zd_A_trip_88 : decode zb_A_trip 88 = .ok (.iload 6, 2) := by decide +kernel
theorem zd_A_trip_90 : decode zb_A_trip 90 = .ok (.aaload, 1) := by decide +kernel
theorem zd_A_trip_91 : decode zb_A_trip 91 = .ok (.getfield 228, 3) := by decide +kernel
theorem zd_A_trip_94 : decode zb_A_trip 94 = .ok (.iadd, 1) := by decide +kernel
theorem zd_A_trip_95 : decode zb_A_trip 95 = .ok (.istore 5, 2) := by decide +kernel
theorem zd_A_trip_97 : decode zb_A_trip 97 = .ok (.iload 6, 2) := by decide +kernel
theorem zd_A_trip_99 : decode zb_A_trip 99 = .ok (.iload_n 1, 1) := by decide +kernel
theorem zd_A_trip_100 : decode zb_A_trip 100 = .ok (.if_icmp .ne 5, 3) := by decide +kernel
theorem zd_A_trip_103 : decode zb_A_trip 103 = .ok (.iload_n 2, 1) := by decide +kernel
theorem zd_A_trip_104 : decode zb_A_trip 104 = .ok (.ireturn, 1) := by decide +kernel
theorem zd_A_trip_105 : decode zb_A_trip 105 = .ok (.iinc 6 1, 3) := by decide +kernel
theorem zd_A_trip_108 : decode zb_A_trip 108 = .ok (.goto (-84), 3) := by decide +kernel
theorem zd_A_trip_111 : decode zb_A_trip 111 = .ok (.iinc 3 1, 3) := by decide +kernel
theorem zd_A_trip_114 : decode zb_A_trip 114 = .ok (.goto (-104), 3) := by decide +kernel
theorem zd_A_trip_117 : decode zb_A_trip 117 = .ok (.iconst (-1), 1) := by decide +kernel
theorem zd_A_trip_118 : decode zb_A_trip 118 = .ok (.ireturn, 1) := by decide +kernel
theorem zd_A_told_0 : decode zb_A_told 0 = .ok (.aload_n 0, 1) := by decide +kernel
theorem zd_A_told_1 : decode zb_A_told 1 = .ok (.iload_n 1, 1) := by decide +kernel
theorem zd_A_told_2 : decode zb_A_told 2 = .ok (.invokevirtual 89, 3) := by decide +kernel
theorem zd_A_told_5 : decode zb_A_told 5 = .ok (.astore_n 3, 1) := by decide +kernel
theorem zd_A_told_6 : decode zb_A_told 6 = .ok (.iload_n 2, 1) := by decide +kernel
theorem zd_A_told_7 : decode zb_A_told 7 = .ok (.tableswitch 58 0 3 #[29, 34, 39, 52], 29) := by decide +kernel
theorem zd_A_told_36 : decode zb_A_told 36 = .ok (.aload_n 3, 1) := by decide +kernel
theorem zd_A_told_37 : decode zb_A_told 37 = .ok (.getfield 189, 3) := by decide +kernel
theorem zd_A_told_40 : decode zb_A_told 40 = .ok (.ireturn, 1) := by decide +kernel
theorem zd_A_told_41 : decode zb_A_told 41 = .ok (.aload_n 3, 1) := by decide +kernel
theorem zd_A_told_42 : decode zb_A_told 42 = .ok (.getfield 229, 3) := by decide +kernel
theorem zd_A_told_45 : decode zb_A_told 45 = .ok (.ireturn, 1) := by decide +kernel
theorem zd_A_told_46 : decode zb_A_told 46 = .ok (.aload_n 3, 1) := by decide +kernel
theorem zd_A_told_47 : decode zb_A_told 47 = .ok (.getfield 202, 3) := by decide +kernel
theorem zd_A_told_50 : decode zb_A_told 50 = .ok (.ifCond .eq 7, 3) := by decide +kernel
theorem zd_A_told_53 : decode zb_A_told 53 = .ok (.iconst 1, 1) := by decide +kernel
theorem zd_A_told_54 : decode zb_A_told 54 = .ok (.goto 4, 3) := by decide +kernel
theorem zd_A_told_57 : decode zb_A_told 57 = .ok (.iconst 0, 1) := by decide +kernel
theorem zd_A_told_58 : decode zb_A_told 58 = .ok (.ireturn, 1) := by decide +kernel
theorem zd_A_told_59 : decode zb_A_told 59 = .ok (.aload_n 0, 1) := by decide +kernel
theorem zd_A_told_60 : decode zb_A_told 60 = .ok (.iload_n 1, 1) := by decide +kernel
theorem zd_A_told_61 : decode zb_A_told 61 = .ok (.invokevirtual 207, 3) := by decide +kernel
theorem zd_A_told_64 : decode zb_A_told 64 = .ok (.ireturn, 1) := by decide +kernel
theorem zd_A_told_65 : decode zb_A_told 65 = .ok (.new 53, 3) := by decide +kernel
theorem zd_A_told_68 : decode zb_A_told 68 = .ok (.dup, 1) := by decide +kernel
theorem zd_A_told_69 : decode zb_A_told 69 = .ok (.ldc 232, 2) := by decide +kernel
theorem zd_A_told_71 : decode zb_A_told 71 = .ok (.invokespecial 57, 3) := by decide +kernel
theorem zd_A_told_74 : decode zb_A_told 74 = .ok (.athrow, 1) := by decide +kernel
theorem zd_A_count_0 : decode zb_A_count 0 = .ok (.iload_n 1, 1) := by decide +kernel
theorem zd_A_count_1 : decode zb_A_count 1 = .ok (.tableswitch 51 0 3 #[31, 36, 41, 46], 31) := by decide +kernel
theorem zd_A_count_32 : decode zb_A_count 32 = .ok (.aload_n 0, 1) := by decide +kernel
theorem zd_A_count_33 : decode zb_A_count 33 = .ok (.getfield 60, 3) := by decide +kernel
theorem zd_A_count_36 : decode zb_A_count 36 = .ok (.ireturn, 1) := by decide +kernel
theorem zd_A_count_37 : decode zb_A_count 37 = .ok (.aload_n 0, 1) := by decide +kernel
theorem zd_A_count_38 : decode zb_A_count 38 = .ok (.getfield 75, 3) := by decide +kernel
theorem zd_A_count_41 : decode zb_A_count 41 = .ok (.ireturn, 1) := by decide +kernel
theorem zd_A_count_42 : decode zb_A_count 42 = .ok (.aload_n 0, 1) := by decide +kernel
theorem zd_A_count_43 : decode zb_A_count 43 = .ok (.invokevirtual 148, 3) := by decide +kernel
theorem zd_A_count_46 : decode zb_A_count 46 = .ok (.ireturn, 1) := by decide +kernel
theorem zd_A_count_47 : decode zb_A_count 47 = .ok (.aload_n 0, 1) := by decide +kernel
theorem zd_A_count_48 : decode zb_A_count 48 = .ok (.invokevirtual 234, 3) := by decide +kernel
theorem zd_A_count_51 : decode zb_A_count 51 = .ok (.ireturn, 1) := by decide +kernel
theorem zd_A_count_52 : decode zb_A_count 52 = .ok (.iconst (-1), 1) := by decide +kernel
theorem zd_A_count_53 : decode zb_A_count 53 = .ok (.ireturn, 1) := by decide +kernel
theorem zd_A_outside_0 : decode zb_A_outside 0 = .ok (.iload_n 0, 1) := by decide +kernel
theorem zd_A_outside_1 : decode zb_A_outside 1 = .ok (.iload_n 1, 1) := by decide +kernel
theorem zd_A_outside_2 : decode zb_A_outside 2 = .ok (.if_icmp .lt 8, 3) := by decide +kernel
theorem zd_A_outside_5 : decode zb_A_outside 5 = .ok (.iload_n 0, 1) := by decide +kernel
theorem zd_A_outside_6 : decode zb_A_outside 6 = .ok (.iload_n 2, 1) := by decide +kernel
theorem zd_A_outside_7 : decode zb_A_outside 7 = .ok (.if_icmp .le 7, 3) := by decide +kernel
theorem zd_A_outside_10 : decode zb_A_outside 10 = .ok (.iconst 1, 1) := by decide +kernel
theorem zd_A_outside_11 : decode zb_A_outside 11 = .ok (.goto 4, 3) := by decide +kernel
theorem zd_A_outside_14 : decode zb_A_outside 14 = .ok (.iconst 0, 1) := by decide +kernel
theorem zd_A_outside_15 : decode zb_A_outside 15 = .ok (.ireturn, 1) := by decide +kernel
theorem zd_A_unitOf_0 : decode zb_A_unitOf 0 = .ok (.iload_n 1, 1) := by decide +kernel
theorem zd_A_unitOf_1 : decode zb_A_unitOf 1 = .ok (.iconst 0, 1) := by decide +kernel
theorem zd_A_unitOf_2 : decode zb_A_unitOf 2 = .ok (.aload_n 0, 1) := by decide +kernel
theorem zd_A_unitOf_3 : decode zb_A_unitOf 3 = .ok (.getfield 60, 3) := by decide +kernel
theorem zd_A_unitOf_6 : decode zb_A_unitOf 6 = .ok (.iconst 1, 1) := by decide +kernel
theorem zd_A_unitOf_7 : decode zb_A_unitOf 7 = .ok (.isub, 1) := by decide +kernel
theorem zd_A_unitOf_8 : decode zb_A_unitOf 8 = .ok (.invokestatic 49, 3) := by decide +kernel
theorem zd_A_unitOf_11 : decode zb_A_unitOf 11 = .ok (.ifCond .eq 13, 3) := by decide +kernel
theorem zd_A_unitOf_14 : decode zb_A_unitOf 14 = .ok (.new 237, 3) := by decide +kernel
theorem zd_A_unitOf_17 : decode zb_A_unitOf 17 = .ok (.dup, 1) := by decide +kernel
theorem zd_A_unitOf_18 : decode zb_A_unitOf 18 = .ok (.ldc 239, 2) := by decide +kernel
theorem zd_A_unitOf_20 : decode zb_A_unitOf 20 = .ok (.invokespecial 241, 3) := by decide +kernel
theorem zd_A_unitOf_23 : decode zb_A_unitOf 23 = .ok (.athrow, 1) := by decide +kernel
theorem zd_A_unitOf_24 : decode zb_A_unitOf 24 = .ok (.aload_n 0, 1) := by decide +kernel
theorem zd_A_unitOf_25 : decode zb_A_unitOf 25 = .ok (.getfield 11, 3) := by decide +kernel
theorem zd_A_unitOf_28 : decode zb_A_unitOf 28 = .ok (.iload_n 1, 1) := by decide +kernel
theorem zd_A_unitOf_29 : decode zb_A_unitOf 29 = .ok (.aaload, 1) := by decide +kernel
theorem zd_A_unitOf_30 : decode zb_A_unitOf 30 = .ok (.areturn, 1) := by decide +kernel
theorem zd_A_placeOf_0 : decode zb_A_placeOf 0 = .ok (.iload_n 1, 1) := by decide +kernel
theorem zd_A_placeOf_1 : decode zb_A_placeOf 1 = .ok (.iconst 0, 1) := by decide +kernel
theorem zd_A_placeOf_2 : decode zb_A_placeOf 2 = .ok (.aload_n 0, 1) := by decide +kernel
theorem zd_A_placeOf_3 : decode zb_A_placeOf 3 = .ok (.getfield 75, 3) := by decide +kernel
theorem zd_A_placeOf_6 : decode zb_A_placeOf 6 = .ok (.iconst 1, 1) := by decide +kernel
theorem zd_A_placeOf_7 : decode zb_A_placeOf 7 = .ok (.isub, 1) := by decide +kernel
theorem zd_A_placeOf_8 : decode zb_A_placeOf 8 = .ok (.invokestatic 49, 3) := by decide +kernel
theorem zd_A_placeOf_11 : decode zb_A_placeOf 11 = .ok (.ifCond .eq 13, 3) := by decide +kernel
theorem zd_A_placeOf_14 : decode zb_A_placeOf 14 = .ok (.new 237, 3) := by decide +kernel
theorem zd_A_placeOf_17 : decode zb_A_placeOf 17 = .ok (.dup, 1) := by decide +kernel
theorem zd_A_placeOf_18 : decode zb_A_placeOf 18 = .ok (.ldc 242, 2) := by decide +kernel
theorem zd_A_placeOf_20 : decode zb_A_placeOf 20 = .ok (.invokespecial 241, 3) := by decide +kernel
theorem zd_A_placeOf_23 : decode zb_A_placeOf 23 = .ok (.athrow, 1) := by decide +kernel
theorem zd_A_placeOf_24 : decode zb_A_placeOf 24 = .ok (.aload_n 0, 1) := by decide +kernel
theorem zd_A_placeOf_25 : decode zb_A_placeOf 25 = .ok (.getfield 17, 3) := by decide +kernel
theorem zd_A_placeOf_28 : decode zb_A_placeOf 28 = .ok (.iload_n 1, 1) := by decide +kernel
theorem zd_A_placeOf_29 : decode zb_A_placeOf 29 = .ok (.aaload, 1) := by decide +kernel
theorem zd_A_placeOf_30 : decode zb_A_placeOf 30 = .ok (.areturn, 1) := by decide +kernel
theorem zd_A_isIn_0 : decode zb_A_isIn 0 = .ok (.aload_n 0, 1) := by decide +kernel
theorem zd_A_isIn_1 : decode zb_A_isIn 1 = .ok (.getfield 11, 3) := by decide +kernel
theorem zd_A_isIn_4 : decode zb_A_isIn 4 = .ok (.iload_n 1, 1) := by decide +kernel
theorem zd_A_isIn_5 : decode zb_A_isIn 5 = .ok (.aaload, 1) := by decide +kernel
theorem zd_A_isIn_6 : decode zb_A_isIn 6 = .ok (.getfield 102, 3) := by decide +kernel
theorem zd_A_isIn_9 : decode zb_A_isIn 9 = .ok (.ifCond .ne 20, 3) := by decide +kernel
theorem zd_A_isIn_12 : decode zb_A_isIn 12 = .ok (.aload_n 0, 1) := by decide +kernel
theorem zd_A_isIn_13 : decode zb_A_isIn 13 = .ok (.getfield 11, 3) := by decide +kernel
theorem zd_A_isIn_16 : decode zb_A_isIn 16 = .ok (.iload_n 1, 1) := by decide +kernel
theorem zd_A_isIn_17 : decode zb_A_isIn 17 = .ok (.aaload, 1) := by decide +kernel
theorem zd_A_isIn_18 : decode zb_A_isIn 18 = .ok (.getfield 111, 3) := by decide +kernel
theorem zd_A_isIn_21 : decode zb_A_isIn 21 = .ok (.iload_n 2, 1) := by decide +kernel
theorem zd_A_isIn_22 : decode zb_A_isIn 22 = .ok (.if_icmp .ne 7, 3) := by decide +kernel
theorem zd_A_isIn_25 : decode zb_A_isIn 25 = .ok (.iconst 1, 1) := by decide +kernel
theorem zd_A_isIn_26 : decode zb_A_isIn 26 = .ok (.goto 4, 3) := by decide +kernel
theorem zd_A_isIn_29 : decode zb_A_isIn 29 = .ok (.iconst 0, 1) := by decide +kernel
theorem zd_A_isIn_30 : decode zb_A_isIn 30 = .ok (.ireturn, 1) := by decide +kernel
theorem zd_A_isGroup_0 : decode zb_A_isGroup 0 = .ok (.aload_n 0, 1) := by decide +kernel
theorem zd_A_isGroup_1 : decode zb_A_isGroup 1 = .ok (.iload_n 1, 1) := by decide +kernel
theorem zd_A_isGroup_2 : decode zb_A_isGroup 2 = .ok (.iload_n 1, 1) := by decide +kernel
theorem zd_A_isGroup_3 : decode zb_A_isGroup 3 = .ok (.invokevirtual 244, 3) := by decide +kernel
theorem zd_A_isGroup_6 : decode zb_A_isGroup 6 = .ok (.ireturn, 1) := by decide +kernel
theorem zd_A_isPlanned_0 : decode zb_A_isPlanned 0 = .ok (.aload_n 0, 1) := by decide +kernel
theorem zd_A_isPlanned_1 : decode zb_A_isPlanned 1 = .ok (.getfield 102, 3) := by decide +kernel
theorem zd_A_isPlanned_4 : decode zb_A_isPlanned 4 = .ok (.ifCond .ne 15, 3) := by decide +kernel
theorem zd_A_isPlanned_7 : decode zb_A_isPlanned 7 = .ok (.aload_n 0, 1) := by decide +kernel
theorem zd_A_isPlanned_8 : decode zb_A_isPlanned 8 = .ok (.getfield 164, 3) := by decide +kernel
theorem zd_A_isPlanned_11 : decode zb_A_isPlanned 11 = .ok (.iconst (-1), 1) := by decide +kernel
theorem zd_A_isPlanned_12 : decode zb_A_isPlanned 12 = .ok (.if_icmp .eq 7, 3) := by decide +kernel
theorem zd_A_isPlanned_15 : decode zb_A_isPlanned 15 = .ok (.iconst 1, 1) := by decide +kernel
theorem zd_A_isPlanned_16 : decode zb_A_isPlanned 16 = .ok (.goto 4, 3) := by decide +kernel
theorem zd_A_isPlanned_19 : decode zb_A_isPlanned 19 = .ok (.iconst 0, 1) := by decide +kernel
theorem zd_A_isPlanned_20 : decode zb_A_isPlanned 20 = .ok (.ireturn, 1) := by decide +kernel
theorem zd_A_goesTo_0 : decode zb_A_goesTo 0 = .ok (.aload_n 1, 1) := by decide +kernel
theorem zd_A_goesTo_1 : decode zb_A_goesTo 1 = .ok (.invokestatic 181, 3) := by decide +kernel
theorem zd_A_goesTo_4 : decode zb_A_goesTo 4 = .ok (.ifCond .eq 23, 3) := by decide +kernel
theorem zd_A_goesTo_7 : decode zb_A_goesTo 7 = .ok (.aload_n 0, 1) := by decide +kernel
theorem zd_A_goesTo_8 : decode zb_A_goesTo 8 = .ok (.getfield 17, 3) := by decide +kernel
theorem zd_A_goesTo_11 : decode zb_A_goesTo 11 = .ok (.aload_n 1, 1) := by decide +kernel
theorem zd_A_goesTo_12 : decode zb_A_goesTo 12 = .ok (.getfield 164, 3) := by decide +kernel
theorem zd_A_goesTo_15 : decode zb_A_goesTo 15 = .ok (.aaload, 1) := by decide +kernel
theorem zd_A_goesTo_16 : decode zb_A_goesTo 16 = .ok (.getfield 229, 3) := by decide +kernel
theorem zd_A_goesTo_19 : decode zb_A_goesTo 19 = .ok (.iload_n 2, 1) := by decide +kernel
theorem zd_A_goesTo_20 : decode zb_A_goesTo 20 = .ok (.if_icmp .ne 7, 3) := by decide +kernel
theorem zd_A_goesTo_23 : decode zb_A_goesTo 23 = .ok (.iconst 1, 1) := by decide +kernel
theorem zd_A_goesTo_24 : decode zb_A_goesTo 24 = .ok (.goto 4, 3) := by decide +kernel
theorem zd_A_goesTo_27 : decode zb_A_goesTo 27 = .ok (.iconst 0, 1) := by decide +kernel
theorem zd_A_goesTo_28 : decode zb_A_goesTo 28 = .ok (.ireturn, 1) := by decide +kernel
theorem zd_A_groupCount_0 : decode zb_A_groupCount 0 = .ok (.iconst 0, 1) := by decide +kernel
theorem zd_A_groupCount_1 : decode zb_A_groupCount 1 = .ok (.istore_n 1, 1) := by decide +kernel
theorem zd_A_groupCount_2 : decode zb_A_groupCount 2 = .ok (.iconst 0, 1) := by decide +kernel
theorem zd_A_groupCount_3 : decode zb_A_groupCount 3 = .ok (.istore_n 2, 1) := by decide +kernel
theorem zd_A_groupCount_4 : decode zb_A_groupCount 4 = .ok (.iload_n 2, 1) := by decide +kernel
theorem zd_A_groupCount_5 : decode zb_A_groupCount 5 = .ok (.aload_n 0, 1) := by decide +kernel
theorem zd_A_groupCount_6 : decode zb_A_groupCount 6 = .ok (.getfield 60, 3) := by decide +kernel
theorem zd_A_groupCount_9 : decode zb_A_groupCount 9 = .ok (.if_icmp .ge 20, 3) := by decide +kernel
theorem zd_A_groupCount_12 : decode zb_A_groupCount 12 = .ok (.aload_n 0, 1) := by decide +kernel
theorem zd_A_groupCount_13 : decode zb_A_groupCount 13 = .ok (.iload_n 2, 1) := by decide +kernel
theorem zd_A_groupCount_14 : decode zb_A_groupCount 14 = .ok (.invokevirtual 167, 3) := by decide +kernel
theorem zd_A_groupCount_17 : decode zb_A_groupCount 17 = .ok (.ifCond .eq 6, 3) := by decide +kernel
theorem zd_A_groupCount_20 : decode zb_A_groupCount 20 = .ok (.iinc 1 1, 3) := by decide +kernel
theorem zd_A_groupCount_23 : decode zb_A_groupCount 23 = .ok (.iinc 2 1, 3) := by decide +kernel
theorem zd_A_groupCount_26 : decode zb_A_groupCount 26 = .ok (.goto (-22), 3) := by decide +kernel
theorem zd_A_groupCount_29 : decode zb_A_groupCount 29 = .ok (.iload_n 1, 1) := by decide +kernel
theorem zd_A_groupCount_30 : decode zb_A_groupCount 30 = .ok (.ireturn, 1) := by decide +kernel
theorem zd_A_doneCount_0 : decode zb_A_doneCount 0 = .ok (.iconst 0, 1) := by decide +kernel
theorem zd_A_doneCount_1 : decode zb_A_doneCount 1 = .ok (.istore_n 1, 1) := by decide +kernel
theorem zd_A_doneCount_2 : decode zb_A_doneCount 2 = .ok (.iconst 0, 1) := by decide +kernel
theorem zd_A_doneCount_3 : decode zb_A_doneCount 3 = .ok (.istore_n 2, 1) := by decide +kernel
theorem zd_A_doneCount_4 : decode zb_A_doneCount 4 = .ok (.iload_n 2, 1) := by decide +kernel
theorem zd_A_doneCount_5 : decode zb_A_doneCount 5 = .ok (.aload_n 0, 1) := by decide +kernel
theorem zd_A_doneCount_6 : decode zb_A_doneCount 6 = .ok (.getfield 60, 3) := by decide +kernel
theorem zd_A_doneCount_9 : decode zb_A_doneCount 9 = .ok (.if_icmp .ge 24, 3) := by decide +kernel
theorem zd_A_doneCount_12 : decode zb_A_doneCount 12 = .ok (.aload_n 0, 1) := by decide +kernel
theorem zd_A_doneCount_13 : decode zb_A_doneCount 13 = .ok (.getfield 11, 3) := by decide +kernel
theorem zd_A_doneCount_16 : decode zb_A_doneCount 16 = .ok (.iload_n 2, 1) := by decide +kernel
theorem zd_A_doneCount_17 : decode zb_A_doneCount 17 = .ok (.aaload, 1) := by decide +kernel
theorem zd_A_doneCount_18 : decode zb_A_doneCount 18 = .ok (.getfield 102, 3) := by decide +kernel
theorem zd_A_doneCount_21 : decode zb_A_doneCount 21 = .ok (.ifCond .eq 6, 3) := by decide +kernel
theorem zd_A_doneCount_24 : decode zb_A_doneCount 24 = .ok (.iinc 1 1, 3) := by decide +kernel
theorem zd_A_doneCount_27 : decode zb_A_doneCount 27 = .ok (.iinc 2 1, 3) := by decide +kernel
theorem zd_A_doneCount_30 : decode zb_A_doneCount 30 = .ok (.goto (-26), 3) := by decide +kernel
theorem zd_A_doneCount_33 : decode zb_A_doneCount 33 = .ok (.iload_n 1, 1) := by decide +kernel
theorem zd_A_doneCount_34 : decode zb_A_doneCount 34 = .ok (.ireturn, 1) := by decide +kernel
theorem zd_A_gather_0 : decode zb_A_gather 0 = .ok (.aload_n 0, 1) := by decide +kernel
theorem zd_A_gather_1 : decode zb_A_gather 1 = .ok (.getfield 28, 3) := by decide +kernel
theorem zd_A_gather_4 : decode zb_A_gather 4 = .ok (.iload_n 1, 1) := by decide +kernel
theorem zd_A_gather_5 : decode zb_A_gather 5 = .ok (.invokevirtual 248, 3) := by decide +kernel
theorem zd_A_gather_8 : decode zb_A_gather 8 = .ok (.iconst 0, 1) := by decide +kernel
theorem zd_A_gather_9 : decode zb_A_gather 9 = .ok (.istore_n 2, 1) := by decide +kernel
theorem zd_A_gather_10 : decode zb_A_gather 10 = .ok (.iload_n 2, 1) := by decide +kernel
theorem zd_A_gather_11 : decode zb_A_gather 11 = .ok (.aload_n 0, 1) := by decide +kernel
theorem zd_A_gather_12 : decode zb_A_gather 12 = .ok (.getfield 60, 3) := by decide +kernel
theorem zd_A_gather_15 : decode zb_A_gather 15 = .ok (.if_icmp .ge 45, 3) := by decide +kernel
theorem zd_A_gather_18 : decode zb_A_gather 18 = .ok (.aload_n 0, 1) := by decide +kernel
theorem zd_A_gather_19 : decode zb_A_gather 19 = .ok (.iload_n 2, 1) := by decide +kernel
theorem zd_A_gather_20 : decode zb_A_gather 20 = .ok (.iload_n 1, 1) := by decide +kernel
theorem zd_A_gather_21 : decode zb_A_gather 21 = .ok (.invokevirtual 244, 3) := by decide +kernel
theorem zd_A_gather_24 : decode zb_A_gather 24 = .ok (.ifCond .eq 30, 3) := by decide +kernel
theorem zd_A_gather_27 : decode zb_A_gather 27 = .ok (.aload_n 0, 1) := by decide +kernel
theorem zd_A_gather_28 : decode zb_A_gather 28 = .ok (.getfield 28, 3) := by decide +kernel
theorem zd_A_gather_31 : decode zb_A_gather 31 = .ok (.aload_n 0, 1) := by decide +kernel
theorem zd_A_gather_32 : decode zb_A_gather 32 = .ok (.getfield 11, 3) := by decide +kernel
theorem zd_A_gather_35 : decode zb_A_gather 35 = .ok (.iload_n 2, 1) := by decide +kernel
theorem zd_A_gather_36 : decode zb_A_gather 36 = .ok (.aaload, 1) := by decide +kernel
theorem zd_A_gather_37 : decode zb_A_gather 37 = .ok (.aload_n 0, 1) := by decide +kernel
theorem zd_A_gather_38 : decode zb_A_gather 38 = .ok (.getfield 21, 3) := by decide +kernel
theorem zd_A_gather_41 : decode zb_A_gather 41 = .ok (.aload_n 0, 1) := by decide +kernel
theorem zd_A_gather_42 : decode zb_A_gather 42 = .ok (.getfield 11, 3) := by decide +kernel
theorem zd_A_gather_45 : decode zb_A_gather 45 = .ok (.iload_n 2, 1) := by decide +kernel
theorem zd_A_gather_46 : decode zb_A_gather 46 = .ok (.aaload, 1) := by decide +kernel
theorem zd_A_gather_47 : decode zb_A_gather 47 = .ok (.getfield 251, 3) := by decide +kernel
theorem zd_A_gather_50 : decode zb_A_gather 50 = .ok (.iaload, 1) := by decide +kernel
theorem zd_A_gather_51 : decode zb_A_gather 51 = .ok (.invokevirtual 254, 3) := by decide +kernel
theorem zd_A_gather_54 : decode zb_A_gather 54 = .ok (.iinc 2 1, 3) := by decide +kernel
theorem zd_A_gather_57 : decode zb_A_gather 57 = .ok (.goto (-47), 3) := by decide +kernel
theorem zd_A_gather_60 : decode zb_A_gather 60 = .ok (.aload_n 0, 1) := by decide +kernel
theorem zd_A_gather_61 : decode zb_A_gather 61 = .ok (.getfield 28, 3) := by decide +kernel
theorem zd_A_gather_64 : decode zb_A_gather 64 = .ok (.areturn, 1) := by decide +kernel
theorem zd_A_join_0 : decode zb_A_join 0 = .ok (.iconst 0, 1) := by decide +kernel
theorem zd_A_join_1 : decode zb_A_join 1 = .ok (.istore_n 3, 1) := by decide +kernel
theorem zd_A_join_2 : decode zb_A_join 2 = .ok (.iload_n 3, 1) := by decide +kernel
theorem zd_A_join_3 : decode zb_A_join 3 = .ok (.aload_n 0, 1) := by decide +kernel
theorem zd_A_join_4 : decode zb_A_join 4 = .ok (.getfield 60, 3) := by decide +kernel
theorem zd_A_join_7 : decode zb_A_join 7 = .ok (.if_icmp .ge 28, 3) := by decide +kernel
theorem zd_A_join_10 : decode zb_A_join 10 = .ok (.aload_n 0, 1) := by decide +kernel
theorem zd_A_join_11 : decode zb_A_join 11 = .ok (.iload_n 3, 1) := by decide +kernel
theorem zd_A_join_12 : decode zb_A_join 12 = .ok (.iload_n 2, 1) := by decide +kernel
theorem zd_A_join_13 : decode zb_A_join 13 = .ok (.invokevirtual 244, 3) := by decide +kernel
theorem zd_A_join_16 : decode zb_A_join 16 = .ok (.ifCond .eq 13, 3) := by decide +kernel
theorem zd_A_join_19 : decode zb_A_join 19 = .ok (.aload_n 0, 1) := by decide +kernel
theorem zd_A_join_20 : decode zb_A_join 20 = .ok (.getfield 11, 3) := by decide +kernel
theorem zd_A_join_23 : decode zb_A_join 23 = .ok (.iload_n 3, 1) := by decide +kernel
theorem zd_A_join_24 : decode zb_A_join 24 = .ok (.aaload, 1) := by decide +kernel
theorem zd_A_join_25 : decode zb_A_join 25 = .ok (.iload_n 1, 1) := by decide +kernel
theorem zd_A_join_26 : decode zb_A_join 26 = .ok (.putfield 111, 3) := by decide +kernel
theorem zd_A_join_29 : decode zb_A_join 29 = .ok (.iinc 3 1, 3) := by decide +kernel
theorem zd_A_join_32 : decode zb_A_join 32 = .ok (.goto (-30), 3) := by decide +kernel
theorem zd_A_join_35 : decode zb_A_join 35 = .ok (.return_, 1) := by decide +kernel
theorem zd_A_planFor_0 : decode zb_A_planFor 0 = .ok (.iconst 0, 1) := by decide +kernel
theorem zd_A_planFor_1 : decode zb_A_planFor 1 = .ok (.istore_n 3, 1) := by decide +kernel
theorem zd_A_planFor_2 : decode zb_A_planFor 2 = .ok (.iload_n 3, 1) := by decide +kernel
theorem zd_A_planFor_3 : decode zb_A_planFor 3 = .ok (.aload_n 0, 1) := by decide +kernel
theorem zd_A_planFor_4 : decode zb_A_planFor 4 = .ok (.getfield 60, 3) := by decide +kernel
theorem zd_A_planFor_7 : decode zb_A_planFor 7 = .ok (.if_icmp .ge 28, 3) := by decide +kernel
theorem zd_A_planFor_10 : decode zb_A_planFor 10 = .ok (.aload_n 0, 1) := by decide +kernel
theorem zd_A_planFor_11 : decode zb_A_planFor 11 = .ok (.iload_n 3, 1) := by decide +kernel
theorem zd_A_planFor_12 : decode zb_A_planFor 12 = .ok (.iload_n 1, 1) := by decide +kernel
theorem zd_A_planFor_13 : decode zb_A_planFor 13 = .ok (.invokevirtual 244, 3) := by decide +kernel
theorem zd_A_planFor_16 : decode zb_A_planFor 16 = .ok (.ifCond .eq 13, 3) := by decide +kernel
theorem zd_A_planFor_19 : decode zb_A_planFor 19 = .ok (.aload_n 0, 1) := by decide +kernel
theorem zd_A_planFor_20 : decode zb_A_planFor 20 = .ok (.getfield 11, 3) := by decide +kernel
theorem zd_A_planFor_23 : decode zb_A_planFor 23 = .ok (.iload_n 3, 1) := by decide +kernel
theorem zd_A_planFor_24 : decode zb_A_planFor 24 = .ok (.aaload, 1) := by decide +kernel
theorem zd_A_planFor_25 : decode zb_A_planFor 25 = .ok (.iload_n 2, 1) := by decide +kernel
theorem zd_A_planFor_26 : decode zb_A_planFor 26 = .ok (.putfield 164, 3) := by decide +kernel
theorem zd_A_planFor_29 : decode zb_A_planFor 29 = .ok (.iinc 3 1, 3) := by decide +kernel
theorem zd_A_planFor_32 : decode zb_A_planFor 32 = .ok (.goto (-30), 3) := by decide +kernel
theorem zd_A_planFor_35 : decode zb_A_planFor 35 = .ok (.return_, 1) := by decide +kernel
theorem zd_A_finish_0 : decode zb_A_finish 0 = .ok (.iconst 0, 1) := by decide +kernel
theorem zd_A_finish_1 : decode zb_A_finish 1 = .ok (.istore_n 2, 1) := by decide +kernel
theorem zd_A_finish_2 : decode zb_A_finish 2 = .ok (.iload_n 2, 1) := by decide +kernel
theorem zd_A_finish_3 : decode zb_A_finish 3 = .ok (.aload_n 0, 1) := by decide +kernel
theorem zd_A_finish_4 : decode zb_A_finish 4 = .ok (.getfield 60, 3) := by decide +kernel
theorem zd_A_finish_7 : decode zb_A_finish 7 = .ok (.if_icmp .ge 28, 3) := by decide +kernel
theorem zd_A_finish_10 : decode zb_A_finish 10 = .ok (.aload_n 0, 1) := by decide +kernel
theorem zd_A_finish_11 : decode zb_A_finish 11 = .ok (.iload_n 2, 1) := by decide +kernel
theorem zd_A_finish_12 : decode zb_A_finish 12 = .ok (.iload_n 1, 1) := by decide +kernel
theorem zd_A_finish_13 : decode zb_A_finish 13 = .ok (.invokevirtual 244, 3) := by decide +kernel
theorem zd_A_finish_16 : decode zb_A_finish 16 = .ok (.ifCond .eq 13, 3) := by decide +kernel
theorem zd_A_finish_19 : decode zb_A_finish 19 = .ok (.aload_n 0, 1) := by decide +kernel
theorem zd_A_finish_20 : decode zb_A_finish 20 = .ok (.getfield 11, 3) := by decide +kernel
theorem zd_A_finish_23 : decode zb_A_finish 23 = .ok (.iload_n 2, 1) := by decide +kernel
theorem zd_A_finish_24 : decode zb_A_finish 24 = .ok (.aaload, 1) := by decide +kernel
theorem zd_A_finish_25 : decode zb_A_finish 25 = .ok (.iconst 1, 1) := by decide +kernel
theorem zd_A_finish_26 : decode zb_A_finish 26 = .ok (.putfield 102, 3) := by decide +kernel
theorem zd_A_finish_29 : decode zb_A_finish 29 = .ok (.iinc 2 1, 3) := by decide +kernel
theorem zd_A_finish_32 : decode zb_A_finish 32 = .ok (.goto (-30), 3) := by decide +kernel
theorem zd_A_finish_35 : decode zb_A_finish 35 = .ok (.return_, 1) := by decide +kernel
theorem zd_A_groupPlannedFor_0 : decode zb_A_groupPlannedFor 0 = .ok (.iconst 0, 1) := by decide +kernel
theorem zd_A_groupPlannedFor_1 : decode zb_A_groupPlannedFor 1 = .ok (.istore_n 2, 1) := by decide +kernel
theorem zd_A_groupPlannedFor_2 : decode zb_A_groupPlannedFor 2 = .ok (.iload_n 2, 1) := by decide +kernel
theorem zd_A_groupPlannedFor_3 : decode zb_A_groupPlannedFor 3 = .ok (.aload_n 0, 1) := by decide +kernel
theorem zd_A_groupPlannedFor_4 : decode zb_A_groupPlannedFor 4 = .ok (.getfield 60, 3) := by decide +kernel
theorem zd_A_groupPlannedFor_7 : decode zb_A_groupPlannedFor 7 = .ok (.if_icmp .ge 32, 3) := by decide +kernel
theorem zd_A_groupPlannedFor_10 : decode zb_A_groupPlannedFor 10 = .ok (.aload_n 0, 1) := by decide +kernel
theorem zd_A_groupPlannedFor_11 : decode zb_A_groupPlannedFor 11 = .ok (.iload_n 2, 1) := by decide +kernel
theorem zd_A_groupPlannedFor_12 : decode zb_A_groupPlannedFor 12 = .ok (.invokevirtual 167, 3) := by decide +kernel
theorem zd_A_groupPlannedFor_15 : decode zb_A_groupPlannedFor 15 = .ok (.ifCond .eq 18, 3) := by decide +kernel
theorem zd_A_groupPlannedFor_18 : decode zb_A_groupPlannedFor 18 = .ok (.aload_n 0, 1) := by decide +kernel
theorem zd_A_groupPlannedFor_19 : decode zb_A_groupPlannedFor 19 = .ok (.getfield 11, 3) := by decide +kernel
theorem zd_A_groupPlannedFor_22 : decode zb_A_groupPlannedFor 22 = .ok (.iload_n 2, 1) := by decide +kernel
theorem zd_A_groupPlannedFor_23 : decode zb_A_groupPlannedFor 23 = .ok (.aaload, 1) := by decide +kernel
theorem zd_A_groupPlannedFor_24 : decode zb_A_groupPlannedFor 24 = .ok (.getfield 164, 3) := by decide +kernel
theorem zd_A_groupPlannedFor_27 : decode zb_A_groupPlannedFor 27 = .ok (.iload_n 1, 1) := by decide +kernel
theorem zd_A_groupPlannedFor_28 : decode zb_A_groupPlannedFor 28 = .ok (.if_icmp .ne 5, 3) := by decide +kernel
theorem zd_A_groupPlannedFor_31 : decode zb_A_groupPlannedFor 31 = .ok (.iload_n 2, 1) := by decide +kernel
theorem zd_A_groupPlannedFor_32 : decode zb_A_groupPlannedFor 32 = .ok (.ireturn, 1) := by decide +kernel
theorem zd_A_groupPlannedFor_33 : decode zb_A_groupPlannedFor 33 = .ok (.iinc 2 1, 3) := by decide +kernel
theorem zd_A_groupPlannedFor_36 : decode zb_A_groupPlannedFor 36 = .ok (.goto (-34), 3) := by decide +kernel
theorem zd_A_groupPlannedFor_39 : decode zb_A_groupPlannedFor 39 = .ok (.iconst (-1), 1) := by decide +kernel
theorem zd_A_groupPlannedFor_40 : decode zb_A_groupPlannedFor 40 = .ok (.ireturn, 1) := by decide +kernel
theorem zd_A_plannedPlaces_0 : decode zb_A_plannedPlaces 0 = .ok (.iconst 0, 1) := by decide +kernel
theorem zd_A_plannedPlaces_1 : decode zb_A_plannedPlaces 1 = .ok (.istore_n 1, 1) := by decide +kernel
theorem zd_A_plannedPlaces_2 : decode zb_A_plannedPlaces 2 = .ok (.iconst 0, 1) := by decide +kernel
theorem zd_A_plannedPlaces_3 : decode zb_A_plannedPlaces 3 = .ok (.istore_n 2, 1) := by decide +kernel
theorem zd_A_plannedPlaces_4 : decode zb_A_plannedPlaces 4 = .ok (.iload_n 2, 1) := by decide +kernel
theorem zd_A_plannedPlaces_5 : decode zb_A_plannedPlaces 5 = .ok (.aload_n 0, 1) := by decide +kernel
theorem zd_A_plannedPlaces_6 : decode zb_A_plannedPlaces 6 = .ok (.getfield 60, 3) := by decide +kernel
theorem zd_A_plannedPlaces_9 : decode zb_A_plannedPlaces 9 = .ok (.if_icmp .ge 35, 3) := by decide +kernel
theorem zd_A_plannedPlaces_12 : decode zb_A_plannedPlaces 12 = .ok (.aload_n 0, 1) := by decide +kernel
theorem zd_A_plannedPlaces_13 : decode zb_A_plannedPlaces 13 = .ok (.getfield 11, 3) := by decide +kernel
theorem zd_A_plannedPlaces_16 : decode zb_A_plannedPlaces 16 = .ok (.iload_n 2, 1) := by decide +kernel
theorem zd_A_plannedPlaces_17 : decode zb_A_plannedPlaces 17 = .ok (.aaload, 1) := by decide +kernel
theorem zd_A_plannedPlaces_18 : decode zb_A_plannedPlaces 18 = .ok (.invokestatic 181, 3) := by decide +kernel
theorem zd_A_plannedPlaces_21 : decode zb_A_plannedPlaces 21 = .ok (.ifCond .eq 17, 3) := by decide +kernel
theorem zd_A_plannedPlaces_24 : decode zb_A_plannedPlaces 24 = .ok (.iload_n 1, 1) := by decide +kernel
theorem zd_A_plannedPlaces_25 : decode zb_A_plannedPlaces 25 = .ok (.iconst 1, 1) := by decide +kernel
theorem zd_A_plannedPlaces_26 : decode zb_A_plannedPlaces 26 = .ok (.aload_n 0, 1) := by decide +kernel
theorem zd_A_plannedPlaces_27 : decode zb_A_plannedPlaces 27 = .ok (.getfield 11, 3) := by decide +kernel
theorem zd_A_plannedPlaces_30 : decode zb_A_plannedPlaces 30 = .ok (.iload_n 2, 1) := by decide +kernel
theorem zd_A_plannedPlaces_31 : decode zb_A_plannedPlaces 31 = .ok (.aaload, 1) := by decide +kernel
theorem zd_A_plannedPlaces_32 : decode zb_A_plannedPlaces 32 = .ok (.getfield 164, 3) := by decide +kernel
theorem zd_A_plannedPlaces_35 : decode zb_A_plannedPlaces 35 = .ok (.ishl, 1) := by decide +kernel
theorem zd_A_plannedPlaces_36 : decode zb_A_plannedPlaces 36 = .ok (.ior, 1) := by decide +kernel
theorem zd_A_plannedPlaces_37 : decode zb_A_plannedPlaces 37 = .ok (.istore_n 1, 1) := by decide +kernel
theorem zd_A_plannedPlaces_38 : decode zb_A_plannedPlaces 38 = .ok (.iinc 2 1, 3) := by decide +kernel
theorem zd_A_plannedPlaces_41 : decode zb_A_plannedPlaces 41 = .ok (.goto (-37), 3) := by decide +kernel
theorem zd_A_plannedPlaces_44 : decode zb_A_plannedPlaces 44 = .ok (.iload_n 1, 1) := by decide +kernel
theorem zd_A_plannedPlaces_45 : decode zb_A_plannedPlaces 45 = .ok (.ireturn, 1) := by decide +kernel
theorem zd_A_plannedCosts_0 : decode zb_A_plannedCosts 0 = .ok (.iconst 0, 1) := by decide +kernel
theorem zd_A_plannedCosts_1 : decode zb_A_plannedCosts 1 = .ok (.istore_n 1, 1) := by decide +kernel
theorem zd_A_plannedCosts_2 : decode zb_A_plannedCosts 2 = .ok (.iconst 0, 1) := by decide +kernel
theorem zd_A_plannedCosts_3 : decode zb_A_plannedCosts 3 = .ok (.istore_n 2, 1) := by decide +kernel
theorem zd_A_plannedCosts_4 : decode zb_A_plannedCosts 4 = .ok (.iload_n 2, 1) := by decide +kernel
theorem zd_A_plannedCosts_5 : decode zb_A_plannedCosts 5 = .ok (.aload_n 0, 1) := by decide +kernel
theorem zd_A_plannedCosts_6 : decode zb_A_plannedCosts 6 = .ok (.getfield 60, 3) := by decide +kernel
theorem zd_A_plannedCosts_9 : decode zb_A_plannedCosts 9 = .ok (.if_icmp .ge 50, 3) := by decide +kernel
theorem zd_A_plannedCosts_12 : decode zb_A_plannedCosts 12 = .ok (.aload_n 0, 1) := by decide +kernel
theorem zd_A_plannedCosts_13 : decode zb_A_plannedCosts 13 = .ok (.iload_n 2, 1) := by decide +kernel
theorem zd_A_plannedCosts_14 : decode zb_A_plannedCosts 14 = .ok (.invokevirtual 167, 3) := by decide +kernel
theorem zd_A_plannedCosts_17 : decode zb_A_plannedCosts 17 = .ok (.ifCond .eq 36, 3) := by decide +kernel
theorem zd_A_plannedCosts_20 : decode zb_A_plannedCosts 20 = .ok (.aload_n 0, 1) := by decide +kernel
theorem zd_A_plannedCosts_21 : decode zb_A_plannedCosts 21 = .ok (.getfield 11, 3) := by decide +kernel
theorem zd_A_plannedCosts_24 : decode zb_A_plannedCosts 24 = .ok (.iload_n 2, 1) := by decide +kernel
theorem zd_A_plannedCosts_25 : decode zb_A_plannedCosts 25 = .ok (.aaload, 1) := by decide +kernel
theorem zd_A_plannedCosts_26 : decode zb_A_plannedCosts 26 = .ok (.invokestatic 181, 3) := by decide +kernel
theorem zd_A_plannedCosts_29 : decode zb_A_plannedCosts 29 = .ok (.ifCond .eq 24, 3) := by decide +kernel
theorem zd_A_plannedCosts_32 : decode zb_A_plannedCosts 32 = .ok (.iload_n 1, 1) := by decide +kernel
theorem zd_A_plannedCosts_33 : decode zb_A_plannedCosts 33 = .ok (.aload_n 0, 1) := by decide +kernel
theorem zd_A_plannedCosts_34 : decode zb_A_plannedCosts 34 = .ok (.aload_n 0, 1) := by decide +kernel
theorem zd_A_plannedCosts_35 : decode zb_A_plannedCosts 35 = .ok (.iload_n 2, 1) := by decide +kernel
theorem zd_A_plannedCosts_36 : decode zb_A_plannedCosts 36 = .ok (.invokevirtual 132, 3) := by decide +kernel
theorem zd_A_plannedCosts_39 : decode zb_A_plannedCosts 39 = .ok (.aload_n 0, 1) := by decide +kernel
theorem zd_A_plannedCosts_40 : decode zb_A_plannedCosts 40 = .ok (.getfield 11, 3) := by decide +kernel
theorem zd_A_plannedCosts_43 : decode zb_A_plannedCosts 43 = .ok (.iload_n 2, 1) := by decide +kernel
theorem zd_A_plannedCosts_44 : decode zb_A_plannedCosts 44 = .ok (.aaload, 1) := by decide +kernel
theorem zd_A_plannedCosts_45 : decode zb_A_plannedCosts 45 = .ok (.getfield 164, 3) := by decide +kernel
theorem zd_A_plannedCosts_48 : decode zb_A_plannedCosts 48 = .ok (.invokevirtual 175, 3) := by decide +kernel
theorem zd_A_plannedCosts_51 : decode zb_A_plannedCosts 51 = .ok (.iadd, 1) := by decide +kernel
theorem zd_A_plannedCosts_52 : decode zb_A_plannedCosts 52 = .ok (.istore_n 1, 1) := by decide +kernel
theorem zd_A_plannedCosts_53 : decode zb_A_plannedCosts 53 = .ok (.iinc 2 1, 3) := by decide +kernel
theorem zd_A_plannedCosts_56 : decode zb_A_plannedCosts 56 = .ok (.goto (-52), 3) := by decide +kernel
theorem zd_A_plannedCosts_59 : decode zb_A_plannedCosts 59 = .ok (.iload_n 1, 1) := by decide +kernel
theorem zd_A_plannedCosts_60 : decode zb_A_plannedCosts 60 = .ok (.ireturn, 1) := by decide +kernel
theorem zd_A_brokenRule_0 : decode zb_A_brokenRule 0 = .ok (.aload_n 0, 1) := by decide +kernel
theorem zd_A_brokenRule_1 : decode zb_A_brokenRule 1 = .ok (.getfield 17, 3) := by decide +kernel
theorem zd_A_brokenRule_4 : decode zb_A_brokenRule 4 = .ok (.iload_n 2, 1) := by decide +kernel
theorem zd_A_brokenRule_5 : decode zb_A_brokenRule 5 = .ok (.aaload, 1) := by decide +kernel
theorem zd_A_brokenRule_6 : decode zb_A_brokenRule 6 = .ok (.astore_n 3, 1) := by decide +kernel
theorem zd_A_brokenRule_7 : decode zb_A_brokenRule 7 = .ok (.aload_n 3, 1) := by decide +kernel
theorem zd_A_brokenRule_8 : decode zb_A_brokenRule 8 = .ok (.getfield 202, 3) := by decide +kernel
theorem zd_A_brokenRule_11 : decode zb_A_brokenRule 11 = .ok (.ifCond .eq 5, 3) := by decide +kernel
theorem zd_A_brokenRule_14 : decode zb_A_brokenRule 14 = .ok (.iconst 1, 1) := by decide +kernel
theorem zd_A_brokenRule_15 : decode zb_A_brokenRule 15 = .ok (.ireturn, 1) := by decide +kernel
theorem zd_A_brokenRule_16 : decode zb_A_brokenRule 16 = .ok (.aload_n 1, 1) := by decide +kernel
theorem zd_A_brokenRule_17 : decode zb_A_brokenRule 17 = .ok (.getfield 258, 3) := by decide +kernel
theorem zd_A_brokenRule_20 : decode zb_A_brokenRule 20 = .ok (.aload_n 3, 1) := by decide +kernel
theorem zd_A_brokenRule_21 : decode zb_A_brokenRule 21 = .ok (.getfield 261, 3) := by decide +kernel
theorem zd_A_brokenRule_24 : decode zb_A_brokenRule 24 = .ok (.iconst (-1), 1) := by decide +kernel
theorem zd_A_brokenRule_25 : decode zb_A_brokenRule 25 = .ok (.ixor, 1) := by decide +kernel
theorem zd_A_brokenRule_26 : decode zb_A_brokenRule 26 = .ok (.iand, 1) := by decide +kernel
theorem zd_A_brokenRule_27 : decode zb_A_brokenRule 27 = .ok (.ifCond .eq 5, 3) := by decide +kernel
theorem zd_A_brokenRule_30 : decode zb_A_brokenRule 30 = .ok (.iconst 2, 1) := by decide +kernel
theorem zd_A_brokenRule_31 : decode zb_A_brokenRule 31 = .ok (.ireturn, 1) := by decide +kernel
theorem zd_A_brokenRule_32 : decode zb_A_brokenRule 32 = .ok (.aload_n 1, 1) := by decide +kernel
theorem zd_A_brokenRule_33 : decode zb_A_brokenRule 33 = .ok (.getfield 262, 3) := by decide +kernel
theorem zd_A_brokenRule_36 : decode zb_A_brokenRule 36 = .ok (.iload_n 2, 1) := by decide +kernel
theorem zd_A_brokenRule_37 : decode zb_A_brokenRule 37 = .ok (.ishr, 1) := by decide +kernel
theorem zd_A_brokenRule_38 : decode zb_A_brokenRule 38 = .ok (.iconst 1, 1) := by decide +kernel
theorem zd_A_brokenRule_39 : decode zb_A_brokenRule 39 = .ok (.iand, 1) := by decide +kernel
theorem zd_A_brokenRule_40 : decode zb_A_brokenRule 40 = .ok (.ifCond .eq 5, 3) := by decide +kernel
theorem zd_A_brokenRule_43 : decode zb_A_brokenRule 43 = .ok (.iconst 3, 1) := by decide +kernel
theorem zd_A_brokenRule_44 : decode zb_A_brokenRule 44 = .ok (.ireturn, 1) := by decide +kernel
theorem zd_A_brokenRule_45 : decode zb_A_brokenRule 45 = .ok (.aload_n 1, 1) := by decide +kernel
theorem zd_A_brokenRule_46 : decode zb_A_brokenRule 46 = .ok (.getfield 192, 3) := by decide +kernel
theorem zd_A_brokenRule_49 : decode zb_A_brokenRule 49 = .ok (.aload_n 3, 1) := by decide +kernel
theorem zd_A_brokenRule_50 : decode zb_A_brokenRule 50 = .ok (.getfield 189, 3) := by decide +kernel
theorem zd_A_brokenRule_53 : decode zb_A_brokenRule 53 = .ok (.if_icmp .le 5, 3) := by decide +kernel
theorem zd_A_brokenRule_56 : decode zb_A_brokenRule 56 = .ok (.iconst 4, 1) := by decide +kernel
theorem zd_A_brokenRule_57 : decode zb_A_brokenRule 57 = .ok (.ireturn, 1) := by decide +kernel
theorem zd_A_brokenRule_58 : decode zb_A_brokenRule 58 = .ok (.aload_n 1, 1) := by decide +kernel
theorem zd_A_brokenRule_59 : decode zb_A_brokenRule 59 = .ok (.getfield 263, 3) := by decide +kernel
theorem zd_A_brokenRule_62 : decode zb_A_brokenRule 62 = .ok (.iconst (-1), 1) := by decide +kernel
theorem zd_A_brokenRule_63 : decode zb_A_brokenRule 63 = .ok (.if_icmp .eq 13, 3) := by decide +kernel
theorem zd_A_brokenRule_66 : decode zb_A_brokenRule 66 = .ok (.aload_n 1, 1) := by decide +kernel
theorem zd_A_brokenRule_67 : decode zb_A_brokenRule 67 = .ok (.getfield 263, 3) := by decide +kernel
theorem zd_A_brokenRule_70 : decode zb_A_brokenRule 70 = .ok (.iload_n 2, 1) := by decide +kernel
theorem zd_A_brokenRule_71 : decode zb_A_brokenRule 71 = .ok (.if_icmp .eq 5, 3) := by decide +kernel
theorem zd_A_brokenRule_74 : decode zb_A_brokenRule 74 = .ok (.iconst 5, 1) := by decide +kernel
theorem zd_A_brokenRule_75 : decode zb_A_brokenRule 75 = .ok (.ireturn, 1) := by decide +kernel
theorem zd_A_brokenRule_76 : decode zb_A_brokenRule 76 = .ok (.iconst 0, 1) := by decide +kernel
theorem zd_A_brokenRule_77 : decode zb_A_brokenRule 77 = .ok (.ireturn, 1) := by decide +kernel
theorem zd_A_costAt_0 : decode zb_A_costAt 0 = .ok (.aload_n 0, 1) := by decide +kernel
theorem zd_A_costAt_1 : decode zb_A_costAt 1 = .ok (.getfield 11, 3) := by decide +kernel
theorem zd_A_costAt_4 : decode zb_A_costAt 4 = .ok (.aload_n 1, 1) := by decide +kernel
theorem zd_A_costAt_5 : decode zb_A_costAt 5 = .ok (.getfield 195, 3) := by decide +kernel
theorem zd_A_costAt_8 : decode zb_A_costAt 8 = .ok (.aaload, 1) := by decide +kernel
theorem zd_A_costAt_9 : decode zb_A_costAt 9 = .ok (.getfield 99, 3) := by decide +kernel
theorem zd_A_costAt_12 : decode zb_A_costAt 12 = .ok (.iload_n 2, 1) := by decide +kernel
theorem zd_A_costAt_13 : decode zb_A_costAt 13 = .ok (.iaload, 1) := by decide +kernel
theorem zd_A_costAt_14 : decode zb_A_costAt 14 = .ok (.istore_n 3, 1) := by decide +kernel
theorem zd_A_costAt_15 : decode zb_A_costAt 15 = .ok (.iload_n 3, 1) := by decide +kernel
theorem zd_A_costAt_16 : decode zb_A_costAt 16 = .ok (.iconst (-1), 1) := by decide +kernel
theorem zd_A_costAt_17 : decode zb_A_costAt 17 = .ok (.if_icmp .eq 5, 3) := by decide +kernel
theorem zd_A_costAt_20 : decode zb_A_costAt 20 = .ok (.iload_n 3, 1) := by decide +kernel
theorem zd_A_costAt_21 : decode zb_A_costAt 21 = .ok (.ireturn, 1) := by decide +kernel
theorem zd_A_costAt_22 : decode zb_A_costAt 22 = .ok (.aload_n 0, 1) := by decide +kernel
theorem zd_A_costAt_23 : decode zb_A_costAt 23 = .ok (.getfield 17, 3) := by decide +kernel
theorem zd_A_costAt_26 : decode zb_A_costAt 26 = .ok (.iload_n 2, 1) := by decide +kernel
theorem zd_A_costAt_27 : decode zb_A_costAt 27 = .ok (.aaload, 1) := by decide +kernel
theorem zd_A_costAt_28 : decode zb_A_costAt 28 = .ok (.getfield 264, 3) := by decide +kernel
theorem zd_A_costAt_31 : decode zb_A_costAt 31 = .ok (.aload_n 1, 1) := by decide +kernel
theorem zd_A_costAt_32 : decode zb_A_costAt 32 = .ok (.getfield 267, 3) := by decide +kernel
theorem zd_A_costAt_35 : decode zb_A_costAt 35 = .ok (.imul, 1) := by decide +kernel
theorem zd_A_costAt_36 : decode zb_A_costAt 36 = .ok (.aload_n 0, 1) := by decide +kernel
theorem zd_A_costAt_37 : decode zb_A_costAt 37 = .ok (.getfield 17, 3) := by decide +kernel
theorem zd_A_costAt_40 : decode zb_A_costAt 40 = .ok (.iload_n 2, 1) := by decide +kernel
theorem zd_A_costAt_41 : decode zb_A_costAt 41 = .ok (.aaload, 1) := by decide +kernel
theorem zd_A_costAt_42 : decode zb_A_costAt 42 = .ok (.getfield 189, 3) := by decide +kernel
theorem zd_A_costAt_45 : decode zb_A_costAt 45 = .ok (.iadd, 1) := by decide +kernel
theorem zd_A_costAt_46 : decode zb_A_costAt 46 = .ok (.aload_n 1, 1) := by decide +kernel
theorem zd_A_costAt_47 : decode zb_A_costAt 47 = .ok (.getfield 192, 3) := by decide +kernel
theorem zd_A_costAt_50 : decode zb_A_costAt 50 = .ok (.isub, 1) := by decide +kernel
theorem zd_A_costAt_51 : decode zb_A_costAt 51 = .ok (.ireturn, 1) := by decide +kernel
theorem zd_A_cheapestPlace_0 : decode zb_A_cheapestPlace 0 = .ok (.iconst (-1), 1) := by decide +kernel
theorem zd_A_cheapestPlace_1 : decode zb_A_cheapestPlace 1 = .ok (.istore_n 3, 1) := by decide +kernel
theorem zd_A_cheapestPlace_2 : decode zb_A_cheapestPlace 2 = .ok (.iconst 0, 1) := by decide +kernel
theorem zd_A_cheapestPlace_3 : decode zb_A_cheapestPlace 3 = .ok (.istore 4, 2) := by decide +kernel
theorem zd_A_cheapestPlace_5 : decode zb_A_cheapestPlace 5 = .ok (.iconst 0, 1) := by decide +kernel
theorem zd_A_cheapestPlace_6 : decode zb_A_cheapestPlace 6 = .ok (.istore 5, 2) := by decide +kernel
theorem zd_A_cheapestPlace_8 : decode zb_A_cheapestPlace 8 = .ok (.iload 5, 2) := by decide +kernel
theorem zd_A_cheapestPlace_10 : decode zb_A_cheapestPlace 10 = .ok (.aload_n 0, 1) := by decide +kernel
theorem zd_A_cheapestPlace_11 : decode zb_A_cheapestPlace 11 = .ok (.getfield 75, 3) := by decide +kernel
theorem zd_A_cheapestPlace_14 : decode zb_A_cheapestPlace 14 = .ok (.if_icmp .ge 56, 3) := by decide +kernel
theorem zd_A_cheapestPlace_17 : decode zb_A_cheapestPlace 17 = .ok (.iload_n 2, 1) := by decide +kernel
theorem zd_A_cheapestPlace_18 : decode zb_A_cheapestPlace 18 = .ok (.iload 5, 2) := by decide +kernel
theorem zd_A_cheapestPlace_20 : decode zb_A_cheapestPlace 20 = .ok (.ishr, 1) := by decide +kernel
theorem zd_A_cheapestPlace_21 : decode zb_A_cheapestPlace 21 = .ok (.iconst 1, 1) := by decide +kernel
theorem zd_A_cheapestPlace_22 : decode zb_A_cheapestPlace 22 = .ok (.iand, 1) := by decide +kernel
theorem zd_A_cheapestPlace_23 : decode zb_A_cheapestPlace 23 = .ok (.ifCond .ne 41, 3) := by decide +kernel
theorem zd_A_cheapestPlace_26 : decode zb_A_cheapestPlace 26 = .ok (.aload_n 0, 1) := by decide +kernel
theorem zd_A_cheapestPlace_27 : decode zb_A_cheapestPlace 27 = .ok (.aload_n 1, 1) := by decide +kernel
theorem zd_A_cheapestPlace_28 : decode zb_A_cheapestPlace 28 = .ok (.iload 5, 2) := by decide +kernel
theorem zd_A_cheapestPlace_30 : decode zb_A_cheapestPlace 30 = .ok (.invokevirtual 178, 3) := by decide +kernel
theorem zd_A_cheapestPlace_33 : decode zb_A_cheapestPlace 33 = .ok (.ifCond .ne 31, 3) := by decide +kernel
theorem zd_A_cheapestPlace_36 : decode zb_A_cheapestPlace 36 = .ok (.aload_n 0, 1) := by decide +kernel
theorem zd_A_cheapestPlace_37 : decode zb_A_cheapestPlace 37 = .ok (.aload_n 1, 1) := by decide +kernel
theorem zd_A_cheapestPlace_38 : decode zb_A_cheapestPlace 38 = .ok (.iload 5, 2) := by decide +kernel
theorem zd_A_cheapestPlace_40 : decode zb_A_cheapestPlace 40 = .ok (.invokevirtual 175, 3) := by decide +kernel
theorem zd_A_cheapestPlace_43 : decode zb_A_cheapestPlace 43 = .ok (.istore 6, 2) := by decide +kernel
theorem zd_A_cheapestPlace_45 : decode zb_A_cheapestPlace 45 = .ok (.iload_n 3, 1) := by decide +kernel
theorem zd_A_cheapestPlace_46 : decode zb_A_cheapestPlace 46 = .ok (.iconst (-1), 1) := by decide +kernel
theorem zd_A_cheapestPlace_47 : decode zb_A_cheapestPlace 47 = .ok (.if_icmp .eq 10, 3) := by decide +kernel
theorem zd_A_cheapestPlace_50 : decode zb_A_cheapestPlace 50 = .ok (.iload 6, 2) := by decide +kernel
theorem zd_A_cheapestPlace_52 : decode zb_A_cheapestPlace 52 = .ok (.iload 4, 2) := by decide +kernel
theorem zd_A_cheapestPlace_54 : decode zb_A_cheapestPlace 54 = .ok (.if_icmp .ge 10, 3) := by decide +kernel
theorem zd_A_cheapestPlace_57 : decode zb_A_cheapestPlace 57 = .ok (.iload 5, 2) := by decide +kernel
theorem zd_A_cheapestPlace_59 : decode zb_A_cheapestPlace 59 = .ok (.istore_n 3, 1) := by decide +kernel
theorem zd_A_cheapestPlace_60 : decode zb_A_cheapestPlace 60 = .ok (.iload 6, 2) := by decide +kernel
theorem zd_A_cheapestPlace_62 : decode zb_A_cheapestPlace 62 = .ok (.istore 4, 2) := by decide +kernel
theorem zd_A_cheapestPlace_64 : decode zb_A_cheapestPlace 64 = .ok (.iinc 5 1, 3) := by decide +kernel
theorem zd_A_cheapestPlace_67 : decode zb_A_cheapestPlace 67 = .ok (.goto (-59), 3) := by decide +kernel
theorem zd_A_cheapestPlace_70 : decode zb_A_cheapestPlace 70 = .ok (.iload_n 3, 1) := by decide +kernel
theorem zd_A_cheapestPlace_71 : decode zb_A_cheapestPlace 71 = .ok (.ireturn, 1) := by decide +kernel
theorem zd_A_draftOneByOne_0 : decode zb_A_draftOneByOne 0 = .ok (.iconst 0, 1) := by decide +kernel
theorem zd_A_draftOneByOne_1 : decode zb_A_draftOneByOne 1 = .ok (.istore_n 1, 1) := by decide +kernel
theorem zd_A_draftOneByOne_2 : decode zb_A_draftOneByOne 2 = .ok (.iconst 0, 1) := by decide +kernel
theorem zd_A_draftOneByOne_3 : decode zb_A_draftOneByOne 3 = .ok (.istore_n 2, 1) := by decide +kernel
theorem zd_A_draftOneByOne_4 : decode zb_A_draftOneByOne 4 = .ok (.iconst 0, 1) := by decide +kernel
theorem zd_A_draftOneByOne_5 : decode zb_A_draftOneByOne 5 = .ok (.istore_n 3, 1) := by decide +kernel
theorem zd_A_draftOneByOne_6 : decode zb_A_draftOneByOne 6 = .ok (.iload_n 3, 1) := by decide +kernel
theorem zd_A_draftOneByOne_7 : decode zb_A_draftOneByOne 7 = .ok (.aload_n 0, 1) := by decide +kernel
theorem zd_A_draftOneByOne_8 : decode zb_A_draftOneByOne 8 = .ok (.getfield 60, 3) := by decide +kernel
theorem zd_A_draftOneByOne_11 : decode zb_A_draftOneByOne 11 = .ok (.if_icmp .ge 65, 3) := by decide +kernel
theorem zd_A_draftOneByOne_14 : decode zb_A_draftOneByOne 14 = .ok (.aload_n 0, 1) := by decide +kernel
theorem zd_A_draftOneByOne_15 : decode zb_A_draftOneByOne 15 = .ok (.iload_n 3, 1) := by decide +kernel
theorem zd_A_draftOneByOne_16 : decode zb_A_draftOneByOne 16 = .ok (.invokevirtual 167, 3) := by decide +kernel
theorem zd_A_draftOneByOne_19 : decode zb_A_draftOneByOne 19 = .ok (.ifCond .eq 51, 3) := by decide +kernel
theorem zd_A_draftOneByOne_22 : decode zb_A_draftOneByOne 22 = .ok (.aload_n 0, 1) := by decide +kernel
theorem zd_A_draftOneByOne_23 : decode zb_A_draftOneByOne 23 = .ok (.iload_n 3, 1) := by decide +kernel
theorem zd_A_draftOneByOne_24 : decode zb_A_draftOneByOne 24 = .ok (.invokevirtual 132, 3) := by decide +kernel
theorem zd_A_draftOneByOne_27 : decode zb_A_draftOneByOne 27 = .ok (.astore 4, 2) := by decide +kernel
theorem zd_A_draftOneByOne_29 : decode zb_A_draftOneByOne 29 = .ok (.aload_n 0, 1) := by decide +kernel
theorem zd_A_draftOneByOne_30 : decode zb_A_draftOneByOne 30 = .ok (.aload 4, 2) := by decide +kernel
theorem zd_A_draftOneByOne_32 : decode zb_A_draftOneByOne 32 = .ok (.iload_n 1, 1) := by decide +kernel
theorem zd_A_draftOneByOne_33 : decode zb_A_draftOneByOne 33 = .ok (.invokevirtual 171, 3) := by decide +kernel
theorem zd_A_draftOneByOne_36 : decode zb_A_draftOneByOne 36 = .ok (.istore 5, 2) := by decide +kernel
theorem zd_A_draftOneByOne_38 : decode zb_A_draftOneByOne 38 = .ok (.aload_n 0, 1) := by decide +kernel
theorem zd_A_draftOneByOne_39 : decode zb_A_draftOneByOne 39 = .ok (.getfield 39, 3) := by decide +kernel
theorem zd_A_draftOneByOne_42 : decode zb_A_draftOneByOne 42 = .ok (.iload_n 3, 1) := by decide +kernel
theorem zd_A_draftOneByOne_43 : decode zb_A_draftOneByOne 43 = .ok (.iload 5, 2) := by decide +kernel
theorem zd_A_draftOneByOne_45 : decode zb_A_draftOneByOne 45 = .ok (.iastore, 1) := by decide +kernel
theorem zd_A_draftOneByOne_46 : decode zb_A_draftOneByOne 46 = .ok (.iload 5, 2) := by decide +kernel
theorem zd_A_draftOneByOne_48 : decode zb_A_draftOneByOne 48 = .ok (.iconst (-1), 1) := by decide +kernel
theorem zd_A_draftOneByOne_49 : decode zb_A_draftOneByOne 49 = .ok (.if_icmp .eq 21, 3) := by decide +kernel
theorem zd_A_draftOneByOne_52 : decode zb_A_draftOneByOne 52 = .ok (.iload_n 1, 1) := by decide +kernel
theorem zd_A_draftOneByOne_53 : decode zb_A_draftOneByOne 53 = .ok (.iconst 1, 1) := by decide +kernel
theorem zd_A_draftOneByOne_54 : decode zb_A_draftOneByOne 54 = .ok (.iload 5, 2) := by decide +kernel
theorem zd_A_draftOneByOne_56 : decode zb_A_draftOneByOne 56 = .ok (.ishl, 1) := by decide +kernel
theorem zd_A_draftOneByOne_57 : decode zb_A_draftOneByOne 57 = .ok (.ior, 1) := by decide +kernel
theorem zd_A_draftOneByOne_58 : decode zb_A_draftOneByOne 58 = .ok (.istore_n 1, 1) := by decide +kernel
theorem zd_A_draftOneByOne_59 : decode zb_A_draftOneByOne 59 = .ok (.iload_n 2, 1) := by decide +kernel
theorem zd_A_draftOneByOne_60 : decode zb_A_draftOneByOne 60 = .ok (.aload_n 0, 1) := by decide +kernel
theorem zd_A_draftOneByOne_61 : decode zb_A_draftOneByOne 61 = .ok (.aload 4, 2) := by decide +kernel
theorem zd_A_draftOneByOne_63 : decode zb_A_draftOneByOne 63 = .ok (.iload 5, 2) := by decide +kernel
theorem zd_A_draftOneByOne_65 : decode zb_A_draftOneByOne 65 = .ok (.invokevirtual 175, 3) := by decide +kernel
theorem zd_A_draftOneByOne_68 : decode zb_A_draftOneByOne 68 = .ok (.iadd, 1) := by decide +kernel
theorem zd_A_draftOneByOne_69 : decode zb_A_draftOneByOne 69 = .ok (.istore_n 2, 1) := by decide +kernel
theorem zd_A_draftOneByOne_70 : decode zb_A_draftOneByOne 70 = .ok (.iinc 3 1, 3) := by decide +kernel
theorem zd_A_draftOneByOne_73 : decode zb_A_draftOneByOne 73 = .ok (.goto (-67), 3) := by decide +kernel
theorem zd_A_draftOneByOne_76 : decode zb_A_draftOneByOne 76 = .ok (.iload_n 2, 1) := by decide +kernel
theorem zd_A_draftOneByOne_77 : decode zb_A_draftOneByOne 77 = .ok (.ireturn, 1) := by decide +kernel
theorem zd_A_draftBest_0 : decode zb_A_draftBest 0 = .ok (.aload_n 0, 1) := by decide +kernel
theorem zd_A_draftBest_1 : decode zb_A_draftBest 1 = .ok (.getfield 35, 3) := by decide +kernel
theorem zd_A_draftBest_4 : decode zb_A_draftBest 4 = .ok (.invokevirtual 270, 3) := by decide +kernel
theorem zd_A_draftBest_7 : decode zb_A_draftBest 7 = .ok (.iconst 0, 1) := by decide +kernel
theorem zd_A_draftBest_8 : decode zb_A_draftBest 8 = .ok (.istore_n 1, 1) := by decide +kernel
theorem zd_A_draftBest_9 : decode zb_A_draftBest 9 = .ok (.iload_n 1, 1) := by decide +kernel
theorem zd_A_draftBest_10 : decode zb_A_draftBest 10 = .ok (.aload_n 0, 1) := by decide +kernel
theorem zd_A_draftBest_11 : decode zb_A_draftBest 11 = .ok (.getfield 60, 3) := by decide +kernel
theorem zd_A_draftBest_14 : decode zb_A_draftBest 14 = .ok (.if_icmp .ge 26, 3) := by decide +kernel
theorem zd_A_draftBest_17 : decode zb_A_draftBest 17 = .ok (.aload_n 0, 1) := by decide +kernel
theorem zd_A_draftBest_18 : decode zb_A_draftBest 18 = .ok (.iload_n 1, 1) := by decide +kernel
theorem zd_A_draftBest_19 : decode zb_A_draftBest 19 = .ok (.invokevirtual 167, 3) := by decide +kernel
theorem zd_A_draftBest_22 : decode zb_A_draftBest 22 = .ok (.ifCond .eq 12, 3) := by decide +kernel
theorem zd_A_draftBest_25 : decode zb_A_draftBest 25 = .ok (.aload_n 0, 1) := by decide +kernel
theorem zd_A_draftBest_26 : decode zb_A_draftBest 26 = .ok (.aload_n 0, 1) := by decide +kernel
theorem zd_A_draftBest_27 : decode zb_A_draftBest 27 = .ok (.iload_n 1, 1) := by decide +kernel
theorem zd_A_draftBest_28 : decode zb_A_draftBest 28 = .ok (.invokevirtual 132, 3) := by decide +kernel
theorem zd_A_draftBest_31 : decode zb_A_draftBest 31 = .ok (.invokevirtual 272, 3) := by decide +kernel
theorem zd_A_draftBest_34 : decode zb_A_draftBest 34 = .ok (.iinc 1 1, 3) := by decide +kernel
theorem zd_A_draftBest_37 : decode zb_A_draftBest 37 = .ok (.goto (-28), 3) := by decide +kernel
theorem zd_A_draftBest_40 : decode zb_A_draftBest 40 = .ok (.aload_n 0, 1) := by decide +kernel
theorem zd_A_draftBest_41 : decode zb_A_draftBest 41 = .ok (.getfield 35, 3) := by decide +kernel
theorem zd_A_draftBest_44 : decode zb_A_draftBest 44 = .ok (.invokevirtual 276, 3) := by decide +kernel
theorem zd_A_draftBest_47 : decode zb_A_draftBest 47 = .ok (.iconst 0, 1) := by decide +kernel
theorem zd_A_draftBest_48 : decode zb_A_draftBest 48 = .ok (.istore_n 1, 1) := by decide +kernel
theorem zd_A_draftBest_49 : decode zb_A_draftBest 49 = .ok (.iconst 0, 1) := by decide +kernel
theorem zd_A_draftBest_50 : decode zb_A_draftBest 50 = .ok (.istore_n 2, 1) := by decide +kernel
theorem zd_A_draftBest_51 : decode zb_A_draftBest 51 = .ok (.iconst 0, 1) := by decide +kernel
theorem zd_A_draftBest_52 : decode zb_A_draftBest 52 = .ok (.istore_n 3, 1) := by decide +kernel
theorem zd_A_draftBest_53 : decode zb_A_draftBest 53 = .ok (.iload_n 3, 1) := by decide +kernel
theorem zd_A_draftBest_54 : decode zb_A_draftBest 54 = .ok (.aload_n 0, 1) := by decide +kernel
theorem zd_A_draftBest_55 : decode zb_A_draftBest 55 = .ok (.getfield 60, 3) := by decide +kernel
theorem zd_A_draftBest_58 : decode zb_A_draftBest 58 = .ok (.if_icmp .ge 62, 3) := by decide +kernel
theorem zd_A_draftBest_61 : decode zb_A_draftBest 61 = .ok (.aload_n 0, 1) := by decide +kernel
theorem zd_A_draftBest_62 : decode zb_A_draftBest 62 = .ok (.iload_n 3, 1) := by decide +kernel
theorem zd_A_draftBest_63 : decode zb_A_draftBest 63 = .ok (.invokevirtual 167, 3) := by decide +kernel
theorem zd_A_draftBest_66 : decode zb_A_draftBest 66 = .ok (.ifCond .eq 48, 3) := by decide +kernel
theorem zd_A_draftBest_69 : decode zb_A_draftBest 69 = .ok (.iinc 2 1, 3) := by decide +kernel
theorem zd_A_draftBest_72 : decode zb_A_draftBest 72 = .ok (.aload_n 0, 1) := by decide +kernel
theorem zd_A_draftBest_73 : decode zb_A_draftBest 73 = .ok (.getfield 39, 3) := by decide +kernel
theorem zd_A_draftBest_76 : decode zb_A_draftBest 76 = .ok (.iload_n 3, 1) := by decide +kernel
theorem zd_A_draftBest_77 : decode zb_A_draftBest 77 = .ok (.aload_n 0, 1) := by decide +kernel
theorem zd_A_draftBest_78 : decode zb_A_draftBest 78 = .ok (.getfield 35, 3) := by decide +kernel
theorem zd_A_draftBest_81 : decode zb_A_draftBest 81 = .ok (.iload_n 2, 1) := by decide +kernel
theorem zd_A_draftBest_82 : decode zb_A_draftBest 82 = .ok (.invokevirtual 279, 3) := by decide +kernel
theorem zd_A_draftBest_85 : decode zb_A_draftBest 85 = .ok (.iastore, 1) := by decide +kernel
theorem zd_A_draftBest_86 : decode zb_A_draftBest 86 = .ok (.aload_n 0, 1) := by decide +kernel
theorem zd_A_draftBest_87 : decode zb_A_draftBest 87 = .ok (.getfield 39, 3) := by decide +kernel
theorem zd_A_draftBest_90 : decode zb_A_draftBest 90 = .ok (.iload_n 3, 1) := by decide +kernel
theorem zd_A_draftBest_91 : decode zb_A_draftBest 91 = .ok (.iaload, 1) := by decide +kernel
theorem zd_A_draftBest_92 : decode zb_A_draftBest 92 = .ok (.iconst (-1), 1) := by decide +kernel
theorem zd_A_draftBest_93 : decode zb_A_draftBest 93 = .ok (.if_icmp .eq 21, 3) := by decide +kernel
theorem zd_A_draftBest_96 : decode zb_A_draftBest 96 = .ok (.iload_n 1, 1) := by decide +kernel
theorem zd_A_draftBest_97 : decode zb_A_draftBest 97 = .ok (.aload_n 0, 1) := by decide +kernel
theorem zd_A_draftBest_98 : decode zb_A_draftBest 98 = .ok (.aload_n 0, 1) := by decide +kernel
theorem zd_A_draftBest_99 : decode zb_A_draftBest 99 = .ok (.iload_n 3, 1) := by decide +kernel
theorem zd_A_draftBest_100 : decode zb_A_draftBest 100 = .ok (.invokevirtual 132, 3) := by decide +kernel
theorem zd_A_draftBest_103 : decode zb_A_draftBest 103 = .ok (.aload_n 0, 1) := by decide +kernel
theorem zd_A_draftBest_104 : decode zb_A_draftBest 104 = .ok (.getfield 39, 3) := by decide +kernel
theorem zd_A_draftBest_107 : decode zb_A_draftBest 107 = .ok (.iload_n 3, 1) := by decide +kernel
theorem zd_A_draftBest_108 : decode zb_A_draftBest 108 = .ok (.iaload, 1) := by decide +kernel
theorem zd_A_draftBest_109 : decode zb_A_draftBest 109 = .ok (.invokevirtual 175, 3) := by decide +kernel
theorem zd_A_draftBest_112 : decode zb_A_draftBest 112 = .ok (.iadd, 1) := by decide +kernel
theorem zd_A_draftBest_113 : decode zb_A_draftBest 113 = .ok (.istore_n 1, 1) := by decide +kernel
theorem zd_A_draftBest_114 : decode zb_A_draftBest 114 = .ok (.iinc 3 1, 3) := by decide +kernel
theorem zd_A_draftBest_117 : decode zb_A_draftBest 117 = .ok (.goto (-64), 3) := by decide +kernel
theorem zd_A_draftBest_120 : decode zb_A_draftBest 120 = .ok (.iload_n 1, 1) := by decide +kernel
theorem zd_A_draftBest_121 : decode zb_A_draftBest 121 = .ok (.ireturn, 1) := by decide +kernel
theorem zd_A_offerPlaces_0 : decode zb_A_offerPlaces 0 = .ok (.aload_n 0, 1) := by decide +kernel
theorem zd_A_offerPlaces_1 : decode zb_A_offerPlaces 1 = .ok (.getfield 35, 3) := by decide +kernel
theorem zd_A_offerPlaces_4 : decode zb_A_offerPlaces 4 = .ok (.invokevirtual 282, 3) := by decide +kernel
theorem zd_A_offerPlaces_7 : decode zb_A_offerPlaces 7 = .ok (.iconst 0, 1) := by decide +kernel
theorem zd_A_offerPlaces_8 : decode zb_A_offerPlaces 8 = .ok (.istore_n 2, 1) := by decide +kernel
theorem zd_A_offerPlaces_9 : decode zb_A_offerPlaces 9 = .ok (.iload_n 2, 1) := by decide +kernel
theorem zd_A_offerPlaces_10 : decode zb_A_offerPlaces 10 = .ok (.aload_n 0, 1) := by decide +kernel
theorem zd_A_offerPlaces_11 : decode zb_A_offerPlaces 11 = .ok (.getfield 75, 3) := by decide +kernel
theorem zd_A_offerPlaces_14 : decode zb_A_offerPlaces 14 = .ok (.if_icmp .ge 32, 3) := by decide +kernel
theorem zd_A_offerPlaces_17 : decode zb_A_offerPlaces 17 = .ok (.aload_n 0, 1) := by decide +kernel
theorem zd_A_offerPlaces_18 : decode zb_A_offerPlaces 18 = .ok (.aload_n 1, 1) := by decide +kernel
theorem zd_A_offerPlaces_19 : decode zb_A_offerPlaces 19 = .ok (.iload_n 2, 1) := by decide +kernel
theorem zd_A_offerPlaces_20 : decode zb_A_offerPlaces 20 = .ok (.invokevirtual 178, 3) := by decide +kernel
theorem zd_A_offerPlaces_23 : decode zb_A_offerPlaces 23 = .ok (.ifCond .ne 17, 3) := by decide +kernel
theorem zd_A_offerPlaces_26 : decode zb_A_offerPlaces 26 = .ok (.aload_n 0, 1) := by decide +kernel
theorem zd_A_offerPlaces_27 : decode zb_A_offerPlaces 27 = .ok (.getfield 35, 3) := by decide +kernel
theorem zd_A_offerPlaces_30 : decode zb_A_offerPlaces 30 = .ok (.iload_n 2, 1) := by decide +kernel
theorem zd_A_offerPlaces_31 : decode zb_A_offerPlaces 31 = .ok (.aload_n 0, 1) := by decide +kernel
theorem zd_A_offerPlaces_32 : decode zb_A_offerPlaces 32 = .ok (.aload_n 1, 1) := by decide +kernel
theorem zd_A_offerPlaces_33 : decode zb_A_offerPlaces 33 = .ok (.iload_n 2, 1) := by decide +kernel
theorem zd_A_offerPlaces_34 : decode zb_A_offerPlaces 34 = .ok (.invokevirtual 175, 3) := by decide +kernel
theorem zd_A_offerPlaces_37 : decode zb_A_offerPlaces 37 = .ok (.invokevirtual 285, 3) := by decide +kernel
theorem zd_A_offerPlaces_40 : decode zb_A_offerPlaces 40 = .ok (.iinc 2 1, 3) := by decide +kernel
theorem zd_A_offerPlaces_43 : decode zb_A_offerPlaces 43 = .ok (.goto (-34), 3) := by decide +kernel
theorem zd_A_offerPlaces_46 : decode zb_A_offerPlaces 46 = .ok (.return_, 1) := by decide +kernel
theorem zd_A_takeDraft_0 : decode zb_A_takeDraft 0 = .ok (.iconst 0, 1) := by decide +kernel
theorem zd_A_takeDraft_1 : decode zb_A_takeDraft 1 = .ok (.istore_n 1, 1) := by decide +kernel
theorem zd_A_takeDraft_2 : decode zb_A_takeDraft 2 = .ok (.iload_n 1, 1) := by decide +kernel
theorem zd_A_takeDraft_3 : decode zb_A_takeDraft 3 = .ok (.aload_n 0, 1) := by decide +kernel
theorem zd_A_takeDraft_4 : decode zb_A_takeDraft 4 = .ok (.getfield 60, 3) := by decide +kernel
theorem zd_A_takeDraft_7 : decode zb_A_takeDraft 7 = .ok (.if_icmp .ge 28, 3) := by decide +kernel
theorem zd_A_takeDraft_10 : decode zb_A_takeDraft 10 = .ok (.aload_n 0, 1) := by decide +kernel
theorem zd_A_takeDraft_11 : decode zb_A_takeDraft 11 = .ok (.iload_n 1, 1) := by decide +kernel
theorem zd_A_takeDraft_12 : decode zb_A_takeDraft 12 = .ok (.invokevirtual 167, 3) := by decide +kernel
theorem zd_A_takeDraft_15 : decode zb_A_takeDraft 15 = .ok (.ifCond .eq 14, 3) := by decide +kernel
theorem zd_A_takeDraft_18 : decode zb_A_takeDraft 18 = .ok (.aload_n 0, 1) := by decide +kernel
theorem zd_A_takeDraft_19 : decode zb_A_takeDraft 19 = .ok (.iload_n 1, 1) := by decide +kernel
theorem zd_A_takeDraft_20 : decode zb_A_takeDraft 20 = .ok (.aload_n 0, 1) := by decide +kernel
theorem zd_A_takeDraft_21 : decode zb_A_takeDraft 21 = .ok (.getfield 39, 3) := by decide +kernel
theorem zd_A_takeDraft_24 : decode zb_A_takeDraft 24 = .ok (.iload_n 1, 1) := by decide +kernel
theorem zd_A_takeDraft_25 : decode zb_A_takeDraft 25 = .ok (.iaload, 1) := by decide +kernel
theorem zd_A_takeDraft_26 : decode zb_A_takeDraft 26 = .ok (.invokevirtual 129, 3) := by decide +kernel
theorem zd_A_takeDraft_29 : decode zb_A_takeDraft 29 = .ok (.iinc 1 1, 3) := by decide +kernel
theorem zd_A_takeDraft_32 : decode zb_A_takeDraft 32 = .ok (.goto (-30), 3) := by decide +kernel
theorem zd_A_takeDraft_35 : decode zb_A_takeDraft 35 = .ok (.return_, 1) := by decide +kernel
theorem zd_M_init_0 : decode zb_M_init 0 = .ok (.aload_n 0, 1) := by decide +kernel
theorem zd_M_init_1 : decode zb_M_init 1 = .ok (.invokespecial 1, 3) := by decide +kernel
theorem zd_M_init_4 : decode zb_M_init 4 = .ok (.aload_n 0, 1) := by decide +kernel
theorem zd_M_init_5 : decode zb_M_init 5 = .ok (.bipush 12, 2) := by decide +kernel
theorem zd_M_init_7 : decode zb_M_init 7 = .ok (.newarray .int, 2) := by decide +kernel
theorem zd_M_init_9 : decode zb_M_init 9 = .ok (.putfield 7, 3) := by decide +kernel
theorem zd_M_init_12 : decode zb_M_init 12 = .ok (.aload_n 0, 1) := by decide +kernel
theorem zd_M_init_13 : decode zb_M_init 13 = .ok (.bipush 12, 2) := by decide +kernel
theorem zd_M_init_15 : decode zb_M_init 15 = .ok (.newarray .int, 2) := by decide +kernel
theorem zd_M_init_17 : decode zb_M_init 17 = .ok (.putfield 13, 3) := by decide +kernel
theorem zd_M_init_20 : decode zb_M_init 20 = .ok (.aload_n 0, 1) := by decide +kernel
theorem zd_M_init_21 : decode zb_M_init 21 = .ok (.bipush 12, 2) := by decide +kernel
theorem zd_M_init_23 : decode zb_M_init 23 = .ok (.newarray .int, 2) := by decide +kernel
theorem zd_M_init_25 : decode zb_M_init 25 = .ok (.putfield 16, 3) := by decide +kernel
theorem zd_M_init_28 : decode zb_M_init 28 = .ok (.aload_n 0, 1) := by decide +kernel
theorem zd_M_init_29 : decode zb_M_init 29 = .ok (.bipush 12, 2) := by decide +kernel
theorem zd_M_init_31 : decode zb_M_init 31 = .ok (.newarray .int, 2) := by decide +kernel
theorem zd_M_init_33 : decode zb_M_init 33 = .ok (.putfield 19, 3) := by decide +kernel
theorem zd_M_init_36 : decode zb_M_init 36 = .ok (.aload_n 0, 1) := by decide +kernel
theorem zd_M_init_37 : decode zb_M_init 37 = .ok (.bipush 12, 2) := by decide +kernel
theorem zd_M_init_39 : decode zb_M_init 39 = .ok (.newarray .int, 2) := by decide +kernel
theorem zd_M_init_41 : decode zb_M_init 41 = .ok (.putfield 22, 3) := by decide +kernel
theorem zd_M_init_44 : decode zb_M_init 44 = .ok (.aload_n 0, 1) := by decide +kernel
theorem zd_M_init_45 : decode zb_M_init 45 = .ok (.bipush 12, 2) := by decide +kernel
theorem zd_M_init_47 : decode zb_M_init 47 = .ok (.newarray .boolean, 2) := by decide +kernel
theorem zd_M_init_49 : decode zb_M_init 49 = .ok (.putfield 25, 3) := by decide +kernel
theorem zd_M_init_52 : decode zb_M_init 52 = .ok (.aload_n 0, 1) := by decide +kernel
theorem zd_M_init_53 : decode zb_M_init 53 = .ok (.sipush 144, 3) := by decide +kernel
theorem zd_M_init_56 : decode zb_M_init 56 = .ok (.newarray .boolean, 2) := by decide +kernel
theorem zd_M_init_58 : decode zb_M_init 58 = .ok (.putfield 29, 3) := by decide +kernel
theorem zd_M_init_61 : decode zb_M_init 61 = .ok (.aload_n 0, 1) := by decide +kernel
theorem zd_M_init_62 : decode zb_M_init 62 = .ok (.sipush 144, 3) := by decide +kernel
theorem zd_M_init_65 : decode zb_M_init 65 = .ok (.newarray .int, 2) := by decide +kernel
theorem zd_M_init_67 : decode zb_M_init 67 = .ok (.putfield 32, 3) := by decide +kernel
theorem zd_M_init_70 : decode zb_M_init 70 = .ok (.aload_n 0, 1) := by decide +kernel
theorem zd_M_init_71 : decode zb_M_init 71 = .ok (.bipush 12, 2) := by decide +kernel
theorem zd_M_init_73 : decode zb_M_init 73 = .ok (.newarray .int, 2) := by decide +kernel
theorem zd_M_init_75 : decode zb_M_init 75 = .ok (.putfield 35, 3) := by decide +kernel
theorem zd_M_init_78 : decode zb_M_init 78 = .ok (.aload_n 0, 1) := by decide +kernel
theorem zd_M_init_79 : decode zb_M_init 79 = .ok (.bipush 12, 2) := by decide +kernel
theorem zd_M_init_81 : decode zb_M_init 81 = .ok (.newarray .int, 2) := by decide +kernel
theorem zd_M_init_83 : decode zb_M_init 83 = .ok (.putfield 38, 3) := by decide +kernel
theorem zd_M_init_86 : decode zb_M_init 86 = .ok (.aload_n 0, 1) := by decide +kernel
theorem zd_M_init_87 : decode zb_M_init 87 = .ok (.bipush 12, 2) := by decide +kernel
theorem zd_M_init_89 : decode zb_M_init 89 = .ok (.newarray .int, 2) := by decide +kernel
theorem zd_M_init_91 : decode zb_M_init 91 = .ok (.putfield 41, 3) := by decide +kernel
theorem zd_M_init_94 : decode zb_M_init 94 = .ok (.aload_n 0, 1) := by decide +kernel
theorem zd_M_init_95 : decode zb_M_init 95 = .ok (.bipush 12, 2) := by decide +kernel
theorem zd_M_init_97 : decode zb_M_init 97 = .ok (.newarray .int, 2) := by decide +kernel
theorem zd_M_init_99 : decode zb_M_init 99 = .ok (.putfield 44, 3) := by decide +kernel
theorem zd_M_init_102 : decode zb_M_init 102 = .ok (.aload_n 0, 1) := by decide +kernel
theorem zd_M_init_103 : decode zb_M_init 103 = .ok (.bipush 12, 2) := by decide +kernel
theorem zd_M_init_105 : decode zb_M_init 105 = .ok (.newarray .boolean, 2) := by decide +kernel
theorem zd_M_init_107 : decode zb_M_init 107 = .ok (.putfield 47, 3) := by decide +kernel
theorem zd_M_init_110 : decode zb_M_init 110 = .ok (.aload_n 0, 1) := by decide +kernel
theorem zd_M_init_111 : decode zb_M_init 111 = .ok (.bipush 8, 2) := by decide +kernel
theorem zd_M_init_113 : decode zb_M_init 113 = .ok (.newarray .int, 2) := by decide +kernel
theorem zd_M_init_115 : decode zb_M_init 115 = .ok (.dup, 1) := by decide +kernel
theorem zd_M_init_116 : decode zb_M_init 116 = .ok (.iconst 0, 1) := by decide +kernel
theorem zd_M_init_117 : decode zb_M_init 117 = .ok (.iconst 1, 1) := by decide +kernel
theorem zd_M_init_118 : decode zb_M_init 118 = .ok (.iastore, 1) := by decide +kernel
theorem zd_M_init_119 : decode zb_M_init 119 = .ok (.dup, 1) := by decide +kernel
theorem zd_M_init_120 : decode zb_M_init 120 = .ok (.iconst 1, 1) := by decide +kernel
theorem zd_M_init_121 : decode zb_M_init 121 = .ok (.iconst 1, 1) := by decide +kernel
theorem zd_M_init_122 : decode zb_M_init 122 = .ok (.iastore, 1) := by decide +kernel
theorem zd_M_init_123 : decode zb_M_init 123 = .ok (.dup, 1) := by decide +kernel
theorem zd_M_init_124 : decode zb_M_init 124 = .ok (.iconst 2, 1) := by decide +kernel
theorem zd_M_init_125 : decode zb_M_init 125 = .ok (.iconst 1, 1) := by decide +kernel
theorem zd_M_init_126 : decode zb_M_init 126 = .ok (.iastore, 1) := by decide +kernel
theorem zd_M_init_127 : decode zb_M_init 127 = .ok (.dup, 1) := by decide +kernel
theorem zd_M_init_128 : decode zb_M_init 128 = .ok (.iconst 3, 1) := by decide +kernel
theorem zd_M_init_129 : decode zb_M_init 129 = .ok (.iconst 1, 1) := by decide +kernel
theorem zd_M_init_130 : decode zb_M_init 130 = .ok (.iastore, 1) := by decide +kernel
theorem zd_M_init_131 : decode zb_M_init 131 = .ok (.dup, 1) := by decide +kernel
theorem zd_M_init_132 : decode zb_M_init 132 = .ok (.iconst 4, 1) := by decide +kernel
theorem zd_M_init_133 : decode zb_M_init 133 = .ok (.iconst 1, 1) := by decide +kernel
theorem zd_M_init_134 : decode zb_M_init 134 = .ok (.iastore, 1) := by decide +kernel
theorem zd_M_init_135 : decode zb_M_init 135 = .ok (.dup, 1) := by decide +kernel
theorem zd_M_init_136 : decode zb_M_init 136 = .ok (.iconst 5, 1) := by decide +kernel
theorem zd_M_init_137 : decode zb_M_init 137 = .ok (.iconst 1, 1) := by decide +kernel
theorem zd_M_init_138 : decode zb_M_init 138 = .ok (.iastore, 1) := by decide +kernel
theorem zd_M_init_139 : decode zb_M_init 139 = .ok (.dup, 1) := by decide +kernel
theorem zd_M_init_140 : decode zb_M_init 140 = .ok (.bipush 6, 2) := by decide +kernel
theorem zd_M_init_142 : decode zb_M_init 142 = .ok (.iconst 1, 1) := by decide +kernel
theorem zd_M_init_143 : decode zb_M_init 143 = .ok (.iastore, 1) := by decide +kernel
theorem zd_M_init_144 : decode zb_M_init 144 = .ok (.dup, 1) := by decide +kernel
theorem zd_M_init_145 : decode zb_M_init 145 = .ok (.bipush 7, 2) := by decide +kernel
theorem zd_M_init_147 : decode zb_M_init 147 = .ok (.iconst 1, 1) := by decide +kernel
theorem zd_M_init_148 : decode zb_M_init 148 = .ok (.iastore, 1) := by decide +kernel
theorem zd_M_init_149 : decode zb_M_init 149 = .ok (.putfield 50, 3) := by decide +kernel
theorem zd_M_init_152 : decode zb_M_init 152 = .ok (.aload_n 0, 1) := by decide +kernel
theorem zd_M_init_153 : decode zb_M_init 153 = .ok (.bipush 6, 2) := by decide +kernel
theorem zd_M_init_155 : decode zb_M_init 155 = .ok (.putfield 53, 3) := by decide +kernel
theorem zd_M_init_158 : decode zb_M_init 158 = .ok (.aload_n 0, 1) := by decide +kernel
theorem zd_M_init_159 : decode zb_M_init 159 = .ok (.bipush 100, 2) := by decide +kernel
theorem zd_M_init_161 : decode zb_M_init 161 = .ok (.putfield 57, 3) := by decide +kernel
theorem zd_M_init_164 : decode zb_M_init 164 = .ok (.aload_n 0, 1) := by decide +kernel
theorem zd_M_init_165 : decode zb_M_init 165 = .ok (.bipush 12, 2) := by decide +kernel
theorem zd_M_init_167 : decode zb_M_init 167 = .ok (.newarray .int, 2) := by decide +kernel
theorem zd_M_init_169 : decode zb_M_init 169 = .ok (.putfield 60, 3) := by decide +kernel
theorem zd_M_init_172 : decode zb_M_init 172 = .ok (.aload_n 0, 1) := by decide +kernel
theorem zd_M_init_173 : decode zb_M_init 173 = .ok (.bipush 12, 2) := by decide +kernel
theorem zd_M_init_175 : decode zb_M_init 175 = .ok (.newarray .int, 2) := by decide +kernel
theorem zd_M_init_177 : decode zb_M_init 177 = .ok (.putfield 63, 3) := by decide +kernel
theorem zd_M_init_180 : decode zb_M_init 180 = .ok (.aload_n 0, 1) := by decide +kernel
theorem zd_M_init_181 : decode zb_M_init 181 = .ok (.sipush 144, 3) := by decide +kernel
theorem zd_M_init_184 : decode zb_M_init 184 = .ok (.newarray .int, 2) := by decide +kernel
theorem zd_M_init_186 : decode zb_M_init 186 = .ok (.putfield 66, 3) := by decide +kernel
theorem zd_M_init_189 : decode zb_M_init 189 = .ok (.aload_n 0, 1) := by decide +kernel
theorem zd_M_init_190 : decode zb_M_init 190 = .ok (.sipush 4096, 3) := by decide +kernel
theorem zd_M_init_193 : decode zb_M_init 193 = .ok (.newarray .long, 2) := by decide +kernel
theorem zd_M_init_195 : decode zb_M_init 195 = .ok (.putfield 69, 3) := by decide +kernel
theorem zd_M_init_198 : decode zb_M_init 198 = .ok (.aload_n 0, 1) := by decide +kernel
theorem zd_M_init_199 : decode zb_M_init 199 = .ok (.sipush 4096, 3) := by decide +kernel
theorem zd_M_init_202 : decode zb_M_init 202 = .ok (.newarray .long, 2) := by decide +kernel
theorem zd_M_init_204 : decode zb_M_init 204 = .ok (.putfield 73, 3) := by decide +kernel
theorem zd_M_init_207 : decode zb_M_init 207 = .ok (.iconst 0, 1) := by decide +kernel
theorem zd_M_init_208 : decode zb_M_init 208 = .ok (.istore_n 1, 1) := by decide +kernel
theorem zd_M_init_209 : decode zb_M_init 209 = .ok (.iload_n 1, 1) := by decide +kernel
theorem zd_M_init_210 : decode zb_M_init 210 = .ok (.sipush 144, 3) := by decide +kernel
theorem zd_M_init_213 : decode zb_M_init 213 = .ok (.if_icmp .ge 16, 3) := by decide +kernel
theorem zd_M_init_216 : decode zb_M_init 216 = .ok (.aload_n 0, 1) := by decide +kernel
theorem zd_M_init_217 : decode zb_M_init 217 = .ok (.getfield 32, 3) := by decide +kernel
theorem zd_M_init_220 : decode zb_M_init 220 = .ok (.iload_n 1, 1) := by decide +kernel
theorem zd_M_init_221 : decode zb_M_init 221 = .ok (.iconst (-1), 1) := by decide +kernel
theorem zd_M_init_222 : decode zb_M_init 222 = .ok (.iastore, 1) := by decide +kernel
theorem zd_M_init_223 : decode zb_M_init 223 = .ok (.iinc 1 1, 3) := by decide +kernel
theorem zd_M_init_226 : decode zb_M_init 226 = .ok (.goto (-17), 3) := by decide +kernel
theorem zd_M_init_229 : decode zb_M_init 229 = .ok (.return_, 1) := by decide +kernel
theorem zd_M_thrown_0 : decode zb_M_thrown 0 = .ok (.aload_n 0, 1) := by decide +kernel
theorem zd_M_thrown_1 : decode zb_M_thrown 1 = .ok (.getfield 76, 3) := by decide +kernel
theorem zd_M_thrown_4 : decode zb_M_thrown 4 = .ok (.ireturn, 1) := by decide +kernel
theorem zd_M_in_0 : decode zb_M_in 0 = .ok (.iload_n 0, 1) := by decide +kernel
theorem zd_M_in_1 : decode zb_M_in 1 = .ok (.iload_n 1, 1) := by decide +kernel
theorem zd_M_in_2 : decode zb_M_in 2 = .ok (.if_icmp .lt 12, 3) := by decide +kernel
theorem zd_M_in_5 : decode zb_M_in 5 = .ok (.iload_n 0, 1) := by decide +kernel
theorem zd_M_in_6 : decode zb_M_in 6 = .ok (.iload_n 2, 1) := by decide +kernel
theorem zd_M_in_7 : decode zb_M_in 7 = .ok (.if_icmp .gt 7, 3) := by decide +kernel
theorem zd_M_in_10 : decode zb_M_in 10 = .ok (.iconst 1, 1) := by decide +kernel
theorem zd_M_in_11 : decode zb_M_in 11 = .ok (.goto 4, 3) := by decide +kernel
theorem zd_M_in_14 : decode zb_M_in 14 = .ok (.iconst 0, 1) := by decide +kernel
theorem zd_M_in_15 : decode zb_M_in 15 = .ok (.ireturn, 1) := by decide +kernel
theorem zd_M_isUnit_0 : decode zb_M_isUnit 0 = .ok (.iload_n 1, 1) := by decide +kernel
theorem zd_M_isUnit_1 : decode zb_M_isUnit 1 = .ok (.iconst 0, 1) := by decide +kernel
theorem zd_M_isUnit_2 : decode zb_M_isUnit 2 = .ok (.aload_n 0, 1) := by decide +kernel
theorem zd_M_isUnit_3 : decode zb_M_isUnit 3 = .ok (.getfield 79, 3) := by decide +kernel
theorem zd_M_isUnit_6 : decode zb_M_isUnit 6 = .ok (.iconst 1, 1) := by decide +kernel
theorem zd_M_isUnit_7 : decode zb_M_isUnit 7 = .ok (.isub, 1) := by decide +kernel
theorem zd_M_isUnit_8 : decode zb_M_isUnit 8 = .ok (.invokestatic 82, 3) := by decide +kernel
theorem zd_M_isUnit_11 : decode zb_M_isUnit 11 = .ok (.ireturn, 1) := by decide +kernel
theorem zd_M_isPlace_0 : decode zb_M_isPlace 0 = .ok (.iload_n 1, 1) := by decide +kernel
theorem zd_M_isPlace_1 : decode zb_M_isPlace 1 = .ok (.iconst 0, 1) := by decide +kernel
theorem zd_M_isPlace_2 : decode zb_M_isPlace 2 = .ok (.aload_n 0, 1) := by decide +kernel
theorem zd_M_isPlace_3 : decode zb_M_isPlace 3 = .ok (.getfield 86, 3) := by decide +kernel
theorem zd_M_isPlace_6 : decode zb_M_isPlace 6 = .ok (.iconst 1, 1) := by decide +kernel
theorem zd_M_isPlace_7 : decode zb_M_isPlace 7 = .ok (.isub, 1) := by decide +kernel
theorem zd_M_isPlace_8 : decode zb_M_isPlace 8 = .ok (.invokestatic 82, 3) := by decide +kernel
theorem zd_M_isPlace_11 : decode zb_M_isPlace 11 = .ok (.ireturn, 1) := by decide +kernel
theorem zd_M_unit_0 : decode zb_M_unit 0 = .ok (.aload_n 0, 1) := by decide +kernel
theorem zd_M_unit_1 : decode zb_M_unit 1 = .ok (.iload_n 1, 1) := by decide +kernel
theorem zd_M_unit_2 : decode zb_M_unit 2 = .ok (.iconst 0, 1) := by decide +kernel
theorem zd_M_unit_3 : decode zb_M_unit 3 = .ok (.bipush 7, 2) := by decide +kernel
theorem zd_M_unit_5 : decode zb_M_unit 5 = .ok (.invokestatic 82, 3) := by decide +kernel
theorem zd_M_unit_8 : decode zb_M_unit 8 = .ok (.ifCond .eq 13, 3) := by decide +kernel
theorem zd_M_unit_11 : decode zb_M_unit 11 = .ok (.iload_n 2, 1) := by decide +kernel
theorem zd_M_unit_12 : decode zb_M_unit 12 = .ok (.iconst 1, 1) := by decide +kernel
theorem zd_M_unit_13 : decode zb_M_unit 13 = .ok (.bipush 100, 2) := by decide +kernel
theorem zd_M_unit_15 : decode zb_M_unit 15 = .ok (.invokestatic 82, 3) := by decide +kernel
theorem zd_M_unit_18 : decode zb_M_unit 18 = .ok (.ifCond .ne 7, 3) := by decide +kernel
theorem zd_M_unit_21 : decode zb_M_unit 21 = .ok (.iconst 1, 1) := by decide +kernel
theorem zd_M_unit_22 : decode zb_M_unit 22 = .ok (.goto 17, 3) := by decide +kernel
theorem zd_M_unit_25 : decode zb_M_unit 25 = .ok (.aload_n 0, 1) := by decide +kernel
theorem zd_M_unit_26 : decode zb_M_unit 26 = .ok (.getfield 79, 3) := by decide +kernel
theorem zd_M_unit_29 : decode zb_M_unit 29 = .ok (.bipush 12, 2) := by decide +kernel
theorem zd_M_unit_31 : decode zb_M_unit 31 = .ok (.if_icmp .ne 7, 3) := by decide +kernel
theorem zd_M_unit_34 : decode zb_M_unit 34 = .ok (.iconst 2, 1) := by decide +kernel
theorem zd_M_unit_35 : decode zb_M_unit 35 = .ok (.goto 4, 3) := by decide +kernel
theorem zd_M_unit_38 : decode zb_M_unit 38 = .ok (.iconst 0, 1) := by decide +kernel
theorem zd_M_unit_39 : decode zb_M_unit 39 = .ok (.putfield 76, 3) := by decide +kernel
theorem zd_M_unit_42 : decode zb_M_unit 42 = .ok (.aload_n 0, 1) := by decide +kernel
theorem zd_M_unit_43 : decode zb_M_unit 43 = .ok (.getfield 76, 3) := by decide +kernel
theorem zd_M_unit_46 : decode zb_M_unit 46 = .ok (.ifCond .le 5, 3) := by decide +kernel
theorem zd_M_unit_49 : decode zb_M_unit 49 = .ok (.iconst 0, 1) := by decide +kernel
theorem zd_M_unit_50 : decode zb_M_unit 50 = .ok (.ireturn, 1) := by decide +kernel
theorem zd_M_unit_51 : decode zb_M_unit 51 = .ok (.aload_n 0, 1) := by decide +kernel
theorem zd_M_unit_52 : decode zb_M_unit 52 = .ok (.getfield 7, 3) := by decide +kernel
theorem zd_M_unit_55 : decode zb_M_unit 55 = .ok (.aload_n 0, 1) := by decide +kernel
theorem zd_M_unit_56 : decode zb_M_unit 56 = .ok (.getfield 79, 3) := by decide +kernel
theorem zd_M_unit_59 : decode zb_M_unit 59 = .ok (.iload_n 1, 1) := by decide +kernel
theorem zd_M_unit_60 : decode zb_M_unit 60 = .ok (.iastore, 1) := by decide +kernel
theorem zd_M_unit_61 : decode zb_M_unit 61 = .ok (.aload_n 0, 1) := by decide +kernel
theorem zd_M_unit_62 : decode zb_M_unit 62 = .ok (.getfield 13, 3) := by decide +kernel
theorem zd_M_unit_65 : decode zb_M_unit 65 = .ok (.aload_n 0, 1) := by decide +kernel
theorem zd_M_unit_66 : decode zb_M_unit 66 = .ok (.getfield 79, 3) := by decide +kernel
theorem zd_M_unit_69 : decode zb_M_unit 69 = .ok (.iload_n 2, 1) := by decide +kernel
theorem zd_M_unit_70 : decode zb_M_unit 70 = .ok (.iastore, 1) := by decide +kernel
theorem zd_M_unit_71 : decode zb_M_unit 71 = .ok (.aload_n 0, 1) := by decide +kernel
theorem zd_M_unit_72 : decode zb_M_unit 72 = .ok (.getfield 16, 3) := by decide +kernel
theorem zd_M_unit_75 : decode zb_M_unit 75 = .ok (.aload_n 0, 1) := by decide +kernel
theorem zd_M_unit_76 : decode zb_M_unit 76 = .ok (.getfield 79, 3) := by decide +kernel
theorem zd_M_unit_79 : decode zb_M_unit 79 = .ok (.aload_n 0, 1) := by decide +kernel
theorem zd_M_unit_80 : decode zb_M_unit 80 = .ok (.getfield 79, 3) := by decide +kernel
theorem zd_M_unit_83 : decode zb_M_unit 83 = .ok (.iastore, 1) := by decide +kernel
theorem zd_M_unit_84 : decode zb_M_unit 84 = .ok (.aload_n 0, 1) := by decide +kernel
theorem zd_M_unit_85 : decode zb_M_unit 85 = .ok (.getfield 19, 3) := by decide +kernel
theorem zd_M_unit_88 : decode zb_M_unit 88 = .ok (.aload_n 0, 1) := by decide +kernel
theorem zd_M_unit_89 : decode zb_M_unit 89 = .ok (.getfield 79, 3) := by decide +kernel
theorem zd_M_unit_92 : decode zb_M_unit 92 = .ok (.iconst (-1), 1) := by decide +kernel
theorem zd_M_unit_93 : decode zb_M_unit 93 = .ok (.iastore, 1) := by decide +kernel
theorem zd_M_unit_94 : decode zb_M_unit 94 = .ok (.aload_n 0, 1) := by decide +kernel
theorem zd_M_unit_95 : decode zb_M_unit 95 = .ok (.getfield 22, 3) := by decide +kernel
theorem zd_M_unit_98 : decode zb_M_unit 98 = .ok (.aload_n 0, 1) := by decide +kernel
theorem zd_M_unit_99 : decode zb_M_unit 99 = .ok (.getfield 79, 3) := by decide +kernel
theorem zd_M_unit_102 : decode zb_M_unit 102 = .ok (.iconst (-1), 1) := by decide +kernel
theorem zd_M_unit_103 : decode zb_M_unit 103 = .ok (.iastore, 1) := by decide +kernel
theorem zd_M_unit_104 : decode zb_M_unit 104 = .ok (.aload_n 0, 1) := by decide +kernel
theorem zd_M_unit_105 : decode zb_M_unit 105 = .ok (.dup, 1) := by decide +kernel
theorem zd_M_unit_106 : decode zb_M_unit 106 = .ok (.getfield 79, 3) := by decide +kernel
theorem zd_M_unit_109 : decode zb_M_unit 109 = .ok (.iconst 1, 1) := by decide +kernel
theorem zd_M_unit_110 : decode zb_M_unit 110 = .ok (.iadd, 1) := by decide +kernel
theorem zd_M_unit_111 : decode zb_M_unit 111 = .ok (.putfield 79, 3) := by decide +kernel
theorem zd_M_unit_114 : decode zb_M_unit 114 = .ok (.aload_n 0, 1) := by decide +kernel
theorem zd_M_unit_115 : decode zb_M_unit 115 = .ok (.getfield 79, 3) := by decide +kernel
theorem zd_M_unit_118 : decode zb_M_unit 118 = .ok (.iconst 1, 1) := by decide +kernel
theorem zd_M_unit_119 : decode zb_M_unit 119 = .ok (.isub, 1) := by decide +kernel
theorem zd_M_unit_120 : decode zb_M_unit 120 = .ok (.ireturn, 1) := by decide +kernel
theorem zd_M_place_0 : decode zb_M_place 0 = .ok (.aload_n 0, 1) := by decide +kernel
theorem zd_M_place_1 : decode zb_M_place 1 = .ok (.iload_n 1, 1) := by decide +kernel
theorem zd_M_place_2 : decode zb_M_place 2 = .ok (.iconst 0, 1) := by decide +kernel
theorem zd_M_place_3 : decode zb_M_place 3 = .ok (.sipush 255, 3) := by decide +kernel
theorem zd_M_place_6 : decode zb_M_place 6 = .ok (.invokestatic 82, 3) := by decide +kernel
theorem zd_M_place_9 : decode zb_M_place 9 = .ok (.ifCond .eq 35, 3) := by decide +kernel
theorem zd_M_place_12 : decode zb_M_place 12 = .ok (.iload_n 2, 1) := by decide +kernel
theorem zd_M_place_13 : decode zb_M_place 13 = .ok (.iconst 0, 1) := by decide +kernel
theorem zd_M_place_14 : decode zb_M_place 14 = .ok (.iconst 3, 1) := by decide +kernel
theorem zd_M_place_15 : decode zb_M_place 15 = .ok (.invokestatic 82, 3) := by decide +kernel
theorem zd_M_place_18 : decode zb_M_place 18 = .ok (.ifCond .eq 26, 3) := by decide +kernel
theorem zd_M_place_21 : decode zb_M_place 21 = .ok (.iload_n 3, 1) := by decide +kernel
theorem zd_M_place_22 : decode zb_M_place 22 = .ok (.iconst 0, 1) := by decide +kernel
theorem zd_M_place_23 : decode zb_M_place 23 = .ok (.sipush 1000, 3) := by decide +kernel
theorem zd_M_place_26 : decode zb_M_place 26 = .ok (.invokestatic 82, 3) := by decide +kernel
theorem zd_M_place_29 : decode zb_M_place 29 = .ok (.ifCond .eq 15, 3) := by decide +kernel
theorem zd_M_place_32 : decode zb_M_place 32 = .ok (.iload 4, 2) := by decide +kernel
theorem zd_M_place_34 : decode zb_M_place 34 = .ok (.iconst 0, 1) := by decide +kernel
theorem zd_M_place_35 : decode zb_M_place 35 = .ok (.sipush 1000, 3) := by decide +kernel
theorem zd_M_place_38 : decode zb_M_place 38 = .ok (.invokestatic 82, 3) := by decide +kernel
theorem zd_M_place_41 : decode zb_M_place 41 = .ok (.ifCond .ne 7, 3) := by decide +kernel
theorem zd_M_place_44 : decode zb_M_place 44 = .ok (.iconst 1, 1) := by decide +kernel
theorem zd_M_place_45 : decode zb_M_place 45 = .ok (.goto 17, 3) := by decide +kernel
theorem zd_M_place_48 : decode zb_M_place 48 = .ok (.aload_n 0, 1) := by decide +kernel
theorem zd_M_place_49 : decode zb_M_place 49 = .ok (.getfield 86, 3) := by decide +kernel
theorem zd_M_place_52 : decode zb_M_place 52 = .ok (.bipush 12, 2) := by decide +kernel
theorem zd_M_place_54 : decode zb_M_place 54 = .ok (.if_icmp .ne 7, 3) := by decide +kernel
theorem zd_M_place_57 : decode zb_M_place 57 = .ok (.iconst 2, 1) := by decide +kernel
theorem zd_M_place_58 : decode zb_M_place 58 = .ok (.goto 4, 3) := by decide +kernel
theorem zd_M_place_61 : decode zb_M_place 61 = .ok (.iconst 0, 1) := by decide +kernel
theorem zd_M_place_62 : decode zb_M_place 62 = .ok (.putfield 76, 3) := by decide +kernel
theorem zd_M_place_65 : decode zb_M_place 65 = .ok (.aload_n 0, 1) := by decide +kernel
theorem zd_M_place_66 : decode zb_M_place 66 = .ok (.getfield 76, 3) := by decide +kernel
theorem zd_M_place_69 : decode zb_M_place 69 = .ok (.ifCond .le 5, 3) := by decide +kernel
theorem zd_M_place_72 : decode zb_M_place 72 = .ok (.iconst 0, 1) := by decide +kernel
theorem zd_M_place_73 : decode zb_M_place 73 = .ok (.ireturn, 1) := by decide +kernel
theorem zd_M_place_74 : decode zb_M_place 74 = .ok (.aload_n 0, 1) := by decide +kernel
theorem zd_M_place_75 : decode zb_M_place 75 = .ok (.getfield 35, 3) := by decide +kernel
theorem zd_M_place_78 : decode zb_M_place 78 = .ok (.aload_n 0, 1) := by decide +kernel
theorem zd_M_place_79 : decode zb_M_place 79 = .ok (.getfield 86, 3) := by decide +kernel
theorem zd_M_place_82 : decode zb_M_place 82 = .ok (.iload_n 1, 1) := by decide +kernel
theorem zd_M_place_83 : decode zb_M_place 83 = .ok (.iastore, 1) := by decide +kernel
theorem zd_M_place_84 : decode zb_M_place 84 = .ok (.aload_n 0, 1) := by decide +kernel
theorem zd_M_place_85 : decode zb_M_place 85 = .ok (.getfield 38, 3) := by decide +kernel
theorem zd_M_place_88 : decode zb_M_place 88 = .ok (.aload_n 0, 1) := by decide +kernel
theorem zd_M_place_89 : decode zb_M_place 89 = .ok (.getfield 86, 3) := by decide +kernel
theorem zd_M_place_92 : decode zb_M_place 92 = .ok (.iload_n 2, 1) := by decide +kernel
theorem zd_M_place_93 : decode zb_M_place 93 = .ok (.iastore, 1) := by decide +kernel
theorem zd_M_place_94 : decode zb_M_place 94 = .ok (.aload_n 0, 1) := by decide +kernel
theorem zd_M_place_95 : decode zb_M_place 95 = .ok (.getfield 41, 3) := by decide +kernel
theorem zd_M_place_98 : decode zb_M_place 98 = .ok (.aload_n 0, 1) := by decide +kernel
theorem zd_M_place_99 : decode zb_M_place 99 = .ok (.getfield 86, 3) := by decide +kernel
theorem zd_M_place_102 : decode zb_M_place 102 = .ok (.iload_n 3, 1) := by decide +kernel
theorem zd_M_place_103 : decode zb_M_place 103 = .ok (.iastore, 1) := by decide +kernel
theorem zd_M_place_104 : decode zb_M_place 104 = .ok (.aload_n 0, 1) := by decide +kernel
theorem zd_M_place_105 : decode zb_M_place 105 = .ok (.getfield 44, 3) := by decide +kernel
theorem zd_M_place_108 : decode zb_M_place 108 = .ok (.aload_n 0, 1) := by decide +kernel
theorem zd_M_place_109 : decode zb_M_place 109 = .ok (.getfield 86, 3) := by decide +kernel
theorem zd_M_place_112 : decode zb_M_place 112 = .ok (.iload 4, 2) := by decide +kernel
theorem zd_M_place_114 : decode zb_M_place 114 = .ok (.iastore, 1) := by decide +kernel
theorem zd_M_place_115 : decode zb_M_place 115 = .ok (.aload_n 0, 1) := by decide +kernel
theorem zd_M_place_116 : decode zb_M_place 116 = .ok (.dup, 1) := by decide +kernel
theorem zd_M_place_117 : decode zb_M_place 117 = .ok (.getfield 86, 3) := by decide +kernel
theorem zd_M_place_120 : decode zb_M_place 120 = .ok (.iconst 1, 1) := by decide +kernel
theorem zd_M_place_121 : decode zb_M_place 121 = .ok (.iadd, 1) := by decide +kernel
theorem zd_M_place_122 : decode zb_M_place 122 = .ok (.putfield 86, 3) := by decide +kernel
theorem zd_M_place_125 : decode zb_M_place 125 = .ok (.aload_n 0, 1) := by decide +kernel
theorem zd_M_place_126 : decode zb_M_place 126 = .ok (.getfield 86, 3) := by decide +kernel
theorem zd_M_place_129 : decode zb_M_place 129 = .ok (.iconst 1, 1) := by decide +kernel
theorem zd_M_place_130 : decode zb_M_place 130 = .ok (.isub, 1) := by decide +kernel
theorem zd_M_place_131 : decode zb_M_place 131 = .ok (.ireturn, 1) := by decide +kernel
theorem zd_M_weight_0 : decode zb_M_weight 0 = .ok (.aload_n 0, 1) := by decide +kernel
theorem zd_M_weight_1 : decode zb_M_weight 1 = .ok (.iload_n 1, 1) := by decide +kernel
theorem zd_M_weight_2 : decode zb_M_weight 2 = .ok (.iconst 0, 1) := by decide +kernel
theorem zd_M_weight_3 : decode zb_M_weight 3 = .ok (.bipush 7, 2) := by decide +kernel
theorem zd_M_weight_5 : decode zb_M_weight 5 = .ok (.invokestatic 82, 3) := by decide +kernel
theorem zd_M_weight_8 : decode zb_M_weight 8 = .ok (.ifCond .eq 17, 3) := by decide +kernel
theorem zd_M_weight_11 : decode zb_M_weight 11 = .ok (.iload_n 2, 1) := by decide +kernel
theorem zd_M_weight_12 : decode zb_M_weight 12 = .ok (.iconst 0, 1) := by decide +kernel
theorem zd_M_weight_13 : decode zb_M_weight 13 = .ok (.bipush 100, 2) := by decide +kernel
theorem zd_M_weight_15 : decode zb_M_weight 15 = .ok (.invokestatic 82, 3) := by decide +kernel
theorem zd_M_weight_18 : decode zb_M_weight 18 = .ok (.ifCond .eq 7, 3) := by decide +kernel
theorem zd_M_weight_21 : decode zb_M_weight 21 = .ok (.iconst 0, 1) := by decide +kernel
theorem zd_M_weight_22 : decode zb_M_weight 22 = .ok (.goto 4, 3) := by decide +kernel
theorem zd_M_weight_25 : decode zb_M_weight 25 = .ok (.iconst 1, 1) := by decide +kernel
theorem zd_M_weight_26 : decode zb_M_weight 26 = .ok (.putfield 76, 3) := by decide +kernel
theorem zd_M_weight_29 : decode zb_M_weight 29 = .ok (.aload_n 0, 1) := by decide +kernel
theorem zd_M_weight_30 : decode zb_M_weight 30 = .ok (.getfield 76, 3) := by decide +kernel
theorem zd_M_weight_33 : decode zb_M_weight 33 = .ok (.ifCond .ne 10, 3) := by decide +kernel
theorem zd_M_weight_36 : decode zb_M_weight 36 = .ok (.aload_n 0, 1) := by decide +kernel
theorem zd_M_weight_37 : decode zb_M_weight 37 = .ok (.getfield 50, 3) := by decide +kernel
theorem zd_M_weight_40 : decode zb_M_weight 40 = .ok (.iload_n 1, 1) := by decide +kernel
theorem zd_M_weight_41 : decode zb_M_weight 41 = .ok (.iload_n 2, 1) := by decide +kernel
theorem zd_M_weight_42 : decode zb_M_weight 42 = .ok (.iastore, 1) := by decide +kernel
theorem zd_M_weight_43 : decode zb_M_weight 43 = .ok (.return_, 1) := by decide +kernel
theorem zd_M_fits_0 : decode zb_M_fits 0 = .ok (.aload_n 0, 1) := by decide +kernel
theorem zd_M_fits_1 : decode zb_M_fits 1 = .ok (.aload_n 0, 1) := by decide +kernel
theorem zd_M_fits_2 : decode zb_M_fits 2 = .ok (.iload_n 1, 1) := by decide +kernel
theorem zd_M_fits_3 : decode zb_M_fits 3 = .ok (.invokevirtual 89, 3) := by decide +kernel
theorem zd_M_fits_6 : decode zb_M_fits 6 = .ok (.ifCond .eq 15, 3) := by decide +kernel
theorem zd_M_fits_9 : decode zb_M_fits 9 = .ok (.aload_n 0, 1) := by decide +kernel
theorem zd_M_fits_10 : decode zb_M_fits 10 = .ok (.iload_n 2, 1) := by decide +kernel
theorem zd_M_fits_11 : decode zb_M_fits 11 = .ok (.invokevirtual 93, 3) := by decide +kernel
theorem zd_M_fits_14 : decode zb_M_fits 14 = .ok (.ifCond .eq 7, 3) := by decide +kernel
theorem zd_M_fits_17 : decode zb_M_fits 17 = .ok (.iconst 0, 1) := by decide +kernel
theorem zd_M_fits_18 : decode zb_M_fits 18 = .ok (.goto 4, 3) := by decide +kernel
theorem zd_M_fits_21 : decode zb_M_fits 21 = .ok (.iconst 1, 1) := by decide +kernel
theorem zd_M_fits_22 : decode zb_M_fits 22 = .ok (.putfield 76, 3) := by decide +kernel
theorem zd_M_fits_25 : decode zb_M_fits 25 = .ok (.aload_n 0, 1) := by decide +kernel
theorem zd_M_fits_26 : decode zb_M_fits 26 = .ok (.getfield 76, 3) := by decide +kernel
theorem zd_M_fits_29 : decode zb_M_fits 29 = .ok (.ifCond .ne 23, 3) := by decide +kernel
theorem zd_M_fits_32 : decode zb_M_fits 32 = .ok (.aload_n 0, 1) := by decide +kernel
theorem zd_M_fits_33 : decode zb_M_fits 33 = .ok (.getfield 29, 3) := by decide +kernel
theorem zd_M_fits_36 : decode zb_M_fits 36 = .ok (.bipush 12, 2) := by decide +kernel
theorem zd_M_fits_38 : decode zb_M_fits 38 = .ok (.iload_n 1, 1) := by decide +kernel
theorem zd_M_fits_39 : decode zb_M_fits 39 = .ok (.imul, 1) := by decide +kernel
theorem zd_M_fits_40 : decode zb_M_fits 40 = .ok (.iload_n 2, 1) := by decide +kernel
theorem zd_M_fits_41 : decode zb_M_fits 41 = .ok (.iadd, 1) := by decide +kernel
theorem zd_M_fits_42 : decode zb_M_fits 42 = .ok (.iload_n 3, 1) := by decide +kernel
theorem zd_M_fits_43 : decode zb_M_fits 43 = .ok (.ifCond .ne 7, 3) := by decide +kernel
theorem zd_M_fits_46 : decode zb_M_fits 46 = .ok (.iconst 1, 1) := by decide +kernel
theorem zd_M_fits_47 : decode zb_M_fits 47 = .ok (.goto 4, 3) := by decide +kernel
theorem zd_M_fits_50 : decode zb_M_fits 50 = .ok (.iconst 0, 1) := by decide +kernel
theorem zd_M_fits_51 : decode zb_M_fits 51 = .ok (.bastore, 1) := by decide +kernel
theorem zd_M_fits_52 : decode zb_M_fits 52 = .ok (.return_, 1) := by decide +kernel
theorem zd_M_cost_0 : decode zb_M_cost 0 = .ok (.aload_n 0, 1) := by decide +kernel
theorem zd_M_cost_1 : decode zb_M_cost 1 = .ok (.aload_n 0, 1) := by decide +kernel
theorem zd_M_cost_2 : decode zb_M_cost 2 = .ok (.iload_n 1, 1) := by decide +kernel
theorem zd_M_cost_3 : decode zb_M_cost 3 = .ok (.invokevirtual 89, 3) := by decide +kernel
theorem zd_M_cost_6 : decode zb_M_cost 6 = .ok (.ifCond .eq 11, 3) := by decide +kernel
theorem zd_M_cost_9 : decode zb_M_cost 9 = .ok (.aload_n 0, 1) := by decide +kernel
theorem zd_M_cost_10 : decode zb_M_cost 10 = .ok (.iload_n 2, 1) := by decide +kernel
theorem zd_M_cost_11 : decode zb_M_cost 11 = .ok (.invokevirtual 93, 3) := by decide +kernel
theorem zd_M_cost_14 : decode zb_M_cost 14 = .ok (.ifCond .ne 7, 3) := by decide +kernel
theorem zd_M_cost_17 : decode zb_M_cost 17 = .ok (.iconst 1, 1) := by decide +kernel
theorem zd_M_cost_18 : decode zb_M_cost 18 = .ok (.goto 14, 3) := by decide +kernel
theorem zd_M_cost_21 : decode zb_M_cost 21 = .ok (.iload_n 3, 1) := by decide +kernel
theorem zd_M_cost_22 : decode zb_M_cost 22 = .ok (.ldc 96, 2) := by decide +kernel
theorem zd_M_cost_24 : decode zb_M_cost 24 = .ok (.if_icmp .le 7, 3) := by decide +kernel
theorem zd_M_cost_27 : decode zb_M_cost 27 = .ok (.iconst 2, 1) := by decide +kernel
theorem zd_M_cost_28 : decode zb_M_cost 28 = .ok (.goto 4, 3) := by decide +kernel
theorem zd_M_cost_31 : decode zb_M_cost 31 = .ok (.iconst 0, 1) := by decide +kernel
theorem zd_M_cost_32 : decode zb_M_cost 32 = .ok (.putfield 76, 3) := by decide +kernel
theorem zd_M_cost_35 : decode zb_M_cost 35 = .ok (.aload_n 0, 1) := by decide +kernel
theorem zd_M_cost_36 : decode zb_M_cost 36 = .ok (.getfield 76, 3) := by decide +kernel
theorem zd_M_cost_39 : decode zb_M_cost 39 = .ok (.ifCond .ne 23, 3) := by decide +kernel
theorem zd_M_cost_42 : decode zb_M_cost 42 = .ok (.aload_n 0, 1) := by decide +kernel
theorem zd_M_cost_43 : decode zb_M_cost 43 = .ok (.getfield 32, 3) := by decide +kernel
theorem zd_M_cost_46 : decode zb_M_cost 46 = .ok (.bipush 12, 2) := by decide +kernel
theorem zd_M_cost_48 : decode zb_M_cost 48 = .ok (.iload_n 1, 1) := by decide +kernel
theorem zd_M_cost_49 : decode zb_M_cost 49 = .ok (.imul, 1) := by decide +kernel
theorem zd_M_cost_50 : decode zb_M_cost 50 = .ok (.iload_n 2, 1) := by decide +kernel
theorem zd_M_cost_51 : decode zb_M_cost 51 = .ok (.iadd, 1) := by decide +kernel
theorem zd_M_cost_52 : decode zb_M_cost 52 = .ok (.iload_n 3, 1) := by decide +kernel
theorem zd_M_cost_53 : decode zb_M_cost 53 = .ok (.ifCond .ge 7, 3) := by decide +kernel
theorem zd_M_cost_56 : decode zb_M_cost 56 = .ok (.iconst (-1), 1) := by decide +kernel
theorem zd_M_cost_57 : decode zb_M_cost 57 = .ok (.goto 4, 3) := by decide +kernel
theorem zd_M_cost_60 : decode zb_M_cost 60 = .ok (.iload_n 3, 1) := by decide +kernel
theorem zd_M_cost_61 : decode zb_M_cost 61 = .ok (.iastore, 1) := by decide +kernel
theorem zd_M_cost_62 : decode zb_M_cost 62 = .ok (.return_, 1) := by decide +kernel
theorem zd_M_together_0 : decode zb_M_together 0 = .ok (.aload_n 0, 1) := by decide +kernel
theorem zd_M_together_1 : decode zb_M_together 1 = .ok (.aload_n 0, 1) := by decide +kernel
theorem zd_M_together_2 : decode zb_M_together 2 = .ok (.iload_n 1, 1) := by decide +kernel
theorem zd_M_together_3 : decode zb_M_together 3 = .ok (.invokevirtual 89, 3) := by decide +kernel
theorem zd_M_together_6 : decode zb_M_together 6 = .ok (.ifCond .eq 11, 3) := by decide +kernel
theorem zd_M_together_9 : decode zb_M_together 9 = .ok (.aload_n 0, 1) := by decide +kernel
theorem zd_M_together_10 : decode zb_M_together 10 = .ok (.iload_n 2, 1) := by decide +kernel
theorem zd_M_together_11 : decode zb_M_together 11 = .ok (.invokevirtual 89, 3) := by decide +kernel
theorem zd_M_together_14 : decode zb_M_together 14 = .ok (.ifCond .ne 7, 3) := by decide +kernel
theorem zd_M_together_17 : decode zb_M_together 17 = .ok (.iconst 1, 1) := by decide +kernel
theorem zd_M_together_18 : decode zb_M_together 18 = .ok (.goto 4, 3) := by decide +kernel
theorem zd_M_together_21 : decode zb_M_together 21 = .ok (.iconst 0, 1) := by decide +kernel
theorem zd_M_together_22 : decode zb_M_together 22 = .ok (.putfield 76, 3) := by decide +kernel
theorem zd_M_together_25 : decode zb_M_together 25 = .ok (.aload_n 0, 1) := by decide +kernel
theorem zd_M_together_26 : decode zb_M_together 26 = .ok (.getfield 76, 3) := by decide +kernel
theorem zd_M_together_29 : decode zb_M_together 29 = .ok (.ifCond .ne 41, 3) := by decide +kernel
theorem zd_M_together_32 : decode zb_M_together 32 = .ok (.aload_n 0, 1) := by decide +kernel
theorem zd_M_together_33 : decode zb_M_together 33 = .ok (.getfield 25, 3) := by decide +kernel
theorem zd_M_together_36 : decode zb_M_together 36 = .ok (.iload_n 1, 1) := by decide +kernel
theorem zd_M_together_37 : decode zb_M_together 37 = .ok (.baload, 1) := by decide +kernel
theorem zd_M_together_38 : decode zb_M_together 38 = .ok (.ifCond .ne 27, 3) := by decide +kernel
theorem zd_M_together_41 : decode zb_M_together 41 = .ok (.aload_n 0, 1) := by decide +kernel
theorem zd_M_together_42 : decode zb_M_together 42 = .ok (.getfield 25, 3) := by decide +kernel
theorem zd_M_together_45 : decode zb_M_together 45 = .ok (.iload_n 2, 1) := by decide +kernel
theorem zd_M_together_46 : decode zb_M_together 46 = .ok (.baload, 1) := by decide +kernel
theorem zd_M_together_47 : decode zb_M_together 47 = .ok (.ifCond .ne 18, 3) := by decide +kernel
theorem zd_M_together_50 : decode zb_M_together 50 = .ok (.aload_n 0, 1) := by decide +kernel
theorem zd_M_together_51 : decode zb_M_together 51 = .ok (.getfield 16, 3) := by decide +kernel
theorem zd_M_together_54 : decode zb_M_together 54 = .ok (.iload_n 1, 1) := by decide +kernel
theorem zd_M_together_55 : decode zb_M_together 55 = .ok (.iaload, 1) := by decide +kernel
theorem zd_M_together_56 : decode zb_M_together 56 = .ok (.aload_n 0, 1) := by decide +kernel
theorem zd_M_together_57 : decode zb_M_together 57 = .ok (.getfield 16, 3) := by decide +kernel
theorem zd_M_together_60 : decode zb_M_together 60 = .ok (.iload_n 2, 1) := by decide +kernel
theorem zd_M_together_61 : decode zb_M_together 61 = .ok (.iaload, 1) := by decide +kernel
theorem zd_M_together_62 : decode zb_M_together 62 = .ok (.if_icmp .ne 8, 3) := by decide +kernel
theorem zd_M_together_65 : decode zb_M_together 65 = .ok (.aload_n 0, 1) := by decide +kernel
theorem zd_M_together_66 : decode zb_M_together 66 = .ok (.iconst 2, 1) := by decide +kernel
theorem zd_M_together_67 : decode zb_M_together 67 = .ok (.putfield 76, 3) := by decide +kernel
theorem zd_M_together_70 : decode zb_M_together 70 = .ok (.aload_n 0, 1) := by decide +kernel
theorem zd_M_together_71 : decode zb_M_together 71 = .ok (.getfield 76, 3) := by decide +kernel
theorem zd_M_together_74 : decode zb_M_together 74 = .ok (.ifCond .le 5, 3) := by decide +kernel
theorem zd_M_together_77 : decode zb_M_together 77 = .ok (.iconst 0, 1) := by decide +kernel
theorem zd_M_together_78 : decode zb_M_together 78 = .ok (.ireturn, 1) := by decide +kernel
theorem zd_M_together_79 : decode zb_M_together 79 = .ok (.aload_n 0, 1) := by decide +kernel
theorem zd_M_together_80 : decode zb_M_together 80 = .ok (.getfield 16, 3) := by decide +kernel
theorem zd_M_together_83 : decode zb_M_together 83 = .ok (.iload_n 1, 1) := by decide +kernel
theorem zd_M_together_84 : decode zb_M_together 84 = .ok (.iaload, 1) := by decide +kernel
theorem zd_M_together_85 : decode zb_M_together 85 = .ok (.aload_n 0, 1) := by decide +kernel
theorem zd_M_together_86 : decode zb_M_together 86 = .ok (.getfield 16, 3) := by decide +kernel
theorem zd_M_together_89 : decode zb_M_together 89 = .ok (.iload_n 2, 1) := by decide +kernel
theorem zd_M_together_90 : decode zb_M_together 90 = .ok (.iaload, 1) := by decide +kernel
theorem zd_M_together_91 : decode zb_M_together 91 = .ok (.if_icmp .ge 12, 3) := by decide +kernel
theorem zd_M_together_94 : decode zb_M_together 94 = .ok (.aload_n 0, 1) := by decide +kernel
theorem zd_M_together_95 : decode zb_M_together 95 = .ok (.getfield 16, 3) := by decide +kernel
theorem zd_M_together_98 : decode zb_M_together 98 = .ok (.iload_n 1, 1) := by decide +kernel
theorem zd_M_together_99 : decode zb_M_together 99 = .ok (.iaload, 1) := by decide +kernel
theorem zd_M_together_100 : decode zb_M_together 100 = .ok (.goto 9, 3) := by decide +kernel
theorem zd_M_together_103 : decode zb_M_together 103 = .ok (.aload_n 0, 1) := by decide +kernel
theorem zd_M_together_104 : decode zb_M_together 104 = .ok (.getfield 16, 3) := by decide +kernel
theorem zd_M_together_107 : decode zb_M_together 107 = .ok (.iload_n 2, 1) := by decide +kernel
theorem zd_M_together_108 : decode zb_M_together 108 = .ok (.iaload, 1) := by decide +kernel
theorem zd_M_together_109 : decode zb_M_together 109 = .ok (.istore_n 3, 1) := by decide +kernel
theorem zd_M_together_110 : decode zb_M_together 110 = .ok (.aload_n 0, 1) := by decide +kernel
theorem zd_M_together_111 : decode zb_M_together 111 = .ok (.getfield 16, 3) := by decide +kernel
theorem zd_M_together_114 : decode zb_M_together 114 = .ok (.iload_n 1, 1) := by decide +kernel
theorem zd_M_together_115 : decode zb_M_together 115 = .ok (.iaload, 1) := by decide +kernel
theorem zd_M_together_116 : decode zb_M_together 116 = .ok (.aload_n 0, 1) := by decide +kernel
theorem zd_M_together_117 : decode zb_M_together 117 = .ok (.getfield 16, 3) := by decide +kernel
theorem zd_M_together_120 : decode zb_M_together 120 = .ok (.iload_n 2, 1) := by decide +kernel
theorem zd_M_together_121 : decode zb_M_together 121 = .ok (.iaload, 1) := by decide +kernel
theorem zd_M_together_122 : decode zb_M_together 122 = .ok (.iadd, 1) := by decide +kernel
theorem zd_M_together_123 : decode zb_M_together 123 = .ok (.iload_n 3, 1) := by decide +kernel
theorem zd_M_together_124 : decode zb_M_together 124 = .ok (.isub, 1) := by decide +kernel
theorem zd_M_together_125 : decode zb_M_together 125 = .ok (.istore 4, 2) := by decide +kernel
theorem zd_M_together_127 : decode zb_M_together 127 = .ok (.iconst 0, 1) := by decide +kernel
theorem zd_M_together_128 : decode zb_M_together 128 = .ok (.istore 5, 2) := by decide +kernel
theorem zd_M_together_130 : decode zb_M_together 130 = .ok (.iconst 0, 1) := by decide +kernel
theorem zd_M_together_131 : decode zb_M_together 131 = .ok (.istore 6, 2) := by decide +kernel
theorem zd_M_together_133 : decode zb_M_together 133 = .ok (.iload 6, 2) := by decide +kernel
theorem zd_M_together_135 : decode zb_M_together 135 = .ok (.aload_n 0, 1) := by decide +kernel
theorem zd_M_together_136 : decode zb_M_together 136 = .ok (.getfield 79, 3) := by decide +kernel
theorem zd_M_together_139 : decode zb_M_together 139 = .ok (.if_icmp .ge 54, 3) := by decide +kernel
theorem zd_M_together_142 : decode zb_M_together 142 = .ok (.aload_n 0, 1) := by decide +kernel
theorem zd_M_together_143 : decode zb_M_together 143 = .ok (.getfield 16, 3) := by decide +kernel
theorem zd_M_together_146 : decode zb_M_together 146 = .ok (.iload 6, 2) := by decide +kernel
theorem zd_M_together_148 : decode zb_M_together 148 = .ok (.iaload, 1) := by decide +kernel
theorem zd_M_together_149 : decode zb_M_together 149 = .ok (.iload_n 3, 1) := by decide +kernel
theorem zd_M_together_150 : decode zb_M_together 150 = .ok (.if_icmp .eq 18, 3) := by decide +kernel
theorem zd_M_together_153 : decode zb_M_together 153 = .ok (.aload_n 0, 1) := by decide +kernel
theorem zd_M_together_154 : decode zb_M_together 154 = .ok (.getfield 16, 3) := by decide +kernel
theorem zd_M_together_157 : decode zb_M_together 157 = .ok (.iload 6, 2) := by decide +kernel
theorem zd_M_together_159 : decode zb_M_together 159 = .ok (.iaload, 1) := by decide +kernel
theorem zd_M_together_160 : decode zb_M_together 160 = .ok (.iload 4, 2) := by decide +kernel
theorem zd_M_together_162 : decode zb_M_together 162 = .ok (.if_icmp .eq 6, 3) := by decide +kernel
theorem zd_M_together_165 : decode zb_M_together 165 = .ok (.goto 22, 3) := by decide +kernel
theorem zd_M_together_168 : decode zb_M_together 168 = .ok (.aload_n 0, 1) := by decide +kernel
theorem zd_M_together_169 : decode zb_M_together 169 = .ok (.getfield 16, 3) := by decide +kernel
theorem zd_M_together_172 : decode zb_M_together 172 = .ok (.iload 6, 2) := by decide +kernel
theorem zd_M_together_174 : decode zb_M_together 174 = .ok (.iload_n 3, 1) := by decide +kernel
theorem zd_M_together_175 : decode zb_M_together 175 = .ok (.iastore, 1) := by decide +kernel
theorem zd_M_together_176 : decode zb_M_together 176 = .ok (.aload_n 0, 1) := by decide +kernel
theorem zd_M_together_177 : decode zb_M_together 177 = .ok (.getfield 22, 3) := by decide +kernel
theorem zd_M_together_180 : decode zb_M_together 180 = .ok (.iload 6, 2) := by decide +kernel
theorem zd_M_together_182 : decode zb_M_together 182 = .ok (.iconst (-1), 1) := by decide +kernel
theorem zd_M_together_183 : decode zb_M_together 183 = .ok (.iastore, 1) := by decide +kernel
theorem zd_M_together_184 : decode zb_M_together 184 = .ok (.iinc 5 1, 3) := by decide +kernel
theorem zd_M_together_187 : decode zb_M_together 187 = .ok (.iinc 6 1, 3) := by decide +kernel
theorem zd_M_together_190 : decode zb_M_together 190 = .ok (.goto (-57), 3) := by decide +kernel
theorem zd_M_together_193 : decode zb_M_together 193 = .ok (.iload 5, 2) := by decide +kernel
theorem zd_M_together_195 : decode zb_M_together 195 = .ok (.ireturn, 1) := by decide +kernel
theorem zd_M_fix_0 : decode zb_M_fix 0 = .ok (.aload_n 0, 1) := by decide +kernel
theorem zd_M_fix_1 : decode zb_M_fix 1 = .ok (.aload_n 0, 1) := by decide +kernel
theorem zd_M_fix_2 : decode zb_M_fix 2 = .ok (.iload_n 1, 1) := by decide +kernel
theorem zd_M_fix_3 : decode zb_M_fix 3 = .ok (.invokevirtual 89, 3) := by decide +kernel
theorem zd_M_fix_6 : decode zb_M_fix 6 = .ok (.ifCond .eq 16, 3) := by decide +kernel
theorem zd_M_fix_9 : decode zb_M_fix 9 = .ok (.iload_n 2, 1) := by decide +kernel
theorem zd_M_fix_10 : decode zb_M_fix 10 = .ok (.iconst (-1), 1) := by decide +kernel
theorem zd_M_fix_11 : decode zb_M_fix 11 = .ok (.if_icmp .eq 15, 3) := by decide +kernel
theorem zd_M_fix_14 : decode zb_M_fix 14 = .ok (.aload_n 0, 1) := by decide +kernel
theorem zd_M_fix_15 : decode zb_M_fix 15 = .ok (.iload_n 2, 1) := by decide +kernel
theorem zd_M_fix_16 : decode zb_M_fix 16 = .ok (.invokevirtual 93, 3) := by decide +kernel
theorem zd_M_fix_19 : decode zb_M_fix 19 = .ok (.ifCond .ne 7, 3) := by decide +kernel
theorem zd_M_fix_22 : decode zb_M_fix 22 = .ok (.iconst 1, 1) := by decide +kernel
theorem zd_M_fix_23 : decode zb_M_fix 23 = .ok (.goto 4, 3) := by decide +kernel
theorem zd_M_fix_26 : decode zb_M_fix 26 = .ok (.iconst 0, 1) := by decide +kernel
theorem zd_M_fix_27 : decode zb_M_fix 27 = .ok (.putfield 76, 3) := by decide +kernel
theorem zd_M_fix_30 : decode zb_M_fix 30 = .ok (.aload_n 0, 1) := by decide +kernel
theorem zd_M_fix_31 : decode zb_M_fix 31 = .ok (.getfield 76, 3) := by decide +kernel
theorem zd_M_fix_34 : decode zb_M_fix 34 = .ok (.ifCond .ne 21, 3) := by decide +kernel
theorem zd_M_fix_37 : decode zb_M_fix 37 = .ok (.aload_n 0, 1) := by decide +kernel
theorem zd_M_fix_38 : decode zb_M_fix 38 = .ok (.aload_n 0, 1) := by decide +kernel
theorem zd_M_fix_39 : decode zb_M_fix 39 = .ok (.getfield 25, 3) := by decide +kernel
theorem zd_M_fix_42 : decode zb_M_fix 42 = .ok (.iload_n 1, 1) := by decide +kernel
theorem zd_M_fix_43 : decode zb_M_fix 43 = .ok (.baload, 1) := by decide +kernel
theorem zd_M_fix_44 : decode zb_M_fix 44 = .ok (.ifCond .eq 7, 3) := by decide +kernel
theorem zd_M_fix_47 : decode zb_M_fix 47 = .ok (.iconst 2, 1) := by decide +kernel
theorem zd_M_fix_48 : decode zb_M_fix 48 = .ok (.goto 4, 3) := by decide +kernel
theorem zd_M_fix_51 : decode zb_M_fix 51 = .ok (.iconst 0, 1) := by decide +kernel
theorem zd_M_fix_52 : decode zb_M_fix 52 = .ok (.putfield 76, 3) := by decide +kernel
theorem zd_M_fix_55 : decode zb_M_fix 55 = .ok (.aload_n 0, 1) := by decide +kernel
theorem zd_M_fix_56 : decode zb_M_fix 56 = .ok (.getfield 76, 3) := by decide +kernel
theorem zd_M_fix_59 : decode zb_M_fix 59 = .ok (.ifCond .ne 10, 3) := by decide +kernel
theorem zd_M_fix_62 : decode zb_M_fix 62 = .ok (.aload_n 0, 1) := by decide +kernel
theorem zd_M_fix_63 : decode zb_M_fix 63 = .ok (.getfield 19, 3) := by decide +kernel
theorem zd_M_fix_66 : decode zb_M_fix 66 = .ok (.iload_n 1, 1) := by decide +kernel
theorem zd_M_fix_67 : decode zb_M_fix 67 = .ok (.iload_n 2, 1) := by decide +kernel
theorem zd_M_fix_68 : decode zb_M_fix 68 = .ok (.iastore, 1) := by decide +kernel
theorem zd_M_fix_69 : decode zb_M_fix 69 = .ok (.return_, 1) := by decide +kernel
theorem zd_M_limits_0 : decode zb_M_limits 0 = .ok (.aload_n 0, 1) := by decide +kernel
theorem zd_M_limits_1 : decode zb_M_limits 1 = .ok (.iload_n 1, 1) := by decide +kernel
theorem zd_M_limits_2 : decode zb_M_limits 2 = .ok (.iconst 0, 1) := by decide +kernel
theorem zd_M_limits_3 : decode zb_M_limits 3 = .ok (.bipush 8, 2) := by decide +kernel
theorem zd_M_limits_5 : decode zb_M_limits 5 = .ok (.invokestatic 82, 3) := by decide +kernel
theorem zd_M_limits_8 : decode zb_M_limits 8 = .ok (.ifCond .eq 18, 3) := by decide +kernel
theorem zd_M_limits_11 : decode zb_M_limits 11 = .ok (.iload_n 2, 1) := by decide +kernel
theorem zd_M_limits_12 : decode zb_M_limits 12 = .ok (.iconst 1, 1) := by decide +kernel
theorem zd_M_limits_13 : decode zb_M_limits 13 = .ok (.sipush 1000, 3) := by decide +kernel
theorem zd_M_limits_16 : decode zb_M_limits 16 = .ok (.invokestatic 82, 3) := by decide +kernel
theorem zd_M_limits_19 : decode zb_M_limits 19 = .ok (.ifCond .eq 7, 3) := by decide +kernel
theorem zd_M_limits_22 : decode zb_M_limits 22 = .ok (.iconst 0, 1) := by decide +kernel
theorem zd_M_limits_23 : decode zb_M_limits 23 = .ok (.goto 4, 3) := by decide +kernel
theorem zd_M_limits_26 : decode zb_M_limits 26 = .ok (.iconst 1, 1) := by decide +kernel
theorem zd_M_limits_27 : decode zb_M_limits 27 = .ok (.putfield 76, 3) := by decide +kernel
theorem zd_M_limits_30 : decode zb_M_limits 30 = .ok (.aload_n 0, 1) := by decide +kernel
theorem zd_M_limits_31 : decode zb_M_limits 31 = .ok (.getfield 76, 3) := by decide +kernel
theorem zd_M_limits_34 : decode zb_M_limits 34 = .ok (.ifCond .le 4, 3) := by decide +kernel
theorem zd_M_limits_37 : decode zb_M_limits 37 = .ok (.return_, 1) := by decide +kernel
theorem zd_M_limits_38 : decode zb_M_limits 38 = .ok (.aload_n 0, 1) := by decide +kernel
theorem zd_M_limits_39 : decode zb_M_limits 39 = .ok (.iload_n 1, 1) := by decide +kernel
theorem zd_M_limits_40 : decode zb_M_limits 40 = .ok (.putfield 53, 3) := by decide +kernel
theorem zd_M_limits_43 : decode zb_M_limits 43 = .ok (.aload_n 0, 1) := by decide +kernel
theorem zd_M_limits_44 : decode zb_M_limits 44 = .ok (.iload_n 2, 1) := by decide +kernel
theorem zd_M_limits_45 : decode zb_M_limits 45 = .ok (.putfield 57, 3) := by decide +kernel
theorem zd_M_limits_48 : decode zb_M_limits 48 = .ok (.return_, 1) := by decide +kernel
theorem zd_M_sizeOf_0 : decode zb_M_sizeOf 0 = .ok (.iconst 0, 1) := by decide +kernel
theorem zd_M_sizeOf_1 : decode zb_M_sizeOf 1 = .ok (.istore_n 2, 1) := by decide +kernel
theorem zd_M_sizeOf_2 : decode zb_M_sizeOf 2 = .ok (.iconst 0, 1) := by decide +kernel
theorem zd_M_sizeOf_3 : decode zb_M_sizeOf 3 = .ok (.istore_n 3, 1) := by decide +kernel
theorem zd_M_sizeOf_4 : decode zb_M_sizeOf 4 = .ok (.iload_n 3, 1) := by decide +kernel
theorem zd_M_sizeOf_5 : decode zb_M_sizeOf 5 = .ok (.aload_n 0, 1) := by decide +kernel
theorem zd_M_sizeOf_6 : decode zb_M_sizeOf 6 = .ok (.getfield 79, 3) := by decide +kernel
theorem zd_M_sizeOf_9 : decode zb_M_sizeOf 9 = .ok (.if_icmp .ge 32, 3) := by decide +kernel
theorem zd_M_sizeOf_12 : decode zb_M_sizeOf 12 = .ok (.iload_n 2, 1) := by decide +kernel
theorem zd_M_sizeOf_13 : decode zb_M_sizeOf 13 = .ok (.aload_n 0, 1) := by decide +kernel
theorem zd_M_sizeOf_14 : decode zb_M_sizeOf 14 = .ok (.getfield 16, 3) := by decide +kernel
theorem zd_M_sizeOf_17 : decode zb_M_sizeOf 17 = .ok (.iload_n 3, 1) := by decide +kernel
theorem zd_M_sizeOf_18 : decode zb_M_sizeOf 18 = .ok (.iaload, 1) := by decide +kernel
theorem zd_M_sizeOf_19 : decode zb_M_sizeOf 19 = .ok (.iload_n 1, 1) := by decide +kernel
theorem zd_M_sizeOf_20 : decode zb_M_sizeOf 20 = .ok (.if_icmp .ne 12, 3) := by decide +kernel
theorem zd_M_sizeOf_23 : decode zb_M_sizeOf 23 = .ok (.aload_n 0, 1) := by decide +kernel
theorem zd_M_sizeOf_24 : decode zb_M_sizeOf 24 = .ok (.getfield 13, 3) := by decide +kernel
theorem zd_M_sizeOf_27 : decode zb_M_sizeOf 27 = .ok (.iload_n 3, 1) := by decide +kernel
theorem zd_M_sizeOf_28 : decode zb_M_sizeOf 28 = .ok (.iaload, 1) := by decide +kernel
theorem zd_M_sizeOf_29 : decode zb_M_sizeOf 29 = .ok (.goto 4, 3) := by decide +kernel
theorem zd_M_sizeOf_32 : decode zb_M_sizeOf 32 = .ok (.iconst 0, 1) := by decide +kernel
theorem zd_M_sizeOf_33 : decode zb_M_sizeOf 33 = .ok (.iadd, 1) := by decide +kernel
theorem zd_M_sizeOf_34 : decode zb_M_sizeOf 34 = .ok (.istore_n 2, 1) := by decide +kernel
theorem zd_M_sizeOf_35 : decode zb_M_sizeOf 35 = .ok (.iinc 3 1, 3) := by decide +kernel
theorem zd_M_sizeOf_38 : decode zb_M_sizeOf 38 = .ok (.goto (-34), 3) := by decide +kernel
theorem zd_M_sizeOf_41 : decode zb_M_sizeOf 41 = .ok (.iload_n 2, 1) := by decide +kernel
theorem zd_M_sizeOf_42 : decode zb_M_sizeOf 42 = .ok (.ireturn, 1) := by decide +kernel
theorem zd_M_keeps_0 : decode zb_M_keeps 0 = .ok (.iload_n 3, 1) := by decide +kernel
theorem zd_M_keeps_1 : decode zb_M_keeps 1 = .ok (.iconst 1, 1) := by decide +kernel
theorem zd_M_keeps_2 : decode zb_M_keeps 2 = .ok (.if_icmp .ne 18, 3) := by decide +kernel
theorem zd_M_keeps_5 : decode zb_M_keeps 5 = .ok (.aload_n 0, 1) := by decide +kernel
theorem zd_M_keeps_6 : decode zb_M_keeps 6 = .ok (.getfield 47, 3) := by decide +kernel
theorem zd_M_keeps_9 : decode zb_M_keeps 9 = .ok (.iload_n 2, 1) := by decide +kernel
theorem zd_M_keeps_10 : decode zb_M_keeps 10 = .ok (.baload, 1) := by decide +kernel
theorem zd_M_keeps_11 : decode zb_M_keeps 11 = .ok (.ifCond .ne 7, 3) := by decide +kernel
theorem zd_M_keeps_14 : decode zb_M_keeps 14 = .ok (.iconst 1, 1) := by decide +kernel
theorem zd_M_keeps_15 : decode zb_M_keeps 15 = .ok (.goto 4, 3) := by decide +kernel
theorem zd_M_keeps_18 : decode zb_M_keeps 18 = .ok (.iconst 0, 1) := by decide +kernel
theorem zd_M_keeps_19 : decode zb_M_keeps 19 = .ok (.ireturn, 1) := by decide +kernel
theorem zd_M_keeps_20 : decode zb_M_keeps 20 = .ok (.iload_n 3, 1) := by decide +kernel
theorem zd_M_keeps_21 : decode zb_M_keeps 21 = .ok (.iconst 4, 1) := by decide +kernel
theorem zd_M_keeps_22 : decode zb_M_keeps 22 = .ok (.if_icmp .ne 23, 3) := by decide +kernel
theorem zd_M_keeps_25 : decode zb_M_keeps 25 = .ok (.aload_n 0, 1) := by decide +kernel
theorem zd_M_keeps_26 : decode zb_M_keeps 26 = .ok (.iload_n 1, 1) := by decide +kernel
theorem zd_M_keeps_27 : decode zb_M_keeps 27 = .ok (.invokevirtual 97, 3) := by decide +kernel
theorem zd_M_keeps_30 : decode zb_M_keeps 30 = .ok (.aload_n 0, 1) := by decide +kernel
theorem zd_M_keeps_31 : decode zb_M_keeps 31 = .ok (.getfield 41, 3) := by decide +kernel
theorem zd_M_keeps_34 : decode zb_M_keeps 34 = .ok (.iload_n 2, 1) := by decide +kernel
theorem zd_M_keeps_35 : decode zb_M_keeps 35 = .ok (.iaload, 1) := by decide +kernel
theorem zd_M_keeps_36 : decode zb_M_keeps 36 = .ok (.if_icmp .gt 7, 3) := by decide +kernel
theorem zd_M_keeps_39 : decode zb_M_keeps 39 = .ok (.iconst 1, 1) := by decide +kernel
theorem zd_M_keeps_40 : decode zb_M_keeps 40 = .ok (.goto 4, 3) := by decide +kernel
theorem zd_M_keeps_43 : decode zb_M_keeps 43 = .ok (.iconst 0, 1) := by decide +kernel
theorem zd_M_keeps_44 : decode zb_M_keeps 44 = .ok (.ireturn, 1) := by decide +kernel
theorem zd_M_keeps_45 : decode zb_M_keeps 45 = .ok (.iconst 0, 1) := by decide +kernel
theorem zd_M_keeps_46 : decode zb_M_keeps 46 = .ok (.istore 4, 2) := by decide +kernel
theorem zd_M_keeps_48 : decode zb_M_keeps 48 = .ok (.iload 4, 2) := by decide +kernel
theorem zd_M_keeps_50 : decode zb_M_keeps 50 = .ok (.aload_n 0, 1) := by decide +kernel
theorem zd_M_keeps_51 : decode zb_M_keeps 51 = .ok (.getfield 79, 3) := by decide +kernel
theorem zd_M_keeps_54 : decode zb_M_keeps 54 = .ok (.if_icmp .ge 100, 3) := by decide +kernel
theorem zd_M_keeps_57 : decode zb_M_keeps 57 = .ok (.aload_n 0, 1) := by decide +kernel
theorem zd_M_keeps_58 : decode zb_M_keeps 58 = .ok (.getfield 16, 3) := by decide +kernel
theorem zd_M_keeps_61 : decode zb_M_keeps 61 = .ok (.iload 4, 2) := by decide +kernel
theorem zd_M_keeps_63 : decode zb_M_keeps 63 = .ok (.iaload, 1) := by decide +kernel
theorem zd_M_keeps_64 : decode zb_M_keeps 64 = .ok (.iload_n 1, 1) := by decide +kernel
theorem zd_M_keeps_65 : decode zb_M_keeps 65 = .ok (.if_icmp .eq 6, 3) := by decide +kernel
theorem zd_M_keeps_68 : decode zb_M_keeps 68 = .ok (.goto 80, 3) := by decide +kernel
theorem zd_M_keeps_71 : decode zb_M_keeps 71 = .ok (.iload_n 3, 1) := by decide +kernel
theorem zd_M_keeps_72 : decode zb_M_keeps 72 = .ok (.iconst 2, 1) := by decide +kernel
theorem zd_M_keeps_73 : decode zb_M_keeps 73 = .ok (.if_icmp .ne 24, 3) := by decide +kernel
theorem zd_M_keeps_76 : decode zb_M_keeps 76 = .ok (.aload_n 0, 1) := by decide +kernel
theorem zd_M_keeps_77 : decode zb_M_keeps 77 = .ok (.getfield 35, 3) := by decide +kernel
theorem zd_M_keeps_80 : decode zb_M_keeps 80 = .ok (.iload_n 2, 1) := by decide +kernel
theorem zd_M_keeps_81 : decode zb_M_keeps 81 = .ok (.iaload, 1) := by decide +kernel
theorem zd_M_keeps_82 : decode zb_M_keeps 82 = .ok (.aload_n 0, 1) := by decide +kernel
theorem zd_M_keeps_83 : decode zb_M_keeps 83 = .ok (.getfield 7, 3) := by decide +kernel
theorem zd_M_keeps_86 : decode zb_M_keeps 86 = .ok (.iload 4, 2) := by decide +kernel
theorem zd_M_keeps_88 : decode zb_M_keeps 88 = .ok (.iaload, 1) := by decide +kernel
theorem zd_M_keeps_89 : decode zb_M_keeps 89 = .ok (.ishr, 1) := by decide +kernel
theorem zd_M_keeps_90 : decode zb_M_keeps 90 = .ok (.iconst 1, 1) := by decide +kernel
theorem zd_M_keeps_91 : decode zb_M_keeps 91 = .ok (.iand, 1) := by decide +kernel
theorem zd_M_keeps_92 : decode zb_M_keeps 92 = .ok (.ifCond .ne 5, 3) := by decide +kernel
theorem zd_M_keeps_95 : decode zb_M_keeps 95 = .ok (.iconst 0, 1) := by decide +kernel
theorem zd_M_keeps_96 : decode zb_M_keeps 96 = .ok (.ireturn, 1) := by decide +kernel
theorem zd_M_keeps_97 : decode zb_M_keeps 97 = .ok (.iload_n 3, 1) := by decide +kernel
theorem zd_M_keeps_98 : decode zb_M_keeps 98 = .ok (.iconst 3, 1) := by decide +kernel
theorem zd_M_keeps_99 : decode zb_M_keeps 99 = .ok (.if_icmp .ne 20, 3) := by decide +kernel
theorem zd_M_keeps_102 : decode zb_M_keeps 102 = .ok (.aload_n 0, 1) := by decide +kernel
theorem zd_M_keeps_103 : decode zb_M_keeps 103 = .ok (.getfield 29, 3) := by decide +kernel
theorem zd_M_keeps_106 : decode zb_M_keeps 106 = .ok (.bipush 12, 2) := by decide +kernel
theorem zd_M_keeps_108 : decode zb_M_keeps 108 = .ok (.iload 4, 2) := by decide +kernel
theorem zd_M_keeps_110 : decode zb_M_keeps 110 = .ok (.imul, 1) := by decide +kernel
theorem zd_M_keeps_111 : decode zb_M_keeps 111 = .ok (.iload_n 2, 1) := by decide +kernel
theorem zd_M_keeps_112 : decode zb_M_keeps 112 = .ok (.iadd, 1) := by decide +kernel
theorem zd_M_keeps_113 : decode zb_M_keeps 113 = .ok (.baload, 1) := by decide +kernel
theorem zd_M_keeps_114 : decode zb_M_keeps 114 = .ok (.ifCond .eq 5, 3) := by decide +kernel
theorem zd_M_keeps_117 : decode zb_M_keeps 117 = .ok (.iconst 0, 1) := by decide +kernel
theorem zd_M_keeps_118 : decode zb_M_keeps 118 = .ok (.ireturn, 1) := by decide +kernel
theorem zd_M_keeps_119 : decode zb_M_keeps 119 = .ok (.iload_n 3, 1) := by decide +kernel
theorem zd_M_keeps_120 : decode zb_M_keeps 120 = .ok (.iconst 5, 1) := by decide +kernel
theorem zd_M_keeps_121 : decode zb_M_keeps 121 = .ok (.if_icmp .ne 27, 3) := by decide +kernel
theorem zd_M_keeps_124 : decode zb_M_keeps 124 = .ok (.aload_n 0, 1) := by decide +kernel
theorem zd_M_keeps_125 : decode zb_M_keeps 125 = .ok (.getfield 19, 3) := by decide +kernel
theorem zd_M_keeps_128 : decode zb_M_keeps 128 = .ok (.iload 4, 2) := by decide +kernel
theorem zd_M_keeps_130 : decode zb_M_keeps 130 = .ok (.iaload, 1) := by decide +kernel
theorem zd_M_keeps_131 : decode zb_M_keeps 131 = .ok (.iconst (-1), 1) := by decide +kernel
theorem zd_M_keeps_132 : decode zb_M_keeps 132 = .ok (.if_icmp .eq 16, 3) := by decide +kernel
theorem zd_M_keeps_135 : decode zb_M_keeps 135 = .ok (.aload_n 0, 1) := by decide +kernel
theorem zd_M_keeps_136 : decode zb_M_keeps 136 = .ok (.getfield 19, 3) := by decide +kernel
theorem zd_M_keeps_139 : decode zb_M_keeps 139 = .ok (.iload 4, 2) := by decide +kernel
theorem zd_M_keeps_141 : decode zb_M_keeps 141 = .ok (.iaload, 1) := by decide +kernel
theorem zd_M_keeps_142 : decode zb_M_keeps 142 = .ok (.iload_n 2, 1) := by decide +kernel
theorem zd_M_keeps_143 : decode zb_M_keeps 143 = .ok (.if_icmp .eq 5, 3) := by decide +kernel
theorem zd_M_keeps_146 : decode zb_M_keeps 146 = .ok (.iconst 0, 1) := by decide +kernel
theorem zd_M_keeps_147 : decode zb_M_keeps 147 = .ok (.ireturn, 1) := by decide +kernel
theorem zd_M_keeps_148 : decode zb_M_keeps 148 = .ok (.iinc 4 1, 3) := by decide +kernel
theorem zd_M_keeps_151 : decode zb_M_keeps 151 = .ok (.goto (-103), 3) := by decide +kernel
theorem zd_M_keeps_154 : decode zb_M_keeps 154 = .ok (.iconst 1, 1) := by decide +kernel
theorem zd_M_keeps_155 : decode zb_M_keeps 155 = .ok (.ireturn, 1) := by decide +kernel
theorem zd_M_isAllowed_0 : decode zb_M_isAllowed 0 = .ok (.iconst 1, 1) := by decide +kernel
theorem zd_M_isAllowed_1 : decode zb_M_isAllowed 1 = .ok (.istore 4, 2) := by decide +kernel
theorem zd_M_isAllowed_3 : decode zb_M_isAllowed 3 = .ok (.iconst 1, 1) := by decide +kernel
theorem zd_M_isAllowed_4 : decode zb_M_isAllowed 4 = .ok (.istore 5, 2) := by decide +kernel
theorem zd_M_isAllowed_6 : decode zb_M_isAllowed 6 = .ok (.iload 5, 2) := by decide +kernel
theorem zd_M_isAllowed_8 : decode zb_M_isAllowed 8 = .ok (.iload_n 3, 1) := by decide +kernel
theorem zd_M_isAllowed_9 : decode zb_M_isAllowed 9 = .ok (.if_icmp .gt 32, 3) := by decide +kernel
theorem zd_M_isAllowed_12 : decode zb_M_isAllowed 12 = .ok (.iload 4, 2) := by decide +kernel
theorem zd_M_isAllowed_14 : decode zb_M_isAllowed 14 = .ok (.ifCond .eq 18, 3) := by decide +kernel
theorem zd_M_isAllowed_17 : decode zb_M_isAllowed 17 = .ok (.aload_n 0, 1) := by decide +kernel
theorem zd_M_isAllowed_18 : decode zb_M_isAllowed 18 = .ok (.iload_n 1, 1) := by decide +kernel
theorem zd_M_isAllowed_19 : decode zb_M_isAllowed 19 = .ok (.iload_n 2, 1) := by decide +kernel
theorem zd_M_isAllowed_20 : decode zb_M_isAllowed 20 = .ok (.iload 5, 2) := by decide +kernel
theorem zd_M_isAllowed_22 : decode zb_M_isAllowed 22 = .ok (.invokevirtual 101, 3) := by decide +kernel
theorem zd_M_isAllowed_25 : decode zb_M_isAllowed 25 = .ok (.ifCond .eq 7, 3) := by decide +kernel
theorem zd_M_isAllowed_28 : decode zb_M_isAllowed 28 = .ok (.iconst 1, 1) := by decide +kernel
theorem zd_M_isAllowed_29 : decode zb_M_isAllowed 29 = .ok (.goto 4, 3) := by decide +kernel
theorem zd_M_isAllowed_32 : decode zb_M_isAllowed 32 = .ok (.iconst 0, 1) := by decide +kernel
theorem zd_M_isAllowed_33 : decode zb_M_isAllowed 33 = .ok (.istore 4, 2) := by decide +kernel
theorem zd_M_isAllowed_35 : decode zb_M_isAllowed 35 = .ok (.iinc 5 1, 3) := by decide +kernel
theorem zd_M_isAllowed_38 : decode zb_M_isAllowed 38 = .ok (.goto (-32), 3) := by decide +kernel
theorem zd_M_isAllowed_41 : decode zb_M_isAllowed 41 = .ok (.iload 4, 2) := by decide +kernel
theorem zd_M_isAllowed_43 : decode zb_M_isAllowed 43 = .ok (.ireturn, 1) := by decide +kernel
theorem zd_M_costOf_0 : decode zb_M_costOf 0 = .ok (.aload_n 0, 1) := by decide +kernel
theorem zd_M_costOf_1 : decode zb_M_costOf 1 = .ok (.getfield 32, 3) := by decide +kernel
theorem zd_M_costOf_4 : decode zb_M_costOf 4 = .ok (.bipush 12, 2) := by decide +kernel
theorem zd_M_costOf_6 : decode zb_M_costOf 6 = .ok (.iload_n 1, 1) := by decide +kernel
theorem zd_M_costOf_7 : decode zb_M_costOf 7 = .ok (.imul, 1) := by decide +kernel
theorem zd_M_costOf_8 : decode zb_M_costOf 8 = .ok (.iload_n 2, 1) := by decide +kernel
theorem zd_M_costOf_9 : decode zb_M_costOf 9 = .ok (.iadd, 1) := by decide +kernel
theorem zd_M_costOf_10 : decode zb_M_costOf 10 = .ok (.iaload, 1) := by decide +kernel
theorem zd_M_costOf_11 : decode zb_M_costOf 11 = .ok (.iconst (-1), 1) := by decide +kernel
theorem zd_M_costOf_12 : decode zb_M_costOf 12 = .ok (.if_icmp .eq 15, 3) := by decide +kernel
theorem zd_M_costOf_15 : decode zb_M_costOf 15 = .ok (.aload_n 0, 1) := by decide +kernel
theorem zd_M_costOf_16 : decode zb_M_costOf 16 = .ok (.getfield 32, 3) := by decide +kernel
theorem zd_M_costOf_19 : decode zb_M_costOf 19 = .ok (.bipush 12, 2) := by decide +kernel
theorem zd_M_costOf_21 : decode zb_M_costOf 21 = .ok (.iload_n 1, 1) := by decide +kernel
theorem zd_M_costOf_22 : decode zb_M_costOf 22 = .ok (.imul, 1) := by decide +kernel
theorem zd_M_costOf_23 : decode zb_M_costOf 23 = .ok (.iload_n 2, 1) := by decide +kernel
theorem zd_M_costOf_24 : decode zb_M_costOf 24 = .ok (.iadd, 1) := by decide +kernel
theorem zd_M_costOf_25 : decode zb_M_costOf 25 = .ok (.iaload, 1) := by decide +kernel
theorem zd_M_costOf_26 : decode zb_M_costOf 26 = .ok (.ireturn, 1) := by decide +kernel
theorem zd_M_costOf_27 : decode zb_M_costOf 27 = .ok (.iconst 0, 1) := by decide +kernel
theorem zd_M_costOf_28 : decode zb_M_costOf 28 = .ok (.istore_n 3, 1) := by decide +kernel
theorem zd_M_costOf_29 : decode zb_M_costOf 29 = .ok (.iconst 0, 1) := by decide +kernel
theorem zd_M_costOf_30 : decode zb_M_costOf 30 = .ok (.istore 4, 2) := by decide +kernel
theorem zd_M_costOf_32 : decode zb_M_costOf 32 = .ok (.iload 4, 2) := by decide +kernel
theorem zd_M_costOf_34 : decode zb_M_costOf 34 = .ok (.aload_n 0, 1) := by decide +kernel
theorem zd_M_costOf_35 : decode zb_M_costOf 35 = .ok (.getfield 79, 3) := by decide +kernel
theorem zd_M_costOf_38 : decode zb_M_costOf 38 = .ok (.if_icmp .ge 49, 3) := by decide +kernel
theorem zd_M_costOf_41 : decode zb_M_costOf 41 = .ok (.aload_n 0, 1) := by decide +kernel
theorem zd_M_costOf_42 : decode zb_M_costOf 42 = .ok (.getfield 16, 3) := by decide +kernel
theorem zd_M_costOf_45 : decode zb_M_costOf 45 = .ok (.iload 4, 2) := by decide +kernel
theorem zd_M_costOf_47 : decode zb_M_costOf 47 = .ok (.iaload, 1) := by decide +kernel
theorem zd_M_costOf_48 : decode zb_M_costOf 48 = .ok (.iload_n 1, 1) := by decide +kernel
theorem zd_M_costOf_49 : decode zb_M_costOf 49 = .ok (.if_icmp .ne 32, 3) := by decide +kernel
theorem zd_M_costOf_52 : decode zb_M_costOf 52 = .ok (.aload_n 0, 1) := by decide +kernel
theorem zd_M_costOf_53 : decode zb_M_costOf 53 = .ok (.getfield 50, 3) := by decide +kernel
theorem zd_M_costOf_56 : decode zb_M_costOf 56 = .ok (.aload_n 0, 1) := by decide +kernel
theorem zd_M_costOf_57 : decode zb_M_costOf 57 = .ok (.getfield 7, 3) := by decide +kernel
theorem zd_M_costOf_60 : decode zb_M_costOf 60 = .ok (.iload 4, 2) := by decide +kernel
theorem zd_M_costOf_62 : decode zb_M_costOf 62 = .ok (.iaload, 1) := by decide +kernel
theorem zd_M_costOf_63 : decode zb_M_costOf 63 = .ok (.iaload, 1) := by decide +kernel
theorem zd_M_costOf_64 : decode zb_M_costOf 64 = .ok (.iload_n 3, 1) := by decide +kernel
theorem zd_M_costOf_65 : decode zb_M_costOf 65 = .ok (.if_icmp .le 16, 3) := by decide +kernel
theorem zd_M_costOf_68 : decode zb_M_costOf 68 = .ok (.aload_n 0, 1) := by decide +kernel
theorem zd_M_costOf_69 : decode zb_M_costOf 69 = .ok (.getfield 50, 3) := by decide +kernel
theorem zd_M_costOf_72 : decode zb_M_costOf 72 = .ok (.aload_n 0, 1) := by decide +kernel
theorem zd_M_costOf_73 : decode zb_M_costOf 73 = .ok (.getfield 7, 3) := by decide +kernel
theorem zd_M_costOf_76 : decode zb_M_costOf 76 = .ok (.iload 4, 2) := by decide +kernel
theorem zd_M_costOf_78 : decode zb_M_costOf 78 = .ok (.iaload, 1) := by decide +kernel
theorem zd_M_costOf_79 : decode zb_M_costOf 79 = .ok (.iaload, 1) := by decide +kernel
theorem zd_M_costOf_80 : decode zb_M_costOf 80 = .ok (.istore_n 3, 1) := by decide +kernel
theorem zd_M_costOf_81 : decode zb_M_costOf 81 = .ok (.iinc 4 1, 3) := by decide +kernel
theorem zd_M_costOf_84 : decode zb_M_costOf 84 = .ok (.goto (-52), 3) := by decide +kernel
theorem zd_M_costOf_87 : decode zb_M_costOf 87 = .ok (.aload_n 0, 1) := by decide +kernel
theorem zd_M_costOf_88 : decode zb_M_costOf 88 = .ok (.getfield 44, 3) := by decide +kernel
theorem zd_M_costOf_91 : decode zb_M_costOf 91 = .ok (.iload_n 2, 1) := by decide +kernel
theorem zd_M_costOf_92 : decode zb_M_costOf 92 = .ok (.iaload, 1) := by decide +kernel
theorem zd_M_costOf_93 : decode zb_M_costOf 93 = .ok (.iload_n 3, 1) := by decide +kernel
theorem zd_M_costOf_94 : decode zb_M_costOf 94 = .ok (.imul, 1) := by decide +kernel
theorem zd_M_costOf_95 : decode zb_M_costOf 95 = .ok (.aload_n 0, 1) := by decide +kernel
theorem zd_M_costOf_96 : decode zb_M_costOf 96 = .ok (.getfield 41, 3) := by decide +kernel
theorem zd_M_costOf_99 : decode zb_M_costOf 99 = .ok (.iload_n 2, 1) := by decide +kernel
theorem zd_M_costOf_100 : decode zb_M_costOf 100 = .ok (.iaload, 1) := by decide +kernel
theorem zd_M_costOf_101 : decode zb_M_costOf 101 = .ok (.iadd, 1) := by decide +kernel
theorem zd_M_costOf_102 : decode zb_M_costOf 102 = .ok (.aload_n 0, 1) := by decide +kernel
theorem zd_M_costOf_103 : decode zb_M_costOf 103 = .ok (.iload_n 1, 1) := by decide +kernel
theorem zd_M_costOf_104 : decode zb_M_costOf 104 = .ok (.invokevirtual 97, 3) := by decide +kernel
theorem zd_M_costOf_107 : decode zb_M_costOf 107 = .ok (.isub, 1) := by decide +kernel
theorem zd_M_costOf_108 : decode zb_M_costOf 108 = .ok (.ireturn, 1) := by decide +kernel
theorem zd_M_isGroup_0 : decode zb_M_isGroup 0 = .ok (.aload_n 0, 1) := by decide +kernel
theorem zd_M_isGroup_1 : decode zb_M_isGroup 1 = .ok (.getfield 16, 3) := by decide +kernel
theorem zd_M_isGroup_4 : decode zb_M_isGroup 4 = .ok (.iload_n 1, 1) := by decide +kernel
theorem zd_M_isGroup_5 : decode zb_M_isGroup 5 = .ok (.iaload, 1) := by decide +kernel
theorem zd_M_isGroup_6 : decode zb_M_isGroup 6 = .ok (.iload_n 1, 1) := by decide +kernel
theorem zd_M_isGroup_7 : decode zb_M_isGroup 7 = .ok (.if_icmp .ne 16, 3) := by decide +kernel
theorem zd_M_isGroup_10 : decode zb_M_isGroup 10 = .ok (.aload_n 0, 1) := by decide +kernel
theorem zd_M_isGroup_11 : decode zb_M_isGroup 11 = .ok (.getfield 25, 3) := by decide +kernel
theorem zd_M_isGroup_14 : decode zb_M_isGroup 14 = .ok (.iload_n 1, 1) := by decide +kernel
theorem zd_M_isGroup_15 : decode zb_M_isGroup 15 = .ok (.baload, 1) := by decide +kernel
theorem zd_M_isGroup_16 : decode zb_M_isGroup 16 = .ok (.ifCond .ne 7, 3) := by decide +kernel
theorem zd_M_isGroup_19 : decode zb_M_isGroup 19 = .ok (.iconst 1, 1) := by decide +kernel
theorem zd_M_isGroup_20 : decode zb_M_isGroup 20 = .ok (.goto 4, 3) := by decide +kernel
theorem zd_M_isGroup_23 : decode zb_M_isGroup 23 = .ok (.iconst 0, 1) := by decide +kernel
theorem zd_M_isGroup_24 : decode zb_M_isGroup 24 = .ok (.ireturn, 1) := by decide +kernel
theorem zd_M_collect_0 : decode zb_M_collect 0 = .ok (.aload_n 0, 1) := by decide +kernel
theorem zd_M_collect_1 : decode zb_M_collect 1 = .ok (.iconst 0, 1) := by decide +kernel
theorem zd_M_collect_2 : decode zb_M_collect 2 = .ok (.putfield 104, 3) := by decide +kernel
theorem zd_M_collect_5 : decode zb_M_collect 5 = .ok (.iconst 0, 1) := by decide +kernel
theorem zd_M_collect_6 : decode zb_M_collect 6 = .ok (.istore_n 1, 1) := by decide +kernel
theorem zd_M_collect_7 : decode zb_M_collect 7 = .ok (.iload_n 1, 1) := by decide +kernel
theorem zd_M_collect_8 : decode zb_M_collect 8 = .ok (.aload_n 0, 1) := by decide +kernel
theorem zd_M_collect_9 : decode zb_M_collect 9 = .ok (.getfield 79, 3) := by decide +kernel
theorem zd_M_collect_12 : decode zb_M_collect 12 = .ok (.if_icmp .ge 90, 3) := by decide +kernel
theorem zd_M_collect_15 : decode zb_M_collect 15 = .ok (.aload_n 0, 1) := by decide +kernel
theorem zd_M_collect_16 : decode zb_M_collect 16 = .ok (.iload_n 1, 1) := by decide +kernel
theorem zd_M_collect_17 : decode zb_M_collect 17 = .ok (.invokevirtual 107, 3) := by decide +kernel
theorem zd_M_collect_20 : decode zb_M_collect 20 = .ok (.ifCond .ne 6, 3) := by decide +kernel
theorem zd_M_collect_23 : decode zb_M_collect 23 = .ok (.goto 73, 3) := by decide +kernel
theorem zd_M_collect_26 : decode zb_M_collect 26 = .ok (.aload_n 0, 1) := by decide +kernel
theorem zd_M_collect_27 : decode zb_M_collect 27 = .ok (.getfield 60, 3) := by decide +kernel
theorem zd_M_collect_30 : decode zb_M_collect 30 = .ok (.aload_n 0, 1) := by decide +kernel
theorem zd_M_collect_31 : decode zb_M_collect 31 = .ok (.getfield 104, 3) := by decide +kernel
theorem zd_M_collect_34 : decode zb_M_collect 34 = .ok (.iload_n 1, 1) := by decide +kernel
theorem zd_M_collect_35 : decode zb_M_collect 35 = .ok (.iastore, 1) := by decide +kernel
theorem zd_M_collect_36 : decode zb_M_collect 36 = .ok (.iconst 0, 1) := by decide +kernel
theorem zd_M_collect_37 : decode zb_M_collect 37 = .ok (.istore_n 2, 1) := by decide +kernel
theorem zd_M_collect_38 : decode zb_M_collect 38 = .ok (.iload_n 2, 1) := by decide +kernel
theorem zd_M_collect_39 : decode zb_M_collect 39 = .ok (.aload_n 0, 1) := by decide +kernel
theorem zd_M_collect_40 : decode zb_M_collect 40 = .ok (.getfield 86, 3) := by decide +kernel
theorem zd_M_collect_43 : decode zb_M_collect 43 = .ok (.if_icmp .ge 43, 3) := by decide +kernel
theorem zd_M_collect_46 : decode zb_M_collect 46 = .ok (.aload_n 0, 1) := by decide +kernel
theorem zd_M_collect_47 : decode zb_M_collect 47 = .ok (.getfield 66, 3) := by decide +kernel
theorem zd_M_collect_50 : decode zb_M_collect 50 = .ok (.bipush 12, 2) := by decide +kernel
theorem zd_M_collect_52 : decode zb_M_collect 52 = .ok (.aload_n 0, 1) := by decide +kernel
theorem zd_M_collect_53 : decode zb_M_collect 53 = .ok (.getfield 104, 3) := by decide +kernel
theorem zd_M_collect_56 : decode zb_M_collect 56 = .ok (.imul, 1) := by decide +kernel
theorem zd_M_collect_57 : decode zb_M_collect 57 = .ok (.iload_n 2, 1) := by decide +kernel
theorem zd_M_collect_58 : decode zb_M_collect 58 = .ok (.iadd, 1) := by decide +kernel
theorem zd_M_collect_59 : decode zb_M_collect 59 = .ok (.aload_n 0, 1) := by decide +kernel
theorem zd_M_collect_60 : decode zb_M_collect 60 = .ok (.iload_n 1, 1) := by decide +kernel
theorem zd_M_collect_61 : decode zb_M_collect 61 = .ok (.iload_n 2, 1) := by decide +kernel
theorem zd_M_collect_62 : decode zb_M_collect 62 = .ok (.iconst 5, 1) := by decide +kernel
theorem zd_M_collect_63 : decode zb_M_collect 63 = .ok (.invokevirtual 110, 3) := by decide +kernel
theorem zd_M_collect_66 : decode zb_M_collect 66 = .ok (.ifCond .eq 12, 3) := by decide +kernel
theorem zd_M_collect_69 : decode zb_M_collect 69 = .ok (.aload_n 0, 1) := by decide +kernel
theorem zd_M_collect_70 : decode zb_M_collect 70 = .ok (.iload_n 1, 1) := by decide +kernel
theorem zd_M_collect_71 : decode zb_M_collect 71 = .ok (.iload_n 2, 1) := by decide +kernel
theorem zd_M_collect_72 : decode zb_M_collect 72 = .ok (.invokevirtual 113, 3) := by decide +kernel
theorem zd_M_collect_75 : decode zb_M_collect 75 = .ok (.goto 4, 3) := by decide +kernel
theorem zd_M_collect_78 : decode zb_M_collect 78 = .ok (.iconst (-1), 1) := by decide +kernel
theorem zd_M_collect_79 : decode zb_M_collect 79 = .ok (.iastore, 1) := by decide +kernel
theorem zd_M_collect_80 : decode zb_M_collect 80 = .ok (.iinc 2 1, 3) := by decide +kernel
theorem zd_M_collect_83 : decode zb_M_collect 83 = .ok (.goto (-45), 3) := by decide +kernel
theorem zd_M_collect_86 : decode zb_M_collect 86 = .ok (.aload_n 0, 1) := by decide +kernel
theorem zd_M_collect_87 : decode zb_M_collect 87 = .ok (.dup, 1) := by decide +kernel
theorem zd_M_collect_88 : decode zb_M_collect 88 = .ok (.getfield 104, 3) := by decide +kernel
theorem zd_M_collect_91 : decode zb_M_collect 91 = .ok (.iconst 1, 1) := by decide +kernel
theorem zd_M_collect_92 : decode zb_M_collect 92 = .ok (.iadd, 1) := by decide +kernel
theorem zd_M_collect_93 : decode zb_M_collect 93 = .ok (.putfield 104, 3) := by decide +kernel
theorem zd_M_collect_96 : decode zb_M_collect 96 = .ok (.iinc 1 1, 3) := by decide +kernel
theorem zd_M_collect_99 : decode zb_M_collect 99 = .ok (.goto (-92), 3) := by decide +kernel
theorem zd_M_collect_102 : decode zb_M_collect 102 = .ok (.return_, 1) := by decide +kernel
theorem zd_M_lay_0 : decode zb_M_lay 0 = .ok (.iconst 1, 1) := by decide +kernel
theorem zd_M_lay_1 : decode zb_M_lay 1 = .ok (.aload_n 0, 1) := by decide +kernel
theorem zd_M_lay_2 : decode zb_M_lay 2 = .ok (.getfield 86, 3) := by decide +kernel
theorem zd_M_lay_5 : decode zb_M_lay 5 = .ok (.ishl, 1) := by decide +kernel
theorem zd_M_lay_6 : decode zb_M_lay 6 = .ok (.istore_n 2, 1) := by decide +kernel
theorem zd_M_lay_7 : decode zb_M_lay 7 = .ok (.iconst 0, 1) := by decide +kernel
theorem zd_M_lay_8 : decode zb_M_lay 8 = .ok (.istore_n 3, 1) := by decide +kernel
theorem zd_M_lay_9 : decode zb_M_lay 9 = .ok (.iload_n 3, 1) := by decide +kernel
theorem zd_M_lay_10 : decode zb_M_lay 10 = .ok (.iload_n 2, 1) := by decide +kernel
theorem zd_M_lay_11 : decode zb_M_lay 11 = .ok (.if_icmp .ge 16, 3) := by decide +kernel
theorem zd_M_lay_14 : decode zb_M_lay 14 = .ok (.aload_n 0, 1) := by decide +kernel
theorem zd_M_lay_15 : decode zb_M_lay 15 = .ok (.getfield 69, 3) := by decide +kernel
theorem zd_M_lay_18 : decode zb_M_lay 18 = .ok (.iload_n 3, 1) := by decide +kernel
theorem zd_M_lay_19 : decode zb_M_lay 19 = .ok (.lconst 0, 1) := by decide +kernel
theorem zd_M_lay_20 : decode zb_M_lay 20 = .ok (.lastore, 1) := by decide +kernel
theorem zd_M_lay_21 : decode zb_M_lay 21 = .ok (.iinc 3 1, 3) := by decide +kernel
theorem zd_M_lay_24 : decode zb_M_lay 24 = .ok (.goto (-15), 3) := by decide +kernel
theorem zd_M_lay_27 : decode zb_M_lay 27 = .ok (.aload_n 0, 1) := by decide +kernel
theorem zd_M_lay_28 : decode zb_M_lay 28 = .ok (.getfield 104, 3) := by decide +kernel
theorem zd_M_lay_31 : decode zb_M_lay 31 = .ok (.iconst 1, 1) := by decide +kernel
theorem zd_M_lay_32 : decode zb_M_lay 32 = .ok (.isub, 1) := by decide +kernel
theorem zd_M_lay_33 : decode zb_M_lay 33 = .ok (.istore_n 3, 1) := by decide +kernel
theorem zd_M_lay_34 : decode zb_M_lay 34 = .ok (.iload_n 3, 1) := by decide +kernel
theorem zd_M_lay_35 : decode zb_M_lay 35 = .ok (.iload_n 1, 1) := by decide +kernel
theorem zd_M_lay_36 : decode zb_M_lay 36 = .ok (.if_icmp .lt 184, 3) := by decide +kernel
theorem zd_M_lay_39 : decode zb_M_lay 39 = .ok (.iconst 0, 1) := by decide +kernel
theorem zd_M_lay_40 : decode zb_M_lay 40 = .ok (.istore 4, 2) := by decide +kernel
theorem zd_M_lay_42 : decode zb_M_lay 42 = .ok (.iload 4, 2) := by decide +kernel
theorem zd_M_lay_44 : decode zb_M_lay 44 = .ok (.iload_n 2, 1) := by decide +kernel
theorem zd_M_lay_45 : decode zb_M_lay 45 = .ok (.if_icmp .ge 23, 3) := by decide +kernel
theorem zd_M_lay_48 : decode zb_M_lay 48 = .ok (.aload_n 0, 1) := by decide +kernel
theorem zd_M_lay_49 : decode zb_M_lay 49 = .ok (.getfield 73, 3) := by decide +kernel
theorem zd_M_lay_52 : decode zb_M_lay 52 = .ok (.iload 4, 2) := by decide +kernel
theorem zd_M_lay_54 : decode zb_M_lay 54 = .ok (.aload_n 0, 1) := by decide +kernel
theorem zd_M_lay_55 : decode zb_M_lay 55 = .ok (.getfield 69, 3) := by decide +kernel
theorem zd_M_lay_58 : decode zb_M_lay 58 = .ok (.iload 4, 2) := by decide +kernel
theorem zd_M_lay_60 : decode zb_M_lay 60 = .ok (.laload, 1) := by decide +kernel
theorem zd_M_lay_61 : decode zb_M_lay 61 = .ok (.lastore, 1) := by decide +kernel
theorem zd_M_lay_62 : decode zb_M_lay 62 = .ok (.iinc 4 1, 3) := by decide +kernel
theorem zd_M_lay_65 : decode zb_M_lay 65 = .ok (.goto (-23), 3) := by decide +kernel
theorem zd_M_lay_68 : decode zb_M_lay 68 = .ok (.iconst 0, 1) := by decide +kernel
theorem zd_M_lay_69 : decode zb_M_lay 69 = .ok (.istore 4, 2) := by decide +kernel
theorem zd_M_lay_71 : decode zb_M_lay 71 = .ok (.iload 4, 2) := by decide +kernel
theorem zd_M_lay_73 : decode zb_M_lay 73 = .ok (.iload_n 2, 1) := by decide +kernel
theorem zd_M_lay_74 : decode zb_M_lay 74 = .ok (.if_icmp .ge 111, 3) := by decide +kernel
theorem zd_M_lay_77 : decode zb_M_lay 77 = .ok (.iconst 0, 1) := by decide +kernel
theorem zd_M_lay_78 : decode zb_M_lay 78 = .ok (.istore 5, 2) := by decide +kernel
theorem zd_M_lay_80 : decode zb_M_lay 80 = .ok (.iload 5, 2) := by decide +kernel
theorem zd_M_lay_82 : decode zb_M_lay 82 = .ok (.aload_n 0, 1) := by decide +kernel
theorem zd_M_lay_83 : decode zb_M_lay 83 = .ok (.getfield 86, 3) := by decide +kernel
theorem zd_M_lay_86 : decode zb_M_lay 86 = .ok (.if_icmp .ge 93, 3) := by decide +kernel
theorem zd_M_lay_89 : decode zb_M_lay 89 = .ok (.iload 4, 2) := by decide +kernel
theorem zd_M_lay_91 : decode zb_M_lay 91 = .ok (.iload 5, 2) := by decide +kernel
theorem zd_M_lay_93 : decode zb_M_lay 93 = .ok (.ishr, 1) := by decide +kernel
theorem zd_M_lay_94 : decode zb_M_lay 94 = .ok (.iconst 1, 1) := by decide +kernel
theorem zd_M_lay_95 : decode zb_M_lay 95 = .ok (.iand, 1) := by decide +kernel
theorem zd_M_lay_96 : decode zb_M_lay 96 = .ok (.iconst 1, 1) := by decide +kernel
theorem zd_M_lay_97 : decode zb_M_lay 97 = .ok (.if_icmp .eq 76, 3) := by decide +kernel
theorem zd_M_lay_100 : decode zb_M_lay 100 = .ok (.aload_n 0, 1) := by decide +kernel
theorem zd_M_lay_101 : decode zb_M_lay 101 = .ok (.getfield 66, 3) := by decide +kernel
theorem zd_M_lay_104 : decode zb_M_lay 104 = .ok (.bipush 12, 2) := by decide +kernel
theorem zd_M_lay_106 : decode zb_M_lay 106 = .ok (.iload_n 3, 1) := by decide +kernel
theorem zd_M_lay_107 : decode zb_M_lay 107 = .ok (.imul, 1) := by decide +kernel
theorem zd_M_lay_108 : decode zb_M_lay 108 = .ok (.iload 5, 2) := by decide +kernel
theorem zd_M_lay_110 : decode zb_M_lay 110 = .ok (.iadd, 1) := by decide +kernel
theorem zd_M_lay_111 : decode zb_M_lay 111 = .ok (.iaload, 1) := by decide +kernel
theorem zd_M_lay_112 : decode zb_M_lay 112 = .ok (.iconst (-1), 1) := by decide +kernel
theorem zd_M_lay_113 : decode zb_M_lay 113 = .ok (.if_icmp .ne 6, 3) := by decide +kernel
theorem zd_M_lay_116 : decode zb_M_lay 116 = .ok (.goto 57, 3) := by decide +kernel
theorem zd_M_lay_119 : decode zb_M_lay 119 = .ok (.aload_n 0, 1) := by decide +kernel
theorem zd_M_lay_120 : decode zb_M_lay 120 = .ok (.getfield 69, 3) := by decide +kernel
theorem zd_M_lay_123 : decode zb_M_lay 123 = .ok (.iload 4, 2) := by decide +kernel
theorem zd_M_lay_125 : decode zb_M_lay 125 = .ok (.iconst 1, 1) := by decide +kernel
theorem zd_M_lay_126 : decode zb_M_lay 126 = .ok (.iload 5, 2) := by decide +kernel
theorem zd_M_lay_128 : decode zb_M_lay 128 = .ok (.ishl, 1) := by decide +kernel
theorem zd_M_lay_129 : decode zb_M_lay 129 = .ok (.ior, 1) := by decide +kernel
theorem zd_M_lay_130 : decode zb_M_lay 130 = .ok (.laload, 1) := by decide +kernel
theorem zd_M_lay_131 : decode zb_M_lay 131 = .ok (.ldc2_w 117, 3) := by decide +kernel
theorem zd_M_lay_134 : decode zb_M_lay 134 = .ok (.ladd, 1) := by decide +kernel
theorem zd_M_lay_135 : decode zb_M_lay 135 = .ok (.aload_n 0, 1) := by decide +kernel
theorem zd_M_lay_136 : decode zb_M_lay 136 = .ok (.getfield 66, 3) := by decide +kernel
theorem zd_M_lay_139 : decode zb_M_lay 139 = .ok (.bipush 12, 2) := by decide +kernel
theorem zd_M_lay_141 : decode zb_M_lay 141 = .ok (.iload_n 3, 1) := by decide +kernel
theorem zd_M_lay_142 : decode zb_M_lay 142 = .ok (.imul, 1) := by decide +kernel
theorem zd_M_lay_143 : decode zb_M_lay 143 = .ok (.iload 5, 2) := by decide +kernel
theorem zd_M_lay_145 : decode zb_M_lay 145 = .ok (.iadd, 1) := by decide +kernel
theorem zd_M_lay_146 : decode zb_M_lay 146 = .ok (.iaload, 1) := by decide +kernel
theorem zd_M_lay_147 : decode zb_M_lay 147 = .ok (.i2l, 1) := by decide +kernel
theorem zd_M_lay_148 : decode zb_M_lay 148 = .ok (.lsub, 1) := by decide +kernel
theorem zd_M_lay_149 : decode zb_M_lay 149 = .ok (.lstore 6, 2) := by decide +kernel
theorem zd_M_lay_151 : decode zb_M_lay 151 = .ok (.lload 6, 2) := by decide +kernel
theorem zd_M_lay_153 : decode zb_M_lay 153 = .ok (.aload_n 0, 1) := by decide +kernel
theorem zd_M_lay_154 : decode zb_M_lay 154 = .ok (.getfield 73, 3) := by decide +kernel
theorem zd_M_lay_157 : decode zb_M_lay 157 = .ok (.iload 4, 2) := by decide +kernel
theorem zd_M_lay_159 : decode zb_M_lay 159 = .ok (.laload, 1) := by decide +kernel
theorem zd_M_lay_160 : decode zb_M_lay 160 = .ok (.lcmp, 1) := by decide +kernel
theorem zd_M_lay_161 : decode zb_M_lay 161 = .ok (.ifCond .le 12, 3) := by decide +kernel
theorem zd_M_lay_164 : decode zb_M_lay 164 = .ok (.aload_n 0, 1) := by decide +kernel
theorem zd_M_lay_165 : decode zb_M_lay 165 = .ok (.getfield 73, 3) := by decide +kernel
theorem zd_M_lay_168 : decode zb_M_lay 168 = .ok (.iload 4, 2) := by decide +kernel
theorem zd_M_lay_170 : decode zb_M_lay 170 = .ok (.lload 6, 2) := by decide +kernel
theorem zd_M_lay_172 : decode zb_M_lay 172 = .ok (.lastore, 1) := by decide +kernel
theorem zd_M_lay_173 : decode zb_M_lay 173 = .ok (.iinc 5 1, 3) := by decide +kernel
theorem zd_M_lay_176 : decode zb_M_lay 176 = .ok (.goto (-96), 3) := by decide +kernel
theorem zd_M_lay_179 : decode zb_M_lay 179 = .ok (.iinc 4 1, 3) := by decide +kernel
theorem zd_M_lay_182 : decode zb_M_lay 182 = .ok (.goto (-111), 3) := by decide +kernel
theorem zd_M_lay_185 : decode zb_M_lay 185 = .ok (.iconst 0, 1) := by decide +kernel
theorem zd_M_lay_186 : decode zb_M_lay 186 = .ok (.istore 4, 2) := by decide +kernel
theorem zd_M_lay_188 : decode zb_M_lay 188 = .ok (.iload 4, 2) := by decide +kernel
theorem zd_M_lay_190 : decode zb_M_lay 190 = .ok (.iload_n 2, 1) := by decide +kernel
theorem zd_M_lay_191 : decode zb_M_lay 191 = .ok (.if_icmp .ge 23, 3) := by decide +kernel
theorem zd_M_lay_194 : decode zb_M_lay 194 = .ok (.aload_n 0, 1) := by decide +kernel
theorem zd_M_lay_195 : decode zb_M_lay 195 = .ok (.getfield 69, 3) := by decide +kernel
theorem zd_M_lay_198 : decode zb_M_lay 198 = .ok (.iload 4, 2) := by decide +kernel
theorem zd_M_lay_200 : decode zb_M_lay 200 = .ok (.aload_n 0, 1) := by decide +kernel
theorem zd_M_lay_201 : decode zb_M_lay 201 = .ok (.getfield 73, 3) := by decide +kernel
theorem zd_M_lay_204 : decode zb_M_lay 204 = .ok (.iload 4, 2) := by decide +kernel
theorem zd_M_lay_206 : decode zb_M_lay 206 = .ok (.laload, 1) := by decide +kernel
theorem zd_M_lay_207 : decode zb_M_lay 207 = .ok (.lastore, 1) := by decide +kernel
theorem zd_M_lay_208 : decode zb_M_lay 208 = .ok (.iinc 4 1, 3) := by decide +kernel
theorem zd_M_lay_211 : decode zb_M_lay 211 = .ok (.goto (-23), 3) := by decide +kernel
theorem zd_M_lay_214 : decode zb_M_lay 214 = .ok (.iinc 3 (-1), 3) := by decide +kernel
theorem zd_M_lay_217 : decode zb_M_lay 217 = .ok (.goto (-183), 3) := by decide +kernel
theorem zd_M_lay_220 : decode zb_M_lay 220 = .ok (.return_, 1) := by decide +kernel
theorem zd_M_best_0 : decode zb_M_best 0 = .ok (.iconst 0, 1) := by decide +kernel
theorem zd_M_best_1 : decode zb_M_best 1 = .ok (.istore_n 1, 1) := by decide +kernel
theorem zd_M_best_2 : decode zb_M_best 2 = .ok (.aload_n 0, 1) := by decide +kernel
theorem zd_M_best_3 : decode zb_M_best 3 = .ok (.iconst 0, 1) := by decide +kernel
theorem zd_M_best_4 : decode zb_M_best 4 = .ok (.invokevirtual 119, 3) := by decide +kernel
theorem zd_M_best_7 : decode zb_M_best 7 = .ok (.aload_n 0, 1) := by decide +kernel
theorem zd_M_best_8 : decode zb_M_best 8 = .ok (.getfield 69, 3) := by decide +kernel
theorem zd_M_best_11 : decode zb_M_best 11 = .ok (.iconst 0, 1) := by decide +kernel
theorem zd_M_best_12 : decode zb_M_best 12 = .ok (.laload, 1) := by decide +kernel
theorem zd_M_best_13 : decode zb_M_best 13 = .ok (.lstore_n 2, 1) := by decide +kernel
theorem zd_M_best_14 : decode zb_M_best 14 = .ok (.iconst 0, 1) := by decide +kernel
theorem zd_M_best_15 : decode zb_M_best 15 = .ok (.istore 4, 2) := by decide +kernel
theorem zd_M_best_17 : decode zb_M_best 17 = .ok (.iload 4, 2) := by decide +kernel
theorem zd_M_best_19 : decode zb_M_best 19 = .ok (.aload_n 0, 1) := by decide +kernel
theorem zd_M_best_20 : decode zb_M_best 20 = .ok (.getfield 104, 3) := by decide +kernel
theorem zd_M_best_23 : decode zb_M_best 23 = .ok (.if_icmp .ge 137, 3) := by decide +kernel
theorem zd_M_best_26 : decode zb_M_best 26 = .ok (.aload_n 0, 1) := by decide +kernel
theorem zd_M_best_27 : decode zb_M_best 27 = .ok (.iload 4, 2) := by decide +kernel
theorem zd_M_best_29 : decode zb_M_best 29 = .ok (.iconst 1, 1) := by decide +kernel
theorem zd_M_best_30 : decode zb_M_best 30 = .ok (.iadd, 1) := by decide +kernel
theorem zd_M_best_31 : decode zb_M_best 31 = .ok (.invokevirtual 119, 3) := by decide +kernel
theorem zd_M_best_34 : decode zb_M_best 34 = .ok (.iconst (-1), 1) := by decide +kernel
theorem zd_M_best_35 : decode zb_M_best 35 = .ok (.istore 5, 2) := by decide +kernel
theorem zd_M_best_37 : decode zb_M_best 37 = .ok (.aload_n 0, 1) := by decide +kernel
theorem zd_M_best_38 : decode zb_M_best 38 = .ok (.getfield 86, 3) := by decide +kernel
theorem zd_M_best_41 : decode zb_M_best 41 = .ok (.iconst 1, 1) := by decide +kernel
theorem zd_M_best_42 : decode zb_M_best 42 = .ok (.isub, 1) := by decide +kernel
theorem zd_M_best_43 : decode zb_M_best 43 = .ok (.istore 6, 2) := by decide +kernel
theorem zd_M_best_45 : decode zb_M_best 45 = .ok (.iload 6, 2) := by decide +kernel
theorem zd_M_best_47 : decode zb_M_best 47 = .ok (.ifCond .lt 78, 3) := by decide +kernel
theorem zd_M_best_50 : decode zb_M_best 50 = .ok (.iload_n 1, 1) := by decide +kernel
theorem zd_M_best_51 : decode zb_M_best 51 = .ok (.iload 6, 2) := by decide +kernel
theorem zd_M_best_53 : decode zb_M_best 53 = .ok (.ishr, 1) := by decide +kernel
theorem zd_M_best_54 : decode zb_M_best 54 = .ok (.iconst 1, 1) := by decide +kernel
theorem zd_M_best_55 : decode zb_M_best 55 = .ok (.iand, 1) := by decide +kernel
theorem zd_M_best_56 : decode zb_M_best 56 = .ok (.iconst 1, 1) := by decide +kernel
theorem zd_M_best_57 : decode zb_M_best 57 = .ok (.if_icmp .eq 62, 3) := by decide +kernel
theorem zd_M_best_60 : decode zb_M_best 60 = .ok (.aload_n 0, 1) := by decide +kernel
theorem zd_M_best_61 : decode zb_M_best 61 = .ok (.getfield 66, 3) := by decide +kernel
theorem zd_M_best_64 : decode zb_M_best 64 = .ok (.bipush 12, 2) := by decide +kernel
theorem zd_M_best_66 : decode zb_M_best 66 = .ok (.iload 4, 2) := by decide +kernel
theorem zd_M_best_68 : decode zb_M_best 68 = .ok (.imul, 1) := by decide +kernel
theorem zd_M_best_69 : decode zb_M_best 69 = .ok (.iload 6, 2) := by decide +kernel
theorem zd_M_best_71 : decode zb_M_best 71 = .ok (.iadd, 1) := by decide +kernel
theorem zd_M_best_72 : decode zb_M_best 72 = .ok (.iaload, 1) := by decide +kernel
theorem zd_M_best_73 : decode zb_M_best 73 = .ok (.iconst (-1), 1) := by decide +kernel
theorem zd_M_best_74 : decode zb_M_best 74 = .ok (.if_icmp .ne 6, 3) := by decide +kernel
theorem zd_M_best_77 : decode zb_M_best 77 = .ok (.goto 42, 3) := by decide +kernel
theorem zd_M_best_80 : decode zb_M_best 80 = .ok (.aload_n 0, 1) := by decide +kernel
theorem zd_M_best_81 : decode zb_M_best 81 = .ok (.getfield 69, 3) := by decide +kernel
theorem zd_M_best_84 : decode zb_M_best 84 = .ok (.iload_n 1, 1) := by decide +kernel
theorem zd_M_best_85 : decode zb_M_best 85 = .ok (.iconst 1, 1) := by decide +kernel
theorem zd_M_best_86 : decode zb_M_best 86 = .ok (.iload 6, 2) := by decide +kernel
theorem zd_M_best_88 : decode zb_M_best 88 = .ok (.ishl, 1) := by decide +kernel
theorem zd_M_best_89 : decode zb_M_best 89 = .ok (.ior, 1) := by decide +kernel
theorem zd_M_best_90 : decode zb_M_best 90 = .ok (.laload, 1) := by decide +kernel
theorem zd_M_best_91 : decode zb_M_best 91 = .ok (.ldc2_w 117, 3) := by decide +kernel
theorem zd_M_best_94 : decode zb_M_best 94 = .ok (.ladd, 1) := by decide +kernel
theorem zd_M_best_95 : decode zb_M_best 95 = .ok (.aload_n 0, 1) := by decide +kernel
theorem zd_M_best_96 : decode zb_M_best 96 = .ok (.getfield 66, 3) := by decide +kernel
theorem zd_M_best_99 : decode zb_M_best 99 = .ok (.bipush 12, 2) := by decide +kernel
theorem zd_M_best_101 : decode zb_M_best 101 = .ok (.iload 4, 2) := by decide +kernel
theorem zd_M_best_103 : decode zb_M_best 103 = .ok (.imul, 1) := by decide +kernel
theorem zd_M_best_104 : decode zb_M_best 104 = .ok (.iload 6, 2) := by decide +kernel
theorem zd_M_best_106 : decode zb_M_best 106 = .ok (.iadd, 1) := by decide +kernel
theorem zd_M_best_107 : decode zb_M_best 107 = .ok (.iaload, 1) := by decide +kernel
theorem zd_M_best_108 : decode zb_M_best 108 = .ok (.i2l, 1) := by decide +kernel
theorem zd_M_best_109 : decode zb_M_best 109 = .ok (.lsub, 1) := by decide +kernel
theorem zd_M_best_110 : decode zb_M_best 110 = .ok (.lload_n 2, 1) := by decide +kernel
theorem zd_M_best_111 : decode zb_M_best 111 = .ok (.lcmp, 1) := by decide +kernel
theorem zd_M_best_112 : decode zb_M_best 112 = .ok (.ifCond .ne 7, 3) := by decide +kernel
theorem zd_M_best_115 : decode zb_M_best 115 = .ok (.iload 6, 2) := by decide +kernel
theorem zd_M_best_117 : decode zb_M_best 117 = .ok (.istore 5, 2) := by decide +kernel
theorem zd_M_best_119 : decode zb_M_best 119 = .ok (.iinc 6 (-1), 3) := by decide +kernel
theorem zd_M_best_122 : decode zb_M_best 122 = .ok (.goto (-77), 3) := by decide +kernel
theorem zd_M_best_125 : decode zb_M_best 125 = .ok (.aload_n 0, 1) := by decide +kernel
theorem zd_M_best_126 : decode zb_M_best 126 = .ok (.getfield 63, 3) := by decide +kernel
theorem zd_M_best_129 : decode zb_M_best 129 = .ok (.iload 4, 2) := by decide +kernel
theorem zd_M_best_131 : decode zb_M_best 131 = .ok (.iload 5, 2) := by decide +kernel
theorem zd_M_best_133 : decode zb_M_best 133 = .ok (.iastore, 1) := by decide +kernel
theorem zd_M_best_134 : decode zb_M_best 134 = .ok (.iload 5, 2) := by decide +kernel
theorem zd_M_best_136 : decode zb_M_best 136 = .ok (.iconst (-1), 1) := by decide +kernel
theorem zd_M_best_137 : decode zb_M_best 137 = .ok (.if_icmp .eq 10, 3) := by decide +kernel
theorem zd_M_best_140 : decode zb_M_best 140 = .ok (.iload_n 1, 1) := by decide +kernel
theorem zd_M_best_141 : decode zb_M_best 141 = .ok (.iconst 1, 1) := by decide +kernel
theorem zd_M_best_142 : decode zb_M_best 142 = .ok (.iload 5, 2) := by decide +kernel
theorem zd_M_best_144 : decode zb_M_best 144 = .ok (.ishl, 1) := by decide +kernel
theorem zd_M_best_145 : decode zb_M_best 145 = .ok (.ior, 1) := by decide +kernel
theorem zd_M_best_146 : decode zb_M_best 146 = .ok (.istore_n 1, 1) := by decide +kernel
theorem zd_M_best_147 : decode zb_M_best 147 = .ok (.aload_n 0, 1) := by decide +kernel
theorem zd_M_best_148 : decode zb_M_best 148 = .ok (.getfield 69, 3) := by decide +kernel
theorem zd_M_best_151 : decode zb_M_best 151 = .ok (.iload_n 1, 1) := by decide +kernel
theorem zd_M_best_152 : decode zb_M_best 152 = .ok (.laload, 1) := by decide +kernel
theorem zd_M_best_153 : decode zb_M_best 153 = .ok (.lstore_n 2, 1) := by decide +kernel
theorem zd_M_best_154 : decode zb_M_best 154 = .ok (.iinc 4 1, 3) := by decide +kernel
theorem zd_M_best_157 : decode zb_M_best 157 = .ok (.goto (-140), 3) := by decide +kernel
theorem zd_M_best_160 : decode zb_M_best 160 = .ok (.return_, 1) := by decide +kernel
theorem zd_M_cheapest_0 : decode zb_M_cheapest 0 = .ok (.iconst (-1), 1) := by decide +kernel
theorem zd_M_cheapest_1 : decode zb_M_cheapest 1 = .ok (.istore_n 3, 1) := by decide +kernel
theorem zd_M_cheapest_2 : decode zb_M_cheapest 2 = .ok (.iconst 0, 1) := by decide +kernel
theorem zd_M_cheapest_3 : decode zb_M_cheapest 3 = .ok (.istore 4, 2) := by decide +kernel
theorem zd_M_cheapest_5 : decode zb_M_cheapest 5 = .ok (.iload 4, 2) := by decide +kernel
theorem zd_M_cheapest_7 : decode zb_M_cheapest 7 = .ok (.aload_n 0, 1) := by decide +kernel
theorem zd_M_cheapest_8 : decode zb_M_cheapest 8 = .ok (.getfield 86, 3) := by decide +kernel
theorem zd_M_cheapest_11 : decode zb_M_cheapest 11 = .ok (.if_icmp .ge 57, 3) := by decide +kernel
theorem zd_M_cheapest_14 : decode zb_M_cheapest 14 = .ok (.iload_n 2, 1) := by decide +kernel
theorem zd_M_cheapest_15 : decode zb_M_cheapest 15 = .ok (.iload 4, 2) := by decide +kernel
theorem zd_M_cheapest_17 : decode zb_M_cheapest 17 = .ok (.ishr, 1) := by decide +kernel
theorem zd_M_cheapest_18 : decode zb_M_cheapest 18 = .ok (.iconst 1, 1) := by decide +kernel
theorem zd_M_cheapest_19 : decode zb_M_cheapest 19 = .ok (.iand, 1) := by decide +kernel
theorem zd_M_cheapest_20 : decode zb_M_cheapest 20 = .ok (.iconst 1, 1) := by decide +kernel
theorem zd_M_cheapest_21 : decode zb_M_cheapest 21 = .ok (.if_icmp .eq 41, 3) := by decide +kernel
theorem zd_M_cheapest_24 : decode zb_M_cheapest 24 = .ok (.aload_n 0, 1) := by decide +kernel
theorem zd_M_cheapest_25 : decode zb_M_cheapest 25 = .ok (.iload_n 1, 1) := by decide +kernel
theorem zd_M_cheapest_26 : decode zb_M_cheapest 26 = .ok (.iload 4, 2) := by decide +kernel
theorem zd_M_cheapest_28 : decode zb_M_cheapest 28 = .ok (.iconst 5, 1) := by decide +kernel
theorem zd_M_cheapest_29 : decode zb_M_cheapest 29 = .ok (.invokevirtual 110, 3) := by decide +kernel
theorem zd_M_cheapest_32 : decode zb_M_cheapest 32 = .ok (.ifCond .ne 6, 3) := by decide +kernel
theorem zd_M_cheapest_35 : decode zb_M_cheapest 35 = .ok (.goto 27, 3) := by decide +kernel
theorem zd_M_cheapest_38 : decode zb_M_cheapest 38 = .ok (.iload_n 3, 1) := by decide +kernel
theorem zd_M_cheapest_39 : decode zb_M_cheapest 39 = .ok (.iconst (-1), 1) := by decide +kernel
theorem zd_M_cheapest_40 : decode zb_M_cheapest 40 = .ok (.if_icmp .eq 19, 3) := by decide +kernel
theorem zd_M_cheapest_43 : decode zb_M_cheapest 43 = .ok (.aload_n 0, 1) := by decide +kernel
theorem zd_M_cheapest_44 : decode zb_M_cheapest 44 = .ok (.iload_n 1, 1) := by decide +kernel
theorem zd_M_cheapest_45 : decode zb_M_cheapest 45 = .ok (.iload 4, 2) := by decide +kernel
theorem zd_M_cheapest_47 : decode zb_M_cheapest 47 = .ok (.invokevirtual 113, 3) := by decide +kernel
theorem zd_M_cheapest_50 : decode zb_M_cheapest 50 = .ok (.aload_n 0, 1) := by decide +kernel
theorem zd_M_cheapest_51 : decode zb_M_cheapest 51 = .ok (.iload_n 1, 1) := by decide +kernel
theorem zd_M_cheapest_52 : decode zb_M_cheapest 52 = .ok (.iload_n 3, 1) := by decide +kernel
theorem zd_M_cheapest_53 : decode zb_M_cheapest 53 = .ok (.invokevirtual 113, 3) := by decide +kernel
theorem zd_M_cheapest_56 : decode zb_M_cheapest 56 = .ok (.if_icmp .ge 6, 3) := by decide +kernel
theorem zd_M_cheapest_59 : decode zb_M_cheapest 59 = .ok (.iload 4, 2) := by decide +kernel
theorem zd_M_cheapest_61 : decode zb_M_cheapest 61 = .ok (.istore_n 3, 1) := by decide +kernel
theorem zd_M_cheapest_62 : decode zb_M_cheapest 62 = .ok (.iinc 4 1, 3) := by decide +kernel
theorem zd_M_cheapest_65 : decode zb_M_cheapest 65 = .ok (.goto (-60), 3) := by decide +kernel
theorem zd_M_cheapest_68 : decode zb_M_cheapest 68 = .ok (.iload_n 3, 1) := by decide +kernel
theorem zd_M_cheapest_69 : decode zb_M_cheapest 69 = .ok (.ireturn, 1) := by decide +kernel
theorem zd_M_oneByOne_0 : decode zb_M_oneByOne 0 = .ok (.iconst 0, 1) := by decide +kernel
theorem zd_M_oneByOne_1 : decode zb_M_oneByOne 1 = .ok (.istore_n 1, 1) := by decide +kernel
theorem zd_M_oneByOne_2 : decode zb_M_oneByOne 2 = .ok (.iconst 0, 1) := by decide +kernel
theorem zd_M_oneByOne_3 : decode zb_M_oneByOne 3 = .ok (.istore_n 2, 1) := by decide +kernel
theorem zd_M_oneByOne_4 : decode zb_M_oneByOne 4 = .ok (.iload_n 2, 1) := by decide +kernel
theorem zd_M_oneByOne_5 : decode zb_M_oneByOne 5 = .ok (.aload_n 0, 1) := by decide +kernel
theorem zd_M_oneByOne_6 : decode zb_M_oneByOne 6 = .ok (.getfield 104, 3) := by decide +kernel
theorem zd_M_oneByOne_9 : decode zb_M_oneByOne 9 = .ok (.if_icmp .ge 47, 3) := by decide +kernel
theorem zd_M_oneByOne_12 : decode zb_M_oneByOne 12 = .ok (.aload_n 0, 1) := by decide +kernel
theorem zd_M_oneByOne_13 : decode zb_M_oneByOne 13 = .ok (.getfield 63, 3) := by decide +kernel
theorem zd_M_oneByOne_16 : decode zb_M_oneByOne 16 = .ok (.iload_n 2, 1) := by decide +kernel
theorem zd_M_oneByOne_17 : decode zb_M_oneByOne 17 = .ok (.aload_n 0, 1) := by decide +kernel
theorem zd_M_oneByOne_18 : decode zb_M_oneByOne 18 = .ok (.aload_n 0, 1) := by decide +kernel
theorem zd_M_oneByOne_19 : decode zb_M_oneByOne 19 = .ok (.getfield 60, 3) := by decide +kernel
theorem zd_M_oneByOne_22 : decode zb_M_oneByOne 22 = .ok (.iload_n 2, 1) := by decide +kernel
theorem zd_M_oneByOne_23 : decode zb_M_oneByOne 23 = .ok (.iaload, 1) := by decide +kernel
theorem zd_M_oneByOne_24 : decode zb_M_oneByOne 24 = .ok (.iload_n 1, 1) := by decide +kernel
theorem zd_M_oneByOne_25 : decode zb_M_oneByOne 25 = .ok (.invokevirtual 123, 3) := by decide +kernel
theorem zd_M_oneByOne_28 : decode zb_M_oneByOne 28 = .ok (.iastore, 1) := by decide +kernel
theorem zd_M_oneByOne_29 : decode zb_M_oneByOne 29 = .ok (.aload_n 0, 1) := by decide +kernel
theorem zd_M_oneByOne_30 : decode zb_M_oneByOne 30 = .ok (.getfield 63, 3) := by decide +kernel
theorem zd_M_oneByOne_33 : decode zb_M_oneByOne 33 = .ok (.iload_n 2, 1) := by decide +kernel
theorem zd_M_oneByOne_34 : decode zb_M_oneByOne 34 = .ok (.iaload, 1) := by decide +kernel
theorem zd_M_oneByOne_35 : decode zb_M_oneByOne 35 = .ok (.iconst (-1), 1) := by decide +kernel
theorem zd_M_oneByOne_36 : decode zb_M_oneByOne 36 = .ok (.if_icmp .eq 14, 3) := by decide +kernel
theorem zd_M_oneByOne_39 : decode zb_M_oneByOne 39 = .ok (.iload_n 1, 1) := by decide +kernel
theorem zd_M_oneByOne_40 : decode zb_M_oneByOne 40 = .ok (.iconst 1, 1) := by decide +kernel
theorem zd_M_oneByOne_41 : decode zb_M_oneByOne 41 = .ok (.aload_n 0, 1) := by decide +kernel
theorem zd_M_oneByOne_42 : decode zb_M_oneByOne 42 = .ok (.getfield 63, 3) := by decide +kernel
theorem zd_M_oneByOne_45 : decode zb_M_oneByOne 45 = .ok (.iload_n 2, 1) := by decide +kernel
theorem zd_M_oneByOne_46 : decode zb_M_oneByOne 46 = .ok (.iaload, 1) := by decide +kernel
theorem zd_M_oneByOne_47 : decode zb_M_oneByOne 47 = .ok (.ishl, 1) := by decide +kernel
theorem zd_M_oneByOne_48 : decode zb_M_oneByOne 48 = .ok (.ior, 1) := by decide +kernel
theorem zd_M_oneByOne_49 : decode zb_M_oneByOne 49 = .ok (.istore_n 1, 1) := by decide +kernel
theorem zd_M_oneByOne_50 : decode zb_M_oneByOne 50 = .ok (.iinc 2 1, 3) := by decide +kernel
theorem zd_M_oneByOne_53 : decode zb_M_oneByOne 53 = .ok (.goto (-49), 3) := by decide +kernel
theorem zd_M_oneByOne_56 : decode zb_M_oneByOne 56 = .ok (.return_, 1) := by decide +kernel
theorem zd_M_assign_0 : decode zb_M_assign 0 = .ok (.aload_n 0, 1) := by decide +kernel
theorem zd_M_assign_1 : decode zb_M_assign 1 = .ok (.iload_n 1, 1) := by decide +kernel
theorem zd_M_assign_2 : decode zb_M_assign 2 = .ok (.ifCond .ge 7, 3) := by decide +kernel
theorem zd_M_assign_5 : decode zb_M_assign 5 = .ok (.iconst 1, 1) := by decide +kernel
theorem zd_M_assign_6 : decode zb_M_assign 6 = .ok (.goto 4, 3) := by decide +kernel
theorem zd_M_assign_9 : decode zb_M_assign 9 = .ok (.iconst 0, 1) := by decide +kernel
theorem zd_M_assign_10 : decode zb_M_assign 10 = .ok (.putfield 76, 3) := by decide +kernel
theorem zd_M_assign_13 : decode zb_M_assign 13 = .ok (.aload_n 0, 1) := by decide +kernel
theorem zd_M_assign_14 : decode zb_M_assign 14 = .ok (.getfield 76, 3) := by decide +kernel
theorem zd_M_assign_17 : decode zb_M_assign 17 = .ok (.ifCond .le 5, 3) := by decide +kernel
theorem zd_M_assign_20 : decode zb_M_assign 20 = .ok (.iconst 0, 1) := by decide +kernel
theorem zd_M_assign_21 : decode zb_M_assign 21 = .ok (.ireturn, 1) := by decide +kernel
theorem zd_M_assign_22 : decode zb_M_assign 22 = .ok (.aload_n 0, 1) := by decide +kernel
theorem zd_M_assign_23 : decode zb_M_assign 23 = .ok (.invokevirtual 126, 3) := by decide +kernel
theorem zd_M_assign_26 : decode zb_M_assign 26 = .ok (.aload_n 0, 1) := by decide +kernel
theorem zd_M_assign_27 : decode zb_M_assign 27 = .ok (.getfield 104, 3) := by decide +kernel
theorem zd_M_assign_30 : decode zb_M_assign 30 = .ok (.aload_n 0, 1) := by decide +kernel
theorem zd_M_assign_31 : decode zb_M_assign 31 = .ok (.getfield 53, 3) := by decide +kernel
theorem zd_M_assign_34 : decode zb_M_assign 34 = .ok (.if_icmp .gt 7, 3) := by decide +kernel
theorem zd_M_assign_37 : decode zb_M_assign 37 = .ok (.iconst 1, 1) := by decide +kernel
theorem zd_M_assign_38 : decode zb_M_assign 38 = .ok (.goto 4, 3) := by decide +kernel
theorem zd_M_assign_41 : decode zb_M_assign 41 = .ok (.iconst 0, 1) := by decide +kernel
theorem zd_M_assign_42 : decode zb_M_assign 42 = .ok (.istore_n 2, 1) := by decide +kernel
theorem zd_M_assign_43 : decode zb_M_assign 43 = .ok (.iload_n 2, 1) := by decide +kernel
theorem zd_M_assign_44 : decode zb_M_assign 44 = .ok (.ifCond .eq 10, 3) := by decide +kernel
theorem zd_M_assign_47 : decode zb_M_assign 47 = .ok (.aload_n 0, 1) := by decide +kernel
theorem zd_M_assign_48 : decode zb_M_assign 48 = .ok (.invokevirtual 129, 3) := by decide +kernel
theorem zd_M_assign_51 : decode zb_M_assign 51 = .ok (.goto 7, 3) := by decide +kernel
theorem zd_M_assign_54 : decode zb_M_assign 54 = .ok (.aload_n 0, 1) := by decide +kernel
theorem zd_M_assign_55 : decode zb_M_assign 55 = .ok (.invokevirtual 132, 3) := by decide +kernel
theorem zd_M_assign_58 : decode zb_M_assign 58 = .ok (.iconst 0, 1) := by decide +kernel
theorem zd_M_assign_59 : decode zb_M_assign 59 = .ok (.istore_n 3, 1) := by decide +kernel
theorem zd_M_assign_60 : decode zb_M_assign 60 = .ok (.iconst 0, 1) := by decide +kernel
theorem zd_M_assign_61 : decode zb_M_assign 61 = .ok (.istore 4, 2) := by decide +kernel
theorem zd_M_assign_63 : decode zb_M_assign 63 = .ok (.iload 4, 2) := by decide +kernel
theorem zd_M_assign_65 : decode zb_M_assign 65 = .ok (.aload_n 0, 1) := by decide +kernel
theorem zd_M_assign_66 : decode zb_M_assign 66 = .ok (.getfield 104, 3) := by decide +kernel
theorem zd_M_assign_69 : decode zb_M_assign 69 = .ok (.if_icmp .ge 45, 3) := by decide +kernel
theorem zd_M_assign_72 : decode zb_M_assign 72 = .ok (.iload_n 3, 1) := by decide +kernel
theorem zd_M_assign_73 : decode zb_M_assign 73 = .ok (.aload_n 0, 1) := by decide +kernel
theorem zd_M_assign_74 : decode zb_M_assign 74 = .ok (.getfield 63, 3) := by decide +kernel
theorem zd_M_assign_77 : decode zb_M_assign 77 = .ok (.iload 4, 2) := by decide +kernel
theorem zd_M_assign_79 : decode zb_M_assign 79 = .ok (.iaload, 1) := by decide +kernel
theorem zd_M_assign_80 : decode zb_M_assign 80 = .ok (.iconst (-1), 1) := by decide +kernel
theorem zd_M_assign_81 : decode zb_M_assign 81 = .ok (.if_icmp .ne 7, 3) := by decide +kernel
theorem zd_M_assign_84 : decode zb_M_assign 84 = .ok (.iconst 0, 1) := by decide +kernel
theorem zd_M_assign_85 : decode zb_M_assign 85 = .ok (.goto 21, 3) := by decide +kernel
theorem zd_M_assign_88 : decode zb_M_assign 88 = .ok (.aload_n 0, 1) := by decide +kernel
theorem zd_M_assign_89 : decode zb_M_assign 89 = .ok (.aload_n 0, 1) := by decide +kernel
theorem zd_M_assign_90 : decode zb_M_assign 90 = .ok (.getfield 60, 3) := by decide +kernel
theorem zd_M_assign_93 : decode zb_M_assign 93 = .ok (.iload 4, 2) := by decide +kernel
theorem zd_M_assign_95 : decode zb_M_assign 95 = .ok (.iaload, 1) := by decide +kernel
theorem zd_M_assign_96 : decode zb_M_assign 96 = .ok (.aload_n 0, 1) := by decide +kernel
theorem zd_M_assign_97 : decode zb_M_assign 97 = .ok (.getfield 63, 3) := by decide +kernel
theorem zd_M_assign_100 : decode zb_M_assign 100 = .ok (.iload 4, 2) := by decide +kernel
theorem zd_M_assign_102 : decode zb_M_assign 102 = .ok (.iaload, 1) := by decide +kernel
theorem zd_M_assign_103 : decode zb_M_assign 103 = .ok (.invokevirtual 113, 3) := by decide +kernel
theorem zd_M_assign_106 : decode zb_M_assign 106 = .ok (.iadd, 1) := by decide +kernel
theorem zd_M_assign_107 : decode zb_M_assign 107 = .ok (.istore_n 3, 1) := by decide +kernel
theorem zd_M_assign_108 : decode zb_M_assign 108 = .ok (.iinc 4 1, 3) := by decide +kernel
theorem zd_M_assign_111 : decode zb_M_assign 111 = .ok (.goto (-48), 3) := by decide +kernel
theorem zd_M_assign_114 : decode zb_M_assign 114 = .ok (.iload_n 3, 1) := by decide +kernel
theorem zd_M_assign_115 : decode zb_M_assign 115 = .ok (.iload_n 1, 1) := by decide +kernel
theorem zd_M_assign_116 : decode zb_M_assign 116 = .ok (.if_icmp .le 5, 3) := by decide +kernel
theorem zd_M_assign_119 : decode zb_M_assign 119 = .ok (.iconst (-1), 1) := by decide +kernel
theorem zd_M_assign_120 : decode zb_M_assign 120 = .ok (.ireturn, 1) := by decide +kernel
theorem zd_M_assign_121 : decode zb_M_assign 121 = .ok (.aload_n 0, 1) := by decide +kernel
theorem zd_M_assign_122 : decode zb_M_assign 122 = .ok (.iload_n 2, 1) := by decide +kernel
theorem zd_M_assign_123 : decode zb_M_assign 123 = .ok (.putfield 135, 3) := by decide +kernel
theorem zd_M_assign_126 : decode zb_M_assign 126 = .ok (.iconst 0, 1) := by decide +kernel
theorem zd_M_assign_127 : decode zb_M_assign 127 = .ok (.istore 4, 2) := by decide +kernel
theorem zd_M_assign_129 : decode zb_M_assign 129 = .ok (.iload 4, 2) := by decide +kernel
theorem zd_M_assign_131 : decode zb_M_assign 131 = .ok (.aload_n 0, 1) := by decide +kernel
theorem zd_M_assign_132 : decode zb_M_assign 132 = .ok (.getfield 104, 3) := by decide +kernel
theorem zd_M_assign_135 : decode zb_M_assign 135 = .ok (.if_icmp .ge 58, 3) := by decide +kernel
theorem zd_M_assign_138 : decode zb_M_assign 138 = .ok (.iconst 0, 1) := by decide +kernel
theorem zd_M_assign_139 : decode zb_M_assign 139 = .ok (.istore 5, 2) := by decide +kernel
theorem zd_M_assign_141 : decode zb_M_assign 141 = .ok (.iload 5, 2) := by decide +kernel
theorem zd_M_assign_143 : decode zb_M_assign 143 = .ok (.aload_n 0, 1) := by decide +kernel
theorem zd_M_assign_144 : decode zb_M_assign 144 = .ok (.getfield 79, 3) := by decide +kernel
theorem zd_M_assign_147 : decode zb_M_assign 147 = .ok (.if_icmp .ge 40, 3) := by decide +kernel
theorem zd_M_assign_150 : decode zb_M_assign 150 = .ok (.aload_n 0, 1) := by decide +kernel
theorem zd_M_assign_151 : decode zb_M_assign 151 = .ok (.getfield 16, 3) := by decide +kernel
theorem zd_M_assign_154 : decode zb_M_assign 154 = .ok (.iload 5, 2) := by decide +kernel
theorem zd_M_assign_156 : decode zb_M_assign 156 = .ok (.iaload, 1) := by decide +kernel
theorem zd_M_assign_157 : decode zb_M_assign 157 = .ok (.aload_n 0, 1) := by decide +kernel
theorem zd_M_assign_158 : decode zb_M_assign 158 = .ok (.getfield 60, 3) := by decide +kernel
theorem zd_M_assign_161 : decode zb_M_assign 161 = .ok (.iload 4, 2) := by decide +kernel
theorem zd_M_assign_163 : decode zb_M_assign 163 = .ok (.iaload, 1) := by decide +kernel
theorem zd_M_assign_164 : decode zb_M_assign 164 = .ok (.if_icmp .ne 17, 3) := by decide +kernel
theorem zd_M_assign_167 : decode zb_M_assign 167 = .ok (.aload_n 0, 1) := by decide +kernel
theorem zd_M_assign_168 : decode zb_M_assign 168 = .ok (.getfield 22, 3) := by decide +kernel
theorem zd_M_assign_171 : decode zb_M_assign 171 = .ok (.iload 5, 2) := by decide +kernel
theorem zd_M_assign_173 : decode zb_M_assign 173 = .ok (.aload_n 0, 1) := by decide +kernel
theorem zd_M_assign_174 : decode zb_M_assign 174 = .ok (.getfield 63, 3) := by decide +kernel
theorem zd_M_assign_177 : decode zb_M_assign 177 = .ok (.iload 4, 2) := by decide +kernel
theorem zd_M_assign_179 : decode zb_M_assign 179 = .ok (.iaload, 1) := by decide +kernel
theorem zd_M_assign_180 : decode zb_M_assign 180 = .ok (.iastore, 1) := by decide +kernel
theorem zd_M_assign_181 : decode zb_M_assign 181 = .ok (.iinc 5 1, 3) := by decide +kernel
theorem zd_M_assign_184 : decode zb_M_assign 184 = .ok (.goto (-43), 3) := by decide +kernel
theorem zd_M_assign_187 : decode zb_M_assign 187 = .ok (.iinc 4 1, 3) := by decide +kernel
theorem zd_M_assign_190 : decode zb_M_assign 190 = .ok (.goto (-61), 3) := by decide +kernel
theorem zd_M_assign_193 : decode zb_M_assign 193 = .ok (.iload_n 3, 1) := by decide +kernel
theorem zd_M_assign_194 : decode zb_M_assign 194 = .ok (.ireturn, 1) := by decide +kernel
theorem zd_M_at_0 : decode zb_M_at 0 = .ok (.aload_n 0, 1) := by decide +kernel
theorem zd_M_at_1 : decode zb_M_at 1 = .ok (.aload_n 0, 1) := by decide +kernel
theorem zd_M_at_2 : decode zb_M_at 2 = .ok (.iload_n 1, 1) := by decide +kernel
theorem zd_M_at_3 : decode zb_M_at 3 = .ok (.invokevirtual 89, 3) := by decide +kernel
theorem zd_M_at_6 : decode zb_M_at 6 = .ok (.ifCond .eq 7, 3) := by decide +kernel
theorem zd_M_at_9 : decode zb_M_at 9 = .ok (.iconst 0, 1) := by decide +kernel
theorem zd_M_at_10 : decode zb_M_at 10 = .ok (.goto 4, 3) := by decide +kernel
theorem zd_M_at_13 : decode zb_M_at 13 = .ok (.iconst 1, 1) := by decide +kernel
theorem zd_M_at_14 : decode zb_M_at 14 = .ok (.putfield 76, 3) := by decide +kernel
theorem zd_M_at_17 : decode zb_M_at 17 = .ok (.aload_n 0, 1) := by decide +kernel
theorem zd_M_at_18 : decode zb_M_at 18 = .ok (.getfield 76, 3) := by decide +kernel
theorem zd_M_at_21 : decode zb_M_at 21 = .ok (.ifCond .le 7, 3) := by decide +kernel
theorem zd_M_at_24 : decode zb_M_at 24 = .ok (.iconst 0, 1) := by decide +kernel
theorem zd_M_at_25 : decode zb_M_at 25 = .ok (.goto 9, 3) := by decide +kernel
theorem zd_M_at_28 : decode zb_M_at 28 = .ok (.aload_n 0, 1) := by decide +kernel
theorem zd_M_at_29 : decode zb_M_at 29 = .ok (.getfield 22, 3) := by decide +kernel
theorem zd_M_at_32 : decode zb_M_at 32 = .ok (.iload_n 1, 1) := by decide +kernel
theorem zd_M_at_33 : decode zb_M_at 33 = .ok (.iaload, 1) := by decide +kernel
theorem zd_M_at_34 : decode zb_M_at 34 = .ok (.ireturn, 1) := by decide +kernel
theorem zd_M_exact_0 : decode zb_M_exact 0 = .ok (.aload_n 0, 1) := by decide +kernel
theorem zd_M_exact_1 : decode zb_M_exact 1 = .ok (.iconst 0, 1) := by decide +kernel
theorem zd_M_exact_2 : decode zb_M_exact 2 = .ok (.putfield 76, 3) := by decide +kernel
theorem zd_M_exact_5 : decode zb_M_exact 5 = .ok (.aload_n 0, 1) := by decide +kernel
theorem zd_M_exact_6 : decode zb_M_exact 6 = .ok (.getfield 135, 3) := by decide +kernel
theorem zd_M_exact_9 : decode zb_M_exact 9 = .ok (.ireturn, 1) := by decide +kernel
theorem zd_M_bound_0 : decode zb_M_bound 0 = .ok (.aload_n 0, 1) := by decide +kernel
theorem zd_M_bound_1 : decode zb_M_bound 1 = .ok (.iconst 0, 1) := by decide +kernel
theorem zd_M_bound_2 : decode zb_M_bound 2 = .ok (.putfield 76, 3) := by decide +kernel
theorem zd_M_bound_5 : decode zb_M_bound 5 = .ok (.aload_n 0, 1) := by decide +kernel
theorem zd_M_bound_6 : decode zb_M_bound 6 = .ok (.invokevirtual 126, 3) := by decide +kernel
theorem zd_M_bound_9 : decode zb_M_bound 9 = .ok (.iconst 0, 1) := by decide +kernel
theorem zd_M_bound_10 : decode zb_M_bound 10 = .ok (.istore_n 1, 1) := by decide +kernel
theorem zd_M_bound_11 : decode zb_M_bound 11 = .ok (.iconst 0, 1) := by decide +kernel
theorem zd_M_bound_12 : decode zb_M_bound 12 = .ok (.istore_n 2, 1) := by decide +kernel
theorem zd_M_bound_13 : decode zb_M_bound 13 = .ok (.iload_n 2, 1) := by decide +kernel
theorem zd_M_bound_14 : decode zb_M_bound 14 = .ok (.aload_n 0, 1) := by decide +kernel
theorem zd_M_bound_15 : decode zb_M_bound 15 = .ok (.getfield 104, 3) := by decide +kernel
theorem zd_M_bound_18 : decode zb_M_bound 18 = .ok (.if_icmp .ge 42, 3) := by decide +kernel
theorem zd_M_bound_21 : decode zb_M_bound 21 = .ok (.aload_n 0, 1) := by decide +kernel
theorem zd_M_bound_22 : decode zb_M_bound 22 = .ok (.aload_n 0, 1) := by decide +kernel
theorem zd_M_bound_23 : decode zb_M_bound 23 = .ok (.getfield 60, 3) := by decide +kernel
theorem zd_M_bound_26 : decode zb_M_bound 26 = .ok (.iload_n 2, 1) := by decide +kernel
theorem zd_M_bound_27 : decode zb_M_bound 27 = .ok (.iaload, 1) := by decide +kernel
theorem zd_M_bound_28 : decode zb_M_bound 28 = .ok (.iconst 0, 1) := by decide +kernel
theorem zd_M_bound_29 : decode zb_M_bound 29 = .ok (.invokevirtual 123, 3) := by decide +kernel
theorem zd_M_bound_32 : decode zb_M_bound 32 = .ok (.istore_n 3, 1) := by decide +kernel
theorem zd_M_bound_33 : decode zb_M_bound 33 = .ok (.iload_n 3, 1) := by decide +kernel
theorem zd_M_bound_34 : decode zb_M_bound 34 = .ok (.iconst (-1), 1) := by decide +kernel
theorem zd_M_bound_35 : decode zb_M_bound 35 = .ok (.if_icmp .ne 5, 3) := by decide +kernel
theorem zd_M_bound_38 : decode zb_M_bound 38 = .ok (.iconst (-1), 1) := by decide +kernel
theorem zd_M_bound_39 : decode zb_M_bound 39 = .ok (.ireturn, 1) := by decide +kernel
theorem zd_M_bound_40 : decode zb_M_bound 40 = .ok (.iload_n 1, 1) := by decide +kernel
theorem zd_M_bound_41 : decode zb_M_bound 41 = .ok (.aload_n 0, 1) := by decide +kernel
theorem zd_M_bound_42 : decode zb_M_bound 42 = .ok (.aload_n 0, 1) := by decide +kernel
theorem zd_M_bound_43 : decode zb_M_bound 43 = .ok (.getfield 60, 3) := by decide +kernel
theorem zd_M_bound_46 : decode zb_M_bound 46 = .ok (.iload_n 2, 1) := by decide +kernel
theorem zd_M_bound_47 : decode zb_M_bound 47 = .ok (.iaload, 1) := by decide +kernel
theorem zd_M_bound_48 : decode zb_M_bound 48 = .ok (.iload_n 3, 1) := by decide +kernel
theorem zd_M_bound_49 : decode zb_M_bound 49 = .ok (.invokevirtual 113, 3) := by decide +kernel
theorem zd_M_bound_52 : decode zb_M_bound 52 = .ok (.iadd, 1) := by decide +kernel
theorem zd_M_bound_53 : decode zb_M_bound 53 = .ok (.istore_n 1, 1) := by decide +kernel
theorem zd_M_bound_54 : decode zb_M_bound 54 = .ok (.iinc 2 1, 3) := by decide +kernel
theorem zd_M_bound_57 : decode zb_M_bound 57 = .ok (.goto (-44), 3) := by decide +kernel
theorem zd_M_bound_60 : decode zb_M_bound 60 = .ok (.iload_n 1, 1) := by decide +kernel
theorem zd_M_bound_61 : decode zb_M_bound 61 = .ok (.ireturn, 1) := by decide +kernel
theorem zd_M_barred_0 : decode zb_M_barred 0 = .ok (.aload_n 0, 1) := by decide +kernel
theorem zd_M_barred_1 : decode zb_M_barred 1 = .ok (.aload_n 0, 1) := by decide +kernel
theorem zd_M_barred_2 : decode zb_M_barred 2 = .ok (.iload_n 1, 1) := by decide +kernel
theorem zd_M_barred_3 : decode zb_M_barred 3 = .ok (.invokevirtual 89, 3) := by decide +kernel
theorem zd_M_barred_6 : decode zb_M_barred 6 = .ok (.ifCond .ne 7, 3) := by decide +kernel
theorem zd_M_barred_9 : decode zb_M_barred 9 = .ok (.iconst 1, 1) := by decide +kernel
theorem zd_M_barred_10 : decode zb_M_barred 10 = .ok (.goto 4, 3) := by decide +kernel
theorem zd_M_barred_13 : decode zb_M_barred 13 = .ok (.iconst 0, 1) := by decide +kernel
theorem zd_M_barred_14 : decode zb_M_barred 14 = .ok (.putfield 76, 3) := by decide +kernel
theorem zd_M_barred_17 : decode zb_M_barred 17 = .ok (.aload_n 0, 1) := by decide +kernel
theorem zd_M_barred_18 : decode zb_M_barred 18 = .ok (.getfield 76, 3) := by decide +kernel
theorem zd_M_barred_21 : decode zb_M_barred 21 = .ok (.ifCond .ne 21, 3) := by decide +kernel
theorem zd_M_barred_24 : decode zb_M_barred 24 = .ok (.aload_n 0, 1) := by decide +kernel
theorem zd_M_barred_25 : decode zb_M_barred 25 = .ok (.aload_n 0, 1) := by decide +kernel
theorem zd_M_barred_26 : decode zb_M_barred 26 = .ok (.getfield 25, 3) := by decide +kernel
theorem zd_M_barred_29 : decode zb_M_barred 29 = .ok (.iload_n 1, 1) := by decide +kernel
theorem zd_M_barred_30 : decode zb_M_barred 30 = .ok (.baload, 1) := by decide +kernel
theorem zd_M_barred_31 : decode zb_M_barred 31 = .ok (.ifCond .eq 7, 3) := by decide +kernel
theorem zd_M_barred_34 : decode zb_M_barred 34 = .ok (.iconst 2, 1) := by decide +kernel
theorem zd_M_barred_35 : decode zb_M_barred 35 = .ok (.goto 4, 3) := by decide +kernel
theorem zd_M_barred_38 : decode zb_M_barred 38 = .ok (.iconst 0, 1) := by decide +kernel
theorem zd_M_barred_39 : decode zb_M_barred 39 = .ok (.putfield 76, 3) := by decide +kernel
theorem zd_M_barred_42 : decode zb_M_barred 42 = .ok (.aload_n 0, 1) := by decide +kernel
theorem zd_M_barred_43 : decode zb_M_barred 43 = .ok (.getfield 76, 3) := by decide +kernel
theorem zd_M_barred_46 : decode zb_M_barred 46 = .ok (.ifCond .le 5, 3) := by decide +kernel
theorem zd_M_barred_49 : decode zb_M_barred 49 = .ok (.iconst 0, 1) := by decide +kernel
theorem zd_M_barred_50 : decode zb_M_barred 50 = .ok (.ireturn, 1) := by decide +kernel
theorem zd_M_barred_51 : decode zb_M_barred 51 = .ok (.iconst 1, 1) := by decide +kernel
theorem zd_M_barred_52 : decode zb_M_barred 52 = .ok (.istore_n 2, 1) := by decide +kernel
theorem zd_M_barred_53 : decode zb_M_barred 53 = .ok (.iload_n 2, 1) := by decide +kernel
theorem zd_M_barred_54 : decode zb_M_barred 54 = .ok (.bipush 6, 2) := by decide +kernel
theorem zd_M_barred_56 : decode zb_M_barred 56 = .ok (.if_icmp .ge 61, 3) := by decide +kernel
theorem zd_M_barred_59 : decode zb_M_barred 59 = .ok (.iconst 0, 1) := by decide +kernel
theorem zd_M_barred_60 : decode zb_M_barred 60 = .ok (.istore_n 3, 1) := by decide +kernel
theorem zd_M_barred_61 : decode zb_M_barred 61 = .ok (.iconst 0, 1) := by decide +kernel
theorem zd_M_barred_62 : decode zb_M_barred 62 = .ok (.istore 4, 2) := by decide +kernel
theorem zd_M_barred_64 : decode zb_M_barred 64 = .ok (.iload 4, 2) := by decide +kernel
theorem zd_M_barred_66 : decode zb_M_barred 66 = .ok (.aload_n 0, 1) := by decide +kernel
theorem zd_M_barred_67 : decode zb_M_barred 67 = .ok (.getfield 86, 3) := by decide +kernel
theorem zd_M_barred_70 : decode zb_M_barred 70 = .ok (.if_icmp .ge 35, 3) := by decide +kernel
theorem zd_M_barred_73 : decode zb_M_barred 73 = .ok (.iload_n 3, 1) := by decide +kernel
theorem zd_M_barred_74 : decode zb_M_barred 74 = .ok (.ifCond .ne 19, 3) := by decide +kernel
theorem zd_M_barred_77 : decode zb_M_barred 77 = .ok (.aload_n 0, 1) := by decide +kernel
theorem zd_M_barred_78 : decode zb_M_barred 78 = .ok (.aload_n 0, 1) := by decide +kernel
theorem zd_M_barred_79 : decode zb_M_barred 79 = .ok (.getfield 16, 3) := by decide +kernel
theorem zd_M_barred_82 : decode zb_M_barred 82 = .ok (.iload_n 1, 1) := by decide +kernel
theorem zd_M_barred_83 : decode zb_M_barred 83 = .ok (.iaload, 1) := by decide +kernel
theorem zd_M_barred_84 : decode zb_M_barred 84 = .ok (.iload 4, 2) := by decide +kernel
theorem zd_M_barred_86 : decode zb_M_barred 86 = .ok (.iload_n 2, 1) := by decide +kernel
theorem zd_M_barred_87 : decode zb_M_barred 87 = .ok (.invokevirtual 110, 3) := by decide +kernel
theorem zd_M_barred_90 : decode zb_M_barred 90 = .ok (.ifCond .eq 7, 3) := by decide +kernel
theorem zd_M_barred_93 : decode zb_M_barred 93 = .ok (.iconst 1, 1) := by decide +kernel
theorem zd_M_barred_94 : decode zb_M_barred 94 = .ok (.goto 4, 3) := by decide +kernel
theorem zd_M_barred_97 : decode zb_M_barred 97 = .ok (.iconst 0, 1) := by decide +kernel
theorem zd_M_barred_98 : decode zb_M_barred 98 = .ok (.istore_n 3, 1) := by decide +kernel
theorem zd_M_barred_99 : decode zb_M_barred 99 = .ok (.iinc 4 1, 3) := by decide +kernel
theorem zd_M_barred_102 : decode zb_M_barred 102 = .ok (.goto (-38), 3) := by decide +kernel
theorem zd_M_barred_105 : decode zb_M_barred 105 = .ok (.iload_n 3, 1) := by decide +kernel
theorem zd_M_barred_106 : decode zb_M_barred 106 = .ok (.ifCond .ne 5, 3) := by decide +kernel
theorem zd_M_barred_109 : decode zb_M_barred 109 = .ok (.iload_n 2, 1) := by decide +kernel
theorem zd_M_barred_110 : decode zb_M_barred 110 = .ok (.ireturn, 1) := by decide +kernel
theorem zd_M_barred_111 : decode zb_M_barred 111 = .ok (.iinc 2 1, 3) := by decide +kernel
theorem zd_M_barred_114 : decode zb_M_barred 114 = .ok (.goto (-61), 3) := by decide +kernel
theorem zd_M_barred_117 : decode zb_M_barred 117 = .ok (.iconst 0, 1) := by decide +kernel
theorem zd_M_barred_118 : decode zb_M_barred 118 = .ok (.ireturn, 1) := by decide +kernel
theorem zd_M_put_0 : decode zb_M_put 0 = .ok (.aload_n 0, 1) := by decide +kernel
theorem zd_M_put_1 : decode zb_M_put 1 = .ok (.aload_n 0, 1) := by decide +kernel
theorem zd_M_put_2 : decode zb_M_put 2 = .ok (.iload_n 1, 1) := by decide +kernel
theorem zd_M_put_3 : decode zb_M_put 3 = .ok (.invokevirtual 89, 3) := by decide +kernel
theorem zd_M_put_6 : decode zb_M_put 6 = .ok (.ifCond .ne 7, 3) := by decide +kernel
theorem zd_M_put_9 : decode zb_M_put 9 = .ok (.iconst 1, 1) := by decide +kernel
theorem zd_M_put_10 : decode zb_M_put 10 = .ok (.goto 4, 3) := by decide +kernel
theorem zd_M_put_13 : decode zb_M_put 13 = .ok (.iconst 0, 1) := by decide +kernel
theorem zd_M_put_14 : decode zb_M_put 14 = .ok (.putfield 76, 3) := by decide +kernel
theorem zd_M_put_17 : decode zb_M_put 17 = .ok (.aload_n 0, 1) := by decide +kernel
theorem zd_M_put_18 : decode zb_M_put 18 = .ok (.getfield 76, 3) := by decide +kernel
theorem zd_M_put_21 : decode zb_M_put 21 = .ok (.ifCond .ne 31, 3) := by decide +kernel
theorem zd_M_put_24 : decode zb_M_put 24 = .ok (.aload_n 0, 1) := by decide +kernel
theorem zd_M_put_25 : decode zb_M_put 25 = .ok (.aload_n 0, 1) := by decide +kernel
theorem zd_M_put_26 : decode zb_M_put 26 = .ok (.getfield 25, 3) := by decide +kernel
theorem zd_M_put_29 : decode zb_M_put 29 = .ok (.iload_n 1, 1) := by decide +kernel
theorem zd_M_put_30 : decode zb_M_put 30 = .ok (.baload, 1) := by decide +kernel
theorem zd_M_put_31 : decode zb_M_put 31 = .ok (.ifCond .ne 13, 3) := by decide +kernel
theorem zd_M_put_34 : decode zb_M_put 34 = .ok (.aload_n 0, 1) := by decide +kernel
theorem zd_M_put_35 : decode zb_M_put 35 = .ok (.getfield 22, 3) := by decide +kernel
theorem zd_M_put_38 : decode zb_M_put 38 = .ok (.iload_n 1, 1) := by decide +kernel
theorem zd_M_put_39 : decode zb_M_put 39 = .ok (.iaload, 1) := by decide +kernel
theorem zd_M_put_40 : decode zb_M_put 40 = .ok (.iconst (-1), 1) := by decide +kernel
theorem zd_M_put_41 : decode zb_M_put 41 = .ok (.if_icmp .ne 7, 3) := by decide +kernel
theorem zd_M_put_44 : decode zb_M_put 44 = .ok (.iconst 2, 1) := by decide +kernel
theorem zd_M_put_45 : decode zb_M_put 45 = .ok (.goto 4, 3) := by decide +kernel
theorem zd_M_put_48 : decode zb_M_put 48 = .ok (.iconst 0, 1) := by decide +kernel
theorem zd_M_put_49 : decode zb_M_put 49 = .ok (.putfield 76, 3) := by decide +kernel
theorem zd_M_put_52 : decode zb_M_put 52 = .ok (.aload_n 0, 1) := by decide +kernel
theorem zd_M_put_53 : decode zb_M_put 53 = .ok (.getfield 76, 3) := by decide +kernel
theorem zd_M_put_56 : decode zb_M_put 56 = .ok (.ifCond .ne 32, 3) := by decide +kernel
theorem zd_M_put_59 : decode zb_M_put 59 = .ok (.aload_n 0, 1) := by decide +kernel
theorem zd_M_put_60 : decode zb_M_put 60 = .ok (.aload_n 0, 1) := by decide +kernel
theorem zd_M_put_61 : decode zb_M_put 61 = .ok (.aload_n 0, 1) := by decide +kernel
theorem zd_M_put_62 : decode zb_M_put 62 = .ok (.getfield 16, 3) := by decide +kernel
theorem zd_M_put_65 : decode zb_M_put 65 = .ok (.iload_n 1, 1) := by decide +kernel
theorem zd_M_put_66 : decode zb_M_put 66 = .ok (.iaload, 1) := by decide +kernel
theorem zd_M_put_67 : decode zb_M_put 67 = .ok (.aload_n 0, 1) := by decide +kernel
theorem zd_M_put_68 : decode zb_M_put 68 = .ok (.getfield 22, 3) := by decide +kernel
theorem zd_M_put_71 : decode zb_M_put 71 = .ok (.iload_n 1, 1) := by decide +kernel
theorem zd_M_put_72 : decode zb_M_put 72 = .ok (.iaload, 1) := by decide +kernel
theorem zd_M_put_73 : decode zb_M_put 73 = .ok (.iconst 5, 1) := by decide +kernel
theorem zd_M_put_74 : decode zb_M_put 74 = .ok (.invokevirtual 110, 3) := by decide +kernel
theorem zd_M_put_77 : decode zb_M_put 77 = .ok (.ifCond .eq 7, 3) := by decide +kernel
theorem zd_M_put_80 : decode zb_M_put 80 = .ok (.iconst 0, 1) := by decide +kernel
theorem zd_M_put_81 : decode zb_M_put 81 = .ok (.goto 4, 3) := by decide +kernel
theorem zd_M_put_84 : decode zb_M_put 84 = .ok (.iconst 2, 1) := by decide +kernel
theorem zd_M_put_85 : decode zb_M_put 85 = .ok (.putfield 76, 3) := by decide +kernel
theorem zd_M_put_88 : decode zb_M_put 88 = .ok (.aload_n 0, 1) := by decide +kernel
theorem zd_M_put_89 : decode zb_M_put 89 = .ok (.getfield 76, 3) := by decide +kernel
theorem zd_M_put_92 : decode zb_M_put 92 = .ok (.ifCond .le 5, 3) := by decide +kernel
theorem zd_M_put_95 : decode zb_M_put 95 = .ok (.iconst 0, 1) := by decide +kernel
theorem zd_M_put_96 : decode zb_M_put 96 = .ok (.ireturn, 1) := by decide +kernel
theorem zd_M_put_97 : decode zb_M_put 97 = .ok (.aload_n 0, 1) := by decide +kernel
theorem zd_M_put_98 : decode zb_M_put 98 = .ok (.getfield 41, 3) := by decide +kernel
theorem zd_M_put_101 : decode zb_M_put 101 = .ok (.aload_n 0, 1) := by decide +kernel
theorem zd_M_put_102 : decode zb_M_put 102 = .ok (.getfield 22, 3) := by decide +kernel
theorem zd_M_put_105 : decode zb_M_put 105 = .ok (.iload_n 1, 1) := by decide +kernel
theorem zd_M_put_106 : decode zb_M_put 106 = .ok (.iaload, 1) := by decide +kernel
theorem zd_M_put_107 : decode zb_M_put 107 = .ok (.dup2, 1) := by decide +kernel
theorem zd_M_put_108 : decode zb_M_put 108 = .ok (.iaload, 1) := by decide +kernel
theorem zd_M_put_109 : decode zb_M_put 109 = .ok (.aload_n 0, 1) := by decide +kernel
theorem zd_M_put_110 : decode zb_M_put 110 = .ok (.aload_n 0, 1) := by decide +kernel
theorem zd_M_put_111 : decode zb_M_put 111 = .ok (.getfield 16, 3) := by decide +kernel
theorem zd_M_put_114 : decode zb_M_put 114 = .ok (.iload_n 1, 1) := by decide +kernel
theorem zd_M_put_115 : decode zb_M_put 115 = .ok (.iaload, 1) := by decide +kernel
theorem zd_M_put_116 : decode zb_M_put 116 = .ok (.invokevirtual 97, 3) := by decide +kernel
theorem zd_M_put_119 : decode zb_M_put 119 = .ok (.isub, 1) := by decide +kernel
theorem zd_M_put_120 : decode zb_M_put 120 = .ok (.iastore, 1) := by decide +kernel
theorem zd_M_put_121 : decode zb_M_put 121 = .ok (.iconst 0, 1) := by decide +kernel
theorem zd_M_put_122 : decode zb_M_put 122 = .ok (.istore_n 2, 1) := by decide +kernel
theorem zd_M_put_123 : decode zb_M_put 123 = .ok (.iconst 0, 1) := by decide +kernel
theorem zd_M_put_124 : decode zb_M_put 124 = .ok (.istore_n 3, 1) := by decide +kernel
theorem zd_M_put_125 : decode zb_M_put 125 = .ok (.iload_n 3, 1) := by decide +kernel
theorem zd_M_put_126 : decode zb_M_put 126 = .ok (.aload_n 0, 1) := by decide +kernel
theorem zd_M_put_127 : decode zb_M_put 127 = .ok (.getfield 79, 3) := by decide +kernel
theorem zd_M_put_130 : decode zb_M_put 130 = .ok (.if_icmp .ge 37, 3) := by decide +kernel
theorem zd_M_put_133 : decode zb_M_put 133 = .ok (.aload_n 0, 1) := by decide +kernel
theorem zd_M_put_134 : decode zb_M_put 134 = .ok (.getfield 16, 3) := by decide +kernel
theorem zd_M_put_137 : decode zb_M_put 137 = .ok (.iload_n 3, 1) := by decide +kernel
theorem zd_M_put_138 : decode zb_M_put 138 = .ok (.iaload, 1) := by decide +kernel
theorem zd_M_put_139 : decode zb_M_put 139 = .ok (.aload_n 0, 1) := by decide +kernel
theorem zd_M_put_140 : decode zb_M_put 140 = .ok (.getfield 16, 3) := by decide +kernel
theorem zd_M_put_143 : decode zb_M_put 143 = .ok (.iload_n 1, 1) := by decide +kernel
theorem zd_M_put_144 : decode zb_M_put 144 = .ok (.iaload, 1) := by decide +kernel
theorem zd_M_put_145 : decode zb_M_put 145 = .ok (.if_icmp .eq 6, 3) := by decide +kernel
theorem zd_M_put_148 : decode zb_M_put 148 = .ok (.goto 13, 3) := by decide +kernel
theorem zd_M_put_151 : decode zb_M_put 151 = .ok (.aload_n 0, 1) := by decide +kernel
theorem zd_M_put_152 : decode zb_M_put 152 = .ok (.getfield 25, 3) := by decide +kernel
theorem zd_M_put_155 : decode zb_M_put 155 = .ok (.iload_n 3, 1) := by decide +kernel
theorem zd_M_put_156 : decode zb_M_put 156 = .ok (.iconst 1, 1) := by decide +kernel
theorem zd_M_put_157 : decode zb_M_put 157 = .ok (.bastore, 1) := by decide +kernel
theorem zd_M_put_158 : decode zb_M_put 158 = .ok (.iinc 2 1, 3) := by decide +kernel
theorem zd_M_put_161 : decode zb_M_put 161 = .ok (.iinc 3 1, 3) := by decide +kernel
theorem zd_M_put_164 : decode zb_M_put 164 = .ok (.goto (-39), 3) := by decide +kernel
theorem zd_M_put_167 : decode zb_M_put 167 = .ok (.iload_n 2, 1) := by decide +kernel
theorem zd_M_put_168 : decode zb_M_put 168 = .ok (.ireturn, 1) := by decide +kernel
theorem zd_M_plannedFor_0 : decode zb_M_plannedFor 0 = .ok (.iconst 0, 1) := by decide +kernel
theorem zd_M_plannedFor_1 : decode zb_M_plannedFor 1 = .ok (.istore_n 2, 1) := by decide +kernel
theorem zd_M_plannedFor_2 : decode zb_M_plannedFor 2 = .ok (.iload_n 2, 1) := by decide +kernel
theorem zd_M_plannedFor_3 : decode zb_M_plannedFor 3 = .ok (.aload_n 0, 1) := by decide +kernel
theorem zd_M_plannedFor_4 : decode zb_M_plannedFor 4 = .ok (.getfield 79, 3) := by decide +kernel
theorem zd_M_plannedFor_7 : decode zb_M_plannedFor 7 = .ok (.if_icmp .ge 29, 3) := by decide +kernel
theorem zd_M_plannedFor_10 : decode zb_M_plannedFor 10 = .ok (.aload_n 0, 1) := by decide +kernel
theorem zd_M_plannedFor_11 : decode zb_M_plannedFor 11 = .ok (.iload_n 2, 1) := by decide +kernel
theorem zd_M_plannedFor_12 : decode zb_M_plannedFor 12 = .ok (.invokevirtual 107, 3) := by decide +kernel
theorem zd_M_plannedFor_15 : decode zb_M_plannedFor 15 = .ok (.ifCond .eq 15, 3) := by decide +kernel
theorem zd_M_plannedFor_18 : decode zb_M_plannedFor 18 = .ok (.aload_n 0, 1) := by decide +kernel
theorem zd_M_plannedFor_19 : decode zb_M_plannedFor 19 = .ok (.getfield 22, 3) := by decide +kernel
theorem zd_M_plannedFor_22 : decode zb_M_plannedFor 22 = .ok (.iload_n 2, 1) := by decide +kernel
theorem zd_M_plannedFor_23 : decode zb_M_plannedFor 23 = .ok (.iaload, 1) := by decide +kernel
theorem zd_M_plannedFor_24 : decode zb_M_plannedFor 24 = .ok (.iload_n 1, 1) := by decide +kernel
theorem zd_M_plannedFor_25 : decode zb_M_plannedFor 25 = .ok (.if_icmp .ne 5, 3) := by decide +kernel
theorem zd_M_plannedFor_28 : decode zb_M_plannedFor 28 = .ok (.iload_n 2, 1) := by decide +kernel
theorem zd_M_plannedFor_29 : decode zb_M_plannedFor 29 = .ok (.ireturn, 1) := by decide +kernel
theorem zd_M_plannedFor_30 : decode zb_M_plannedFor 30 = .ok (.iinc 2 1, 3) := by decide +kernel
theorem zd_M_plannedFor_33 : decode zb_M_plannedFor 33 = .ok (.goto (-31), 3) := by decide +kernel
theorem zd_M_plannedFor_36 : decode zb_M_plannedFor 36 = .ok (.iconst (-1), 1) := by decide +kernel
theorem zd_M_plannedFor_37 : decode zb_M_plannedFor 37 = .ok (.ireturn, 1) := by decide +kernel
theorem zd_M_block_0 : decode zb_M_block 0 = .ok (.aload_n 0, 1) := by decide +kernel
theorem zd_M_block_1 : decode zb_M_block 1 = .ok (.aload_n 0, 1) := by decide +kernel
theorem zd_M_block_2 : decode zb_M_block 2 = .ok (.iload_n 1, 1) := by decide +kernel
theorem zd_M_block_3 : decode zb_M_block 3 = .ok (.invokevirtual 93, 3) := by decide +kernel
theorem zd_M_block_6 : decode zb_M_block 6 = .ok (.ifCond .ne 7, 3) := by decide +kernel
theorem zd_M_block_9 : decode zb_M_block 9 = .ok (.iconst 1, 1) := by decide +kernel
theorem zd_M_block_10 : decode zb_M_block 10 = .ok (.goto 4, 3) := by decide +kernel
theorem zd_M_block_13 : decode zb_M_block 13 = .ok (.iconst 0, 1) := by decide +kernel
theorem zd_M_block_14 : decode zb_M_block 14 = .ok (.putfield 76, 3) := by decide +kernel
theorem zd_M_block_17 : decode zb_M_block 17 = .ok (.aload_n 0, 1) := by decide +kernel
theorem zd_M_block_18 : decode zb_M_block 18 = .ok (.getfield 76, 3) := by decide +kernel
theorem zd_M_block_21 : decode zb_M_block 21 = .ok (.ifCond .ne 21, 3) := by decide +kernel
theorem zd_M_block_24 : decode zb_M_block 24 = .ok (.aload_n 0, 1) := by decide +kernel
theorem zd_M_block_25 : decode zb_M_block 25 = .ok (.aload_n 0, 1) := by decide +kernel
theorem zd_M_block_26 : decode zb_M_block 26 = .ok (.getfield 47, 3) := by decide +kernel
theorem zd_M_block_29 : decode zb_M_block 29 = .ok (.iload_n 1, 1) := by decide +kernel
theorem zd_M_block_30 : decode zb_M_block 30 = .ok (.baload, 1) := by decide +kernel
theorem zd_M_block_31 : decode zb_M_block 31 = .ok (.ifCond .eq 7, 3) := by decide +kernel
theorem zd_M_block_34 : decode zb_M_block 34 = .ok (.iconst 2, 1) := by decide +kernel
theorem zd_M_block_35 : decode zb_M_block 35 = .ok (.goto 4, 3) := by decide +kernel
theorem zd_M_block_38 : decode zb_M_block 38 = .ok (.iconst 0, 1) := by decide +kernel
theorem zd_M_block_39 : decode zb_M_block 39 = .ok (.putfield 76, 3) := by decide +kernel
theorem zd_M_block_42 : decode zb_M_block 42 = .ok (.aload_n 0, 1) := by decide +kernel
theorem zd_M_block_43 : decode zb_M_block 43 = .ok (.getfield 76, 3) := by decide +kernel
theorem zd_M_block_46 : decode zb_M_block 46 = .ok (.ifCond .le 5, 3) := by decide +kernel
theorem zd_M_block_49 : decode zb_M_block 49 = .ok (.iconst 0, 1) := by decide +kernel
theorem zd_M_block_50 : decode zb_M_block 50 = .ok (.ireturn, 1) := by decide +kernel
theorem zd_M_block_51 : decode zb_M_block 51 = .ok (.aload_n 0, 1) := by decide +kernel
theorem zd_M_block_52 : decode zb_M_block 52 = .ok (.getfield 47, 3) := by decide +kernel
theorem zd_M_block_55 : decode zb_M_block 55 = .ok (.iload_n 1, 1) := by decide +kernel
theorem zd_M_block_56 : decode zb_M_block 56 = .ok (.iconst 1, 1) := by decide +kernel
theorem zd_M_block_57 : decode zb_M_block 57 = .ok (.bastore, 1) := by decide +kernel
theorem zd_M_block_58 : decode zb_M_block 58 = .ok (.aload_n 0, 1) := by decide +kernel
theorem zd_M_block_59 : decode zb_M_block 59 = .ok (.iload_n 1, 1) := by decide +kernel
theorem zd_M_block_60 : decode zb_M_block 60 = .ok (.invokevirtual 139, 3) := by decide +kernel
theorem zd_M_block_63 : decode zb_M_block 63 = .ok (.istore_n 2, 1) := by decide +kernel
theorem zd_M_block_64 : decode zb_M_block 64 = .ok (.iload_n 2, 1) := by decide +kernel
theorem zd_M_block_65 : decode zb_M_block 65 = .ok (.iconst (-1), 1) := by decide +kernel
theorem zd_M_block_66 : decode zb_M_block 66 = .ok (.if_icmp .ne 5, 3) := by decide +kernel
theorem zd_M_block_69 : decode zb_M_block 69 = .ok (.iconst 0, 1) := by decide +kernel
theorem zd_M_block_70 : decode zb_M_block 70 = .ok (.ireturn, 1) := by decide +kernel
theorem zd_M_block_71 : decode zb_M_block 71 = .ok (.iconst 0, 1) := by decide +kernel
theorem zd_M_block_72 : decode zb_M_block 72 = .ok (.istore_n 3, 1) := by decide +kernel
theorem zd_M_block_73 : decode zb_M_block 73 = .ok (.iconst 0, 1) := by decide +kernel
theorem zd_M_block_74 : decode zb_M_block 74 = .ok (.istore 4, 2) := by decide +kernel
theorem zd_M_block_76 : decode zb_M_block 76 = .ok (.iload 4, 2) := by decide +kernel
theorem zd_M_block_78 : decode zb_M_block 78 = .ok (.aload_n 0, 1) := by decide +kernel
theorem zd_M_block_79 : decode zb_M_block 79 = .ok (.getfield 79, 3) := by decide +kernel
theorem zd_M_block_82 : decode zb_M_block 82 = .ok (.if_icmp .ge 47, 3) := by decide +kernel
theorem zd_M_block_85 : decode zb_M_block 85 = .ok (.aload_n 0, 1) := by decide +kernel
theorem zd_M_block_86 : decode zb_M_block 86 = .ok (.iload 4, 2) := by decide +kernel
theorem zd_M_block_88 : decode zb_M_block 88 = .ok (.invokevirtual 107, 3) := by decide +kernel
theorem zd_M_block_91 : decode zb_M_block 91 = .ok (.ifCond .eq 32, 3) := by decide +kernel
theorem zd_M_block_94 : decode zb_M_block 94 = .ok (.iload 4, 2) := by decide +kernel
theorem zd_M_block_96 : decode zb_M_block 96 = .ok (.iload_n 2, 1) := by decide +kernel
theorem zd_M_block_97 : decode zb_M_block 97 = .ok (.if_icmp .eq 26, 3) := by decide +kernel
theorem zd_M_block_100 : decode zb_M_block 100 = .ok (.aload_n 0, 1) := by decide +kernel
theorem zd_M_block_101 : decode zb_M_block 101 = .ok (.getfield 22, 3) := by decide +kernel
theorem zd_M_block_104 : decode zb_M_block 104 = .ok (.iload 4, 2) := by decide +kernel
theorem zd_M_block_106 : decode zb_M_block 106 = .ok (.iaload, 1) := by decide +kernel
theorem zd_M_block_107 : decode zb_M_block 107 = .ok (.iconst (-1), 1) := by decide +kernel
theorem zd_M_block_108 : decode zb_M_block 108 = .ok (.if_icmp .eq 15, 3) := by decide +kernel
theorem zd_M_block_111 : decode zb_M_block 111 = .ok (.iload_n 3, 1) := by decide +kernel
theorem zd_M_block_112 : decode zb_M_block 112 = .ok (.iconst 1, 1) := by decide +kernel
theorem zd_M_block_113 : decode zb_M_block 113 = .ok (.aload_n 0, 1) := by decide +kernel
theorem zd_M_block_114 : decode zb_M_block 114 = .ok (.getfield 22, 3) := by decide +kernel
theorem zd_M_block_117 : decode zb_M_block 117 = .ok (.iload 4, 2) := by decide +kernel
theorem zd_M_block_119 : decode zb_M_block 119 = .ok (.iaload, 1) := by decide +kernel
theorem zd_M_block_120 : decode zb_M_block 120 = .ok (.ishl, 1) := by decide +kernel
theorem zd_M_block_121 : decode zb_M_block 121 = .ok (.ior, 1) := by decide +kernel
theorem zd_M_block_122 : decode zb_M_block 122 = .ok (.istore_n 3, 1) := by decide +kernel
theorem zd_M_block_123 : decode zb_M_block 123 = .ok (.iinc 4 1, 3) := by decide +kernel
theorem zd_M_block_126 : decode zb_M_block 126 = .ok (.goto (-50), 3) := by decide +kernel
theorem zd_M_block_129 : decode zb_M_block 129 = .ok (.aload_n 0, 1) := by decide +kernel
theorem zd_M_block_130 : decode zb_M_block 130 = .ok (.iload_n 2, 1) := by decide +kernel
theorem zd_M_block_131 : decode zb_M_block 131 = .ok (.iload_n 3, 1) := by decide +kernel
theorem zd_M_block_132 : decode zb_M_block 132 = .ok (.invokevirtual 123, 3) := by decide +kernel
theorem zd_M_block_135 : decode zb_M_block 135 = .ok (.istore 4, 2) := by decide +kernel
theorem zd_M_block_137 : decode zb_M_block 137 = .ok (.iconst 0, 1) := by decide +kernel
theorem zd_M_block_138 : decode zb_M_block 138 = .ok (.istore 5, 2) := by decide +kernel
theorem zd_M_block_140 : decode zb_M_block 140 = .ok (.iload 5, 2) := by decide +kernel
theorem zd_M_block_142 : decode zb_M_block 142 = .ok (.aload_n 0, 1) := by decide +kernel
theorem zd_M_block_143 : decode zb_M_block 143 = .ok (.getfield 79, 3) := by decide +kernel
theorem zd_M_block_146 : decode zb_M_block 146 = .ok (.if_icmp .ge 29, 3) := by decide +kernel
theorem zd_M_block_149 : decode zb_M_block 149 = .ok (.aload_n 0, 1) := by decide +kernel
theorem zd_M_block_150 : decode zb_M_block 150 = .ok (.getfield 16, 3) := by decide +kernel
theorem zd_M_block_153 : decode zb_M_block 153 = .ok (.iload 5, 2) := by decide +kernel
theorem zd_M_block_155 : decode zb_M_block 155 = .ok (.iaload, 1) := by decide +kernel
theorem zd_M_block_156 : decode zb_M_block 156 = .ok (.iload_n 2, 1) := by decide +kernel
theorem zd_M_block_157 : decode zb_M_block 157 = .ok (.if_icmp .ne 12, 3) := by decide +kernel
theorem zd_M_block_160 : decode zb_M_block 160 = .ok (.aload_n 0, 1) := by decide +kernel
theorem zd_M_block_161 : decode zb_M_block 161 = .ok (.getfield 22, 3) := by decide +kernel
theorem zd_M_block_164 : decode zb_M_block 164 = .ok (.iload 5, 2) := by decide +kernel
theorem zd_M_block_166 : decode zb_M_block 166 = .ok (.iload 4, 2) := by decide +kernel
theorem zd_M_block_168 : decode zb_M_block 168 = .ok (.iastore, 1) := by decide +kernel
theorem zd_M_block_169 : decode zb_M_block 169 = .ok (.iinc 5 1, 3) := by decide +kernel
theorem zd_M_block_172 : decode zb_M_block 172 = .ok (.goto (-32), 3) := by decide +kernel
theorem zd_M_block_175 : decode zb_M_block 175 = .ok (.iload 4, 2) := by decide +kernel
theorem zd_M_block_177 : decode zb_M_block 177 = .ok (.iconst (-1), 1) := by decide +kernel
theorem zd_M_block_178 : decode zb_M_block 178 = .ok (.if_icmp .ne 7, 3) := by decide +kernel
theorem zd_M_block_181 : decode zb_M_block 181 = .ok (.iconst 0, 1) := by decide +kernel
theorem zd_M_block_182 : decode zb_M_block 182 = .ok (.goto 4, 3) := by decide +kernel
theorem zd_M_block_185 : decode zb_M_block 185 = .ok (.iconst 1, 1) := by decide +kernel
theorem zd_M_block_186 : decode zb_M_block 186 = .ok (.ireturn, 1) := by decide +kernel
theorem zd_M_open_0 : decode zb_M_open 0 = .ok (.aload_n 0, 1) := by decide +kernel
theorem zd_M_open_1 : decode zb_M_open 1 = .ok (.aload_n 0, 1) := by decide +kernel
theorem zd_M_open_2 : decode zb_M_open 2 = .ok (.iload_n 1, 1) := by decide +kernel
theorem zd_M_open_3 : decode zb_M_open 3 = .ok (.invokevirtual 93, 3) := by decide +kernel
theorem zd_M_open_6 : decode zb_M_open 6 = .ok (.ifCond .ne 7, 3) := by decide +kernel
theorem zd_M_open_9 : decode zb_M_open 9 = .ok (.iconst 1, 1) := by decide +kernel
theorem zd_M_open_10 : decode zb_M_open 10 = .ok (.goto 4, 3) := by decide +kernel
theorem zd_M_open_13 : decode zb_M_open 13 = .ok (.iconst 0, 1) := by decide +kernel
theorem zd_M_open_14 : decode zb_M_open 14 = .ok (.putfield 76, 3) := by decide +kernel
theorem zd_M_open_17 : decode zb_M_open 17 = .ok (.aload_n 0, 1) := by decide +kernel
theorem zd_M_open_18 : decode zb_M_open 18 = .ok (.getfield 76, 3) := by decide +kernel
theorem zd_M_open_21 : decode zb_M_open 21 = .ok (.ifCond .ne 21, 3) := by decide +kernel
theorem zd_M_open_24 : decode zb_M_open 24 = .ok (.aload_n 0, 1) := by decide +kernel
theorem zd_M_open_25 : decode zb_M_open 25 = .ok (.aload_n 0, 1) := by decide +kernel
theorem zd_M_open_26 : decode zb_M_open 26 = .ok (.getfield 47, 3) := by decide +kernel
theorem zd_M_open_29 : decode zb_M_open 29 = .ok (.iload_n 1, 1) := by decide +kernel
theorem zd_M_open_30 : decode zb_M_open 30 = .ok (.baload, 1) := by decide +kernel
theorem zd_M_open_31 : decode zb_M_open 31 = .ok (.ifCond .eq 7, 3) := by decide +kernel
theorem zd_M_open_34 : decode zb_M_open 34 = .ok (.iconst 0, 1) := by decide +kernel
theorem zd_M_open_35 : decode zb_M_open 35 = .ok (.goto 4, 3) := by decide +kernel
theorem zd_M_open_38 : decode zb_M_open 38 = .ok (.iconst 2, 1) := by decide +kernel
theorem zd_M_open_39 : decode zb_M_open 39 = .ok (.putfield 76, 3) := by decide +kernel
theorem zd_M_open_42 : decode zb_M_open 42 = .ok (.aload_n 0, 1) := by decide +kernel
theorem zd_M_open_43 : decode zb_M_open 43 = .ok (.getfield 76, 3) := by decide +kernel
theorem zd_M_open_46 : decode zb_M_open 46 = .ok (.ifCond .ne 10, 3) := by decide +kernel
theorem zd_M_open_49 : decode zb_M_open 49 = .ok (.aload_n 0, 1) := by decide +kernel
theorem zd_M_open_50 : decode zb_M_open 50 = .ok (.getfield 47, 3) := by decide +kernel
theorem zd_M_open_53 : decode zb_M_open 53 = .ok (.iload_n 1, 1) := by decide +kernel
theorem zd_M_open_54 : decode zb_M_open 54 = .ok (.iconst 0, 1) := by decide +kernel
theorem zd_M_open_55 : decode zb_M_open 55 = .ok (.bastore, 1) := by decide +kernel
theorem zd_M_open_56 : decode zb_M_open 56 = .ok (.return_, 1) := by decide +kernel
theorem zd_M_share_0 : decode zb_M_share 0 = .ok (.aload_n 0, 1) := by decide +kernel
theorem zd_M_share_1 : decode zb_M_share 1 = .ok (.aload_n 0, 1) := by decide +kernel
theorem zd_M_share_2 : decode zb_M_share 2 = .ok (.iload_n 1, 1) := by decide +kernel
theorem zd_M_share_3 : decode zb_M_share 3 = .ok (.invokevirtual 89, 3) := by decide +kernel
theorem zd_M_share_6 : decode zb_M_share 6 = .ok (.ifCond .ne 7, 3) := by decide +kernel
theorem zd_M_share_9 : decode zb_M_share 9 = .ok (.iconst 1, 1) := by decide +kernel
theorem zd_M_share_10 : decode zb_M_share 10 = .ok (.goto 4, 3) := by decide +kernel
theorem zd_M_share_13 : decode zb_M_share 13 = .ok (.iconst 0, 1) := by decide +kernel
theorem zd_M_share_14 : decode zb_M_share 14 = .ok (.putfield 76, 3) := by decide +kernel
theorem zd_M_share_17 : decode zb_M_share 17 = .ok (.aload_n 0, 1) := by decide +kernel
theorem zd_M_share_18 : decode zb_M_share 18 = .ok (.getfield 76, 3) := by decide +kernel
theorem zd_M_share_21 : decode zb_M_share 21 = .ok (.ifCond .ne 31, 3) := by decide +kernel
theorem zd_M_share_24 : decode zb_M_share 24 = .ok (.aload_n 0, 1) := by decide +kernel
theorem zd_M_share_25 : decode zb_M_share 25 = .ok (.aload_n 0, 1) := by decide +kernel
theorem zd_M_share_26 : decode zb_M_share 26 = .ok (.getfield 25, 3) := by decide +kernel
theorem zd_M_share_29 : decode zb_M_share 29 = .ok (.iload_n 1, 1) := by decide +kernel
theorem zd_M_share_30 : decode zb_M_share 30 = .ok (.baload, 1) := by decide +kernel
theorem zd_M_share_31 : decode zb_M_share 31 = .ok (.ifCond .ne 13, 3) := by decide +kernel
theorem zd_M_share_34 : decode zb_M_share 34 = .ok (.aload_n 0, 1) := by decide +kernel
theorem zd_M_share_35 : decode zb_M_share 35 = .ok (.getfield 22, 3) := by decide +kernel
theorem zd_M_share_38 : decode zb_M_share 38 = .ok (.iload_n 1, 1) := by decide +kernel
theorem zd_M_share_39 : decode zb_M_share 39 = .ok (.iaload, 1) := by decide +kernel
theorem zd_M_share_40 : decode zb_M_share 40 = .ok (.iconst (-1), 1) := by decide +kernel
theorem zd_M_share_41 : decode zb_M_share 41 = .ok (.if_icmp .ne 7, 3) := by decide +kernel
theorem zd_M_share_44 : decode zb_M_share 44 = .ok (.iconst 2, 1) := by decide +kernel
theorem zd_M_share_45 : decode zb_M_share 45 = .ok (.goto 4, 3) := by decide +kernel
theorem zd_M_share_48 : decode zb_M_share 48 = .ok (.iconst 0, 1) := by decide +kernel
theorem zd_M_share_49 : decode zb_M_share 49 = .ok (.putfield 76, 3) := by decide +kernel
theorem zd_M_share_52 : decode zb_M_share 52 = .ok (.aload_n 0, 1) := by decide +kernel
theorem zd_M_share_53 : decode zb_M_share 53 = .ok (.getfield 76, 3) := by decide +kernel
theorem zd_M_share_56 : decode zb_M_share 56 = .ok (.ifCond .le 5, 3) := by decide +kernel
theorem zd_M_share_59 : decode zb_M_share 59 = .ok (.iconst 0, 1) := by decide +kernel
theorem zd_M_share_60 : decode zb_M_share 60 = .ok (.ireturn, 1) := by decide +kernel
theorem zd_M_share_61 : decode zb_M_share 61 = .ok (.iconst 0, 1) := by decide +kernel
theorem zd_M_share_62 : decode zb_M_share 62 = .ok (.istore_n 2, 1) := by decide +kernel
theorem zd_M_share_63 : decode zb_M_share 63 = .ok (.iconst 0, 1) := by decide +kernel
theorem zd_M_share_64 : decode zb_M_share 64 = .ok (.istore_n 3, 1) := by decide +kernel
theorem zd_M_share_65 : decode zb_M_share 65 = .ok (.iload_n 3, 1) := by decide +kernel
theorem zd_M_share_66 : decode zb_M_share 66 = .ok (.aload_n 0, 1) := by decide +kernel
theorem zd_M_share_67 : decode zb_M_share 67 = .ok (.getfield 79, 3) := by decide +kernel
theorem zd_M_share_70 : decode zb_M_share 70 = .ok (.if_icmp .ge 45, 3) := by decide +kernel
theorem zd_M_share_73 : decode zb_M_share 73 = .ok (.iload_n 2, 1) := by decide +kernel
theorem zd_M_share_74 : decode zb_M_share 74 = .ok (.aload_n 0, 1) := by decide +kernel
theorem zd_M_share_75 : decode zb_M_share 75 = .ok (.iload_n 3, 1) := by decide +kernel
theorem zd_M_share_76 : decode zb_M_share 76 = .ok (.invokevirtual 107, 3) := by decide +kernel
theorem zd_M_share_79 : decode zb_M_share 79 = .ok (.ifCond .eq 27, 3) := by decide +kernel
theorem zd_M_share_82 : decode zb_M_share 82 = .ok (.aload_n 0, 1) := by decide +kernel
theorem zd_M_share_83 : decode zb_M_share 83 = .ok (.getfield 22, 3) := by decide +kernel
theorem zd_M_share_86 : decode zb_M_share 86 = .ok (.iload_n 3, 1) := by decide +kernel
theorem zd_M_share_87 : decode zb_M_share 87 = .ok (.iaload, 1) := by decide +kernel
theorem zd_M_share_88 : decode zb_M_share 88 = .ok (.iconst (-1), 1) := by decide +kernel
theorem zd_M_share_89 : decode zb_M_share 89 = .ok (.if_icmp .eq 17, 3) := by decide +kernel
theorem zd_M_share_92 : decode zb_M_share 92 = .ok (.aload_n 0, 1) := by decide +kernel
theorem zd_M_share_93 : decode zb_M_share 93 = .ok (.iload_n 3, 1) := by decide +kernel
theorem zd_M_share_94 : decode zb_M_share 94 = .ok (.aload_n 0, 1) := by decide +kernel
theorem zd_M_share_95 : decode zb_M_share 95 = .ok (.getfield 22, 3) := by decide +kernel
theorem zd_M_share_98 : decode zb_M_share 98 = .ok (.iload_n 3, 1) := by decide +kernel
theorem zd_M_share_99 : decode zb_M_share 99 = .ok (.iaload, 1) := by decide +kernel
theorem zd_M_share_100 : decode zb_M_share 100 = .ok (.invokevirtual 113, 3) := by decide +kernel
theorem zd_M_share_103 : decode zb_M_share 103 = .ok (.goto 4, 3) := by decide +kernel
theorem zd_M_share_106 : decode zb_M_share 106 = .ok (.iconst 0, 1) := by decide +kernel
theorem zd_M_share_107 : decode zb_M_share 107 = .ok (.iadd, 1) := by decide +kernel
theorem zd_M_share_108 : decode zb_M_share 108 = .ok (.istore_n 2, 1) := by decide +kernel
theorem zd_M_share_109 : decode zb_M_share 109 = .ok (.iinc 3 1, 3) := by decide +kernel
theorem zd_M_share_112 : decode zb_M_share 112 = .ok (.goto (-47), 3) := by decide +kernel
theorem zd_M_share_115 : decode zb_M_share 115 = .ok (.aload_n 0, 1) := by decide +kernel
theorem zd_M_share_116 : decode zb_M_share 116 = .ok (.iload_n 2, 1) := by decide +kernel
theorem zd_M_share_117 : decode zb_M_share 117 = .ok (.ifCond .ne 7, 3) := by decide +kernel
theorem zd_M_share_120 : decode zb_M_share 120 = .ok (.iconst 3, 1) := by decide +kernel
theorem zd_M_share_121 : decode zb_M_share 121 = .ok (.goto 4, 3) := by decide +kernel
theorem zd_M_share_124 : decode zb_M_share 124 = .ok (.iconst 0, 1) := by decide +kernel
theorem zd_M_share_125 : decode zb_M_share 125 = .ok (.putfield 76, 3) := by decide +kernel
theorem zd_M_share_128 : decode zb_M_share 128 = .ok (.aload_n 0, 1) := by decide +kernel
theorem zd_M_share_129 : decode zb_M_share 129 = .ok (.getfield 76, 3) := by decide +kernel
theorem zd_M_share_132 : decode zb_M_share 132 = .ok (.ifCond .le 7, 3) := by decide +kernel
theorem zd_M_share_135 : decode zb_M_share 135 = .ok (.iconst 0, 1) := by decide +kernel
theorem zd_M_share_136 : decode zb_M_share 136 = .ok (.goto 24, 3) := by decide +kernel
theorem zd_M_share_139 : decode zb_M_share 139 = .ok (.bipush 100, 2) := by decide +kernel
theorem zd_M_share_141 : decode zb_M_share 141 = .ok (.aload_n 0, 1) := by decide +kernel
theorem zd_M_share_142 : decode zb_M_share 142 = .ok (.aload_n 0, 1) := by decide +kernel
theorem zd_M_share_143 : decode zb_M_share 143 = .ok (.getfield 16, 3) := by decide +kernel
theorem zd_M_share_146 : decode zb_M_share 146 = .ok (.iload_n 1, 1) := by decide +kernel
theorem zd_M_share_147 : decode zb_M_share 147 = .ok (.iaload, 1) := by decide +kernel
theorem zd_M_share_148 : decode zb_M_share 148 = .ok (.aload_n 0, 1) := by decide +kernel
theorem zd_M_share_149 : decode zb_M_share 149 = .ok (.getfield 22, 3) := by decide +kernel
theorem zd_M_share_152 : decode zb_M_share 152 = .ok (.iload_n 1, 1) := by decide +kernel
theorem zd_M_share_153 : decode zb_M_share 153 = .ok (.iaload, 1) := by decide +kernel
theorem zd_M_share_154 : decode zb_M_share 154 = .ok (.invokevirtual 113, 3) := by decide +kernel
theorem zd_M_share_157 : decode zb_M_share 157 = .ok (.imul, 1) := by decide +kernel
theorem zd_M_share_158 : decode zb_M_share 158 = .ok (.iload_n 2, 1) := by decide +kernel
theorem zd_M_share_159 : decode zb_M_share 159 = .ok (.idiv, 1) := by decide +kernel
theorem zd_M_share_160 : decode zb_M_share 160 = .ok (.ireturn, 1) := by decide +kernel
theorem zd_M_isPlanned_0 : decode zb_M_isPlanned 0 = .ok (.aload_n 0, 1) := by decide +kernel
theorem zd_M_isPlanned_1 : decode zb_M_isPlanned 1 = .ok (.getfield 25, 3) := by decide +kernel
theorem zd_M_isPlanned_4 : decode zb_M_isPlanned 4 = .ok (.iload_n 1, 1) := by decide +kernel
theorem zd_M_isPlanned_5 : decode zb_M_isPlanned 5 = .ok (.baload, 1) := by decide +kernel
theorem zd_M_isPlanned_6 : decode zb_M_isPlanned 6 = .ok (.ifCond .ne 17, 3) := by decide +kernel
theorem zd_M_isPlanned_9 : decode zb_M_isPlanned 9 = .ok (.aload_n 0, 1) := by decide +kernel
theorem zd_M_isPlanned_10 : decode zb_M_isPlanned 10 = .ok (.getfield 22, 3) := by decide +kernel
theorem zd_M_isPlanned_13 : decode zb_M_isPlanned 13 = .ok (.iload_n 1, 1) := by decide +kernel
theorem zd_M_isPlanned_14 : decode zb_M_isPlanned 14 = .ok (.iaload, 1) := by decide +kernel
theorem zd_M_isPlanned_15 : decode zb_M_isPlanned 15 = .ok (.iconst (-1), 1) := by decide +kernel
theorem zd_M_isPlanned_16 : decode zb_M_isPlanned 16 = .ok (.if_icmp .eq 7, 3) := by decide +kernel
theorem zd_M_isPlanned_19 : decode zb_M_isPlanned 19 = .ok (.iconst 1, 1) := by decide +kernel
theorem zd_M_isPlanned_20 : decode zb_M_isPlanned 20 = .ok (.goto 4, 3) := by decide +kernel
theorem zd_M_isPlanned_23 : decode zb_M_isPlanned 23 = .ok (.iconst 0, 1) := by decide +kernel
theorem zd_M_isPlanned_24 : decode zb_M_isPlanned 24 = .ok (.ireturn, 1) := by decide +kernel
theorem zd_M_trip_0 : decode zb_M_trip 0 = .ok (.aload_n 0, 1) := by decide +kernel
theorem zd_M_trip_1 : decode zb_M_trip 1 = .ok (.aload_n 0, 1) := by decide +kernel
theorem zd_M_trip_2 : decode zb_M_trip 2 = .ok (.iload_n 1, 1) := by decide +kernel
theorem zd_M_trip_3 : decode zb_M_trip 3 = .ok (.invokevirtual 89, 3) := by decide +kernel
theorem zd_M_trip_6 : decode zb_M_trip 6 = .ok (.ifCond .eq 7, 3) := by decide +kernel
theorem zd_M_trip_9 : decode zb_M_trip 9 = .ok (.iconst 0, 1) := by decide +kernel
theorem zd_M_trip_10 : decode zb_M_trip 10 = .ok (.goto 4, 3) := by decide +kernel
theorem zd_M_trip_13 : decode zb_M_trip 13 = .ok (.iconst 1, 1) := by decide +kernel
theorem zd_M_trip_14 : decode zb_M_trip 14 = .ok (.putfield 76, 3) := by decide +kernel
theorem zd_M_trip_17 : decode zb_M_trip 17 = .ok (.aload_n 0, 1) := by decide +kernel
theorem zd_M_trip_18 : decode zb_M_trip 18 = .ok (.getfield 76, 3) := by decide +kernel
theorem zd_M_trip_21 : decode zb_M_trip 21 = .ok (.ifCond .le 5, 3) := by decide +kernel
theorem zd_M_trip_24 : decode zb_M_trip 24 = .ok (.iconst 0, 1) := by decide +kernel
theorem zd_M_trip_25 : decode zb_M_trip 25 = .ok (.ireturn, 1) := by decide +kernel
theorem zd_M_trip_26 : decode zb_M_trip 26 = .ok (.aload_n 0, 1) := by decide +kernel
theorem zd_M_trip_27 : decode zb_M_trip 27 = .ok (.iload_n 1, 1) := by decide +kernel
theorem zd_M_trip_28 : decode zb_M_trip 28 = .ok (.invokevirtual 142, 3) := by decide +kernel
theorem zd_M_trip_31 : decode zb_M_trip 31 = .ok (.ifCond .ne 5, 3) := by decide +kernel
theorem zd_M_trip_34 : decode zb_M_trip 34 = .ok (.iconst (-1), 1) := by decide +kernel
theorem zd_M_trip_35 : decode zb_M_trip 35 = .ok (.ireturn, 1) := by decide +kernel
theorem zd_M_trip_36 : decode zb_M_trip 36 = .ok (.iconst (-1), 1) := by decide +kernel
theorem zd_M_trip_37 : decode zb_M_trip 37 = .ok (.istore_n 2, 1) := by decide +kernel
theorem zd_M_trip_38 : decode zb_M_trip 38 = .ok (.iconst 0, 1) := by decide +kernel
theorem zd_M_trip_39 : decode zb_M_trip 39 = .ok (.istore_n 3, 1) := by decide +kernel
theorem zd_M_trip_40 : decode zb_M_trip 40 = .ok (.iconst 0, 1) := by decide +kernel
theorem zd_M_trip_41 : decode zb_M_trip 41 = .ok (.istore 4, 2) := by decide +kernel
theorem zd_M_trip_43 : decode zb_M_trip 43 = .ok (.iload 4, 2) := by decide +kernel
theorem zd_M_trip_45 : decode zb_M_trip 45 = .ok (.iconst 4, 1) := by decide +kernel
theorem zd_M_trip_46 : decode zb_M_trip 46 = .ok (.if_icmp .ge 149, 3) := by decide +kernel
theorem zd_M_trip_49 : decode zb_M_trip 49 = .ok (.iconst 1, 1) := by decide +kernel
theorem zd_M_trip_50 : decode zb_M_trip 50 = .ok (.istore 5, 2) := by decide +kernel
theorem zd_M_trip_52 : decode zb_M_trip 52 = .ok (.iconst 0, 1) := by decide +kernel
theorem zd_M_trip_53 : decode zb_M_trip 53 = .ok (.istore 6, 2) := by decide +kernel
theorem zd_M_trip_55 : decode zb_M_trip 55 = .ok (.iload 6, 2) := by decide +kernel
theorem zd_M_trip_57 : decode zb_M_trip 57 = .ok (.aload_n 0, 1) := by decide +kernel
theorem zd_M_trip_58 : decode zb_M_trip 58 = .ok (.getfield 79, 3) := by decide +kernel
theorem zd_M_trip_61 : decode zb_M_trip 61 = .ok (.if_icmp .ge 128, 3) := by decide +kernel
theorem zd_M_trip_64 : decode zb_M_trip 64 = .ok (.aload_n 0, 1) := by decide +kernel
theorem zd_M_trip_65 : decode zb_M_trip 65 = .ok (.iload 6, 2) := by decide +kernel
theorem zd_M_trip_67 : decode zb_M_trip 67 = .ok (.invokevirtual 142, 3) := by decide +kernel
theorem zd_M_trip_70 : decode zb_M_trip 70 = .ok (.ifCond .eq 113, 3) := by decide +kernel
theorem zd_M_trip_73 : decode zb_M_trip 73 = .ok (.aload_n 0, 1) := by decide +kernel
theorem zd_M_trip_74 : decode zb_M_trip 74 = .ok (.getfield 38, 3) := by decide +kernel
theorem zd_M_trip_77 : decode zb_M_trip 77 = .ok (.aload_n 0, 1) := by decide +kernel
theorem zd_M_trip_78 : decode zb_M_trip 78 = .ok (.iload 6, 2) := by decide +kernel
theorem zd_M_trip_80 : decode zb_M_trip 80 = .ok (.invokevirtual 142, 3) := by decide +kernel
theorem zd_M_trip_83 : decode zb_M_trip 83 = .ok (.ifCond .eq 13, 3) := by decide +kernel
theorem zd_M_trip_86 : decode zb_M_trip 86 = .ok (.aload_n 0, 1) := by decide +kernel
theorem zd_M_trip_87 : decode zb_M_trip 87 = .ok (.getfield 22, 3) := by decide +kernel
theorem zd_M_trip_90 : decode zb_M_trip 90 = .ok (.iload 6, 2) := by decide +kernel
theorem zd_M_trip_92 : decode zb_M_trip 92 = .ok (.iaload, 1) := by decide +kernel
theorem zd_M_trip_93 : decode zb_M_trip 93 = .ok (.goto 4, 3) := by decide +kernel
theorem zd_M_trip_96 : decode zb_M_trip 96 = .ok (.iconst 0, 1) := by decide +kernel
theorem zd_M_trip_97 : decode zb_M_trip 97 = .ok (.iaload, 1) := by decide +kernel
theorem zd_M_trip_98 : decode zb_M_trip 98 = .ok (.iload 4, 2) := by decide +kernel
theorem zd_M_trip_100 : decode zb_M_trip 100 = .ok (.if_icmp .eq 6, 3) := by decide +kernel
theorem zd_M_trip_103 : decode zb_M_trip 103 = .ok (.goto 80, 3) := by decide +kernel
theorem zd_M_trip_106 : decode zb_M_trip 106 = .ok (.iload 5, 2) := by decide +kernel
theorem zd_M_trip_108 : decode zb_M_trip 108 = .ok (.ifCond .ne 23, 3) := by decide +kernel
theorem zd_M_trip_111 : decode zb_M_trip 111 = .ok (.iload_n 3, 1) := by decide +kernel
theorem zd_M_trip_112 : decode zb_M_trip 112 = .ok (.aload_n 0, 1) := by decide +kernel
theorem zd_M_trip_113 : decode zb_M_trip 113 = .ok (.getfield 13, 3) := by decide +kernel
theorem zd_M_trip_116 : decode zb_M_trip 116 = .ok (.iload 6, 2) := by decide +kernel
theorem zd_M_trip_118 : decode zb_M_trip 118 = .ok (.iaload, 1) := by decide +kernel
theorem zd_M_trip_119 : decode zb_M_trip 119 = .ok (.iadd, 1) := by decide +kernel
theorem zd_M_trip_120 : decode zb_M_trip 120 = .ok (.aload_n 0, 1) := by decide +kernel
theorem zd_M_trip_121 : decode zb_M_trip 121 = .ok (.getfield 57, 3) := by decide +kernel
theorem zd_M_trip_124 : decode zb_M_trip 124 = .ok (.if_icmp .gt 7, 3) := by decide +kernel
theorem zd_M_trip_127 : decode zb_M_trip 127 = .ok (.iconst 1, 1) := by decide +kernel
theorem zd_M_trip_128 : decode zb_M_trip 128 = .ok (.goto 4, 3) := by decide +kernel
theorem zd_M_trip_131 : decode zb_M_trip 131 = .ok (.iconst 0, 1) := by decide +kernel
theorem zd_M_trip_132 : decode zb_M_trip 132 = .ok (.istore 7, 2) := by decide +kernel
theorem zd_M_trip_134 : decode zb_M_trip 134 = .ok (.iload_n 2, 1) := by decide +kernel
theorem zd_M_trip_135 : decode zb_M_trip 135 = .ok (.iload 7, 2) := by decide +kernel
theorem zd_M_trip_137 : decode zb_M_trip 137 = .ok (.ifCond .eq 7, 3) := by decide +kernel
theorem zd_M_trip_140 : decode zb_M_trip 140 = .ok (.iconst 0, 1) := by decide +kernel
theorem zd_M_trip_141 : decode zb_M_trip 141 = .ok (.goto 4, 3) := by decide +kernel
theorem zd_M_trip_144 : decode zb_M_trip 144 = .ok (.iconst 1, 1) := by decide +kernel
theorem zd_M_trip_145 : decode zb_M_trip 145 = .ok (.iadd, 1) := by decide +kernel
theorem zd_M_trip_146 : decode zb_M_trip 146 = .ok (.istore_n 2, 1) := by decide +kernel
theorem zd_M_trip_147 : decode zb_M_trip 147 = .ok (.iload 7, 2) := by decide +kernel
theorem zd_M_trip_149 : decode zb_M_trip 149 = .ok (.ifCond .eq 15, 3) := by decide +kernel
theorem zd_M_trip_152 : decode zb_M_trip 152 = .ok (.iload_n 3, 1) := by decide +kernel
theorem zd_M_trip_153 : decode zb_M_trip 153 = .ok (.aload_n 0, 1) := by decide +kernel
theorem zd_M_trip_154 : decode zb_M_trip 154 = .ok (.getfield 13, 3) := by decide +kernel
theorem zd_M_trip_157 : decode zb_M_trip 157 = .ok (.iload 6, 2) := by decide +kernel
theorem zd_M_trip_159 : decode zb_M_trip 159 = .ok (.iaload, 1) := by decide +kernel
theorem zd_M_trip_160 : decode zb_M_trip 160 = .ok (.iadd, 1) := by decide +kernel
theorem zd_M_trip_161 : decode zb_M_trip 161 = .ok (.goto 10, 3) := by decide +kernel
theorem zd_M_trip_164 : decode zb_M_trip 164 = .ok (.aload_n 0, 1) := by decide +kernel
theorem zd_M_trip_165 : decode zb_M_trip 165 = .ok (.getfield 13, 3) := by decide +kernel
theorem zd_M_trip_168 : decode zb_M_trip 168 = .ok (.iload 6, 2) := by decide +kernel
theorem zd_M_trip_170 : decode zb_M_trip 170 = .ok (.iaload, 1) := by decide +kernel
theorem zd_M_trip_171 : decode zb_M_trip 171 = .ok (.istore_n 3, 1) := by decide +kernel
theorem zd_M_trip_172 : decode zb_M_trip 172 = .ok (.iconst 0, 1) := by decide +kernel
theorem zd_M_trip_173 : decode zb_M_trip 173 = .ok (.istore 5, 2) := by decide +kernel
theorem zd_M_trip_175 : decode zb_M_trip 175 = .ok (.iload 6, 2) := by decide +kernel
theorem zd_M_trip_177 : decode zb_M_trip 177 = .ok (.iload_n 1, 1) := by decide +kernel
theorem zd_M_trip_178 : decode zb_M_trip 178 = .ok (.if_icmp .ne 5, 3) := by decide +kernel
theorem zd_M_trip_181 : decode zb_M_trip 181 = .ok (.iload_n 2, 1) := by decide +kernel
theorem zd_M_trip_182 : decode zb_M_trip 182 = .ok (.ireturn, 1) := by decide +kernel
theorem zd_M_trip_183 : decode zb_M_trip 183 = .ok (.iinc 6 1, 3) := by decide +kernel
theorem zd_M_trip_186 : decode zb_M_trip 186 = .ok (.goto (-131), 3) := by decide +kernel
theorem zd_M_trip_189 : decode zb_M_trip 189 = .ok (.iinc 4 1, 3) := by decide +kernel
theorem zd_M_trip_192 : decode zb_M_trip 192 = .ok (.goto (-149), 3) := by decide +kernel
theorem zd_M_trip_195 : decode zb_M_trip 195 = .ok (.iload_n 2, 1) := by decide +kernel
theorem zd_M_trip_196 : decode zb_M_trip 196 = .ok (.ireturn, 1) := by decide +kernel
theorem zd_M_told_0 : decode zb_M_told 0 = .ok (.aload_n 0, 1) := by decide +kernel
theorem zd_M_told_1 : decode zb_M_told 1 = .ok (.aload_n 0, 1) := by decide +kernel
theorem zd_M_told_2 : decode zb_M_told 2 = .ok (.iload_n 1, 1) := by decide +kernel
theorem zd_M_told_3 : decode zb_M_told 3 = .ok (.invokevirtual 93, 3) := by decide +kernel
theorem zd_M_told_6 : decode zb_M_told 6 = .ok (.ifCond .ne 7, 3) := by decide +kernel
theorem zd_M_told_9 : decode zb_M_told 9 = .ok (.iconst 1, 1) := by decide +kernel
theorem zd_M_told_10 : decode zb_M_told 10 = .ok (.goto 17, 3) := by decide +kernel
theorem zd_M_told_13 : decode zb_M_told 13 = .ok (.iload_n 2, 1) := by decide +kernel
theorem zd_M_told_14 : decode zb_M_told 14 = .ok (.iconst 0, 1) := by decide +kernel
theorem zd_M_told_15 : decode zb_M_told 15 = .ok (.iconst 3, 1) := by decide +kernel
theorem zd_M_told_16 : decode zb_M_told 16 = .ok (.invokestatic 82, 3) := by decide +kernel
theorem zd_M_told_19 : decode zb_M_told 19 = .ok (.ifCond .ne 7, 3) := by decide +kernel
theorem zd_M_told_22 : decode zb_M_told 22 = .ok (.iconst 2, 1) := by decide +kernel
theorem zd_M_told_23 : decode zb_M_told 23 = .ok (.goto 4, 3) := by decide +kernel
theorem zd_M_told_26 : decode zb_M_told 26 = .ok (.iconst 0, 1) := by decide +kernel
theorem zd_M_told_27 : decode zb_M_told 27 = .ok (.putfield 76, 3) := by decide +kernel
theorem zd_M_told_30 : decode zb_M_told 30 = .ok (.aload_n 0, 1) := by decide +kernel
theorem zd_M_told_31 : decode zb_M_told 31 = .ok (.getfield 76, 3) := by decide +kernel
theorem zd_M_told_34 : decode zb_M_told 34 = .ok (.ifCond .le 5, 3) := by decide +kernel
theorem zd_M_told_37 : decode zb_M_told 37 = .ok (.iconst 0, 1) := by decide +kernel
theorem zd_M_told_38 : decode zb_M_told 38 = .ok (.ireturn, 1) := by decide +kernel
theorem zd_M_told_39 : decode zb_M_told 39 = .ok (.iload_n 2, 1) := by decide +kernel
theorem zd_M_told_40 : decode zb_M_told 40 = .ok (.ifCond .ne 10, 3) := by decide +kernel
theorem zd_M_told_43 : decode zb_M_told 43 = .ok (.aload_n 0, 1) := by decide +kernel
theorem zd_M_told_44 : decode zb_M_told 44 = .ok (.getfield 41, 3) := by decide +kernel
theorem zd_M_told_47 : decode zb_M_told 47 = .ok (.iload_n 1, 1) := by decide +kernel
theorem zd_M_told_48 : decode zb_M_told 48 = .ok (.iaload, 1) := by decide +kernel
theorem zd_M_told_49 : decode zb_M_told 49 = .ok (.ireturn, 1) := by decide +kernel
theorem zd_M_told_50 : decode zb_M_told 50 = .ok (.iload_n 2, 1) := by decide +kernel
theorem zd_M_told_51 : decode zb_M_told 51 = .ok (.iconst 1, 1) := by decide +kernel
theorem zd_M_told_52 : decode zb_M_told 52 = .ok (.if_icmp .ne 10, 3) := by decide +kernel
theorem zd_M_told_55 : decode zb_M_told 55 = .ok (.aload_n 0, 1) := by decide +kernel
theorem zd_M_told_56 : decode zb_M_told 56 = .ok (.getfield 38, 3) := by decide +kernel
theorem zd_M_told_59 : decode zb_M_told 59 = .ok (.iload_n 1, 1) := by decide +kernel
theorem zd_M_told_60 : decode zb_M_told 60 = .ok (.iaload, 1) := by decide +kernel
theorem zd_M_told_61 : decode zb_M_told 61 = .ok (.ireturn, 1) := by decide +kernel
theorem zd_M_told_62 : decode zb_M_told 62 = .ok (.iload_n 2, 1) := by decide +kernel
theorem zd_M_told_63 : decode zb_M_told 63 = .ok (.iconst 2, 1) := by decide +kernel
theorem zd_M_told_64 : decode zb_M_told 64 = .ok (.if_icmp .ne 20, 3) := by decide +kernel
theorem zd_M_told_67 : decode zb_M_told 67 = .ok (.aload_n 0, 1) := by decide +kernel
theorem zd_M_told_68 : decode zb_M_told 68 = .ok (.getfield 47, 3) := by decide +kernel
theorem zd_M_told_71 : decode zb_M_told 71 = .ok (.iload_n 1, 1) := by decide +kernel
theorem zd_M_told_72 : decode zb_M_told 72 = .ok (.baload, 1) := by decide +kernel
theorem zd_M_told_73 : decode zb_M_told 73 = .ok (.ifCond .eq 7, 3) := by decide +kernel
theorem zd_M_told_76 : decode zb_M_told 76 = .ok (.iconst 1, 1) := by decide +kernel
theorem zd_M_told_77 : decode zb_M_told 77 = .ok (.goto 12, 3) := by decide +kernel
theorem zd_M_told_80 : decode zb_M_told 80 = .ok (.iconst 0, 1) := by decide +kernel
theorem zd_M_told_81 : decode zb_M_told 81 = .ok (.goto 8, 3) := by decide +kernel
theorem zd_M_told_84 : decode zb_M_told 84 = .ok (.aload_n 0, 1) := by decide +kernel
theorem zd_M_told_85 : decode zb_M_told 85 = .ok (.iload_n 1, 1) := by decide +kernel
theorem zd_M_told_86 : decode zb_M_told 86 = .ok (.invokevirtual 139, 3) := by decide +kernel
theorem zd_M_told_89 : decode zb_M_told 89 = .ok (.ireturn, 1) := by decide +kernel
theorem zd_M_count_0 : decode zb_M_count 0 = .ok (.aload_n 0, 1) := by decide +kernel
theorem zd_M_count_1 : decode zb_M_count 1 = .ok (.iconst 0, 1) := by decide +kernel
theorem zd_M_count_2 : decode zb_M_count 2 = .ok (.putfield 76, 3) := by decide +kernel
theorem zd_M_count_5 : decode zb_M_count 5 = .ok (.iload_n 1, 1) := by decide +kernel
theorem zd_M_count_6 : decode zb_M_count 6 = .ok (.ifCond .ne 8, 3) := by decide +kernel
theorem zd_M_count_9 : decode zb_M_count 9 = .ok (.aload_n 0, 1) := by decide +kernel
theorem zd_M_count_10 : decode zb_M_count 10 = .ok (.getfield 79, 3) := by decide +kernel
theorem zd_M_count_13 : decode zb_M_count 13 = .ok (.ireturn, 1) := by decide +kernel
theorem zd_M_count_14 : decode zb_M_count 14 = .ok (.iload_n 1, 1) := by decide +kernel
theorem zd_M_count_15 : decode zb_M_count 15 = .ok (.iconst 1, 1) := by decide +kernel
theorem zd_M_count_16 : decode zb_M_count 16 = .ok (.if_icmp .ne 8, 3) := by decide +kernel
theorem zd_M_count_19 : decode zb_M_count 19 = .ok (.aload_n 0, 1) := by decide +kernel
theorem zd_M_count_20 : decode zb_M_count 20 = .ok (.getfield 86, 3) := by decide +kernel
theorem zd_M_count_23 : decode zb_M_count 23 = .ok (.ireturn, 1) := by decide +kernel
theorem zd_M_count_24 : decode zb_M_count 24 = .ok (.iconst 0, 1) := by decide +kernel
theorem zd_M_count_25 : decode zb_M_count 25 = .ok (.istore_n 2, 1) := by decide +kernel
theorem zd_M_count_26 : decode zb_M_count 26 = .ok (.iconst 0, 1) := by decide +kernel
theorem zd_M_count_27 : decode zb_M_count 27 = .ok (.istore_n 3, 1) := by decide +kernel
theorem zd_M_count_28 : decode zb_M_count 28 = .ok (.iload_n 3, 1) := by decide +kernel
theorem zd_M_count_29 : decode zb_M_count 29 = .ok (.aload_n 0, 1) := by decide +kernel
theorem zd_M_count_30 : decode zb_M_count 30 = .ok (.getfield 79, 3) := by decide +kernel
theorem zd_M_count_33 : decode zb_M_count 33 = .ok (.if_icmp .ge 47, 3) := by decide +kernel
theorem zd_M_count_36 : decode zb_M_count 36 = .ok (.iload_n 2, 1) := by decide +kernel
theorem zd_M_count_37 : decode zb_M_count 37 = .ok (.iload_n 1, 1) := by decide +kernel
theorem zd_M_count_38 : decode zb_M_count 38 = .ok (.iconst 2, 1) := by decide +kernel
theorem zd_M_count_39 : decode zb_M_count 39 = .ok (.if_icmp .ne 19, 3) := by decide +kernel
theorem zd_M_count_42 : decode zb_M_count 42 = .ok (.aload_n 0, 1) := by decide +kernel
theorem zd_M_count_43 : decode zb_M_count 43 = .ok (.iload_n 3, 1) := by decide +kernel
theorem zd_M_count_44 : decode zb_M_count 44 = .ok (.invokevirtual 107, 3) := by decide +kernel
theorem zd_M_count_47 : decode zb_M_count 47 = .ok (.ifCond .eq 7, 3) := by decide +kernel
theorem zd_M_count_50 : decode zb_M_count 50 = .ok (.iconst 1, 1) := by decide +kernel
theorem zd_M_count_51 : decode zb_M_count 51 = .ok (.goto 21, 3) := by decide +kernel
theorem zd_M_count_54 : decode zb_M_count 54 = .ok (.iconst 0, 1) := by decide +kernel
theorem zd_M_count_55 : decode zb_M_count 55 = .ok (.goto 17, 3) := by decide +kernel
theorem zd_M_count_58 : decode zb_M_count 58 = .ok (.aload_n 0, 1) := by decide +kernel
theorem zd_M_count_59 : decode zb_M_count 59 = .ok (.getfield 25, 3) := by decide +kernel
theorem zd_M_count_62 : decode zb_M_count 62 = .ok (.iload_n 3, 1) := by decide +kernel
theorem zd_M_count_63 : decode zb_M_count 63 = .ok (.baload, 1) := by decide +kernel
theorem zd_M_count_64 : decode zb_M_count 64 = .ok (.ifCond .eq 7, 3) := by decide +kernel
theorem zd_M_count_67 : decode zb_M_count 67 = .ok (.iconst 1, 1) := by decide +kernel
theorem zd_M_count_68 : decode zb_M_count 68 = .ok (.goto 4, 3) := by decide +kernel
theorem zd_M_count_71 : decode zb_M_count 71 = .ok (.iconst 0, 1) := by decide +kernel
theorem zd_M_count_72 : decode zb_M_count 72 = .ok (.iadd, 1) := by decide +kernel
theorem zd_M_count_73 : decode zb_M_count 73 = .ok (.istore_n 2, 1) := by decide +kernel
theorem zd_M_count_74 : decode zb_M_count 74 = .ok (.iinc 3 1, 3) := by decide +kernel
theorem zd_M_count_77 : decode zb_M_count 77 = .ok (.goto (-49), 3) := by decide +kernel
theorem zd_M_count_80 : decode zb_M_count 80 = .ok (.iload_n 1, 1) := by decide +kernel
theorem zd_M_count_81 : decode zb_M_count 81 = .ok (.iconst 2, 1) := by decide +kernel
theorem zd_M_count_82 : decode zb_M_count 82 = .ok (.if_icmp .eq 8, 3) := by decide +kernel
theorem zd_M_count_85 : decode zb_M_count 85 = .ok (.iload_n 1, 1) := by decide +kernel
theorem zd_M_count_86 : decode zb_M_count 86 = .ok (.iconst 3, 1) := by decide +kernel
theorem zd_M_count_87 : decode zb_M_count 87 = .ok (.if_icmp .ne 7, 3) := by decide +kernel
theorem zd_M_count_90 : decode zb_M_count 90 = .ok (.iload_n 2, 1) := by decide +kernel
theorem zd_M_count_91 : decode zb_M_count 91 = .ok (.goto 4, 3) := by decide +kernel
theorem zd_M_count_94 : decode zb_M_count 94 = .ok (.iconst (-1), 1) := by decide +kernel
theorem zd_M_count_95 : decode zb_M_count 95 = .ok (.ireturn, 1) := by decide +kernel
theorem zd_B_init_0 : decode zb_B_init 0 = .ok (.aload_n 0, 1) := by decide +kernel
theorem zd_B_init_1 : decode zb_B_init 1 = .ok (.invokespecial 5, 3) := by decide +kernel
theorem zd_B_init_4 : decode zb_B_init 4 = .ok (.aload_n 0, 1) := by decide +kernel
theorem zd_B_init_5 : decode zb_B_init 5 = .ok (.bipush 9, 2) := by decide +kernel
theorem zd_B_init_7 : decode zb_B_init 7 = .ok (.bipush 21, 2) := by decide +kernel
theorem zd_B_init_9 : decode zb_B_init 9 = .ok (.multianewarray 11 2, 4) := by decide +kernel
theorem zd_B_init_13 : decode zb_B_init 13 = .ok (.putfield 13, 3) := by decide +kernel
theorem zd_B_init_16 : decode zb_B_init 16 = .ok (.aload_n 0, 1) := by decide +kernel
theorem zd_B_init_17 : decode zb_B_init 17 = .ok (.bipush 9, 2) := by decide +kernel
theorem zd_B_init_19 : decode zb_B_init 19 = .ok (.newarray .long, 2) := by decide +kernel
theorem zd_B_init_21 : decode zb_B_init 21 = .ok (.putfield 16, 3) := by decide +kernel
theorem zd_B_init_24 : decode zb_B_init 24 = .ok (.aload_n 0, 1) := by decide +kernel
theorem zd_B_init_25 : decode zb_B_init 25 = .ok (.bipush 21, 2) := by decide +kernel
theorem zd_B_init_27 : decode zb_B_init 27 = .ok (.newarray .long, 2) := by decide +kernel
theorem zd_B_init_29 : decode zb_B_init 29 = .ok (.putfield 20, 3) := by decide +kernel
theorem zd_B_init_32 : decode zb_B_init 32 = .ok (.aload_n 0, 1) := by decide +kernel
theorem zd_B_init_33 : decode zb_B_init 33 = .ok (.bipush 21, 2) := by decide +kernel
theorem zd_B_init_35 : decode zb_B_init 35 = .ok (.newarray .int, 2) := by decide +kernel
theorem zd_B_init_37 : decode zb_B_init 37 = .ok (.putfield 23, 3) := by decide +kernel
theorem zd_B_init_40 : decode zb_B_init 40 = .ok (.aload_n 0, 1) := by decide +kernel
theorem zd_B_init_41 : decode zb_B_init 41 = .ok (.bipush 21, 2) := by decide +kernel
theorem zd_B_init_43 : decode zb_B_init 43 = .ok (.newarray .int, 2) := by decide +kernel
theorem zd_B_init_45 : decode zb_B_init 45 = .ok (.putfield 27, 3) := by decide +kernel
theorem zd_B_init_48 : decode zb_B_init 48 = .ok (.aload_n 0, 1) := by decide +kernel
theorem zd_B_init_49 : decode zb_B_init 49 = .ok (.bipush 21, 2) := by decide +kernel
theorem zd_B_init_51 : decode zb_B_init 51 = .ok (.newarray .long, 2) := by decide +kernel
theorem zd_B_init_53 : decode zb_B_init 53 = .ok (.putfield 30, 3) := by decide +kernel
theorem zd_B_init_56 : decode zb_B_init 56 = .ok (.aload_n 0, 1) := by decide +kernel
theorem zd_B_init_57 : decode zb_B_init 57 = .ok (.bipush 21, 2) := by decide +kernel
theorem zd_B_init_59 : decode zb_B_init 59 = .ok (.newarray .boolean, 2) := by decide +kernel
theorem zd_B_init_61 : decode zb_B_init 61 = .ok (.putfield 33, 3) := by decide +kernel
theorem zd_B_init_64 : decode zb_B_init 64 = .ok (.return_, 1) := by decide +kernel
theorem zd_B_clear_0 : decode zb_B_clear 0 = .ok (.aload_n 0, 1) := by decide +kernel
theorem zd_B_clear_1 : decode zb_B_clear 1 = .ok (.iconst 0, 1) := by decide +kernel
theorem zd_B_clear_2 : decode zb_B_clear 2 = .ok (.putfield 37, 3) := by decide +kernel
theorem zd_B_clear_5 : decode zb_B_clear 5 = .ok (.aload_n 0, 1) := by decide +kernel
theorem zd_B_clear_6 : decode zb_B_clear 6 = .ok (.ldc2_w 41, 3) := by decide +kernel
theorem zd_B_clear_9 : decode zb_B_clear 9 = .ok (.putfield 43, 3) := by decide +kernel
theorem zd_B_clear_12 : decode zb_B_clear 12 = .ok (.iconst 0, 1) := by decide +kernel
theorem zd_B_clear_13 : decode zb_B_clear 13 = .ok (.istore_n 1, 1) := by decide +kernel
theorem zd_B_clear_14 : decode zb_B_clear 14 = .ok (.iload_n 1, 1) := by decide +kernel
theorem zd_B_clear_15 : decode zb_B_clear 15 = .ok (.bipush 8, 2) := by decide +kernel
theorem zd_B_clear_17 : decode zb_B_clear 17 = .ok (.if_icmp .gt 16, 3) := by decide +kernel
theorem zd_B_clear_20 : decode zb_B_clear 20 = .ok (.aload_n 0, 1) := by decide +kernel
theorem zd_B_clear_21 : decode zb_B_clear 21 = .ok (.getfield 16, 3) := by decide +kernel
theorem zd_B_clear_24 : decode zb_B_clear 24 = .ok (.iload_n 1, 1) := by decide +kernel
theorem zd_B_clear_25 : decode zb_B_clear 25 = .ok (.lconst 0, 1) := by decide +kernel
theorem zd_B_clear_26 : decode zb_B_clear 26 = .ok (.lastore, 1) := by decide +kernel
theorem zd_B_clear_27 : decode zb_B_clear 27 = .ok (.iinc 1 1, 3) := by decide +kernel
theorem zd_B_clear_30 : decode zb_B_clear 30 = .ok (.goto (-16), 3) := by decide +kernel
theorem zd_B_clear_33 : decode zb_B_clear 33 = .ok (.iconst 0, 1) := by decide +kernel
theorem zd_B_clear_34 : decode zb_B_clear 34 = .ok (.istore_n 1, 1) := by decide +kernel
theorem zd_B_clear_35 : decode zb_B_clear 35 = .ok (.iload_n 1, 1) := by decide +kernel
theorem zd_B_clear_36 : decode zb_B_clear 36 = .ok (.bipush 20, 2) := by decide +kernel
theorem zd_B_clear_38 : decode zb_B_clear 38 = .ok (.if_icmp .gt 23, 3) := by decide +kernel
theorem zd_B_clear_41 : decode zb_B_clear 41 = .ok (.aload_n 0, 1) := by decide +kernel
theorem zd_B_clear_42 : decode zb_B_clear 42 = .ok (.getfield 20, 3) := by decide +kernel
theorem zd_B_clear_45 : decode zb_B_clear 45 = .ok (.iload_n 1, 1) := by decide +kernel
theorem zd_B_clear_46 : decode zb_B_clear 46 = .ok (.lconst 0, 1) := by decide +kernel
theorem zd_B_clear_47 : decode zb_B_clear 47 = .ok (.lastore, 1) := by decide +kernel
theorem zd_B_clear_48 : decode zb_B_clear 48 = .ok (.aload_n 0, 1) := by decide +kernel
theorem zd_B_clear_49 : decode zb_B_clear 49 = .ok (.getfield 23, 3) := by decide +kernel
theorem zd_B_clear_52 : decode zb_B_clear 52 = .ok (.iload_n 1, 1) := by decide +kernel
theorem zd_B_clear_53 : decode zb_B_clear 53 = .ok (.iconst 0, 1) := by decide +kernel
theorem zd_B_clear_54 : decode zb_B_clear 54 = .ok (.iastore, 1) := by decide +kernel
theorem zd_B_clear_55 : decode zb_B_clear 55 = .ok (.iinc 1 1, 3) := by decide +kernel
theorem zd_B_clear_58 : decode zb_B_clear 58 = .ok (.goto (-23), 3) := by decide +kernel
theorem zd_B_clear_61 : decode zb_B_clear 61 = .ok (.return_, 1) := by decide +kernel
theorem zd_B_addGroup_0 : decode zb_B_addGroup 0 = .ok (.aload_n 0, 1) := by decide +kernel
theorem zd_B_addGroup_1 : decode zb_B_addGroup 1 = .ok (.getfield 37, 3) := by decide +kernel
theorem zd_B_addGroup_4 : decode zb_B_addGroup 4 = .ok (.bipush 8, 2) := by decide +kernel
theorem zd_B_addGroup_6 : decode zb_B_addGroup 6 = .ok (.if_icmp .lt 4, 3) := by decide +kernel
theorem zd_B_addGroup_9 : decode zb_B_addGroup 9 = .ok (.return_, 1) := by decide +kernel
theorem zd_B_addGroup_10 : decode zb_B_addGroup 10 = .ok (.aload_n 0, 1) := by decide +kernel
theorem zd_B_addGroup_11 : decode zb_B_addGroup 11 = .ok (.dup, 1) := by decide +kernel
theorem zd_B_addGroup_12 : decode zb_B_addGroup 12 = .ok (.getfield 37, 3) := by decide +kernel
theorem zd_B_addGroup_15 : decode zb_B_addGroup 15 = .ok (.iconst 1, 1) := by decide +kernel
theorem zd_B_addGroup_16 : decode zb_B_addGroup 16 = .ok (.iadd, 1) := by decide +kernel
theorem zd_B_addGroup_17 : decode zb_B_addGroup 17 = .ok (.putfield 37, 3) := by decide +kernel
theorem zd_B_addGroup_20 : decode zb_B_addGroup 20 = .ok (.aload_n 0, 1) := by decide +kernel
theorem zd_B_addGroup_21 : decode zb_B_addGroup 21 = .ok (.dup, 1) := by decide +kernel
theorem zd_B_addGroup_22 : decode zb_B_addGroup 22 = .ok (.getfield 43, 3) := by decide +kernel
theorem zd_B_addGroup_25 : decode zb_B_addGroup 25 = .ok (.ldc2_w 47, 3) := by decide +kernel
theorem zd_B_addGroup_28 : decode zb_B_addGroup 28 = .ok (.ldiv, 1) := by decide +kernel
theorem zd_B_addGroup_29 : decode zb_B_addGroup 29 = .ok (.putfield 43, 3) := by decide +kernel
theorem zd_B_addGroup_32 : decode zb_B_addGroup 32 = .ok (.iconst 1, 1) := by decide +kernel
theorem zd_B_addGroup_33 : decode zb_B_addGroup 33 = .ok (.istore_n 1, 1) := by decide +kernel
theorem zd_B_addGroup_34 : decode zb_B_addGroup 34 = .ok (.iload_n 1, 1) := by decide +kernel
theorem zd_B_addGroup_35 : decode zb_B_addGroup 35 = .ok (.bipush 20, 2) := by decide +kernel
theorem zd_B_addGroup_37 : decode zb_B_addGroup 37 = .ok (.if_icmp .gt 44, 3) := by decide +kernel
theorem zd_B_addGroup_40 : decode zb_B_addGroup 40 = .ok (.aload_n 0, 1) := by decide +kernel
theorem zd_B_addGroup_41 : decode zb_B_addGroup 41 = .ok (.getfield 13, 3) := by decide +kernel
theorem zd_B_addGroup_44 : decode zb_B_addGroup 44 = .ok (.aload_n 0, 1) := by decide +kernel
theorem zd_B_addGroup_45 : decode zb_B_addGroup 45 = .ok (.getfield 37, 3) := by decide +kernel
theorem zd_B_addGroup_48 : decode zb_B_addGroup 48 = .ok (.aaload, 1) := by decide +kernel
theorem zd_B_addGroup_49 : decode zb_B_addGroup 49 = .ok (.iload_n 1, 1) := by decide +kernel
theorem zd_B_addGroup_50 : decode zb_B_addGroup 50 = .ok (.iload_n 1, 1) := by decide +kernel
theorem zd_B_addGroup_51 : decode zb_B_addGroup 51 = .ok (.bipush 12, 2) := by decide +kernel
theorem zd_B_addGroup_53 : decode zb_B_addGroup 53 = .ok (.if_icmp .gt 9, 3) := by decide +kernel
theorem zd_B_addGroup_56 : decode zb_B_addGroup 56 = .ok (.ldc2_w 49, 3) := by decide +kernel
theorem zd_B_addGroup_59 : decode zb_B_addGroup 59 = .ok (.goto 15, 3) := by decide +kernel
theorem zd_B_addGroup_62 : decode zb_B_addGroup 62 = .ok (.ldc2_w 51, 3) := by decide +kernel
theorem zd_B_addGroup_65 : decode zb_B_addGroup 65 = .ok (.ldc2_w 53, 3) := by decide +kernel
theorem zd_B_addGroup_68 : decode zb_B_addGroup 68 = .ok (.aload_n 0, 1) := by decide +kernel
theorem zd_B_addGroup_69 : decode zb_B_addGroup 69 = .ok (.getfield 43, 3) := by decide +kernel
theorem zd_B_addGroup_72 : decode zb_B_addGroup 72 = .ok (.lmul, 1) := by decide +kernel
theorem zd_B_addGroup_73 : decode zb_B_addGroup 73 = .ok (.ladd, 1) := by decide +kernel
theorem zd_B_addGroup_74 : decode zb_B_addGroup 74 = .ok (.lastore, 1) := by decide +kernel
theorem zd_B_addGroup_75 : decode zb_B_addGroup 75 = .ok (.iinc 1 1, 3) := by decide +kernel
theorem zd_B_addGroup_78 : decode zb_B_addGroup 78 = .ok (.goto (-44), 3) := by decide +kernel
theorem zd_B_addGroup_81 : decode zb_B_addGroup 81 = .ok (.return_, 1) := by decide +kernel
theorem zd_B_offer_0 : decode zb_B_offer 0 = .ok (.aload_n 0, 1) := by decide +kernel
theorem zd_B_offer_1 : decode zb_B_offer 1 = .ok (.getfield 13, 3) := by decide +kernel
theorem zd_B_offer_4 : decode zb_B_offer 4 = .ok (.aload_n 0, 1) := by decide +kernel
theorem zd_B_offer_5 : decode zb_B_offer 5 = .ok (.getfield 37, 3) := by decide +kernel
theorem zd_B_offer_8 : decode zb_B_offer 8 = .ok (.aaload, 1) := by decide +kernel
theorem zd_B_offer_9 : decode zb_B_offer 9 = .ok (.iload_n 1, 1) := by decide +kernel
theorem zd_B_offer_10 : decode zb_B_offer 10 = .ok (.iconst 1, 1) := by decide +kernel
theorem zd_B_offer_11 : decode zb_B_offer 11 = .ok (.iadd, 1) := by decide +kernel
theorem zd_B_offer_12 : decode zb_B_offer 12 = .ok (.iload_n 2, 1) := by decide +kernel
theorem zd_B_offer_13 : decode zb_B_offer 13 = .ok (.i2l, 1) := by decide +kernel
theorem zd_B_offer_14 : decode zb_B_offer 14 = .ok (.ldc2_w 41, 3) := by decide +kernel
theorem zd_B_offer_17 : decode zb_B_offer 17 = .ok (.lmul, 1) := by decide +kernel
theorem zd_B_offer_18 : decode zb_B_offer 18 = .ok (.iload_n 1, 1) := by decide +kernel
theorem zd_B_offer_19 : decode zb_B_offer 19 = .ok (.i2l, 1) := by decide +kernel
theorem zd_B_offer_20 : decode zb_B_offer 20 = .ok (.aload_n 0, 1) := by decide +kernel
theorem zd_B_offer_21 : decode zb_B_offer 21 = .ok (.getfield 43, 3) := by decide +kernel
theorem zd_B_offer_24 : decode zb_B_offer 24 = .ok (.lmul, 1) := by decide +kernel
theorem zd_B_offer_25 : decode zb_B_offer 25 = .ok (.ladd, 1) := by decide +kernel
theorem zd_B_offer_26 : decode zb_B_offer 26 = .ok (.lastore, 1) := by decide +kernel
theorem zd_B_offer_27 : decode zb_B_offer 27 = .ok (.return_, 1) := by decide +kernel
theorem zd_B_solve_0 : decode zb_B_solve 0 = .ok (.iconst 1, 1) := by decide +kernel
theorem zd_B_solve_1 : decode zb_B_solve 1 = .ok (.istore_n 1, 1) := by decide +kernel
theorem zd_B_solve_2 : decode zb_B_solve 2 = .ok (.iload_n 1, 1) := by decide +kernel
theorem zd_B_solve_3 : decode zb_B_solve 3 = .ok (.aload_n 0, 1) := by decide +kernel
theorem zd_B_solve_4 : decode zb_B_solve 4 = .ok (.getfield 37, 3) := by decide +kernel
theorem zd_B_solve_7 : decode zb_B_solve 7 = .ok (.if_icmp .gt 14, 3) := by decide +kernel
theorem zd_B_solve_10 : decode zb_B_solve 10 = .ok (.aload_n 0, 1) := by decide +kernel
theorem zd_B_solve_11 : decode zb_B_solve 11 = .ok (.iload_n 1, 1) := by decide +kernel
theorem zd_B_solve_12 : decode zb_B_solve 12 = .ok (.invokevirtual 55, 3) := by decide +kernel
theorem zd_B_solve_15 : decode zb_B_solve 15 = .ok (.iinc 1 1, 3) := by decide +kernel
theorem zd_B_solve_18 : decode zb_B_solve 18 = .ok (.goto (-16), 3) := by decide +kernel
theorem zd_B_solve_21 : decode zb_B_solve 21 = .ok (.return_, 1) := by decide +kernel
theorem zd_B_placeGiven_0 : decode zb_B_placeGiven 0 = .ok (.iconst 1, 1) := by decide +kernel
theorem zd_B_placeGiven_1 : decode zb_B_placeGiven 1 = .ok (.istore_n 2, 1) := by decide +kernel
theorem zd_B_placeGiven_2 : decode zb_B_placeGiven 2 = .ok (.iload_n 2, 1) := by decide +kernel
theorem zd_B_placeGiven_3 : decode zb_B_placeGiven 3 = .ok (.bipush 12, 2) := by decide +kernel
theorem zd_B_placeGiven_5 : decode zb_B_placeGiven 5 = .ok (.if_icmp .gt 23, 3) := by decide +kernel
theorem zd_B_placeGiven_8 : decode zb_B_placeGiven 8 = .ok (.aload_n 0, 1) := by decide +kernel
theorem zd_B_placeGiven_9 : decode zb_B_placeGiven 9 = .ok (.getfield 23, 3) := by decide +kernel
theorem zd_B_placeGiven_12 : decode zb_B_placeGiven 12 = .ok (.iload_n 2, 1) := by decide +kernel
theorem zd_B_placeGiven_13 : decode zb_B_placeGiven 13 = .ok (.iaload, 1) := by decide +kernel
theorem zd_B_placeGiven_14 : decode zb_B_placeGiven 14 = .ok (.iload_n 1, 1) := by decide +kernel
theorem zd_B_placeGiven_15 : decode zb_B_placeGiven 15 = .ok (.if_icmp .ne 7, 3) := by decide +kernel
theorem zd_B_placeGiven_18 : decode zb_B_placeGiven 18 = .ok (.iload_n 2, 1) := by decide +kernel
theorem zd_B_placeGiven_19 : decode zb_B_placeGiven 19 = .ok (.iconst 1, 1) := by decide +kernel
theorem zd_B_placeGiven_20 : decode zb_B_placeGiven 20 = .ok (.isub, 1) := by decide +kernel
theorem zd_B_placeGiven_21 : decode zb_B_placeGiven 21 = .ok (.ireturn, 1) := by decide +kernel
theorem zd_B_placeGiven_22 : decode zb_B_placeGiven 22 = .ok (.iinc 2 1, 3) := by decide +kernel
theorem zd_B_placeGiven_25 : decode zb_B_placeGiven 25 = .ok (.goto (-23), 3) := by decide +kernel
theorem zd_B_placeGiven_28 : decode zb_B_placeGiven 28 = .ok (.iconst (-1), 1) := by decide +kernel
theorem zd_B_placeGiven_29 : decode zb_B_placeGiven 29 = .ok (.ireturn, 1) := by decide +kernel
theorem zd_B_giveColumn_0 : decode zb_B_giveColumn 0 = .ok (.iconst 0, 1) := by decide +kernel
theorem zd_B_giveColumn_1 : decode zb_B_giveColumn 1 = .ok (.istore_n 2, 1) := by decide +kernel
theorem zd_B_giveColumn_2 : decode zb_B_giveColumn 2 = .ok (.iload_n 2, 1) := by decide +kernel
theorem zd_B_giveColumn_3 : decode zb_B_giveColumn 3 = .ok (.bipush 20, 2) := by decide +kernel
theorem zd_B_giveColumn_5 : decode zb_B_giveColumn 5 = .ok (.if_icmp .gt 25, 3) := by decide +kernel
theorem zd_B_giveColumn_8 : decode zb_B_giveColumn 8 = .ok (.aload_n 0, 1) := by decide +kernel
theorem zd_B_giveColumn_9 : decode zb_B_giveColumn 9 = .ok (.getfield 30, 3) := by decide +kernel
theorem zd_B_giveColumn_12 : decode zb_B_giveColumn 12 = .ok (.iload_n 2, 1) := by decide +kernel
theorem zd_B_giveColumn_13 : decode zb_B_giveColumn 13 = .ok (.ldc2_w 61, 3) := by decide +kernel
theorem zd_B_giveColumn_16 : decode zb_B_giveColumn 16 = .ok (.lastore, 1) := by decide +kernel
theorem zd_B_giveColumn_17 : decode zb_B_giveColumn 17 = .ok (.aload_n 0, 1) := by decide +kernel
theorem zd_B_giveColumn_18 : decode zb_B_giveColumn 18 = .ok (.getfield 33, 3) := by decide +kernel
theorem zd_B_giveColumn_21 : decode zb_B_giveColumn 21 = .ok (.iload_n 2, 1) := by decide +kernel
theorem zd_B_giveColumn_22 : decode zb_B_giveColumn 22 = .ok (.iconst 0, 1) := by decide +kernel
theorem zd_B_giveColumn_23 : decode zb_B_giveColumn 23 = .ok (.bastore, 1) := by decide +kernel
theorem zd_B_giveColumn_24 : decode zb_B_giveColumn 24 = .ok (.iinc 2 1, 3) := by decide +kernel
theorem zd_B_giveColumn_27 : decode zb_B_giveColumn 27 = .ok (.goto (-25), 3) := by decide +kernel
theorem zd_B_giveColumn_30 : decode zb_B_giveColumn 30 = .ok (.aload_n 0, 1) := by decide +kernel
theorem zd_B_giveColumn_31 : decode zb_B_giveColumn 31 = .ok (.getfield 23, 3) := by decide +kernel
theorem zd_B_giveColumn_34 : decode zb_B_giveColumn 34 = .ok (.iconst 0, 1) := by decide +kernel
theorem zd_B_giveColumn_35 : decode zb_B_giveColumn 35 = .ok (.iload_n 1, 1) := by decide +kernel
theorem zd_B_giveColumn_36 : decode zb_B_giveColumn 36 = .ok (.iastore, 1) := by decide +kernel
theorem zd_B_giveColumn_37 : decode zb_B_giveColumn 37 = .ok (.iconst 0, 1) := by decide +kernel
theorem zd_B_giveColumn_38 : decode zb_B_giveColumn 38 = .ok (.istore_n 2, 1) := by decide +kernel
theorem zd_B_giveColumn_39 : decode zb_B_giveColumn 39 = .ok (.iconst 0, 1) := by decide +kernel
theorem zd_B_giveColumn_40 : decode zb_B_giveColumn 40 = .ok (.istore_n 3, 1) := by decide +kernel
theorem zd_B_giveColumn_41 : decode zb_B_giveColumn 41 = .ok (.iload_n 3, 1) := by decide +kernel
theorem zd_B_giveColumn_42 : decode zb_B_giveColumn 42 = .ok (.bipush 20, 2) := by decide +kernel
theorem zd_B_giveColumn_44 : decode zb_B_giveColumn 44 = .ok (.if_icmp .gt 45, 3) := by decide +kernel
theorem zd_B_giveColumn_47 : decode zb_B_giveColumn 47 = .ok (.aload_n 0, 1) := by decide +kernel
theorem zd_B_giveColumn_48 : decode zb_B_giveColumn 48 = .ok (.getfield 23, 3) := by decide +kernel
theorem zd_B_giveColumn_51 : decode zb_B_giveColumn 51 = .ok (.iload_n 2, 1) := by decide +kernel
theorem zd_B_giveColumn_52 : decode zb_B_giveColumn 52 = .ok (.iaload, 1) := by decide +kernel
theorem zd_B_giveColumn_53 : decode zb_B_giveColumn 53 = .ok (.ifCond .eq 36, 3) := by decide +kernel
theorem zd_B_giveColumn_56 : decode zb_B_giveColumn 56 = .ok (.aload_n 0, 1) := by decide +kernel
theorem zd_B_giveColumn_57 : decode zb_B_giveColumn 57 = .ok (.getfield 33, 3) := by decide +kernel
theorem zd_B_giveColumn_60 : decode zb_B_giveColumn 60 = .ok (.iload_n 2, 1) := by decide +kernel
theorem zd_B_giveColumn_61 : decode zb_B_giveColumn 61 = .ok (.iconst 1, 1) := by decide +kernel
theorem zd_B_giveColumn_62 : decode zb_B_giveColumn 62 = .ok (.bastore, 1) := by decide +kernel
theorem zd_B_giveColumn_63 : decode zb_B_giveColumn 63 = .ok (.aload_n 0, 1) := by decide +kernel
theorem zd_B_giveColumn_64 : decode zb_B_giveColumn 64 = .ok (.iload_n 2, 1) := by decide +kernel
theorem zd_B_giveColumn_65 : decode zb_B_giveColumn 65 = .ok (.invokevirtual 63, 3) := by decide +kernel
theorem zd_B_giveColumn_68 : decode zb_B_giveColumn 68 = .ok (.aload_n 0, 1) := by decide +kernel
theorem zd_B_giveColumn_69 : decode zb_B_giveColumn 69 = .ok (.invokevirtual 66, 3) := by decide +kernel
theorem zd_B_giveColumn_72 : decode zb_B_giveColumn 72 = .ok (.istore_n 2, 1) := by decide +kernel
theorem zd_B_giveColumn_73 : decode zb_B_giveColumn 73 = .ok (.aload_n 0, 1) := by decide +kernel
theorem zd_B_giveColumn_74 : decode zb_B_giveColumn 74 = .ok (.aload_n 0, 1) := by decide +kernel
theorem zd_B_giveColumn_75 : decode zb_B_giveColumn 75 = .ok (.getfield 30, 3) := by decide +kernel
theorem zd_B_giveColumn_78 : decode zb_B_giveColumn 78 = .ok (.iload_n 2, 1) := by decide +kernel
theorem zd_B_giveColumn_79 : decode zb_B_giveColumn 79 = .ok (.laload, 1) := by decide +kernel
theorem zd_B_giveColumn_80 : decode zb_B_giveColumn 80 = .ok (.invokevirtual 70, 3) := by decide +kernel
theorem zd_B_giveColumn_83 : decode zb_B_giveColumn 83 = .ok (.iinc 3 1, 3) := by decide +kernel
theorem zd_B_giveColumn_86 : decode zb_B_giveColumn 86 = .ok (.goto (-45), 3) := by decide +kernel
theorem zd_B_giveColumn_89 : decode zb_B_giveColumn 89 = .ok (.iconst 0, 1) := by decide +kernel
theorem zd_B_giveColumn_90 : decode zb_B_giveColumn 90 = .ok (.istore_n 3, 1) := by decide +kernel
theorem zd_B_giveColumn_91 : decode zb_B_giveColumn 91 = .ok (.iload_n 3, 1) := by decide +kernel
theorem zd_B_giveColumn_92 : decode zb_B_giveColumn 92 = .ok (.bipush 20, 2) := by decide +kernel
theorem zd_B_giveColumn_94 : decode zb_B_giveColumn 94 = .ok (.if_icmp .gt 37, 3) := by decide +kernel
theorem zd_B_giveColumn_97 : decode zb_B_giveColumn 97 = .ok (.iload_n 2, 1) := by decide +kernel
theorem zd_B_giveColumn_98 : decode zb_B_giveColumn 98 = .ok (.ifCond .eq 33, 3) := by decide +kernel
theorem zd_B_giveColumn_101 : decode zb_B_giveColumn 101 = .ok (.aload_n 0, 1) := by decide +kernel
theorem zd_B_giveColumn_102 : decode zb_B_giveColumn 102 = .ok (.getfield 27, 3) := by decide +kernel
theorem zd_B_giveColumn_105 : decode zb_B_giveColumn 105 = .ok (.iload_n 2, 1) := by decide +kernel
theorem zd_B_giveColumn_106 : decode zb_B_giveColumn 106 = .ok (.iaload, 1) := by decide +kernel
theorem zd_B_giveColumn_107 : decode zb_B_giveColumn 107 = .ok (.istore 4, 2) := by decide +kernel
theorem zd_B_giveColumn_109 : decode zb_B_giveColumn 109 = .ok (.aload_n 0, 1) := by decide +kernel
theorem zd_B_giveColumn_110 : decode zb_B_giveColumn 110 = .ok (.getfield 23, 3) := by decide +kernel
theorem zd_B_giveColumn_113 : decode zb_B_giveColumn 113 = .ok (.iload_n 2, 1) := by decide +kernel
theorem zd_B_giveColumn_114 : decode zb_B_giveColumn 114 = .ok (.aload_n 0, 1) := by decide +kernel
theorem zd_B_giveColumn_115 : decode zb_B_giveColumn 115 = .ok (.getfield 23, 3) := by decide +kernel
theorem zd_B_giveColumn_118 : decode zb_B_giveColumn 118 = .ok (.iload 4, 2) := by decide +kernel
theorem zd_B_giveColumn_120 : decode zb_B_giveColumn 120 = .ok (.iaload, 1) := by decide +kernel
theorem zd_B_giveColumn_121 : decode zb_B_giveColumn 121 = .ok (.iastore, 1) := by decide +kernel
theorem zd_B_giveColumn_122 : decode zb_B_giveColumn 122 = .ok (.iload 4, 2) := by decide +kernel
theorem zd_B_giveColumn_124 : decode zb_B_giveColumn 124 = .ok (.istore_n 2, 1) := by decide +kernel
theorem zd_B_giveColumn_125 : decode zb_B_giveColumn 125 = .ok (.iinc 3 1, 3) := by decide +kernel
theorem zd_B_giveColumn_128 : decode zb_B_giveColumn 128 = .ok (.goto (-37), 3) := by decide +kernel
theorem zd_B_giveColumn_131 : decode zb_B_giveColumn 131 = .ok (.return_, 1) := by decide +kernel
theorem zd_B_measureFrom_0 : decode zb_B_measureFrom 0 = .ok (.aload_n 0, 1) := by decide +kernel
theorem zd_B_measureFrom_1 : decode zb_B_measureFrom 1 = .ok (.getfield 23, 3) := by decide +kernel
theorem zd_B_measureFrom_4 : decode zb_B_measureFrom 4 = .ok (.iload_n 1, 1) := by decide +kernel
theorem zd_B_measureFrom_5 : decode zb_B_measureFrom 5 = .ok (.iaload, 1) := by decide +kernel
theorem zd_B_measureFrom_6 : decode zb_B_measureFrom 6 = .ok (.istore_n 2, 1) := by decide +kernel
theorem zd_B_measureFrom_7 : decode zb_B_measureFrom 7 = .ok (.iconst 1, 1) := by decide +kernel
theorem zd_B_measureFrom_8 : decode zb_B_measureFrom 8 = .ok (.istore_n 3, 1) := by decide +kernel
theorem zd_B_measureFrom_9 : decode zb_B_measureFrom 9 = .ok (.iload_n 3, 1) := by decide +kernel
theorem zd_B_measureFrom_10 : decode zb_B_measureFrom 10 = .ok (.bipush 20, 2) := by decide +kernel
theorem zd_B_measureFrom_12 : decode zb_B_measureFrom 12 = .ok (.if_icmp .gt 69, 3) := by decide +kernel
theorem zd_B_measureFrom_15 : decode zb_B_measureFrom 15 = .ok (.aload_n 0, 1) := by decide +kernel
theorem zd_B_measureFrom_16 : decode zb_B_measureFrom 16 = .ok (.getfield 33, 3) := by decide +kernel
theorem zd_B_measureFrom_19 : decode zb_B_measureFrom 19 = .ok (.iload_n 3, 1) := by decide +kernel
theorem zd_B_measureFrom_20 : decode zb_B_measureFrom 20 = .ok (.baload, 1) := by decide +kernel
theorem zd_B_measureFrom_21 : decode zb_B_measureFrom 21 = .ok (.ifCond .ne 54, 3) := by decide +kernel
theorem zd_B_measureFrom_24 : decode zb_B_measureFrom 24 = .ok (.aload_n 0, 1) := by decide +kernel
theorem zd_B_measureFrom_25 : decode zb_B_measureFrom 25 = .ok (.getfield 13, 3) := by decide +kernel
theorem zd_B_measureFrom_28 : decode zb_B_measureFrom 28 = .ok (.iload_n 2, 1) := by decide +kernel
theorem zd_B_measureFrom_29 : decode zb_B_measureFrom 29 = .ok (.aaload, 1) := by decide +kernel
theorem zd_B_measureFrom_30 : decode zb_B_measureFrom 30 = .ok (.iload_n 3, 1) := by decide +kernel
theorem zd_B_measureFrom_31 : decode zb_B_measureFrom 31 = .ok (.laload, 1) := by decide +kernel
theorem zd_B_measureFrom_32 : decode zb_B_measureFrom 32 = .ok (.aload_n 0, 1) := by decide +kernel
theorem zd_B_measureFrom_33 : decode zb_B_measureFrom 33 = .ok (.getfield 16, 3) := by decide +kernel
theorem zd_B_measureFrom_36 : decode zb_B_measureFrom 36 = .ok (.iload_n 2, 1) := by decide +kernel
theorem zd_B_measureFrom_37 : decode zb_B_measureFrom 37 = .ok (.laload, 1) := by decide +kernel
theorem zd_B_measureFrom_38 : decode zb_B_measureFrom 38 = .ok (.lsub, 1) := by decide +kernel
theorem zd_B_measureFrom_39 : decode zb_B_measureFrom 39 = .ok (.aload_n 0, 1) := by decide +kernel
theorem zd_B_measureFrom_40 : decode zb_B_measureFrom 40 = .ok (.getfield 20, 3) := by decide +kernel
theorem zd_B_measureFrom_43 : decode zb_B_measureFrom 43 = .ok (.iload_n 3, 1) := by decide +kernel
theorem zd_B_measureFrom_44 : decode zb_B_measureFrom 44 = .ok (.laload, 1) := by decide +kernel
theorem zd_B_measureFrom_45 : decode zb_B_measureFrom 45 = .ok (.lsub, 1) := by decide +kernel
theorem zd_B_measureFrom_46 : decode zb_B_measureFrom 46 = .ok (.lstore 4, 2) := by decide +kernel
theorem zd_B_measureFrom_48 : decode zb_B_measureFrom 48 = .ok (.lload 4, 2) := by decide +kernel
theorem zd_B_measureFrom_50 : decode zb_B_measureFrom 50 = .ok (.aload_n 0, 1) := by decide +kernel
theorem zd_B_measureFrom_51 : decode zb_B_measureFrom 51 = .ok (.getfield 30, 3) := by decide +kernel
theorem zd_B_measureFrom_54 : decode zb_B_measureFrom 54 = .ok (.iload_n 3, 1) := by decide +kernel
theorem zd_B_measureFrom_55 : decode zb_B_measureFrom 55 = .ok (.laload, 1) := by decide +kernel
theorem zd_B_measureFrom_56 : decode zb_B_measureFrom 56 = .ok (.lcmp, 1) := by decide +kernel
theorem zd_B_measureFrom_57 : decode zb_B_measureFrom 57 = .ok (.ifCond .ge 18, 3) := by decide +kernel
theorem zd_B_measureFrom_60 : decode zb_B_measureFrom 60 = .ok (.aload_n 0, 1) := by decide +kernel
theorem zd_B_measureFrom_61 : decode zb_B_measureFrom 61 = .ok (.getfield 30, 3) := by decide +kernel
theorem zd_B_measureFrom_64 : decode zb_B_measureFrom 64 = .ok (.iload_n 3, 1) := by decide +kernel
theorem zd_B_measureFrom_65 : decode zb_B_measureFrom 65 = .ok (.lload 4, 2) := by decide +kernel
theorem zd_B_measureFrom_67 : decode zb_B_measureFrom 67 = .ok (.lastore, 1) := by decide +kernel
theorem zd_B_measureFrom_68 : decode zb_B_measureFrom 68 = .ok (.aload_n 0, 1) := by decide +kernel
theorem zd_B_measureFrom_69 : decode zb_B_measureFrom 69 = .ok (.getfield 27, 3) := by decide +kernel
theorem zd_B_measureFrom_72 : decode zb_B_measureFrom 72 = .ok (.iload_n 3, 1) := by decide +kernel
theorem zd_B_measureFrom_73 : decode zb_B_measureFrom 73 = .ok (.iload_n 1, 1) := by decide +kernel
theorem zd_B_measureFrom_74 : decode zb_B_measureFrom 74 = .ok (.iastore, 1) := by decide +kernel
theorem zd_B_measureFrom_75 : decode zb_B_measureFrom 75 = .ok (.iinc 3 1, 3) := by decide +kernel
theorem zd_B_measureFrom_78 : decode zb_B_measureFrom 78 = .ok (.goto (-69), 3) := by decide +kernel
theorem zd_B_measureFrom_81 : decode zb_B_measureFrom 81 = .ok (.return_, 1) := by decide +kernel
theorem zd_B_nearestColumn_0 : decode zb_B_nearestColumn 0 = .ok (.iconst 0, 1) := by decide +kernel
theorem zd_B_nearestColumn_1 : decode zb_B_nearestColumn 1 = .ok (.istore_n 1, 1) := by decide +kernel
theorem zd_B_nearestColumn_2 : decode zb_B_nearestColumn 2 = .ok (.iconst 1, 1) := by decide +kernel
theorem zd_B_nearestColumn_3 : decode zb_B_nearestColumn 3 = .ok (.istore_n 2, 1) := by decide +kernel
theorem zd_B_nearestColumn_4 : decode zb_B_nearestColumn 4 = .ok (.iload_n 2, 1) := by decide +kernel
theorem zd_B_nearestColumn_5 : decode zb_B_nearestColumn 5 = .ok (.bipush 20, 2) := by decide +kernel
theorem zd_B_nearestColumn_7 : decode zb_B_nearestColumn 7 = .ok (.if_icmp .gt 40, 3) := by decide +kernel
theorem zd_B_nearestColumn_10 : decode zb_B_nearestColumn 10 = .ok (.aload_n 0, 1) := by decide +kernel
theorem zd_B_nearestColumn_11 : decode zb_B_nearestColumn 11 = .ok (.getfield 33, 3) := by decide +kernel
theorem zd_B_nearestColumn_14 : decode zb_B_nearestColumn 14 = .ok (.iload_n 2, 1) := by decide +kernel
theorem zd_B_nearestColumn_15 : decode zb_B_nearestColumn 15 = .ok (.baload, 1) := by decide +kernel
theorem zd_B_nearestColumn_16 : decode zb_B_nearestColumn 16 = .ok (.ifCond .ne 25, 3) := by decide +kernel
theorem zd_B_nearestColumn_19 : decode zb_B_nearestColumn 19 = .ok (.iload_n 1, 1) := by decide +kernel
theorem zd_B_nearestColumn_20 : decode zb_B_nearestColumn 20 = .ok (.ifCond .eq 19, 3) := by decide +kernel
theorem zd_B_nearestColumn_23 : decode zb_B_nearestColumn 23 = .ok (.aload_n 0, 1) := by decide +kernel
theorem zd_B_nearestColumn_24 : decode zb_B_nearestColumn 24 = .ok (.getfield 30, 3) := by decide +kernel
theorem zd_B_nearestColumn_27 : decode zb_B_nearestColumn 27 = .ok (.iload_n 2, 1) := by decide +kernel
theorem zd_B_nearestColumn_28 : decode zb_B_nearestColumn 28 = .ok (.laload, 1) := by decide +kernel
theorem zd_B_nearestColumn_29 : decode zb_B_nearestColumn 29 = .ok (.aload_n 0, 1) := by decide +kernel
theorem zd_B_nearestColumn_30 : decode zb_B_nearestColumn 30 = .ok (.getfield 30, 3) := by decide +kernel
theorem zd_B_nearestColumn_33 : decode zb_B_nearestColumn 33 = .ok (.iload_n 1, 1) := by decide +kernel
theorem zd_B_nearestColumn_34 : decode zb_B_nearestColumn 34 = .ok (.laload, 1) := by decide +kernel
theorem zd_B_nearestColumn_35 : decode zb_B_nearestColumn 35 = .ok (.lcmp, 1) := by decide +kernel
theorem zd_B_nearestColumn_36 : decode zb_B_nearestColumn 36 = .ok (.ifCond .ge 5, 3) := by decide +kernel
theorem zd_B_nearestColumn_39 : decode zb_B_nearestColumn 39 = .ok (.iload_n 2, 1) := by decide +kernel
theorem zd_B_nearestColumn_40 : decode zb_B_nearestColumn 40 = .ok (.istore_n 1, 1) := by decide +kernel
theorem zd_B_nearestColumn_41 : decode zb_B_nearestColumn 41 = .ok (.iinc 2 1, 3) := by decide +kernel
theorem zd_B_nearestColumn_44 : decode zb_B_nearestColumn 44 = .ok (.goto (-40), 3) := by decide +kernel
theorem zd_B_nearestColumn_47 : decode zb_B_nearestColumn 47 = .ok (.iload_n 1, 1) := by decide +kernel
theorem zd_B_nearestColumn_48 : decode zb_B_nearestColumn 48 = .ok (.ireturn, 1) := by decide +kernel
theorem zd_B_shiftBy_0 : decode zb_B_shiftBy 0 = .ok (.iconst 0, 1) := by decide +kernel
theorem zd_B_shiftBy_1 : decode zb_B_shiftBy 1 = .ok (.istore_n 3, 1) := by decide +kernel
theorem zd_B_shiftBy_2 : decode zb_B_shiftBy 2 = .ok (.iload_n 3, 1) := by decide +kernel
theorem zd_B_shiftBy_3 : decode zb_B_shiftBy 3 = .ok (.bipush 20, 2) := by decide +kernel
theorem zd_B_shiftBy_5 : decode zb_B_shiftBy 5 = .ok (.if_icmp .gt 56, 3) := by decide +kernel
theorem zd_B_shiftBy_8 : decode zb_B_shiftBy 8 = .ok (.aload_n 0, 1) := by decide +kernel
theorem zd_B_shiftBy_9 : decode zb_B_shiftBy 9 = .ok (.getfield 33, 3) := by decide +kernel
theorem zd_B_shiftBy_12 : decode zb_B_shiftBy 12 = .ok (.iload_n 3, 1) := by decide +kernel
theorem zd_B_shiftBy_13 : decode zb_B_shiftBy 13 = .ok (.baload, 1) := by decide +kernel
theorem zd_B_shiftBy_14 : decode zb_B_shiftBy 14 = .ok (.ifCond .eq 31, 3) := by decide +kernel
theorem zd_B_shiftBy_17 : decode zb_B_shiftBy 17 = .ok (.aload_n 0, 1) := by decide +kernel
theorem zd_B_shiftBy_18 : decode zb_B_shiftBy 18 = .ok (.getfield 16, 3) := by decide +kernel
theorem zd_B_shiftBy_21 : decode zb_B_shiftBy 21 = .ok (.aload_n 0, 1) := by decide +kernel
theorem zd_B_shiftBy_22 : decode zb_B_shiftBy 22 = .ok (.getfield 23, 3) := by decide +kernel
theorem zd_B_shiftBy_25 : decode zb_B_shiftBy 25 = .ok (.iload_n 3, 1) := by decide +kernel
theorem zd_B_shiftBy_26 : decode zb_B_shiftBy 26 = .ok (.iaload, 1) := by decide +kernel
theorem zd_B_shiftBy_27 : decode zb_B_shiftBy 27 = .ok (.dup2, 1) := by decide +kernel
theorem zd_B_shiftBy_28 : decode zb_B_shiftBy 28 = .ok (.laload, 1) := by decide +kernel
theorem zd_B_shiftBy_29 : decode zb_B_shiftBy 29 = .ok (.lload_n 1, 1) := by decide +kernel
theorem zd_B_shiftBy_30 : decode zb_B_shiftBy 30 = .ok (.ladd, 1) := by decide +kernel
theorem zd_B_shiftBy_31 : decode zb_B_shiftBy 31 = .ok (.lastore, 1) := by decide +kernel
theorem zd_B_shiftBy_32 : decode zb_B_shiftBy 32 = .ok (.aload_n 0, 1) := by decide +kernel
theorem zd_B_shiftBy_33 : decode zb_B_shiftBy 33 = .ok (.getfield 20, 3) := by decide +kernel
theorem zd_B_shiftBy_36 : decode zb_B_shiftBy 36 = .ok (.iload_n 3, 1) := by decide +kernel
theorem zd_B_shiftBy_37 : decode zb_B_shiftBy 37 = .ok (.dup2, 1) := by decide +kernel
theorem zd_B_shiftBy_38 : decode zb_B_shiftBy 38 = .ok (.laload, 1) := by decide +kernel
theorem zd_B_shiftBy_39 : decode zb_B_shiftBy 39 = .ok (.lload_n 1, 1) := by decide +kernel
theorem zd_B_shiftBy_40 : decode zb_B_shiftBy 40 = .ok (.lsub, 1) := by decide +kernel
theorem zd_B_shiftBy_41 : decode zb_B_shiftBy 41 = .ok (.lastore, 1) := by decide +kernel
theorem zd_B_shiftBy_42 : decode zb_B_shiftBy 42 = .ok (.goto 13, 3) := by decide +kernel
theorem zd_B_shiftBy_45 : decode zb_B_shiftBy 45 = .ok (.aload_n 0, 1) := by decide +kernel
theorem zd_B_shiftBy_46 : decode zb_B_shiftBy 46 = .ok (.getfield 30, 3) := by decide +kernel
theorem zd_B_shiftBy_49 : decode zb_B_shiftBy 49 = .ok (.iload_n 3, 1) := by decide +kernel
theorem zd_B_shiftBy_50 : decode zb_B_shiftBy 50 = .ok (.dup2, 1) := by decide +kernel
theorem zd_B_shiftBy_51 : decode zb_B_shiftBy 51 = .ok (.laload, 1) := by decide +kernel
theorem zd_B_shiftBy_52 : decode zb_B_shiftBy 52 = .ok (.lload_n 1, 1) := by decide +kernel
theorem zd_B_shiftBy_53 : decode zb_B_shiftBy 53 = .ok (.lsub, 1) := by decide +kernel
theorem zd_B_shiftBy_54 : decode zb_B_shiftBy 54 = .ok (.lastore, 1) := by decide +kernel
theorem zd_B_shiftBy_55 : decode zb_B_shiftBy 55 = .ok (.iinc 3 1, 3) := by decide +kernel
theorem zd_B_shiftBy_58 : decode zb_B_shiftBy 58 = .ok (.goto (-56), 3) := by decide +kernel
theorem zd_B_shiftBy_61 : decode zb_B_shiftBy 61 = .ok (.return_, 1) := by decide +kernel
theorem zd_G_init_0 : decode zb_G_init 0 = .ok (.aload_n 0, 1) := by decide +kernel
theorem zd_G_init_1 : decode zb_G_init 1 = .ok (.invokespecial 3, 3) := by decide +kernel
theorem zd_G_init_4 : decode zb_G_init 4 = .ok (.return_, 1) := by decide +kernel
theorem zd_G_clear_0 : decode zb_G_clear 0 = .ok (.aload_n 0, 1) := by decide +kernel
theorem zd_G_clear_1 : decode zb_G_clear 1 = .ok (.iload_n 1, 1) := by decide +kernel
theorem zd_G_clear_2 : decode zb_G_clear 2 = .ok (.putfield 9, 3) := by decide +kernel
theorem zd_G_clear_5 : decode zb_G_clear 5 = .ok (.aload_n 0, 1) := by decide +kernel
theorem zd_G_clear_6 : decode zb_G_clear 6 = .ok (.iconst 0, 1) := by decide +kernel
theorem zd_G_clear_7 : decode zb_G_clear 7 = .ok (.putfield 15, 3) := by decide +kernel
theorem zd_G_clear_10 : decode zb_G_clear 10 = .ok (.aload_n 0, 1) := by decide +kernel
theorem zd_G_clear_11 : decode zb_G_clear 11 = .ok (.iconst 0, 1) := by decide +kernel
theorem zd_G_clear_12 : decode zb_G_clear 12 = .ok (.putfield 18, 3) := by decide +kernel
theorem zd_G_clear_15 : decode zb_G_clear 15 = .ok (.aload_n 0, 1) := by decide +kernel
theorem zd_G_clear_16 : decode zb_G_clear 16 = .ok (.iconst 0, 1) := by decide +kernel
theorem zd_G_clear_17 : decode zb_G_clear 17 = .ok (.putfield 21, 3) := by decide +kernel
theorem zd_G_clear_20 : decode zb_G_clear 20 = .ok (.aload_n 0, 1) := by decide +kernel
theorem zd_G_clear_21 : decode zb_G_clear 21 = .ok (.iconst 0, 1) := by decide +kernel
theorem zd_G_clear_22 : decode zb_G_clear 22 = .ok (.putfield 24, 3) := by decide +kernel
theorem zd_G_clear_25 : decode zb_G_clear 25 = .ok (.aload_n 0, 1) := by decide +kernel
theorem zd_G_clear_26 : decode zb_G_clear 26 = .ok (.iconst 0, 1) := by decide +kernel
theorem zd_G_clear_27 : decode zb_G_clear 27 = .ok (.putfield 27, 3) := by decide +kernel
theorem zd_G_clear_30 : decode zb_G_clear 30 = .ok (.aload_n 0, 1) := by decide +kernel
theorem zd_G_clear_31 : decode zb_G_clear 31 = .ok (.iconst (-1), 1) := by decide +kernel
theorem zd_G_clear_32 : decode zb_G_clear 32 = .ok (.putfield 30, 3) := by decide +kernel
theorem zd_G_clear_35 : decode zb_G_clear 35 = .ok (.return_, 1) := by decide +kernel
theorem zd_G_take_0 : decode zb_G_take 0 = .ok (.aload_n 0, 1) := by decide +kernel
theorem zd_G_take_1 : decode zb_G_take 1 = .ok (.dup, 1) := by decide +kernel
theorem zd_G_take_2 : decode zb_G_take 2 = .ok (.getfield 15, 3) := by decide +kernel
theorem zd_G_take_5 : decode zb_G_take 5 = .ok (.iconst 1, 1) := by decide +kernel
theorem zd_G_take_6 : decode zb_G_take 6 = .ok (.iadd, 1) := by decide +kernel
theorem zd_G_take_7 : decode zb_G_take 7 = .ok (.putfield 15, 3) := by decide +kernel
theorem zd_G_take_10 : decode zb_G_take 10 = .ok (.aload_n 0, 1) := by decide +kernel
theorem zd_G_take_11 : decode zb_G_take 11 = .ok (.dup, 1) := by decide +kernel
theorem zd_G_take_12 : decode zb_G_take 12 = .ok (.getfield 18, 3) := by decide +kernel
theorem zd_G_take_15 : decode zb_G_take 15 = .ok (.aload_n 1, 1) := by decide +kernel
theorem zd_G_take_16 : decode zb_G_take 16 = .ok (.getfield 33, 3) := by decide +kernel
theorem zd_G_take_19 : decode zb_G_take 19 = .ok (.iadd, 1) := by decide +kernel
theorem zd_G_take_20 : decode zb_G_take 20 = .ok (.putfield 18, 3) := by decide +kernel
theorem zd_G_take_23 : decode zb_G_take 23 = .ok (.aload_n 0, 1) := by decide +kernel
theorem zd_G_take_24 : decode zb_G_take 24 = .ok (.aload_n 0, 1) := by decide +kernel
theorem zd_G_take_25 : decode zb_G_take 25 = .ok (.getfield 21, 3) := by decide +kernel
theorem zd_G_take_28 : decode zb_G_take 28 = .ok (.iload_n 2, 1) := by decide +kernel
theorem zd_G_take_29 : decode zb_G_take 29 = .ok (.invokestatic 36, 3) := by decide +kernel
theorem zd_G_take_32 : decode zb_G_take 32 = .ok (.putfield 21, 3) := by decide +kernel
theorem zd_G_take_35 : decode zb_G_take 35 = .ok (.aload_n 0, 1) := by decide +kernel
theorem zd_G_take_36 : decode zb_G_take 36 = .ok (.dup, 1) := by decide +kernel
theorem zd_G_take_37 : decode zb_G_take 37 = .ok (.getfield 24, 3) := by decide +kernel
theorem zd_G_take_40 : decode zb_G_take 40 = .ok (.iconst 1, 1) := by decide +kernel
theorem zd_G_take_41 : decode zb_G_take 41 = .ok (.aload_n 1, 1) := by decide +kernel
theorem zd_G_take_42 : decode zb_G_take 42 = .ok (.getfield 42, 3) := by decide +kernel
theorem zd_G_take_45 : decode zb_G_take 45 = .ok (.ishl, 1) := by decide +kernel
theorem zd_G_take_46 : decode zb_G_take 46 = .ok (.ior, 1) := by decide +kernel
theorem zd_G_take_47 : decode zb_G_take 47 = .ok (.putfield 24, 3) := by decide +kernel
theorem zd_G_take_50 : decode zb_G_take 50 = .ok (.aload_n 0, 1) := by decide +kernel
theorem zd_G_take_51 : decode zb_G_take 51 = .ok (.dup, 1) := by decide +kernel
theorem zd_G_take_52 : decode zb_G_take 52 = .ok (.getfield 27, 3) := by decide +kernel
theorem zd_G_take_55 : decode zb_G_take 55 = .ok (.aload_n 1, 1) := by decide +kernel
theorem zd_G_take_56 : decode zb_G_take 56 = .ok (.getfield 45, 3) := by decide +kernel
theorem zd_G_take_59 : decode zb_G_take 59 = .ok (.ior, 1) := by decide +kernel
theorem zd_G_take_60 : decode zb_G_take 60 = .ok (.putfield 27, 3) := by decide +kernel
theorem zd_G_take_63 : decode zb_G_take 63 = .ok (.aload_n 1, 1) := by decide +kernel
theorem zd_G_take_64 : decode zb_G_take 64 = .ok (.getfield 46, 3) := by decide +kernel
theorem zd_G_take_67 : decode zb_G_take 67 = .ok (.iconst (-1), 1) := by decide +kernel
theorem zd_G_take_68 : decode zb_G_take 68 = .ok (.if_icmp .eq 35, 3) := by decide +kernel
theorem zd_G_take_71 : decode zb_G_take 71 = .ok (.aload_n 0, 1) := by decide +kernel
theorem zd_G_take_72 : decode zb_G_take 72 = .ok (.aload_n 0, 1) := by decide +kernel
theorem zd_G_take_73 : decode zb_G_take 73 = .ok (.getfield 30, 3) := by decide +kernel
theorem zd_G_take_76 : decode zb_G_take 76 = .ok (.iconst (-1), 1) := by decide +kernel
theorem zd_G_take_77 : decode zb_G_take 77 = .ok (.if_icmp .eq 14, 3) := by decide +kernel
theorem zd_G_take_80 : decode zb_G_take 80 = .ok (.aload_n 0, 1) := by decide +kernel
theorem zd_G_take_81 : decode zb_G_take 81 = .ok (.getfield 30, 3) := by decide +kernel
theorem zd_G_take_84 : decode zb_G_take 84 = .ok (.aload_n 1, 1) := by decide +kernel
theorem zd_G_take_85 : decode zb_G_take 85 = .ok (.getfield 46, 3) := by decide +kernel
theorem zd_G_take_88 : decode zb_G_take 88 = .ok (.if_icmp .ne 10, 3) := by decide +kernel
theorem zd_G_take_91 : decode zb_G_take 91 = .ok (.aload_n 1, 1) := by decide +kernel
theorem zd_G_take_92 : decode zb_G_take 92 = .ok (.getfield 46, 3) := by decide +kernel
theorem zd_G_take_95 : decode zb_G_take 95 = .ok (.goto 5, 3) := by decide +kernel
theorem zd_G_take_98 : decode zb_G_take 98 = .ok (.bipush (-2), 2) := by decide +kernel
theorem zd_G_take_100 : decode zb_G_take 100 = .ok (.putfield 30, 3) := by decide +kernel
theorem zd_G_take_103 : decode zb_G_take 103 = .ok (.return_, 1) := by decide +kernel
theorem zd_P_init_0 : decode zb_P_init 0 = .ok (.aload_n 0, 1) := by decide +kernel
theorem zd_P_init_1 : decode zb_P_init 1 = .ok (.invokespecial 1, 3) := by decide +kernel
theorem zd_P_init_4 : decode zb_P_init 4 = .ok (.aload_n 0, 1) := by decide +kernel
theorem zd_P_init_5 : decode zb_P_init 5 = .ok (.iload_n 1, 1) := by decide +kernel
theorem zd_P_init_6 : decode zb_P_init 6 = .ok (.putfield 7, 3) := by decide +kernel
theorem zd_P_init_9 : decode zb_P_init 9 = .ok (.aload_n 0, 1) := by decide +kernel
theorem zd_P_init_10 : decode zb_P_init 10 = .ok (.iload_n 2, 1) := by decide +kernel
theorem zd_P_init_11 : decode zb_P_init 11 = .ok (.putfield 13, 3) := by decide +kernel
theorem zd_P_init_14 : decode zb_P_init 14 = .ok (.aload_n 0, 1) := by decide +kernel
theorem zd_P_init_15 : decode zb_P_init 15 = .ok (.iload_n 3, 1) := by decide +kernel
theorem zd_P_init_16 : decode zb_P_init 16 = .ok (.putfield 16, 3) := by decide +kernel
theorem zd_P_init_19 : decode zb_P_init 19 = .ok (.aload_n 0, 1) := by decide +kernel
theorem zd_P_init_20 : decode zb_P_init 20 = .ok (.iload 4, 2) := by decide +kernel
theorem zd_P_init_22 : decode zb_P_init 22 = .ok (.putfield 19, 3) := by decide +kernel
theorem zd_P_init_25 : decode zb_P_init 25 = .ok (.return_, 1) := by decide +kernel
theorem zd_U_init_0 : decode zb_U_init 0 = .ok (.aload_n 0, 1) := by decide +kernel
theorem zd_U_init_1 : decode zb_U_init 1 = .ok (.invokespecial 3, 3) := by decide +kernel
theorem zd_U_init_4 : decode zb_U_init 4 = .ok (.aload_n 0, 1) := by decide +kernel
theorem zd_U_init_5 : decode zb_U_init 5 = .ok (.iconst (-1), 1) := by decide +kernel
theorem zd_U_init_6 : decode zb_U_init 6 = .ok (.putfield 9, 3) := by decide +kernel
theorem zd_U_init_9 : decode zb_U_init 9 = .ok (.aload_n 0, 1) := by decide +kernel
theorem zd_U_init_10 : decode zb_U_init 10 = .ok (.iconst (-1), 1) := by decide +kernel
theorem zd_U_init_11 : decode zb_U_init 11 = .ok (.putfield 15, 3) := by decide +kernel
theorem zd_U_init_14 : decode zb_U_init 14 = .ok (.aload_n 0, 1) := by decide +kernel
theorem zd_U_init_15 : decode zb_U_init 15 = .ok (.bipush 12, 2) := by decide +kernel
theorem zd_U_init_17 : decode zb_U_init 17 = .ok (.newarray .int, 2) := by decide +kernel
theorem zd_U_init_19 : decode zb_U_init 19 = .ok (.putfield 18, 3) := by decide +kernel
theorem zd_U_init_22 : decode zb_U_init 22 = .ok (.aload_n 0, 1) := by decide +kernel
theorem zd_U_init_23 : decode zb_U_init 23 = .ok (.iload_n 2, 1) := by decide +kernel
theorem zd_U_init_24 : decode zb_U_init 24 = .ok (.putfield 22, 3) := by decide +kernel
theorem zd_U_init_27 : decode zb_U_init 27 = .ok (.aload_n 0, 1) := by decide +kernel
theorem zd_U_init_28 : decode zb_U_init 28 = .ok (.iload_n 3, 1) := by decide +kernel
theorem zd_U_init_29 : decode zb_U_init 29 = .ok (.putfield 25, 3) := by decide +kernel
theorem zd_U_init_32 : decode zb_U_init 32 = .ok (.aload_n 0, 1) := by decide +kernel
theorem zd_U_init_33 : decode zb_U_init 33 = .ok (.iload_n 1, 1) := by decide +kernel
theorem zd_U_init_34 : decode zb_U_init 34 = .ok (.putfield 28, 3) := by decide +kernel
theorem zd_U_init_37 : decode zb_U_init 37 = .ok (.iconst 0, 1) := by decide +kernel
theorem zd_U_init_38 : decode zb_U_init 38 = .ok (.istore 4, 2) := by decide +kernel
theorem zd_U_init_40 : decode zb_U_init 40 = .ok (.iload 4, 2) := by decide +kernel
theorem zd_U_init_42 : decode zb_U_init 42 = .ok (.bipush 12, 2) := by decide +kernel
theorem zd_U_init_44 : decode zb_U_init 44 = .ok (.if_icmp .ge 17, 3) := by decide +kernel
theorem zd_U_init_47 : decode zb_U_init 47 = .ok (.aload_n 0, 1) := by decide +kernel
theorem zd_U_init_48 : decode zb_U_init 48 = .ok (.getfield 18, 3) := by decide +kernel
theorem zd_U_init_51 : decode zb_U_init 51 = .ok (.iload 4, 2) := by decide +kernel
theorem zd_U_init_53 : decode zb_U_init 53 = .ok (.iconst (-1), 1) := by decide +kernel
theorem zd_U_init_54 : decode zb_U_init 54 = .ok (.iastore, 1) := by decide +kernel
theorem zd_U_init_55 : decode zb_U_init 55 = .ok (.iinc 4 1, 3) := by decide +kernel
theorem zd_U_init_58 : decode zb_U_init 58 = .ok (.goto (-18), 3) := by decide +kernel
theorem zd_U_init_61 : decode zb_U_init 61 = .ok (.return_, 1) := by decide +kernel
theorem zd_L_unit_0 : decode zb_L_unit 0 = .ok (.aload_n 3, 1) := by decide +kernel
theorem zd_L_unit_1 : decode zb_L_unit 1 = .ok (.iconst 0, 1) := by decide +kernel
theorem zd_L_unit_2 : decode zb_L_unit 2 = .ok (.aload_n 0, 1) := by decide +kernel
theorem zd_L_unit_3 : decode zb_L_unit 3 = .ok (.iload_n 1, 1) := by decide +kernel
theorem zd_L_unit_4 : decode zb_L_unit 4 = .ok (.iload_n 2, 1) := by decide +kernel
theorem zd_L_unit_5 : decode zb_L_unit 5 = .ok (.invokevirtual 7, 3) := by decide +kernel
theorem zd_L_unit_8 : decode zb_L_unit 8 = .ok (.i2l, 1) := by decide +kernel
theorem zd_L_unit_9 : decode zb_L_unit 9 = .ok (.lastore, 1) := by decide +kernel
theorem zd_L_unit_10 : decode zb_L_unit 10 = .ok (.goto 11, 3) := by decide +kernel
theorem zd_L_unit_13 : decode zb_L_unit 13 = .ok (.astore 4, 2) := by decide +kernel
theorem zd_L_unit_15 : decode zb_L_unit 15 = .ok (.iconst 1, 1) := by decide +kernel
theorem zd_L_unit_16 : decode zb_L_unit 16 = .ok (.ireturn, 1) := by decide +kernel
theorem zd_L_unit_17 : decode zb_L_unit 17 = .ok (.astore 4, 2) := by decide +kernel
theorem zd_L_unit_19 : decode zb_L_unit 19 = .ok (.iconst 2, 1) := by decide +kernel
theorem zd_L_unit_20 : decode zb_L_unit 20 = .ok (.ireturn, 1) := by decide +kernel
theorem zd_L_unit_21 : decode zb_L_unit 21 = .ok (.iconst 0, 1) := by decide +kernel
theorem zd_L_unit_22 : decode zb_L_unit 22 = .ok (.ireturn, 1) := by decide +kernel
theorem zd_L_place_0 : decode zb_L_place 0 = .ok (.aload 5, 2) := by decide +kernel
theorem zd_L_place_2 : decode zb_L_place 2 = .ok (.iconst 0, 1) := by decide +kernel
theorem zd_L_place_3 : decode zb_L_place 3 = .ok (.aload_n 0, 1) := by decide +kernel
theorem zd_L_place_4 : decode zb_L_place 4 = .ok (.iload_n 1, 1) := by decide +kernel
theorem zd_L_place_5 : decode zb_L_place 5 = .ok (.iload_n 2, 1) := by decide +kernel
theorem zd_L_place_6 : decode zb_L_place 6 = .ok (.iload_n 3, 1) := by decide +kernel
theorem zd_L_place_7 : decode zb_L_place 7 = .ok (.iload 4, 2) := by decide +kernel
theorem zd_L_place_9 : decode zb_L_place 9 = .ok (.invokevirtual 17, 3) := by decide +kernel
theorem zd_L_place_12 : decode zb_L_place 12 = .ok (.i2l, 1) := by decide +kernel
theorem zd_L_place_13 : decode zb_L_place 13 = .ok (.lastore, 1) := by decide +kernel
theorem zd_L_place_14 : decode zb_L_place 14 = .ok (.goto 11, 3) := by decide +kernel
theorem zd_L_place_17 : decode zb_L_place 17 = .ok (.astore 6, 2) := by decide +kernel
theorem zd_L_place_19 : decode zb_L_place 19 = .ok (.iconst 1, 1) := by decide +kernel
theorem zd_L_place_20 : decode zb_L_place 20 = .ok (.ireturn, 1) := by decide +kernel
theorem zd_L_place_21 : decode zb_L_place 21 = .ok (.astore 6, 2) := by decide +kernel
theorem zd_L_place_23 : decode zb_L_place 23 = .ok (.iconst 2, 1) := by decide +kernel
theorem zd_L_place_24 : decode zb_L_place 24 = .ok (.ireturn, 1) := by decide +kernel
theorem zd_L_place_25 : decode zb_L_place 25 = .ok (.iconst 0, 1) := by decide +kernel
theorem zd_L_place_26 : decode zb_L_place 26 = .ok (.ireturn, 1) := by decide +kernel
theorem zd_L_weight_0 : decode zb_L_weight 0 = .ok (.aload_n 0, 1) := by decide +kernel
theorem zd_L_weight_1 : decode zb_L_weight 1 = .ok (.iload_n 1, 1) := by decide +kernel
theorem zd_L_weight_2 : decode zb_L_weight 2 = .ok (.iload_n 2, 1) := by decide +kernel
theorem zd_L_weight_3 : decode zb_L_weight 3 = .ok (.invokevirtual 21, 3) := by decide +kernel
theorem zd_L_weight_6 : decode zb_L_weight 6 = .ok (.goto 6, 3) := by decide +kernel
theorem zd_L_weight_9 : decode zb_L_weight 9 = .ok (.astore_n 3, 1) := by decide +kernel
theorem zd_L_weight_10 : decode zb_L_weight 10 = .ok (.iconst 1, 1) := by decide +kernel
theorem zd_L_weight_11 : decode zb_L_weight 11 = .ok (.ireturn, 1) := by decide +kernel
theorem zd_L_weight_12 : decode zb_L_weight 12 = .ok (.iconst 0, 1) := by decide +kernel
theorem zd_L_weight_13 : decode zb_L_weight 13 = .ok (.ireturn, 1) := by decide +kernel
theorem zd_L_fits_0 : decode zb_L_fits 0 = .ok (.aload_n 0, 1) := by decide +kernel
theorem zd_L_fits_1 : decode zb_L_fits 1 = .ok (.iload_n 1, 1) := by decide +kernel
theorem zd_L_fits_2 : decode zb_L_fits 2 = .ok (.iload_n 2, 1) := by decide +kernel
theorem zd_L_fits_3 : decode zb_L_fits 3 = .ok (.iload_n 3, 1) := by decide +kernel
theorem zd_L_fits_4 : decode zb_L_fits 4 = .ok (.invokevirtual 25, 3) := by decide +kernel
theorem zd_L_fits_7 : decode zb_L_fits 7 = .ok (.goto 7, 3) := by decide +kernel
theorem zd_L_fits_10 : decode zb_L_fits 10 = .ok (.astore 4, 2) := by decide +kernel
theorem zd_L_fits_12 : decode zb_L_fits 12 = .ok (.iconst 1, 1) := by decide +kernel
theorem zd_L_fits_13 : decode zb_L_fits 13 = .ok (.ireturn, 1) := by decide +kernel
theorem zd_L_fits_14 : decode zb_L_fits 14 = .ok (.iconst 0, 1) := by decide +kernel
theorem zd_L_fits_15 : decode zb_L_fits 15 = .ok (.ireturn, 1) := by decide +kernel
theorem zd_L_cost_0 : decode zb_L_cost 0 = .ok (.aload_n 0, 1) := by decide +kernel
theorem zd_L_cost_1 : decode zb_L_cost 1 = .ok (.iload_n 1, 1) := by decide +kernel
theorem zd_L_cost_2 : decode zb_L_cost 2 = .ok (.iload_n 2, 1) := by decide +kernel
theorem zd_L_cost_3 : decode zb_L_cost 3 = .ok (.iload_n 3, 1) := by decide +kernel
theorem zd_L_cost_4 : decode zb_L_cost 4 = .ok (.invokevirtual 31, 3) := by decide +kernel
theorem zd_L_cost_7 : decode zb_L_cost 7 = .ok (.goto 11, 3) := by decide +kernel
theorem zd_L_cost_10 : decode zb_L_cost 10 = .ok (.astore 4, 2) := by decide +kernel
theorem zd_L_cost_12 : decode zb_L_cost 12 = .ok (.iconst 1, 1) := by decide +kernel
theorem zd_L_cost_13 : decode zb_L_cost 13 = .ok (.ireturn, 1) := by decide +kernel
theorem zd_L_cost_14 : decode zb_L_cost 14 = .ok (.astore 4, 2) := by decide +kernel
theorem zd_L_cost_16 : decode zb_L_cost 16 = .ok (.iconst 2, 1) := by decide +kernel
theorem zd_L_cost_17 : decode zb_L_cost 17 = .ok (.ireturn, 1) := by decide +kernel
theorem zd_L_cost_18 : decode zb_L_cost 18 = .ok (.iconst 0, 1) := by decide +kernel
theorem zd_L_cost_19 : decode zb_L_cost 19 = .ok (.ireturn, 1) := by decide +kernel
theorem zd_L_together_0 : decode zb_L_together 0 = .ok (.aload_n 3, 1) := by decide +kernel
theorem zd_L_together_1 : decode zb_L_together 1 = .ok (.iconst 0, 1) := by decide +kernel
theorem zd_L_together_2 : decode zb_L_together 2 = .ok (.aload_n 0, 1) := by decide +kernel
theorem zd_L_together_3 : decode zb_L_together 3 = .ok (.iload_n 1, 1) := by decide +kernel
theorem zd_L_together_4 : decode zb_L_together 4 = .ok (.iload_n 2, 1) := by decide +kernel
theorem zd_L_together_5 : decode zb_L_together 5 = .ok (.invokevirtual 35, 3) := by decide +kernel
theorem zd_L_together_8 : decode zb_L_together 8 = .ok (.i2l, 1) := by decide +kernel
theorem zd_L_together_9 : decode zb_L_together 9 = .ok (.lastore, 1) := by decide +kernel
theorem zd_L_together_10 : decode zb_L_together 10 = .ok (.goto 11, 3) := by decide +kernel
theorem zd_L_together_13 : decode zb_L_together 13 = .ok (.astore 4, 2) := by decide +kernel
theorem zd_L_together_15 : decode zb_L_together 15 = .ok (.iconst 1, 1) := by decide +kernel
theorem zd_L_together_16 : decode zb_L_together 16 = .ok (.ireturn, 1) := by decide +kernel
theorem zd_L_together_17 : decode zb_L_together 17 = .ok (.astore 4, 2) := by decide +kernel
theorem zd_L_together_19 : decode zb_L_together 19 = .ok (.iconst 2, 1) := by decide +kernel
theorem zd_L_together_20 : decode zb_L_together 20 = .ok (.ireturn, 1) := by decide +kernel
theorem zd_L_together_21 : decode zb_L_together 21 = .ok (.iconst 0, 1) := by decide +kernel
theorem zd_L_together_22 : decode zb_L_together 22 = .ok (.ireturn, 1) := by decide +kernel
theorem zd_L_fix_0 : decode zb_L_fix 0 = .ok (.aload_n 0, 1) := by decide +kernel
theorem zd_L_fix_1 : decode zb_L_fix 1 = .ok (.iload_n 1, 1) := by decide +kernel
theorem zd_L_fix_2 : decode zb_L_fix 2 = .ok (.iload_n 2, 1) := by decide +kernel
theorem zd_L_fix_3 : decode zb_L_fix 3 = .ok (.invokevirtual 40, 3) := by decide +kernel
theorem zd_L_fix_6 : decode zb_L_fix 6 = .ok (.goto 9, 3) := by decide +kernel
theorem zd_L_fix_9 : decode zb_L_fix 9 = .ok (.astore_n 3, 1) := by decide +kernel
theorem zd_L_fix_10 : decode zb_L_fix 10 = .ok (.iconst 1, 1) := by decide +kernel
theorem zd_L_fix_11 : decode zb_L_fix 11 = .ok (.ireturn, 1) := by decide +kernel
theorem zd_L_fix_12 : decode zb_L_fix 12 = .ok (.astore_n 3, 1) := by decide +kernel
theorem zd_L_fix_13 : decode zb_L_fix 13 = .ok (.iconst 2, 1) := by decide +kernel
theorem zd_L_fix_14 : decode zb_L_fix 14 = .ok (.ireturn, 1) := by decide +kernel
theorem zd_L_fix_15 : decode zb_L_fix 15 = .ok (.iconst 0, 1) := by decide +kernel
theorem zd_L_fix_16 : decode zb_L_fix 16 = .ok (.ireturn, 1) := by decide +kernel
theorem zd_L_limits_0 : decode zb_L_limits 0 = .ok (.aload_n 0, 1) := by decide +kernel
theorem zd_L_limits_1 : decode zb_L_limits 1 = .ok (.iload_n 1, 1) := by decide +kernel
theorem zd_L_limits_2 : decode zb_L_limits 2 = .ok (.iload_n 2, 1) := by decide +kernel
theorem zd_L_limits_3 : decode zb_L_limits 3 = .ok (.invokevirtual 43, 3) := by decide +kernel
theorem zd_L_limits_6 : decode zb_L_limits 6 = .ok (.goto 6, 3) := by decide +kernel
theorem zd_L_limits_9 : decode zb_L_limits 9 = .ok (.astore_n 3, 1) := by decide +kernel
theorem zd_L_limits_10 : decode zb_L_limits 10 = .ok (.iconst 1, 1) := by decide +kernel
theorem zd_L_limits_11 : decode zb_L_limits 11 = .ok (.ireturn, 1) := by decide +kernel
theorem zd_L_limits_12 : decode zb_L_limits 12 = .ok (.iconst 0, 1) := by decide +kernel
theorem zd_L_limits_13 : decode zb_L_limits 13 = .ok (.ireturn, 1) := by decide +kernel
theorem zd_L_assign_0 : decode zb_L_assign 0 = .ok (.aload_n 2, 1) := by decide +kernel
theorem zd_L_assign_1 : decode zb_L_assign 1 = .ok (.iconst 0, 1) := by decide +kernel
theorem zd_L_assign_2 : decode zb_L_assign 2 = .ok (.aload_n 0, 1) := by decide +kernel
theorem zd_L_assign_3 : decode zb_L_assign 3 = .ok (.iload_n 1, 1) := by decide +kernel
theorem zd_L_assign_4 : decode zb_L_assign 4 = .ok (.invokevirtual 46, 3) := by decide +kernel
theorem zd_L_assign_7 : decode zb_L_assign 7 = .ok (.i2l, 1) := by decide +kernel
theorem zd_L_assign_8 : decode zb_L_assign 8 = .ok (.lastore, 1) := by decide +kernel
theorem zd_L_assign_9 : decode zb_L_assign 9 = .ok (.goto 6, 3) := by decide +kernel
theorem zd_L_assign_12 : decode zb_L_assign 12 = .ok (.astore_n 3, 1) := by decide +kernel
theorem zd_L_assign_13 : decode zb_L_assign 13 = .ok (.iconst 1, 1) := by decide +kernel
theorem zd_L_assign_14 : decode zb_L_assign 14 = .ok (.ireturn, 1) := by decide +kernel
theorem zd_L_assign_15 : decode zb_L_assign 15 = .ok (.iconst 0, 1) := by decide +kernel
theorem zd_L_assign_16 : decode zb_L_assign 16 = .ok (.ireturn, 1) := by decide +kernel
theorem zd_L_at_0 : decode zb_L_at 0 = .ok (.aload_n 2, 1) := by decide +kernel
theorem zd_L_at_1 : decode zb_L_at 1 = .ok (.iconst 0, 1) := by decide +kernel
theorem zd_L_at_2 : decode zb_L_at 2 = .ok (.aload_n 0, 1) := by decide +kernel
theorem zd_L_at_3 : decode zb_L_at 3 = .ok (.iload_n 1, 1) := by decide +kernel
theorem zd_L_at_4 : decode zb_L_at 4 = .ok (.invokevirtual 50, 3) := by decide +kernel
theorem zd_L_at_7 : decode zb_L_at 7 = .ok (.i2l, 1) := by decide +kernel
theorem zd_L_at_8 : decode zb_L_at 8 = .ok (.lastore, 1) := by decide +kernel
theorem zd_L_at_9 : decode zb_L_at 9 = .ok (.goto 6, 3) := by decide +kernel
theorem zd_L_at_12 : decode zb_L_at 12 = .ok (.astore_n 3, 1) := by decide +kernel
theorem zd_L_at_13 : decode zb_L_at 13 = .ok (.iconst 1, 1) := by decide +kernel
theorem zd_L_at_14 : decode zb_L_at 14 = .ok (.ireturn, 1) := by decide +kernel
theorem zd_L_at_15 : decode zb_L_at 15 = .ok (.iconst 0, 1) := by decide +kernel
theorem zd_L_at_16 : decode zb_L_at 16 = .ok (.ireturn, 1) := by decide +kernel
theorem zd_L_barred_0 : decode zb_L_barred 0 = .ok (.aload_n 2, 1) := by decide +kernel
theorem zd_L_barred_1 : decode zb_L_barred 1 = .ok (.iconst 0, 1) := by decide +kernel
theorem zd_L_barred_2 : decode zb_L_barred 2 = .ok (.aload_n 0, 1) := by decide +kernel
theorem zd_L_barred_3 : decode zb_L_barred 3 = .ok (.iload_n 1, 1) := by decide +kernel
theorem zd_L_barred_4 : decode zb_L_barred 4 = .ok (.invokevirtual 53, 3) := by decide +kernel
theorem zd_L_barred_7 : decode zb_L_barred 7 = .ok (.i2l, 1) := by decide +kernel
theorem zd_L_barred_8 : decode zb_L_barred 8 = .ok (.lastore, 1) := by decide +kernel
theorem zd_L_barred_9 : decode zb_L_barred 9 = .ok (.goto 9, 3) := by decide +kernel
theorem zd_L_barred_12 : decode zb_L_barred 12 = .ok (.astore_n 3, 1) := by decide +kernel
theorem zd_L_barred_13 : decode zb_L_barred 13 = .ok (.iconst 1, 1) := by decide +kernel
theorem zd_L_barred_14 : decode zb_L_barred 14 = .ok (.ireturn, 1) := by decide +kernel
theorem zd_L_barred_15 : decode zb_L_barred 15 = .ok (.astore_n 3, 1) := by decide +kernel
theorem zd_L_barred_16 : decode zb_L_barred 16 = .ok (.iconst 2, 1) := by decide +kernel
theorem zd_L_barred_17 : decode zb_L_barred 17 = .ok (.ireturn, 1) := by decide +kernel
theorem zd_L_barred_18 : decode zb_L_barred 18 = .ok (.iconst 0, 1) := by decide +kernel
theorem zd_L_barred_19 : decode zb_L_barred 19 = .ok (.ireturn, 1) := by decide +kernel
theorem zd_L_put_0 : decode zb_L_put 0 = .ok (.aload_n 2, 1) := by decide +kernel
theorem zd_L_put_1 : decode zb_L_put 1 = .ok (.iconst 0, 1) := by decide +kernel
theorem zd_L_put_2 : decode zb_L_put 2 = .ok (.aload_n 0, 1) := by decide +kernel
theorem zd_L_put_3 : decode zb_L_put 3 = .ok (.iload_n 1, 1) := by decide +kernel
theorem zd_L_put_4 : decode zb_L_put 4 = .ok (.invokevirtual 56, 3) := by decide +kernel
theorem zd_L_put_7 : decode zb_L_put 7 = .ok (.i2l, 1) := by decide +kernel
theorem zd_L_put_8 : decode zb_L_put 8 = .ok (.lastore, 1) := by decide +kernel
theorem zd_L_put_9 : decode zb_L_put 9 = .ok (.goto 9, 3) := by decide +kernel
theorem zd_L_put_12 : decode zb_L_put 12 = .ok (.astore_n 3, 1) := by decide +kernel
theorem zd_L_put_13 : decode zb_L_put 13 = .ok (.iconst 1, 1) := by decide +kernel
theorem zd_L_put_14 : decode zb_L_put 14 = .ok (.ireturn, 1) := by decide +kernel
theorem zd_L_put_15 : decode zb_L_put 15 = .ok (.astore_n 3, 1) := by decide +kernel
theorem zd_L_put_16 : decode zb_L_put 16 = .ok (.iconst 2, 1) := by decide +kernel
theorem zd_L_put_17 : decode zb_L_put 17 = .ok (.ireturn, 1) := by decide +kernel
theorem zd_L_put_18 : decode zb_L_put 18 = .ok (.iconst 0, 1) := by decide +kernel
theorem zd_L_put_19 : decode zb_L_put 19 = .ok (.ireturn, 1) := by decide +kernel
theorem zd_L_block_0 : decode zb_L_block 0 = .ok (.aload_n 2, 1) := by decide +kernel
theorem zd_L_block_1 : decode zb_L_block 1 = .ok (.iconst 0, 1) := by decide +kernel
theorem zd_L_block_2 : decode zb_L_block 2 = .ok (.aload_n 0, 1) := by decide +kernel
theorem zd_L_block_3 : decode zb_L_block 3 = .ok (.iload_n 1, 1) := by decide +kernel
theorem zd_L_block_4 : decode zb_L_block 4 = .ok (.invokevirtual 59, 3) := by decide +kernel
theorem zd_L_block_7 : decode zb_L_block 7 = .ok (.i2l, 1) := by decide +kernel
theorem zd_L_block_8 : decode zb_L_block 8 = .ok (.lastore, 1) := by decide +kernel
theorem zd_L_block_9 : decode zb_L_block 9 = .ok (.goto 9, 3) := by decide +kernel
theorem zd_L_block_12 : decode zb_L_block 12 = .ok (.astore_n 3, 1) := by decide +kernel
theorem zd_L_block_13 : decode zb_L_block 13 = .ok (.iconst 1, 1) := by decide +kernel
theorem zd_L_block_14 : decode zb_L_block 14 = .ok (.ireturn, 1) := by decide +kernel
theorem zd_L_block_15 : decode zb_L_block 15 = .ok (.astore_n 3, 1) := by decide +kernel
theorem zd_L_block_16 : decode zb_L_block 16 = .ok (.iconst 2, 1) := by decide +kernel
theorem zd_L_block_17 : decode zb_L_block 17 = .ok (.ireturn, 1) := by decide +kernel
theorem zd_L_block_18 : decode zb_L_block 18 = .ok (.iconst 0, 1) := by decide +kernel
theorem zd_L_block_19 : decode zb_L_block 19 = .ok (.ireturn, 1) := by decide +kernel
theorem zd_L_open_0 : decode zb_L_open 0 = .ok (.aload_n 0, 1) := by decide +kernel
theorem zd_L_open_1 : decode zb_L_open 1 = .ok (.iload_n 1, 1) := by decide +kernel
theorem zd_L_open_2 : decode zb_L_open 2 = .ok (.invokevirtual 62, 3) := by decide +kernel
theorem zd_L_open_5 : decode zb_L_open 5 = .ok (.goto 9, 3) := by decide +kernel
theorem zd_L_open_8 : decode zb_L_open 8 = .ok (.astore_n 2, 1) := by decide +kernel
theorem zd_L_open_9 : decode zb_L_open 9 = .ok (.iconst 1, 1) := by decide +kernel
theorem zd_L_open_10 : decode zb_L_open 10 = .ok (.ireturn, 1) := by decide +kernel
theorem zd_L_open_11 : decode zb_L_open 11 = .ok (.astore_n 2, 1) := by decide +kernel
theorem zd_L_open_12 : decode zb_L_open 12 = .ok (.iconst 2, 1) := by decide +kernel
theorem zd_L_open_13 : decode zb_L_open 13 = .ok (.ireturn, 1) := by decide +kernel
theorem zd_L_open_14 : decode zb_L_open 14 = .ok (.iconst 0, 1) := by decide +kernel
theorem zd_L_open_15 : decode zb_L_open 15 = .ok (.ireturn, 1) := by decide +kernel
theorem zd_L_share_0 : decode zb_L_share 0 = .ok (.aload_n 2, 1) := by decide +kernel
theorem zd_L_share_1 : decode zb_L_share 1 = .ok (.iconst 0, 1) := by decide +kernel
theorem zd_L_share_2 : decode zb_L_share 2 = .ok (.aload_n 0, 1) := by decide +kernel
theorem zd_L_share_3 : decode zb_L_share 3 = .ok (.iload_n 1, 1) := by decide +kernel
theorem zd_L_share_4 : decode zb_L_share 4 = .ok (.invokevirtual 66, 3) := by decide +kernel
theorem zd_L_share_7 : decode zb_L_share 7 = .ok (.i2l, 1) := by decide +kernel
theorem zd_L_share_8 : decode zb_L_share 8 = .ok (.lastore, 1) := by decide +kernel
theorem zd_L_share_9 : decode zb_L_share 9 = .ok (.goto 12, 3) := by decide +kernel
theorem zd_L_share_12 : decode zb_L_share 12 = .ok (.astore_n 3, 1) := by decide +kernel
theorem zd_L_share_13 : decode zb_L_share 13 = .ok (.iconst 1, 1) := by decide +kernel
theorem zd_L_share_14 : decode zb_L_share 14 = .ok (.ireturn, 1) := by decide +kernel
theorem zd_L_share_15 : decode zb_L_share 15 = .ok (.astore_n 3, 1) := by decide +kernel
theorem zd_L_share_16 : decode zb_L_share 16 = .ok (.iconst 2, 1) := by decide +kernel
theorem zd_L_share_17 : decode zb_L_share 17 = .ok (.ireturn, 1) := by decide +kernel
theorem zd_L_share_18 : decode zb_L_share 18 = .ok (.astore_n 3, 1) := by decide +kernel
theorem zd_L_share_19 : decode zb_L_share 19 = .ok (.iconst 3, 1) := by decide +kernel
theorem zd_L_share_20 : decode zb_L_share 20 = .ok (.ireturn, 1) := by decide +kernel
theorem zd_L_share_21 : decode zb_L_share 21 = .ok (.iconst 0, 1) := by decide +kernel
theorem zd_L_share_22 : decode zb_L_share 22 = .ok (.ireturn, 1) := by decide +kernel
theorem zd_L_trip_0 : decode zb_L_trip 0 = .ok (.aload_n 2, 1) := by decide +kernel
theorem zd_L_trip_1 : decode zb_L_trip 1 = .ok (.iconst 0, 1) := by decide +kernel
theorem zd_L_trip_2 : decode zb_L_trip 2 = .ok (.aload_n 0, 1) := by decide +kernel
theorem zd_L_trip_3 : decode zb_L_trip 3 = .ok (.iload_n 1, 1) := by decide +kernel
theorem zd_L_trip_4 : decode zb_L_trip 4 = .ok (.invokevirtual 71, 3) := by decide +kernel
theorem zd_L_trip_7 : decode zb_L_trip 7 = .ok (.i2l, 1) := by decide +kernel
theorem zd_L_trip_8 : decode zb_L_trip 8 = .ok (.lastore, 1) := by decide +kernel
theorem zd_L_trip_9 : decode zb_L_trip 9 = .ok (.goto 6, 3) := by decide +kernel
theorem zd_L_trip_12 : decode zb_L_trip 12 = .ok (.astore_n 3, 1) := by decide +kernel
theorem zd_L_trip_13 : decode zb_L_trip 13 = .ok (.iconst 1, 1) := by decide +kernel
theorem zd_L_trip_14 : decode zb_L_trip 14 = .ok (.ireturn, 1) := by decide +kernel
theorem zd_L_trip_15 : decode zb_L_trip 15 = .ok (.iconst 0, 1) := by decide +kernel
theorem zd_L_trip_16 : decode zb_L_trip 16 = .ok (.ireturn, 1) := by decide +kernel
theorem zd_L_told_0 : decode zb_L_told 0 = .ok (.aload_n 3, 1) := by decide +kernel
theorem zd_L_told_1 : decode zb_L_told 1 = .ok (.iconst 0, 1) := by decide +kernel
theorem zd_L_told_2 : decode zb_L_told 2 = .ok (.aload_n 0, 1) := by decide +kernel
theorem zd_L_told_3 : decode zb_L_told 3 = .ok (.iload_n 1, 1) := by decide +kernel
theorem zd_L_told_4 : decode zb_L_told 4 = .ok (.iload_n 2, 1) := by decide +kernel
theorem zd_L_told_5 : decode zb_L_told 5 = .ok (.invokevirtual 74, 3) := by decide +kernel
theorem zd_L_told_8 : decode zb_L_told 8 = .ok (.i2l, 1) := by decide +kernel
theorem zd_L_told_9 : decode zb_L_told 9 = .ok (.lastore, 1) := by decide +kernel
theorem zd_L_told_10 : decode zb_L_told 10 = .ok (.goto 11, 3) := by decide +kernel
theorem zd_L_told_13 : decode zb_L_told 13 = .ok (.astore 4, 2) := by decide +kernel
theorem zd_L_told_15 : decode zb_L_told 15 = .ok (.iconst 1, 1) := by decide +kernel
theorem zd_L_told_16 : decode zb_L_told 16 = .ok (.ireturn, 1) := by decide +kernel
theorem zd_L_told_17 : decode zb_L_told 17 = .ok (.astore 4, 2) := by decide +kernel
theorem zd_L_told_19 : decode zb_L_told 19 = .ok (.iconst 2, 1) := by decide +kernel
theorem zd_L_told_20 : decode zb_L_told 20 = .ok (.ireturn, 1) := by decide +kernel
theorem zd_L_told_21 : decode zb_L_told 21 = .ok (.iconst 0, 1) := by decide +kernel
theorem zd_L_told_22 : decode zb_L_told 22 = .ok (.ireturn, 1) := by decide +kernel
theorem zd_L_law_0 : decode code 0 = .ok (.new 8, 3) := by decide +kernel
theorem zd_L_law_3 : decode code 3 = .ok (.dup, 1) := by decide +kernel
theorem zd_L_law_4 : decode code 4 = .ok (.invokespecial 77, 3) := by decide +kernel
theorem zd_L_law_7 : decode code 7 = .ok (.astore_n 1, 1) := by decide +kernel
theorem zd_L_law_8 : decode code 8 = .ok (.new 78, 3) := by decide +kernel
theorem zd_L_law_11 : decode code 11 = .ok (.dup, 1) := by decide +kernel
theorem zd_L_law_12 : decode code 12 = .ok (.invokespecial 80, 3) := by decide +kernel
theorem zd_L_law_15 : decode code 15 = .ok (.astore_n 2, 1) := by decide +kernel
theorem zd_L_law_16 : decode code 16 = .ok (.iconst 1, 1) := by decide +kernel
theorem zd_L_law_17 : decode code 17 = .ok (.newarray .long, 2) := by decide +kernel
theorem zd_L_law_19 : decode code 19 = .ok (.astore_n 3, 1) := by decide +kernel
theorem zd_L_law_20 : decode code 20 = .ok (.iconst 0, 1) := by decide +kernel
theorem zd_L_law_21 : decode code 21 = .ok (.istore 4, 2) := by decide +kernel
theorem zd_L_law_23 : decode code 23 = .ok (.iload 4, 2) := by decide +kernel
theorem zd_L_law_25 : decode code 25 = .ok (.aload_n 0, 1) := by decide +kernel
theorem zd_L_law_26 : decode code 26 = .ok (.arraylength, 1) := by decide +kernel
theorem zd_L_law_27 : decode code 27 = .ok (.iconst 5, 1) := by decide +kernel
theorem zd_L_law_28 : decode code 28 = .ok (.isub, 1) := by decide +kernel
theorem zd_L_law_29 : decode code 29 = .ok (.if_icmp .gt 1164, 3) := by decide +kernel
theorem zd_L_law_32 : decode code 32 = .ok (.aload_n 0, 1) := by decide +kernel
theorem zd_L_law_33 : decode code 33 = .ok (.iload 4, 2) := by decide +kernel
theorem zd_L_law_35 : decode code 35 = .ok (.iaload, 1) := by decide +kernel
theorem zd_L_law_36 : decode code 36 = .ok (.bipush 31, 2) := by decide +kernel
theorem zd_L_law_38 : decode code 38 = .ok (.iand, 1) := by decide +kernel
theorem zd_L_law_39 : decode code 39 = .ok (.tableswitch 1148 0 19 #[93, 161, 253, 301, 377, 437, 505, 553, 601, 657, 713, 726, 739, 795, 851, 907, 943, 999, 1055, 1123], 93) := by decide +kernel
theorem zd_L_law_132 : decode code 132 = .ok (.aload_n 1, 1) := by decide +kernel
theorem zd_L_law_133 : decode code 133 = .ok (.aload_n 0, 1) := by decide +kernel
theorem zd_L_law_134 : decode code 134 = .ok (.iload 4, 2) := by decide +kernel
theorem zd_L_law_136 : decode code 136 = .ok (.iconst 1, 1) := by decide +kernel
theorem zd_L_law_137 : decode code 137 = .ok (.iadd, 1) := by decide +kernel
theorem zd_L_law_138 : decode code 138 = .ok (.iaload, 1) := by decide +kernel
theorem zd_L_law_139 : decode code 139 = .ok (.aload_n 0, 1) := by decide +kernel
theorem zd_L_law_140 : decode code 140 = .ok (.iload 4, 2) := by decide +kernel
theorem zd_L_law_142 : decode code 142 = .ok (.iconst 2, 1) := by decide +kernel
theorem zd_L_law_143 : decode code 143 = .ok (.iadd, 1) := by decide +kernel
theorem zd_L_law_144 : decode code 144 = .ok (.iaload, 1) := by decide +kernel
theorem zd_L_law_145 : decode code 145 = .ok (.aload_n 3, 1) := by decide +kernel
theorem zd_L_law_146 : decode code 146 = .ok (.invokestatic 81, 3) := by decide +kernel
theorem zd_L_law_149 : decode code 149 = .ok (.istore 5, 2) := by decide +kernel
theorem zd_L_law_151 : decode code 151 = .ok (.aload_n 2, 1) := by decide +kernel
theorem zd_L_law_152 : decode code 152 = .ok (.aload_n 0, 1) := by decide +kernel
theorem zd_L_law_153 : decode code 153 = .ok (.iload 4, 2) := by decide +kernel
theorem zd_L_law_155 : decode code 155 = .ok (.iconst 1, 1) := by decide +kernel
theorem zd_L_law_156 : decode code 156 = .ok (.iadd, 1) := by decide +kernel
theorem zd_L_law_157 : decode code 157 = .ok (.iaload, 1) := by decide +kernel
theorem zd_L_law_158 : decode code 158 = .ok (.aload_n 0, 1) := by decide +kernel
theorem zd_L_law_159 : decode code 159 = .ok (.iload 4, 2) := by decide +kernel
theorem zd_L_law_161 : decode code 161 = .ok (.iconst 2, 1) := by decide +kernel
theorem zd_L_law_162 : decode code 162 = .ok (.iadd, 1) := by decide +kernel
theorem zd_L_law_163 : decode code 163 = .ok (.iaload, 1) := by decide +kernel
theorem zd_L_law_164 : decode code 164 = .ok (.invokevirtual 86, 3) := by decide +kernel
theorem zd_L_law_167 : decode code 167 = .ok (.istore 6, 2) := by decide +kernel
theorem zd_L_law_169 : decode code 169 = .ok (.aload_n 2, 1) := by decide +kernel
theorem zd_L_law_170 : decode code 170 = .ok (.invokevirtual 87, 3) := by decide +kernel
theorem zd_L_law_173 : decode code 173 = .ok (.iload 5, 2) := by decide +kernel
theorem zd_L_law_175 : decode code 175 = .ok (.if_icmp .eq 5, 3) := by decide +kernel
theorem zd_L_law_178 : decode code 178 = .ok (.iconst 0, 1) := by decide +kernel
theorem zd_L_law_179 : decode code 179 = .ok (.ireturn, 1) := by decide +kernel
theorem zd_L_law_180 : decode code 180 = .ok (.iload 5, 2) := by decide +kernel
theorem zd_L_law_182 : decode code 182 = .ok (.ifCond .ne 15, 3) := by decide +kernel
theorem zd_L_law_185 : decode code 185 = .ok (.aload_n 3, 1) := by decide +kernel
theorem zd_L_law_186 : decode code 186 = .ok (.iconst 0, 1) := by decide +kernel
theorem zd_L_law_187 : decode code 187 = .ok (.laload, 1) := by decide +kernel
theorem zd_L_law_188 : decode code 188 = .ok (.iload 6, 2) := by decide +kernel
theorem zd_L_law_190 : decode code 190 = .ok (.i2l, 1) := by decide +kernel
theorem zd_L_law_191 : decode code 191 = .ok (.lcmp, 1) := by decide +kernel
theorem zd_L_law_192 : decode code 192 = .ok (.ifCond .eq 5, 3) := by decide +kernel
theorem zd_L_law_195 : decode code 195 = .ok (.iconst 0, 1) := by decide +kernel
theorem zd_L_law_196 : decode code 196 = .ok (.ireturn, 1) := by decide +kernel
theorem zd_L_law_197 : decode code 197 = .ok (.goto 990, 3) := by decide +kernel
theorem zd_L_law_200 : decode code 200 = .ok (.aload_n 1, 1) := by decide +kernel
theorem zd_L_law_201 : decode code 201 = .ok (.aload_n 0, 1) := by decide +kernel
theorem zd_L_law_202 : decode code 202 = .ok (.iload 4, 2) := by decide +kernel
theorem zd_L_law_204 : decode code 204 = .ok (.iconst 1, 1) := by decide +kernel
theorem zd_L_law_205 : decode code 205 = .ok (.iadd, 1) := by decide +kernel
theorem zd_L_law_206 : decode code 206 = .ok (.iaload, 1) := by decide +kernel
theorem zd_L_law_207 : decode code 207 = .ok (.aload_n 0, 1) := by decide +kernel
theorem zd_L_law_208 : decode code 208 = .ok (.iload 4, 2) := by decide +kernel
theorem zd_L_law_210 : decode code 210 = .ok (.iconst 2, 1) := by decide +kernel
theorem zd_L_law_211 : decode code 211 = .ok (.iadd, 1) := by decide +kernel
theorem zd_L_law_212 : decode code 212 = .ok (.iaload, 1) := by decide +kernel
theorem zd_L_law_213 : decode code 213 = .ok (.aload_n 0, 1) := by decide +kernel
theorem zd_L_law_214 : decode code 214 = .ok (.iload 4, 2) := by decide +kernel
theorem zd_L_law_216 : decode code 216 = .ok (.iconst 3, 1) := by decide +kernel
theorem zd_L_law_217 : decode code 217 = .ok (.iadd, 1) := by decide +kernel
theorem zd_L_law_218 : decode code 218 = .ok (.iaload, 1) := by decide +kernel
theorem zd_L_law_219 : decode code 219 = .ok (.aload_n 0, 1) := by decide +kernel
theorem zd_L_law_220 : decode code 220 = .ok (.iload 4, 2) := by decide +kernel
theorem zd_L_law_222 : decode code 222 = .ok (.iconst 4, 1) := by decide +kernel
theorem zd_L_law_223 : decode code 223 = .ok (.iadd, 1) := by decide +kernel
theorem zd_L_law_224 : decode code 224 = .ok (.iaload, 1) := by decide +kernel
theorem zd_L_law_225 : decode code 225 = .ok (.aload_n 3, 1) := by decide +kernel
theorem zd_L_law_226 : decode code 226 = .ok (.invokestatic 91, 3) := by decide +kernel
theorem zd_L_law_229 : decode code 229 = .ok (.istore 5, 2) := by decide +kernel
theorem zd_L_law_231 : decode code 231 = .ok (.aload_n 2, 1) := by decide +kernel
theorem zd_L_law_232 : decode code 232 = .ok (.aload_n 0, 1) := by decide +kernel
theorem zd_L_law_233 : decode code 233 = .ok (.iload 4, 2) := by decide +kernel
theorem zd_L_law_235 : decode code 235 = .ok (.iconst 1, 1) := by decide +kernel
theorem zd_L_law_236 : decode code 236 = .ok (.iadd, 1) := by decide +kernel
theorem zd_L_law_237 : decode code 237 = .ok (.iaload, 1) := by decide +kernel
theorem zd_L_law_238 : decode code 238 = .ok (.aload_n 0, 1) := by decide +kernel
theorem zd_L_law_239 : decode code 239 = .ok (.iload 4, 2) := by decide +kernel
theorem zd_L_law_241 : decode code 241 = .ok (.iconst 2, 1) := by decide +kernel
theorem zd_L_law_242 : decode code 242 = .ok (.iadd, 1) := by decide +kernel
theorem zd_L_law_243 : decode code 243 = .ok (.iaload, 1) := by decide +kernel
theorem zd_L_law_244 : decode code 244 = .ok (.aload_n 0, 1) := by decide +kernel
theorem zd_L_law_245 : decode code 245 = .ok (.iload 4, 2) := by decide +kernel
theorem zd_L_law_247 : decode code 247 = .ok (.iconst 3, 1) := by decide +kernel
theorem zd_L_law_248 : decode code 248 = .ok (.iadd, 1) := by decide +kernel
theorem zd_L_law_249 : decode code 249 = .ok (.iaload, 1) := by decide +kernel
theorem zd_L_law_250 : decode code 250 = .ok (.aload_n 0, 1) := by decide +kernel
theorem zd_L_law_251 : decode code 251 = .ok (.iload 4, 2) := by decide +kernel
theorem zd_L_law_253 : decode code 253 = .ok (.iconst 4, 1) := by decide +kernel
theorem zd_L_law_254 : decode code 254 = .ok (.iadd, 1) := by decide +kernel
theorem zd_L_law_255 : decode code 255 = .ok (.iaload, 1) := by decide +kernel
theorem zd_L_law_256 : decode code 256 = .ok (.invokevirtual 94, 3) := by decide +kernel
theorem zd_L_law_259 : decode code 259 = .ok (.istore 6, 2) := by decide +kernel
theorem zd_L_law_261 : decode code 261 = .ok (.aload_n 2, 1) := by decide +kernel
theorem zd_L_law_262 : decode code 262 = .ok (.invokevirtual 87, 3) := by decide +kernel
theorem zd_L_law_265 : decode code 265 = .ok (.iload 5, 2) := by decide +kernel
theorem zd_L_law_267 : decode code 267 = .ok (.if_icmp .eq 5, 3) := by decide +kernel
theorem zd_L_law_270 : decode code 270 = .ok (.iconst 0, 1) := by decide +kernel
theorem zd_L_law_271 : decode code 271 = .ok (.ireturn, 1) := by decide +kernel
theorem zd_L_law_272 : decode code 272 = .ok (.iload 5, 2) := by decide +kernel
theorem zd_L_law_274 : decode code 274 = .ok (.ifCond .ne 15, 3) := by decide +kernel
theorem zd_L_law_277 : decode code 277 = .ok (.aload_n 3, 1) := by decide +kernel
theorem zd_L_law_278 : decode code 278 = .ok (.iconst 0, 1) := by decide +kernel
theorem zd_L_law_279 : decode code 279 = .ok (.laload, 1) := by decide +kernel
theorem zd_L_law_280 : decode code 280 = .ok (.iload 6, 2) := by decide +kernel
theorem zd_L_law_282 : decode code 282 = .ok (.i2l, 1) := by decide +kernel
theorem zd_L_law_283 : decode code 283 = .ok (.lcmp, 1) := by decide +kernel
theorem zd_L_law_284 : decode code 284 = .ok (.ifCond .eq 5, 3) := by decide +kernel
theorem zd_L_law_287 : decode code 287 = .ok (.iconst 0, 1) := by decide +kernel
theorem zd_L_law_288 : decode code 288 = .ok (.ireturn, 1) := by decide +kernel
theorem zd_L_law_289 : decode code 289 = .ok (.goto 898, 3) := by decide +kernel
theorem zd_L_law_292 : decode code 292 = .ok (.aload_n 1, 1) := by decide +kernel
theorem zd_L_law_293 : decode code 293 = .ok (.aload_n 0, 1) := by decide +kernel
theorem zd_L_law_294 : decode code 294 = .ok (.iload 4, 2) := by decide +kernel
theorem zd_L_law_296 : decode code 296 = .ok (.iconst 1, 1) := by decide +kernel
theorem zd_L_law_297 : decode code 297 = .ok (.iadd, 1) := by decide +kernel
theorem zd_L_law_298 : decode code 298 = .ok (.iaload, 1) := by decide +kernel
theorem zd_L_law_299 : decode code 299 = .ok (.aload_n 0, 1) := by decide +kernel
theorem zd_L_law_300 : decode code 300 = .ok (.iload 4, 2) := by decide +kernel
theorem zd_L_law_302 : decode code 302 = .ok (.iconst 2, 1) := by decide +kernel
theorem zd_L_law_303 : decode code 303 = .ok (.iadd, 1) := by decide +kernel
theorem zd_L_law_304 : decode code 304 = .ok (.iaload, 1) := by decide +kernel
theorem zd_L_law_305 : decode code 305 = .ok (.invokestatic 95, 3) := by decide +kernel
theorem zd_L_law_308 : decode code 308 = .ok (.istore 5, 2) := by decide +kernel
theorem zd_L_law_310 : decode code 310 = .ok (.aload_n 2, 1) := by decide +kernel
theorem zd_L_law_311 : decode code 311 = .ok (.aload_n 0, 1) := by decide +kernel
theorem zd_L_law_312 : decode code 312 = .ok (.iload 4, 2) := by decide +kernel
theorem zd_L_law_314 : decode code 314 = .ok (.iconst 1, 1) := by decide +kernel
theorem zd_L_law_315 : decode code 315 = .ok (.iadd, 1) := by decide +kernel
theorem zd_L_law_316 : decode code 316 = .ok (.iaload, 1) := by decide +kernel
theorem zd_L_law_317 : decode code 317 = .ok (.aload_n 0, 1) := by decide +kernel
theorem zd_L_law_318 : decode code 318 = .ok (.iload 4, 2) := by decide +kernel
theorem zd_L_law_320 : decode code 320 = .ok (.iconst 2, 1) := by decide +kernel
theorem zd_L_law_321 : decode code 321 = .ok (.iadd, 1) := by decide +kernel
theorem zd_L_law_322 : decode code 322 = .ok (.iaload, 1) := by decide +kernel
theorem zd_L_law_323 : decode code 323 = .ok (.invokevirtual 98, 3) := by decide +kernel
theorem zd_L_law_326 : decode code 326 = .ok (.aload_n 2, 1) := by decide +kernel
theorem zd_L_law_327 : decode code 327 = .ok (.invokevirtual 87, 3) := by decide +kernel
theorem zd_L_law_330 : decode code 330 = .ok (.iload 5, 2) := by decide +kernel
theorem zd_L_law_332 : decode code 332 = .ok (.if_icmp .eq 5, 3) := by decide +kernel
theorem zd_L_law_335 : decode code 335 = .ok (.iconst 0, 1) := by decide +kernel
theorem zd_L_law_336 : decode code 336 = .ok (.ireturn, 1) := by decide +kernel
theorem zd_L_law_337 : decode code 337 = .ok (.goto 850, 3) := by decide +kernel
theorem zd_L_law_340 : decode code 340 = .ok (.aload_n 1, 1) := by decide +kernel
theorem zd_L_law_341 : decode code 341 = .ok (.aload_n 0, 1) := by decide +kernel
theorem zd_L_law_342 : decode code 342 = .ok (.iload 4, 2) := by decide +kernel
theorem zd_L_law_344 : decode code 344 = .ok (.iconst 1, 1) := by decide +kernel
theorem zd_L_law_345 : decode code 345 = .ok (.iadd, 1) := by decide +kernel
theorem zd_L_law_346 : decode code 346 = .ok (.iaload, 1) := by decide +kernel
theorem zd_L_law_347 : decode code 347 = .ok (.aload_n 0, 1) := by decide +kernel
theorem zd_L_law_348 : decode code 348 = .ok (.iload 4, 2) := by decide +kernel
theorem zd_L_law_350 : decode code 350 = .ok (.iconst 2, 1) := by decide +kernel
theorem zd_L_law_351 : decode code 351 = .ok (.iadd, 1) := by decide +kernel
theorem zd_L_law_352 : decode code 352 = .ok (.iaload, 1) := by decide +kernel
theorem zd_L_law_353 : decode code 353 = .ok (.aload_n 0, 1) := by decide +kernel
theorem zd_L_law_354 : decode code 354 = .ok (.iload 4, 2) := by decide +kernel
theorem zd_L_law_356 : decode code 356 = .ok (.iconst 3, 1) := by decide +kernel
theorem zd_L_law_357 : decode code 357 = .ok (.iadd, 1) := by decide +kernel
theorem zd_L_law_358 : decode code 358 = .ok (.iaload, 1) := by decide +kernel
theorem zd_L_law_359 : decode code 359 = .ok (.ifCond .eq 7, 3) := by decide +kernel
theorem zd_L_law_362 : decode code 362 = .ok (.iconst 1, 1) := by decide +kernel
theorem zd_L_law_363 : decode code 363 = .ok (.goto 4, 3) := by decide +kernel
theorem zd_L_law_366 : decode code 366 = .ok (.iconst 0, 1) := by decide +kernel
theorem zd_L_law_367 : decode code 367 = .ok (.invokestatic 99, 3) := by decide +kernel
theorem zd_L_law_370 : decode code 370 = .ok (.istore 5, 2) := by decide +kernel
theorem zd_L_law_372 : decode code 372 = .ok (.aload_n 2, 1) := by decide +kernel
theorem zd_L_law_373 : decode code 373 = .ok (.aload_n 0, 1) := by decide +kernel
theorem zd_L_law_374 : decode code 374 = .ok (.iload 4, 2) := by decide +kernel
theorem zd_L_law_376 : decode code 376 = .ok (.iconst 1, 1) := by decide +kernel
theorem zd_L_law_377 : decode code 377 = .ok (.iadd, 1) := by decide +kernel
theorem zd_L_law_378 : decode code 378 = .ok (.iaload, 1) := by decide +kernel
theorem zd_L_law_379 : decode code 379 = .ok (.aload_n 0, 1) := by decide +kernel
theorem zd_L_law_380 : decode code 380 = .ok (.iload 4, 2) := by decide +kernel
theorem zd_L_law_382 : decode code 382 = .ok (.iconst 2, 1) := by decide +kernel
theorem zd_L_law_383 : decode code 383 = .ok (.iadd, 1) := by decide +kernel
theorem zd_L_law_384 : decode code 384 = .ok (.iaload, 1) := by decide +kernel
theorem zd_L_law_385 : decode code 385 = .ok (.aload_n 0, 1) := by decide +kernel
theorem zd_L_law_386 : decode code 386 = .ok (.iload 4, 2) := by decide +kernel
theorem zd_L_law_388 : decode code 388 = .ok (.iconst 3, 1) := by decide +kernel
theorem zd_L_law_389 : decode code 389 = .ok (.iadd, 1) := by decide +kernel
theorem zd_L_law_390 : decode code 390 = .ok (.iaload, 1) := by decide +kernel
theorem zd_L_law_391 : decode code 391 = .ok (.ifCond .eq 7, 3) := by decide +kernel
theorem zd_L_law_394 : decode code 394 = .ok (.iconst 1, 1) := by decide +kernel
theorem zd_L_law_395 : decode code 395 = .ok (.goto 4, 3) := by decide +kernel
theorem zd_L_law_398 : decode code 398 = .ok (.iconst 0, 1) := by decide +kernel
theorem zd_L_law_399 : decode code 399 = .ok (.invokevirtual 102, 3) := by decide +kernel
theorem zd_L_law_402 : decode code 402 = .ok (.aload_n 2, 1) := by decide +kernel
theorem zd_L_law_403 : decode code 403 = .ok (.invokevirtual 87, 3) := by decide +kernel
theorem zd_L_law_406 : decode code 406 = .ok (.iload 5, 2) := by decide +kernel
theorem zd_L_law_408 : decode code 408 = .ok (.if_icmp .eq 5, 3) := by decide +kernel
theorem zd_L_law_411 : decode code 411 = .ok (.iconst 0, 1) := by decide +kernel
theorem zd_L_law_412 : decode code 412 = .ok (.ireturn, 1) := by decide +kernel
theorem zd_L_law_413 : decode code 413 = .ok (.goto 774, 3) := by decide +kernel
theorem zd_L_law_416 : decode code 416 = .ok (.aload_n 1, 1) := by decide +kernel
theorem zd_L_law_417 : decode code 417 = .ok (.aload_n 0, 1) := by decide +kernel
theorem zd_L_law_418 : decode code 418 = .ok (.iload 4, 2) := by decide +kernel
theorem zd_L_law_420 : decode code 420 = .ok (.iconst 1, 1) := by decide +kernel
theorem zd_L_law_421 : decode code 421 = .ok (.iadd, 1) := by decide +kernel
theorem zd_L_law_422 : decode code 422 = .ok (.iaload, 1) := by decide +kernel
theorem zd_L_law_423 : decode code 423 = .ok (.aload_n 0, 1) := by decide +kernel
theorem zd_L_law_424 : decode code 424 = .ok (.iload 4, 2) := by decide +kernel
theorem zd_L_law_426 : decode code 426 = .ok (.iconst 2, 1) := by decide +kernel
theorem zd_L_law_427 : decode code 427 = .ok (.iadd, 1) := by decide +kernel
theorem zd_L_law_428 : decode code 428 = .ok (.iaload, 1) := by decide +kernel
theorem zd_L_law_429 : decode code 429 = .ok (.aload_n 0, 1) := by decide +kernel
theorem zd_L_law_430 : decode code 430 = .ok (.iload 4, 2) := by decide +kernel
theorem zd_L_law_432 : decode code 432 = .ok (.iconst 3, 1) := by decide +kernel
theorem zd_L_law_433 : decode code 433 = .ok (.iadd, 1) := by decide +kernel
theorem zd_L_law_434 : decode code 434 = .ok (.iaload, 1) := by decide +kernel
theorem zd_L_law_435 : decode code 435 = .ok (.invokestatic 103, 3) := by decide +kernel
theorem zd_L_law_438 : decode code 438 = .ok (.istore 5, 2) := by decide +kernel
theorem zd_L_law_440 : decode code 440 = .ok (.aload_n 2, 1) := by decide +kernel
theorem zd_L_law_441 : decode code 441 = .ok (.aload_n 0, 1) := by decide +kernel
theorem zd_L_law_442 : decode code 442 = .ok (.iload 4, 2) := by decide +kernel
theorem zd_L_law_444 : decode code 444 = .ok (.iconst 1, 1) := by decide +kernel
theorem zd_L_law_445 : decode code 445 = .ok (.iadd, 1) := by decide +kernel
theorem zd_L_law_446 : decode code 446 = .ok (.iaload, 1) := by decide +kernel
theorem zd_L_law_447 : decode code 447 = .ok (.aload_n 0, 1) := by decide +kernel
theorem zd_L_law_448 : decode code 448 = .ok (.iload 4, 2) := by decide +kernel
theorem zd_L_law_450 : decode code 450 = .ok (.iconst 2, 1) := by decide +kernel
theorem zd_L_law_451 : decode code 451 = .ok (.iadd, 1) := by decide +kernel
theorem zd_L_law_452 : decode code 452 = .ok (.iaload, 1) := by decide +kernel
theorem zd_L_law_453 : decode code 453 = .ok (.aload_n 0, 1) := by decide +kernel
theorem zd_L_law_454 : decode code 454 = .ok (.iload 4, 2) := by decide +kernel
theorem zd_L_law_456 : decode code 456 = .ok (.iconst 3, 1) := by decide +kernel
theorem zd_L_law_457 : decode code 457 = .ok (.iadd, 1) := by decide +kernel
theorem zd_L_law_458 : decode code 458 = .ok (.iaload, 1) := by decide +kernel
theorem zd_L_law_459 : decode code 459 = .ok (.invokevirtual 106, 3) := by decide +kernel
theorem zd_L_law_462 : decode code 462 = .ok (.aload_n 2, 1) := by decide +kernel
theorem zd_L_law_463 : decode code 463 = .ok (.invokevirtual 87, 3) := by decide +kernel
theorem zd_L_law_466 : decode code 466 = .ok (.iload 5, 2) := by decide +kernel
theorem zd_L_law_468 : decode code 468 = .ok (.if_icmp .eq 5, 3) := by decide +kernel
theorem zd_L_law_471 : decode code 471 = .ok (.iconst 0, 1) := by decide +kernel
theorem zd_L_law_472 : decode code 472 = .ok (.ireturn, 1) := by decide +kernel
theorem zd_L_law_473 : decode code 473 = .ok (.goto 714, 3) := by decide +kernel
theorem zd_L_law_476 : decode code 476 = .ok (.aload_n 1, 1) := by decide +kernel
theorem zd_L_law_477 : decode code 477 = .ok (.aload_n 0, 1) := by decide +kernel
theorem zd_L_law_478 : decode code 478 = .ok (.iload 4, 2) := by decide +kernel
theorem zd_L_law_480 : decode code 480 = .ok (.iconst 1, 1) := by decide +kernel
theorem zd_L_law_481 : decode code 481 = .ok (.iadd, 1) := by decide +kernel
theorem zd_L_law_482 : decode code 482 = .ok (.iaload, 1) := by decide +kernel
theorem zd_L_law_483 : decode code 483 = .ok (.aload_n 0, 1) := by decide +kernel
theorem zd_L_law_484 : decode code 484 = .ok (.iload 4, 2) := by decide +kernel
theorem zd_L_law_486 : decode code 486 = .ok (.iconst 2, 1) := by decide +kernel
theorem zd_L_law_487 : decode code 487 = .ok (.iadd, 1) := by decide +kernel
theorem zd_L_law_488 : decode code 488 = .ok (.iaload, 1) := by decide +kernel
theorem zd_L_law_489 : decode code 489 = .ok (.aload_n 3, 1) := by decide +kernel
theorem zd_L_law_490 : decode code 490 = .ok (.invokestatic 107, 3) := by decide +kernel
theorem zd_L_law_493 : decode code 493 = .ok (.istore 5, 2) := by decide +kernel
theorem zd_L_law_495 : decode code 495 = .ok (.aload_n 2, 1) := by decide +kernel
theorem zd_L_law_496 : decode code 496 = .ok (.aload_n 0, 1) := by decide +kernel
theorem zd_L_law_497 : decode code 497 = .ok (.iload 4, 2) := by decide +kernel
theorem zd_L_law_499 : decode code 499 = .ok (.iconst 1, 1) := by decide +kernel
theorem zd_L_law_500 : decode code 500 = .ok (.iadd, 1) := by decide +kernel
theorem zd_L_law_501 : decode code 501 = .ok (.iaload, 1) := by decide +kernel
theorem zd_L_law_502 : decode code 502 = .ok (.aload_n 0, 1) := by decide +kernel
theorem zd_L_law_503 : decode code 503 = .ok (.iload 4, 2) := by decide +kernel
theorem zd_L_law_505 : decode code 505 = .ok (.iconst 2, 1) := by decide +kernel
theorem zd_L_law_506 : decode code 506 = .ok (.iadd, 1) := by decide +kernel
theorem zd_L_law_507 : decode code 507 = .ok (.iaload, 1) := by decide +kernel
theorem zd_L_law_508 : decode code 508 = .ok (.invokevirtual 109, 3) := by decide +kernel
theorem zd_L_law_511 : decode code 511 = .ok (.istore 6, 2) := by decide +kernel
theorem zd_L_law_513 : decode code 513 = .ok (.aload_n 2, 1) := by decide +kernel
theorem zd_L_law_514 : decode code 514 = .ok (.invokevirtual 87, 3) := by decide +kernel
theorem zd_L_law_517 : decode code 517 = .ok (.iload 5, 2) := by decide +kernel
theorem zd_L_law_519 : decode code 519 = .ok (.if_icmp .eq 5, 3) := by decide +kernel
theorem zd_L_law_522 : decode code 522 = .ok (.iconst 0, 1) := by decide +kernel
theorem zd_L_law_523 : decode code 523 = .ok (.ireturn, 1) := by decide +kernel
theorem zd_L_law_524 : decode code 524 = .ok (.iload 5, 2) := by decide +kernel
theorem zd_L_law_526 : decode code 526 = .ok (.ifCond .ne 15, 3) := by decide +kernel
theorem zd_L_law_529 : decode code 529 = .ok (.aload_n 3, 1) := by decide +kernel
theorem zd_L_law_530 : decode code 530 = .ok (.iconst 0, 1) := by decide +kernel
theorem zd_L_law_531 : decode code 531 = .ok (.laload, 1) := by decide +kernel
theorem zd_L_law_532 : decode code 532 = .ok (.iload 6, 2) := by decide +kernel
theorem zd_L_law_534 : decode code 534 = .ok (.i2l, 1) := by decide +kernel
theorem zd_L_law_535 : decode code 535 = .ok (.lcmp, 1) := by decide +kernel
theorem zd_L_law_536 : decode code 536 = .ok (.ifCond .eq 5, 3) := by decide +kernel
theorem zd_L_law_539 : decode code 539 = .ok (.iconst 0, 1) := by decide +kernel
theorem zd_L_law_540 : decode code 540 = .ok (.ireturn, 1) := by decide +kernel
theorem zd_L_law_541 : decode code 541 = .ok (.goto 646, 3) := by decide +kernel
theorem zd_L_law_544 : decode code 544 = .ok (.aload_n 1, 1) := by decide +kernel
theorem zd_L_law_545 : decode code 545 = .ok (.aload_n 0, 1) := by decide +kernel
theorem zd_L_law_546 : decode code 546 = .ok (.iload 4, 2) := by decide +kernel
theorem zd_L_law_548 : decode code 548 = .ok (.iconst 1, 1) := by decide +kernel
theorem zd_L_law_549 : decode code 549 = .ok (.iadd, 1) := by decide +kernel
theorem zd_L_law_550 : decode code 550 = .ok (.iaload, 1) := by decide +kernel
theorem zd_L_law_551 : decode code 551 = .ok (.aload_n 0, 1) := by decide +kernel
theorem zd_L_law_552 : decode code 552 = .ok (.iload 4, 2) := by decide +kernel
theorem zd_L_law_554 : decode code 554 = .ok (.iconst 2, 1) := by decide +kernel
theorem zd_L_law_555 : decode code 555 = .ok (.iadd, 1) := by decide +kernel
theorem zd_L_law_556 : decode code 556 = .ok (.iaload, 1) := by decide +kernel
theorem zd_L_law_557 : decode code 557 = .ok (.invokestatic 110, 3) := by decide +kernel
theorem zd_L_law_560 : decode code 560 = .ok (.istore 5, 2) := by decide +kernel
theorem zd_L_law_562 : decode code 562 = .ok (.aload_n 2, 1) := by decide +kernel
theorem zd_L_law_563 : decode code 563 = .ok (.aload_n 0, 1) := by decide +kernel
theorem zd_L_law_564 : decode code 564 = .ok (.iload 4, 2) := by decide +kernel
theorem zd_L_law_566 : decode code 566 = .ok (.iconst 1, 1) := by decide +kernel
theorem zd_L_law_567 : decode code 567 = .ok (.iadd, 1) := by decide +kernel
theorem zd_L_law_568 : decode code 568 = .ok (.iaload, 1) := by decide +kernel
theorem zd_L_law_569 : decode code 569 = .ok (.aload_n 0, 1) := by decide +kernel
theorem zd_L_law_570 : decode code 570 = .ok (.iload 4, 2) := by decide +kernel
theorem zd_L_law_572 : decode code 572 = .ok (.iconst 2, 1) := by decide +kernel
theorem zd_L_law_573 : decode code 573 = .ok (.iadd, 1) := by decide +kernel
theorem zd_L_law_574 : decode code 574 = .ok (.iaload, 1) := by decide +kernel
theorem zd_L_law_575 : decode code 575 = .ok (.invokevirtual 112, 3) := by decide +kernel
theorem zd_L_law_578 : decode code 578 = .ok (.aload_n 2, 1) := by decide +kernel
theorem zd_L_law_579 : decode code 579 = .ok (.invokevirtual 87, 3) := by decide +kernel
theorem zd_L_law_582 : decode code 582 = .ok (.iload 5, 2) := by decide +kernel
theorem zd_L_law_584 : decode code 584 = .ok (.if_icmp .eq 5, 3) := by decide +kernel
theorem zd_L_law_587 : decode code 587 = .ok (.iconst 0, 1) := by decide +kernel
theorem zd_L_law_588 : decode code 588 = .ok (.ireturn, 1) := by decide +kernel
theorem zd_L_law_589 : decode code 589 = .ok (.goto 598, 3) := by decide +kernel
theorem zd_L_law_592 : decode code 592 = .ok (.aload_n 1, 1) := by decide +kernel
theorem zd_L_law_593 : decode code 593 = .ok (.aload_n 0, 1) := by decide +kernel
theorem zd_L_law_594 : decode code 594 = .ok (.iload 4, 2) := by decide +kernel
theorem zd_L_law_596 : decode code 596 = .ok (.iconst 1, 1) := by decide +kernel
theorem zd_L_law_597 : decode code 597 = .ok (.iadd, 1) := by decide +kernel
theorem zd_L_law_598 : decode code 598 = .ok (.iaload, 1) := by decide +kernel
theorem zd_L_law_599 : decode code 599 = .ok (.aload_n 0, 1) := by decide +kernel
theorem zd_L_law_600 : decode code 600 = .ok (.iload 4, 2) := by decide +kernel
theorem zd_L_law_602 : decode code 602 = .ok (.iconst 2, 1) := by decide +kernel
theorem zd_L_law_603 : decode code 603 = .ok (.iadd, 1) := by decide +kernel
theorem zd_L_law_604 : decode code 604 = .ok (.iaload, 1) := by decide +kernel
theorem zd_L_law_605 : decode code 605 = .ok (.invokestatic 113, 3) := by decide +kernel
theorem zd_L_law_608 : decode code 608 = .ok (.istore 5, 2) := by decide +kernel
theorem zd_L_law_610 : decode code 610 = .ok (.aload_n 2, 1) := by decide +kernel
theorem zd_L_law_611 : decode code 611 = .ok (.aload_n 0, 1) := by decide +kernel
theorem zd_L_law_612 : decode code 612 = .ok (.iload 4, 2) := by decide +kernel
theorem zd_L_law_614 : decode code 614 = .ok (.iconst 1, 1) := by decide +kernel
theorem zd_L_law_615 : decode code 615 = .ok (.iadd, 1) := by decide +kernel
theorem zd_L_law_616 : decode code 616 = .ok (.iaload, 1) := by decide +kernel
theorem zd_L_law_617 : decode code 617 = .ok (.aload_n 0, 1) := by decide +kernel
theorem zd_L_law_618 : decode code 618 = .ok (.iload 4, 2) := by decide +kernel
theorem zd_L_law_620 : decode code 620 = .ok (.iconst 2, 1) := by decide +kernel
theorem zd_L_law_621 : decode code 621 = .ok (.iadd, 1) := by decide +kernel
theorem zd_L_law_622 : decode code 622 = .ok (.iaload, 1) := by decide +kernel
theorem zd_L_law_623 : decode code 623 = .ok (.invokevirtual 115, 3) := by decide +kernel
theorem zd_L_law_626 : decode code 626 = .ok (.aload_n 2, 1) := by decide +kernel
theorem zd_L_law_627 : decode code 627 = .ok (.invokevirtual 87, 3) := by decide +kernel
theorem zd_L_law_630 : decode code 630 = .ok (.iload 5, 2) := by decide +kernel
theorem zd_L_law_632 : decode code 632 = .ok (.if_icmp .eq 5, 3) := by decide +kernel
theorem zd_L_law_635 : decode code 635 = .ok (.iconst 0, 1) := by decide +kernel
theorem zd_L_law_636 : decode code 636 = .ok (.ireturn, 1) := by decide +kernel
theorem zd_L_law_637 : decode code 637 = .ok (.goto 550, 3) := by decide +kernel
theorem zd_L_law_640 : decode code 640 = .ok (.aload_n 1, 1) := by decide +kernel
theorem zd_L_law_641 : decode code 641 = .ok (.aload_n 0, 1) := by decide +kernel
theorem zd_L_law_642 : decode code 642 = .ok (.iload 4, 2) := by decide +kernel
theorem zd_L_law_644 : decode code 644 = .ok (.iconst 1, 1) := by decide +kernel
theorem zd_L_law_645 : decode code 645 = .ok (.iadd, 1) := by decide +kernel
theorem zd_L_law_646 : decode code 646 = .ok (.iaload, 1) := by decide +kernel
theorem zd_L_law_647 : decode code 647 = .ok (.aload_n 3, 1) := by decide +kernel
theorem zd_L_law_648 : decode code 648 = .ok (.invokestatic 116, 3) := by decide +kernel
theorem zd_L_law_651 : decode code 651 = .ok (.istore 5, 2) := by decide +kernel
theorem zd_L_law_653 : decode code 653 = .ok (.aload_n 2, 1) := by decide +kernel
theorem zd_L_law_654 : decode code 654 = .ok (.aload_n 0, 1) := by decide +kernel
theorem zd_L_law_655 : decode code 655 = .ok (.iload 4, 2) := by decide +kernel
theorem zd_L_law_657 : decode code 657 = .ok (.iconst 1, 1) := by decide +kernel
theorem zd_L_law_658 : decode code 658 = .ok (.iadd, 1) := by decide +kernel
theorem zd_L_law_659 : decode code 659 = .ok (.iaload, 1) := by decide +kernel
theorem zd_L_law_660 : decode code 660 = .ok (.invokevirtual 119, 3) := by decide +kernel
theorem zd_L_law_663 : decode code 663 = .ok (.istore 6, 2) := by decide +kernel
theorem zd_L_law_665 : decode code 665 = .ok (.aload_n 2, 1) := by decide +kernel
theorem zd_L_law_666 : decode code 666 = .ok (.invokevirtual 87, 3) := by decide +kernel
theorem zd_L_law_669 : decode code 669 = .ok (.iload 5, 2) := by decide +kernel
theorem zd_L_law_671 : decode code 671 = .ok (.if_icmp .eq 5, 3) := by decide +kernel
theorem zd_L_law_674 : decode code 674 = .ok (.iconst 0, 1) := by decide +kernel
theorem zd_L_law_675 : decode code 675 = .ok (.ireturn, 1) := by decide +kernel
theorem zd_L_law_676 : decode code 676 = .ok (.iload 5, 2) := by decide +kernel
theorem zd_L_law_678 : decode code 678 = .ok (.ifCond .ne 15, 3) := by decide +kernel
theorem zd_L_law_681 : decode code 681 = .ok (.aload_n 3, 1) := by decide +kernel
theorem zd_L_law_682 : decode code 682 = .ok (.iconst 0, 1) := by decide +kernel
theorem zd_L_law_683 : decode code 683 = .ok (.laload, 1) := by decide +kernel
theorem zd_L_law_684 : decode code 684 = .ok (.iload 6, 2) := by decide +kernel
theorem zd_L_law_686 : decode code 686 = .ok (.i2l, 1) := by decide +kernel
theorem zd_L_law_687 : decode code 687 = .ok (.lcmp, 1) := by decide +kernel
theorem zd_L_law_688 : decode code 688 = .ok (.ifCond .eq 5, 3) := by decide +kernel
theorem zd_L_law_691 : decode code 691 = .ok (.iconst 0, 1) := by decide +kernel
theorem zd_L_law_692 : decode code 692 = .ok (.ireturn, 1) := by decide +kernel
theorem zd_L_law_693 : decode code 693 = .ok (.goto 494, 3) := by decide +kernel
theorem zd_L_law_696 : decode code 696 = .ok (.aload_n 1, 1) := by decide +kernel
theorem zd_L_law_697 : decode code 697 = .ok (.aload_n 0, 1) := by decide +kernel
theorem zd_L_law_698 : decode code 698 = .ok (.iload 4, 2) := by decide +kernel
theorem zd_L_law_700 : decode code 700 = .ok (.iconst 1, 1) := by decide +kernel
theorem zd_L_law_701 : decode code 701 = .ok (.iadd, 1) := by decide +kernel
theorem zd_L_law_702 : decode code 702 = .ok (.iaload, 1) := by decide +kernel
theorem zd_L_law_703 : decode code 703 = .ok (.aload_n 3, 1) := by decide +kernel
theorem zd_L_law_704 : decode code 704 = .ok (.invokestatic 120, 3) := by decide +kernel
theorem zd_L_law_707 : decode code 707 = .ok (.istore 5, 2) := by decide +kernel
theorem zd_L_law_709 : decode code 709 = .ok (.aload_n 2, 1) := by decide +kernel
theorem zd_L_law_710 : decode code 710 = .ok (.aload_n 0, 1) := by decide +kernel
theorem zd_L_law_711 : decode code 711 = .ok (.iload 4, 2) := by decide +kernel
theorem zd_L_law_713 : decode code 713 = .ok (.iconst 1, 1) := by decide +kernel
theorem zd_L_law_714 : decode code 714 = .ok (.iadd, 1) := by decide +kernel
theorem zd_L_law_715 : decode code 715 = .ok (.iaload, 1) := by decide +kernel
theorem zd_L_law_716 : decode code 716 = .ok (.invokevirtual 122, 3) := by decide +kernel
theorem zd_L_law_719 : decode code 719 = .ok (.istore 6, 2) := by decide +kernel
theorem zd_L_law_721 : decode code 721 = .ok (.aload_n 2, 1) := by decide +kernel
theorem zd_L_law_722 : decode code 722 = .ok (.invokevirtual 87, 3) := by decide +kernel
theorem zd_L_law_725 : decode code 725 = .ok (.iload 5, 2) := by decide +kernel
theorem zd_L_law_727 : decode code 727 = .ok (.if_icmp .eq 5, 3) := by decide +kernel
theorem zd_L_law_730 : decode code 730 = .ok (.iconst 0, 1) := by decide +kernel
theorem zd_L_law_731 : decode code 731 = .ok (.ireturn, 1) := by decide +kernel
theorem zd_L_law_732 : decode code 732 = .ok (.iload 5, 2) := by decide +kernel
theorem zd_L_law_734 : decode code 734 = .ok (.ifCond .ne 15, 3) := by decide +kernel
theorem zd_L_law_737 : decode code 737 = .ok (.aload_n 3, 1) := by decide +kernel
theorem zd_L_law_738 : decode code 738 = .ok (.iconst 0, 1) := by decide +kernel
theorem zd_L_law_739 : decode code 739 = .ok (.laload, 1) := by decide +kernel
theorem zd_L_law_740 : decode code 740 = .ok (.iload 6, 2) := by decide +kernel
theorem zd_L_law_742 : decode code 742 = .ok (.i2l, 1) := by decide +kernel
theorem zd_L_law_743 : decode code 743 = .ok (.lcmp, 1) := by decide +kernel
theorem zd_L_law_744 : decode code 744 = .ok (.ifCond .eq 5, 3) := by decide +kernel
theorem zd_L_law_747 : decode code 747 = .ok (.iconst 0, 1) := by decide +kernel
theorem zd_L_law_748 : decode code 748 = .ok (.ireturn, 1) := by decide +kernel
theorem zd_L_law_749 : decode code 749 = .ok (.goto 438, 3) := by decide +kernel
theorem zd_L_law_752 : decode code 752 = .ok (.aload_n 1, 1) := by decide +kernel
theorem zd_L_law_753 : decode code 753 = .ok (.invokevirtual 123, 3) := by decide +kernel
theorem zd_L_law_756 : decode code 756 = .ok (.aload_n 2, 1) := by decide +kernel
theorem zd_L_law_757 : decode code 757 = .ok (.invokevirtual 127, 3) := by decide +kernel
theorem zd_L_law_760 : decode code 760 = .ok (.if_icmp .eq 427, 3) := by decide +kernel
theorem zd_L_law_763 : decode code 763 = .ok (.iconst 0, 1) := by decide +kernel
theorem zd_L_law_764 : decode code 764 = .ok (.ireturn, 1) := by decide +kernel
theorem zd_L_law_765 : decode code 765 = .ok (.aload_n 1, 1) := by decide +kernel
theorem zd_L_law_766 : decode code 766 = .ok (.invokevirtual 128, 3) := by decide +kernel
theorem zd_L_law_769 : decode code 769 = .ok (.aload_n 2, 1) := by decide +kernel
theorem zd_L_law_770 : decode code 770 = .ok (.invokevirtual 131, 3) := by decide +kernel
theorem zd_L_law_773 : decode code 773 = .ok (.if_icmp .eq 414, 3) := by decide +kernel
theorem zd_L_law_776 : decode code 776 = .ok (.iconst 0, 1) := by decide +kernel
theorem zd_L_law_777 : decode code 777 = .ok (.ireturn, 1) := by decide +kernel
theorem zd_L_law_778 : decode code 778 = .ok (.aload_n 1, 1) := by decide +kernel
theorem zd_L_law_779 : decode code 779 = .ok (.aload_n 0, 1) := by decide +kernel
theorem zd_L_law_780 : decode code 780 = .ok (.iload 4, 2) := by decide +kernel
theorem zd_L_law_782 : decode code 782 = .ok (.iconst 1, 1) := by decide +kernel
theorem zd_L_law_783 : decode code 783 = .ok (.iadd, 1) := by decide +kernel
theorem zd_L_law_784 : decode code 784 = .ok (.iaload, 1) := by decide +kernel
theorem zd_L_law_785 : decode code 785 = .ok (.aload_n 3, 1) := by decide +kernel
theorem zd_L_law_786 : decode code 786 = .ok (.invokestatic 132, 3) := by decide +kernel
theorem zd_L_law_789 : decode code 789 = .ok (.istore 5, 2) := by decide +kernel
theorem zd_L_law_791 : decode code 791 = .ok (.aload_n 2, 1) := by decide +kernel
theorem zd_L_law_792 : decode code 792 = .ok (.aload_n 0, 1) := by decide +kernel
theorem zd_L_law_793 : decode code 793 = .ok (.iload 4, 2) := by decide +kernel
theorem zd_L_law_795 : decode code 795 = .ok (.iconst 1, 1) := by decide +kernel
theorem zd_L_law_796 : decode code 796 = .ok (.iadd, 1) := by decide +kernel
theorem zd_L_law_797 : decode code 797 = .ok (.iaload, 1) := by decide +kernel
theorem zd_L_law_798 : decode code 798 = .ok (.invokevirtual 134, 3) := by decide +kernel
theorem zd_L_law_801 : decode code 801 = .ok (.istore 6, 2) := by decide +kernel
theorem zd_L_law_803 : decode code 803 = .ok (.aload_n 2, 1) := by decide +kernel
theorem zd_L_law_804 : decode code 804 = .ok (.invokevirtual 87, 3) := by decide +kernel
theorem zd_L_law_807 : decode code 807 = .ok (.iload 5, 2) := by decide +kernel
theorem zd_L_law_809 : decode code 809 = .ok (.if_icmp .eq 5, 3) := by decide +kernel
theorem zd_L_law_812 : decode code 812 = .ok (.iconst 0, 1) := by decide +kernel
theorem zd_L_law_813 : decode code 813 = .ok (.ireturn, 1) := by decide +kernel
theorem zd_L_law_814 : decode code 814 = .ok (.iload 5, 2) := by decide +kernel
theorem zd_L_law_816 : decode code 816 = .ok (.ifCond .ne 15, 3) := by decide +kernel
theorem zd_L_law_819 : decode code 819 = .ok (.aload_n 3, 1) := by decide +kernel
theorem zd_L_law_820 : decode code 820 = .ok (.iconst 0, 1) := by decide +kernel
theorem zd_L_law_821 : decode code 821 = .ok (.laload, 1) := by decide +kernel
theorem zd_L_law_822 : decode code 822 = .ok (.iload 6, 2) := by decide +kernel
theorem zd_L_law_824 : decode code 824 = .ok (.i2l, 1) := by decide +kernel
theorem zd_L_law_825 : decode code 825 = .ok (.lcmp, 1) := by decide +kernel
theorem zd_L_law_826 : decode code 826 = .ok (.ifCond .eq 5, 3) := by decide +kernel
theorem zd_L_law_829 : decode code 829 = .ok (.iconst 0, 1) := by decide +kernel
theorem zd_L_law_830 : decode code 830 = .ok (.ireturn, 1) := by decide +kernel
theorem zd_L_law_831 : decode code 831 = .ok (.goto 356, 3) := by decide +kernel
theorem zd_L_law_834 : decode code 834 = .ok (.aload_n 1, 1) := by decide +kernel
theorem zd_L_law_835 : decode code 835 = .ok (.aload_n 0, 1) := by decide +kernel
theorem zd_L_law_836 : decode code 836 = .ok (.iload 4, 2) := by decide +kernel
theorem zd_L_law_838 : decode code 838 = .ok (.iconst 1, 1) := by decide +kernel
theorem zd_L_law_839 : decode code 839 = .ok (.iadd, 1) := by decide +kernel
theorem zd_L_law_840 : decode code 840 = .ok (.iaload, 1) := by decide +kernel
theorem zd_L_law_841 : decode code 841 = .ok (.aload_n 3, 1) := by decide +kernel
theorem zd_L_law_842 : decode code 842 = .ok (.invokestatic 135, 3) := by decide +kernel
theorem zd_L_law_845 : decode code 845 = .ok (.istore 5, 2) := by decide +kernel
theorem zd_L_law_847 : decode code 847 = .ok (.aload_n 2, 1) := by decide +kernel
theorem zd_L_law_848 : decode code 848 = .ok (.aload_n 0, 1) := by decide +kernel
theorem zd_L_law_849 : decode code 849 = .ok (.iload 4, 2) := by decide +kernel
theorem zd_L_law_851 : decode code 851 = .ok (.iconst 1, 1) := by decide +kernel
theorem zd_L_law_852 : decode code 852 = .ok (.iadd, 1) := by decide +kernel
theorem zd_L_law_853 : decode code 853 = .ok (.iaload, 1) := by decide +kernel
theorem zd_L_law_854 : decode code 854 = .ok (.invokevirtual 137, 3) := by decide +kernel
theorem zd_L_law_857 : decode code 857 = .ok (.istore 6, 2) := by decide +kernel
theorem zd_L_law_859 : decode code 859 = .ok (.aload_n 2, 1) := by decide +kernel
theorem zd_L_law_860 : decode code 860 = .ok (.invokevirtual 87, 3) := by decide +kernel
theorem zd_L_law_863 : decode code 863 = .ok (.iload 5, 2) := by decide +kernel
theorem zd_L_law_865 : decode code 865 = .ok (.if_icmp .eq 5, 3) := by decide +kernel
theorem zd_L_law_868 : decode code 868 = .ok (.iconst 0, 1) := by decide +kernel
theorem zd_L_law_869 : decode code 869 = .ok (.ireturn, 1) := by decide +kernel
theorem zd_L_law_870 : decode code 870 = .ok (.iload 5, 2) := by decide +kernel
theorem zd_L_law_872 : decode code 872 = .ok (.ifCond .ne 15, 3) := by decide +kernel
theorem zd_L_law_875 : decode code 875 = .ok (.aload_n 3, 1) := by decide +kernel
theorem zd_L_law_876 : decode code 876 = .ok (.iconst 0, 1) := by decide +kernel
theorem zd_L_law_877 : decode code 877 = .ok (.laload, 1) := by decide +kernel
theorem zd_L_law_878 : decode code 878 = .ok (.iload 6, 2) := by decide +kernel
theorem zd_L_law_880 : decode code 880 = .ok (.i2l, 1) := by decide +kernel
theorem zd_L_law_881 : decode code 881 = .ok (.lcmp, 1) := by decide +kernel
theorem zd_L_law_882 : decode code 882 = .ok (.ifCond .eq 5, 3) := by decide +kernel
theorem zd_L_law_885 : decode code 885 = .ok (.iconst 0, 1) := by decide +kernel
theorem zd_L_law_886 : decode code 886 = .ok (.ireturn, 1) := by decide +kernel
theorem zd_L_law_887 : decode code 887 = .ok (.goto 300, 3) := by decide +kernel
theorem zd_L_law_890 : decode code 890 = .ok (.aload_n 1, 1) := by decide +kernel
theorem zd_L_law_891 : decode code 891 = .ok (.aload_n 0, 1) := by decide +kernel
theorem zd_L_law_892 : decode code 892 = .ok (.iload 4, 2) := by decide +kernel
theorem zd_L_law_894 : decode code 894 = .ok (.iconst 1, 1) := by decide +kernel
theorem zd_L_law_895 : decode code 895 = .ok (.iadd, 1) := by decide +kernel
theorem zd_L_law_896 : decode code 896 = .ok (.iaload, 1) := by decide +kernel
theorem zd_L_law_897 : decode code 897 = .ok (.aload_n 3, 1) := by decide +kernel
theorem zd_L_law_898 : decode code 898 = .ok (.invokestatic 138, 3) := by decide +kernel
theorem zd_L_law_901 : decode code 901 = .ok (.istore 5, 2) := by decide +kernel
theorem zd_L_law_903 : decode code 903 = .ok (.aload_n 2, 1) := by decide +kernel
theorem zd_L_law_904 : decode code 904 = .ok (.aload_n 0, 1) := by decide +kernel
theorem zd_L_law_905 : decode code 905 = .ok (.iload 4, 2) := by decide +kernel
theorem zd_L_law_907 : decode code 907 = .ok (.iconst 1, 1) := by decide +kernel
theorem zd_L_law_908 : decode code 908 = .ok (.iadd, 1) := by decide +kernel
theorem zd_L_law_909 : decode code 909 = .ok (.iaload, 1) := by decide +kernel
theorem zd_L_law_910 : decode code 910 = .ok (.invokevirtual 140, 3) := by decide +kernel
theorem zd_L_law_913 : decode code 913 = .ok (.istore 6, 2) := by decide +kernel
theorem zd_L_law_915 : decode code 915 = .ok (.aload_n 2, 1) := by decide +kernel
theorem zd_L_law_916 : decode code 916 = .ok (.invokevirtual 87, 3) := by decide +kernel
theorem zd_L_law_919 : decode code 919 = .ok (.iload 5, 2) := by decide +kernel
theorem zd_L_law_921 : decode code 921 = .ok (.if_icmp .eq 5, 3) := by decide +kernel
theorem zd_L_law_924 : decode code 924 = .ok (.iconst 0, 1) := by decide +kernel
theorem zd_L_law_925 : decode code 925 = .ok (.ireturn, 1) := by decide +kernel
theorem zd_L_law_926 : decode code 926 = .ok (.iload 5, 2) := by decide +kernel
theorem zd_L_law_928 : decode code 928 = .ok (.ifCond .ne 15, 3) := by decide +kernel
theorem zd_L_law_931 : decode code 931 = .ok (.aload_n 3, 1) := by decide +kernel
theorem zd_L_law_932 : decode code 932 = .ok (.iconst 0, 1) := by decide +kernel
theorem zd_L_law_933 : decode code 933 = .ok (.laload, 1) := by decide +kernel
theorem zd_L_law_934 : decode code 934 = .ok (.iload 6, 2) := by decide +kernel
theorem zd_L_law_936 : decode code 936 = .ok (.i2l, 1) := by decide +kernel
theorem zd_L_law_937 : decode code 937 = .ok (.lcmp, 1) := by decide +kernel
theorem zd_L_law_938 : decode code 938 = .ok (.ifCond .eq 5, 3) := by decide +kernel
theorem zd_L_law_941 : decode code 941 = .ok (.iconst 0, 1) := by decide +kernel
theorem zd_L_law_942 : decode code 942 = .ok (.ireturn, 1) := by decide +kernel
theorem zd_L_law_943 : decode code 943 = .ok (.goto 244, 3) := by decide +kernel
theorem zd_L_law_946 : decode code 946 = .ok (.aload_n 1, 1) := by decide +kernel
theorem zd_L_law_947 : decode code 947 = .ok (.aload_n 0, 1) := by decide +kernel
theorem zd_L_law_948 : decode code 948 = .ok (.iload 4, 2) := by decide +kernel
theorem zd_L_law_950 : decode code 950 = .ok (.iconst 1, 1) := by decide +kernel
theorem zd_L_law_951 : decode code 951 = .ok (.iadd, 1) := by decide +kernel
theorem zd_L_law_952 : decode code 952 = .ok (.iaload, 1) := by decide +kernel
theorem zd_L_law_953 : decode code 953 = .ok (.invokestatic 141, 3) := by decide +kernel
theorem zd_L_law_956 : decode code 956 = .ok (.istore 5, 2) := by decide +kernel
theorem zd_L_law_958 : decode code 958 = .ok (.aload_n 2, 1) := by decide +kernel
theorem zd_L_law_959 : decode code 959 = .ok (.aload_n 0, 1) := by decide +kernel
theorem zd_L_law_960 : decode code 960 = .ok (.iload 4, 2) := by decide +kernel
theorem zd_L_law_962 : decode code 962 = .ok (.iconst 1, 1) := by decide +kernel
theorem zd_L_law_963 : decode code 963 = .ok (.iadd, 1) := by decide +kernel
theorem zd_L_law_964 : decode code 964 = .ok (.iaload, 1) := by decide +kernel
theorem zd_L_law_965 : decode code 965 = .ok (.invokevirtual 144, 3) := by decide +kernel
theorem zd_L_law_968 : decode code 968 = .ok (.aload_n 2, 1) := by decide +kernel
theorem zd_L_law_969 : decode code 969 = .ok (.invokevirtual 87, 3) := by decide +kernel
theorem zd_L_law_972 : decode code 972 = .ok (.iload 5, 2) := by decide +kernel
theorem zd_L_law_974 : decode code 974 = .ok (.if_icmp .eq 5, 3) := by decide +kernel
theorem zd_L_law_977 : decode code 977 = .ok (.iconst 0, 1) := by decide +kernel
theorem zd_L_law_978 : decode code 978 = .ok (.ireturn, 1) := by decide +kernel
theorem zd_L_law_979 : decode code 979 = .ok (.goto 208, 3) := by decide +kernel
theorem zd_L_law_982 : decode code 982 = .ok (.aload_n 1, 1) := by decide +kernel
theorem zd_L_law_983 : decode code 983 = .ok (.aload_n 0, 1) := by decide +kernel
theorem zd_L_law_984 : decode code 984 = .ok (.iload 4, 2) := by decide +kernel
theorem zd_L_law_986 : decode code 986 = .ok (.iconst 1, 1) := by decide +kernel
theorem zd_L_law_987 : decode code 987 = .ok (.iadd, 1) := by decide +kernel
theorem zd_L_law_988 : decode code 988 = .ok (.iaload, 1) := by decide +kernel
theorem zd_L_law_989 : decode code 989 = .ok (.aload_n 3, 1) := by decide +kernel
theorem zd_L_law_990 : decode code 990 = .ok (.invokestatic 145, 3) := by decide +kernel
theorem zd_L_law_993 : decode code 993 = .ok (.istore 5, 2) := by decide +kernel
theorem zd_L_law_995 : decode code 995 = .ok (.aload_n 2, 1) := by decide +kernel
theorem zd_L_law_996 : decode code 996 = .ok (.aload_n 0, 1) := by decide +kernel
theorem zd_L_law_997 : decode code 997 = .ok (.iload 4, 2) := by decide +kernel
theorem zd_L_law_999 : decode code 999 = .ok (.iconst 1, 1) := by decide +kernel
theorem zd_L_law_1000 : decode code 1000 = .ok (.iadd, 1) := by decide +kernel
theorem zd_L_law_1001 : decode code 1001 = .ok (.iaload, 1) := by decide +kernel
theorem zd_L_law_1002 : decode code 1002 = .ok (.invokevirtual 147, 3) := by decide +kernel
theorem zd_L_law_1005 : decode code 1005 = .ok (.istore 6, 2) := by decide +kernel
theorem zd_L_law_1007 : decode code 1007 = .ok (.aload_n 2, 1) := by decide +kernel
theorem zd_L_law_1008 : decode code 1008 = .ok (.invokevirtual 87, 3) := by decide +kernel
theorem zd_L_law_1011 : decode code 1011 = .ok (.iload 5, 2) := by decide +kernel
theorem zd_L_law_1013 : decode code 1013 = .ok (.if_icmp .eq 5, 3) := by decide +kernel
theorem zd_L_law_1016 : decode code 1016 = .ok (.iconst 0, 1) := by decide +kernel
theorem zd_L_law_1017 : decode code 1017 = .ok (.ireturn, 1) := by decide +kernel
theorem zd_L_law_1018 : decode code 1018 = .ok (.iload 5, 2) := by decide +kernel
theorem zd_L_law_1020 : decode code 1020 = .ok (.ifCond .ne 15, 3) := by decide +kernel
theorem zd_L_law_1023 : decode code 1023 = .ok (.aload_n 3, 1) := by decide +kernel
theorem zd_L_law_1024 : decode code 1024 = .ok (.iconst 0, 1) := by decide +kernel
theorem zd_L_law_1025 : decode code 1025 = .ok (.laload, 1) := by decide +kernel
theorem zd_L_law_1026 : decode code 1026 = .ok (.iload 6, 2) := by decide +kernel
theorem zd_L_law_1028 : decode code 1028 = .ok (.i2l, 1) := by decide +kernel
theorem zd_L_law_1029 : decode code 1029 = .ok (.lcmp, 1) := by decide +kernel
theorem zd_L_law_1030 : decode code 1030 = .ok (.ifCond .eq 5, 3) := by decide +kernel
theorem zd_L_law_1033 : decode code 1033 = .ok (.iconst 0, 1) := by decide +kernel
theorem zd_L_law_1034 : decode code 1034 = .ok (.ireturn, 1) := by decide +kernel
theorem zd_L_law_1035 : decode code 1035 = .ok (.goto 152, 3) := by decide +kernel
theorem zd_L_law_1038 : decode code 1038 = .ok (.aload_n 1, 1) := by decide +kernel
theorem zd_L_law_1039 : decode code 1039 = .ok (.aload_n 0, 1) := by decide +kernel
theorem zd_L_law_1040 : decode code 1040 = .ok (.iload 4, 2) := by decide +kernel
theorem zd_L_law_1042 : decode code 1042 = .ok (.iconst 1, 1) := by decide +kernel
theorem zd_L_law_1043 : decode code 1043 = .ok (.iadd, 1) := by decide +kernel
theorem zd_L_law_1044 : decode code 1044 = .ok (.iaload, 1) := by decide +kernel
theorem zd_L_law_1045 : decode code 1045 = .ok (.aload_n 3, 1) := by decide +kernel
theorem zd_L_law_1046 : decode code 1046 = .ok (.invokestatic 148, 3) := by decide +kernel
theorem zd_L_law_1049 : decode code 1049 = .ok (.istore 5, 2) := by decide +kernel
theorem zd_L_law_1051 : decode code 1051 = .ok (.aload_n 2, 1) := by decide +kernel
theorem zd_L_law_1052 : decode code 1052 = .ok (.aload_n 0, 1) := by decide +kernel
theorem zd_L_law_1053 : decode code 1053 = .ok (.iload 4, 2) := by decide +kernel
theorem zd_L_law_1055 : decode code 1055 = .ok (.iconst 1, 1) := by decide +kernel
theorem zd_L_law_1056 : decode code 1056 = .ok (.iadd, 1) := by decide +kernel
theorem zd_L_law_1057 : decode code 1057 = .ok (.iaload, 1) := by decide +kernel
theorem zd_L_law_1058 : decode code 1058 = .ok (.invokevirtual 150, 3) := by decide +kernel
theorem zd_L_law_1061 : decode code 1061 = .ok (.istore 6, 2) := by decide +kernel
theorem zd_L_law_1063 : decode code 1063 = .ok (.aload_n 2, 1) := by decide +kernel
theorem zd_L_law_1064 : decode code 1064 = .ok (.invokevirtual 87, 3) := by decide +kernel
theorem zd_L_law_1067 : decode code 1067 = .ok (.iload 5, 2) := by decide +kernel
theorem zd_L_law_1069 : decode code 1069 = .ok (.if_icmp .eq 5, 3) := by decide +kernel
theorem zd_L_law_1072 : decode code 1072 = .ok (.iconst 0, 1) := by decide +kernel
theorem zd_L_law_1073 : decode code 1073 = .ok (.ireturn, 1) := by decide +kernel
theorem zd_L_law_1074 : decode code 1074 = .ok (.iload 5, 2) := by decide +kernel
theorem zd_L_law_1076 : decode code 1076 = .ok (.ifCond .ne 15, 3) := by decide +kernel
theorem zd_L_law_1079 : decode code 1079 = .ok (.aload_n 3, 1) := by decide +kernel
theorem zd_L_law_1080 : decode code 1080 = .ok (.iconst 0, 1) := by decide +kernel
theorem zd_L_law_1081 : decode code 1081 = .ok (.laload, 1) := by decide +kernel
theorem zd_L_law_1082 : decode code 1082 = .ok (.iload 6, 2) := by decide +kernel
theorem zd_L_law_1084 : decode code 1084 = .ok (.i2l, 1) := by decide +kernel
theorem zd_L_law_1085 : decode code 1085 = .ok (.lcmp, 1) := by decide +kernel
theorem zd_L_law_1086 : decode code 1086 = .ok (.ifCond .eq 5, 3) := by decide +kernel
theorem zd_L_law_1089 : decode code 1089 = .ok (.iconst 0, 1) := by decide +kernel
theorem zd_L_law_1090 : decode code 1090 = .ok (.ireturn, 1) := by decide +kernel
theorem zd_L_law_1091 : decode code 1091 = .ok (.goto 96, 3) := by decide +kernel
theorem zd_L_law_1094 : decode code 1094 = .ok (.aload_n 1, 1) := by decide +kernel
theorem zd_L_law_1095 : decode code 1095 = .ok (.aload_n 0, 1) := by decide +kernel
theorem zd_L_law_1096 : decode code 1096 = .ok (.iload 4, 2) := by decide +kernel
theorem zd_L_law_1098 : decode code 1098 = .ok (.iconst 1, 1) := by decide +kernel
theorem zd_L_law_1099 : decode code 1099 = .ok (.iadd, 1) := by decide +kernel
theorem zd_L_law_1100 : decode code 1100 = .ok (.iaload, 1) := by decide +kernel
theorem zd_L_law_1101 : decode code 1101 = .ok (.aload_n 0, 1) := by decide +kernel
theorem zd_L_law_1102 : decode code 1102 = .ok (.iload 4, 2) := by decide +kernel
theorem zd_L_law_1104 : decode code 1104 = .ok (.iconst 2, 1) := by decide +kernel
theorem zd_L_law_1105 : decode code 1105 = .ok (.iadd, 1) := by decide +kernel
theorem zd_L_law_1106 : decode code 1106 = .ok (.iaload, 1) := by decide +kernel
theorem zd_L_law_1107 : decode code 1107 = .ok (.aload_n 3, 1) := by decide +kernel
theorem zd_L_law_1108 : decode code 1108 = .ok (.invokestatic 151, 3) := by decide +kernel
theorem zd_L_law_1111 : decode code 1111 = .ok (.istore 5, 2) := by decide +kernel
theorem zd_L_law_1113 : decode code 1113 = .ok (.aload_n 2, 1) := by decide +kernel
theorem zd_L_law_1114 : decode code 1114 = .ok (.aload_n 0, 1) := by decide +kernel
theorem zd_L_law_1115 : decode code 1115 = .ok (.iload 4, 2) := by decide +kernel
theorem zd_L_law_1117 : decode code 1117 = .ok (.iconst 1, 1) := by decide +kernel
theorem zd_L_law_1118 : decode code 1118 = .ok (.iadd, 1) := by decide +kernel
theorem zd_L_law_1119 : decode code 1119 = .ok (.iaload, 1) := by decide +kernel
theorem zd_L_law_1120 : decode code 1120 = .ok (.aload_n 0, 1) := by decide +kernel
theorem zd_L_law_1121 : decode code 1121 = .ok (.iload 4, 2) := by decide +kernel
theorem zd_L_law_1123 : decode code 1123 = .ok (.iconst 2, 1) := by decide +kernel
theorem zd_L_law_1124 : decode code 1124 = .ok (.iadd, 1) := by decide +kernel
theorem zd_L_law_1125 : decode code 1125 = .ok (.iaload, 1) := by decide +kernel
theorem zd_L_law_1126 : decode code 1126 = .ok (.invokevirtual 153, 3) := by decide +kernel
theorem zd_L_law_1129 : decode code 1129 = .ok (.istore 6, 2) := by decide +kernel
theorem zd_L_law_1131 : decode code 1131 = .ok (.aload_n 2, 1) := by decide +kernel
theorem zd_L_law_1132 : decode code 1132 = .ok (.invokevirtual 87, 3) := by decide +kernel
theorem zd_L_law_1135 : decode code 1135 = .ok (.iload 5, 2) := by decide +kernel
theorem zd_L_law_1137 : decode code 1137 = .ok (.if_icmp .eq 5, 3) := by decide +kernel
theorem zd_L_law_1140 : decode code 1140 = .ok (.iconst 0, 1) := by decide +kernel
theorem zd_L_law_1141 : decode code 1141 = .ok (.ireturn, 1) := by decide +kernel
theorem zd_L_law_1142 : decode code 1142 = .ok (.iload 5, 2) := by decide +kernel
theorem zd_L_law_1144 : decode code 1144 = .ok (.ifCond .ne 15, 3) := by decide +kernel
theorem zd_L_law_1147 : decode code 1147 = .ok (.aload_n 3, 1) := by decide +kernel
theorem zd_L_law_1148 : decode code 1148 = .ok (.iconst 0, 1) := by decide +kernel
theorem zd_L_law_1149 : decode code 1149 = .ok (.laload, 1) := by decide +kernel
theorem zd_L_law_1150 : decode code 1150 = .ok (.iload 6, 2) := by decide +kernel
theorem zd_L_law_1152 : decode code 1152 = .ok (.i2l, 1) := by decide +kernel
theorem zd_L_law_1153 : decode code 1153 = .ok (.lcmp, 1) := by decide +kernel
theorem zd_L_law_1154 : decode code 1154 = .ok (.ifCond .eq 5, 3) := by decide +kernel
theorem zd_L_law_1157 : decode code 1157 = .ok (.iconst 0, 1) := by decide +kernel
theorem zd_L_law_1158 : decode code 1158 = .ok (.ireturn, 1) := by decide +kernel
theorem zd_L_law_1159 : decode code 1159 = .ok (.goto 28, 3) := by decide +kernel
theorem zd_L_law_1162 : decode code 1162 = .ok (.aload_n 1, 1) := by decide +kernel
theorem zd_L_law_1163 : decode code 1163 = .ok (.aload_n 0, 1) := by decide +kernel
theorem zd_L_law_1164 : decode code 1164 = .ok (.iload 4, 2) := by decide +kernel
theorem zd_L_law_1166 : decode code 1166 = .ok (.iconst 1, 1) := by decide +kernel
theorem zd_L_law_1167 : decode code 1167 = .ok (.iadd, 1) := by decide +kernel
theorem zd_L_law_1168 : decode code 1168 = .ok (.iaload, 1) := by decide +kernel
theorem zd_L_law_1169 : decode code 1169 = .ok (.invokevirtual 154, 3) := by decide +kernel
theorem zd_L_law_1172 : decode code 1172 = .ok (.aload_n 2, 1) := by decide +kernel
theorem zd_L_law_1173 : decode code 1173 = .ok (.aload_n 0, 1) := by decide +kernel
theorem zd_L_law_1174 : decode code 1174 = .ok (.iload 4, 2) := by decide +kernel
theorem zd_L_law_1176 : decode code 1176 = .ok (.iconst 1, 1) := by decide +kernel
theorem zd_L_law_1177 : decode code 1177 = .ok (.iadd, 1) := by decide +kernel
theorem zd_L_law_1178 : decode code 1178 = .ok (.iaload, 1) := by decide +kernel
theorem zd_L_law_1179 : decode code 1179 = .ok (.invokevirtual 157, 3) := by decide +kernel
theorem zd_L_law_1182 : decode code 1182 = .ok (.if_icmp .eq 5, 3) := by decide +kernel
theorem zd_L_law_1185 : decode code 1185 = .ok (.iconst 0, 1) := by decide +kernel
theorem zd_L_law_1186 : decode code 1186 = .ok (.ireturn, 1) := by decide +kernel
theorem zd_L_law_1187 : decode code 1187 = .ok (.iinc 4 5, 3) := by decide +kernel
theorem zd_L_law_1190 : decode code 1190 = .ok (.goto (-1167), 3) := by decide +kernel
theorem zd_L_law_1193 : decode code 1193 = .ok (.iconst 1, 1) := by decide +kernel
theorem zd_L_law_1194 : decode code 1194 = .ok (.ireturn, 1) := by decide +kernel
end
section
theorem zi_0 : Cond.selects zn_A zy_A_isGroup zy_A_isGroup ∈ zw_all := zw_mem 0 (by decide +kernel) (by decide +kernel)
theorem zi_1 : Cond.selects zn_A zy_A_isIn zy_A_isIn ∈ zw_all := zw_mem 1 (by decide +kernel) (by decide +kernel)
theorem zi_2 : Cond.selects zn_A zy_A_gather zy_A_gather ∈ zw_all := zw_mem 2 (by decide +kernel) (by decide +kernel)
theorem zi_3 : Cond.selects zn_A zy_A_cheapestPlace zy_A_cheapestPlace ∈ zw_all := zw_mem 3 (by decide +kernel) (by decide +kernel)
theorem zi_4 : Cond.selects zn_A zy_A_brokenRule zy_A_brokenRule ∈ zw_all := zw_mem 4 (by decide +kernel) (by decide +kernel)
theorem zi_5 : Cond.selects zn_A zy_A_costAt zy_A_costAt ∈ zw_all := zw_mem 5 (by decide +kernel) (by decide +kernel)
theorem zi_6 : Cond.selects zn_A zy_A_groupCount zy_A_groupCount ∈ zw_all := zw_mem 6 (by decide +kernel) (by decide +kernel)
theorem zi_7 : Cond.selects zn_A zy_A_doneCount zy_A_doneCount ∈ zw_all := zw_mem 7 (by decide +kernel) (by decide +kernel)
theorem zi_9 : Cond.selects zn_A zy_A_unitOf zy_A_unitOf ∈ zw_all := zw_mem 9 (by decide +kernel) (by decide +kernel)
theorem zi_10 : Cond.selects zn_A zy_A_placeOf zy_A_placeOf ∈ zw_all := zw_mem 10 (by decide +kernel) (by decide +kernel)
theorem zi_11 : Cond.selects zn_A zy_A_join zy_A_join ∈ zw_all := zw_mem 11 (by decide +kernel) (by decide +kernel)
theorem zi_12 : Cond.selects zn_A zy_A_planFor zy_A_planFor ∈ zw_all := zw_mem 12 (by decide +kernel) (by decide +kernel)
theorem zi_13 : Cond.selects zn_A zy_A_draftBest zy_A_draftBest ∈ zw_all := zw_mem 13 (by decide +kernel) (by decide +kernel)
theorem zi_14 : Cond.selects zn_A zy_A_offerPlaces zy_A_offerPlaces ∈ zw_all := zw_mem 14 (by decide +kernel) (by decide +kernel)
theorem zi_15 : Cond.selects zn_B zy_B_giveColumn zy_B_giveColumn ∈ zw_all := zw_mem 15 (by decide +kernel) (by decide +kernel)
theorem zi_16 : Cond.selects zn_B zy_B_measureFrom zy_B_measureFrom ∈ zw_all := zw_mem 16 (by decide +kernel) (by decide +kernel)
theorem zi_17 : Cond.selects zn_B zy_B_nearestColumn zy_B_nearestColumn ∈ zw_all := zw_mem 17 (by decide +kernel) (by decide +kernel)
theorem zi_18 : Cond.selects zn_B zy_B_shiftBy zy_B_shiftBy ∈ zw_all := zw_mem 18 (by decide +kernel) (by decide +kernel)
theorem zi_19 : Cond.selects zn_A zy_A_draftOneByOne zy_A_draftOneByOne ∈ zw_all := zw_mem 19 (by decide +kernel) (by decide +kernel)
theorem zi_20 : Cond.selects zn_A zy_A_takeDraft zy_A_takeDraft ∈ zw_all := zw_mem 20 (by decide +kernel) (by decide +kernel)
theorem zi_21 : Cond.selects zn_A zy_A_finish zy_A_finish ∈ zw_all := zw_mem 21 (by decide +kernel) (by decide +kernel)
theorem zi_22 : Cond.selects zn_A zy_A_groupPlannedFor zy_A_groupPlannedFor ∈ zw_all := zw_mem 22 (by decide +kernel) (by decide +kernel)
theorem zi_23 : Cond.selects zn_A zy_A_plannedPlaces zy_A_plannedPlaces ∈ zw_all := zw_mem 23 (by decide +kernel) (by decide +kernel)
theorem zi_24 : Cond.selects zn_A zy_A_plannedCosts zy_A_plannedCosts ∈ zw_all := zw_mem 24 (by decide +kernel) (by decide +kernel)
theorem zi_25 : Cond.selects zn_A zy_A_goesTo zy_A_goesTo ∈ zw_all := zw_mem 25 (by decide +kernel) (by decide +kernel)
theorem zi_26 : Cond.selects zn_M zy_M_isUnit zy_M_isUnit ∈ zw_all := zw_mem 26 (by decide +kernel) (by decide +kernel)
theorem zi_27 : Cond.selects zn_M zy_M_isPlace zy_M_isPlace ∈ zw_all := zw_mem 27 (by decide +kernel) (by decide +kernel)
theorem zi_28 : Cond.selects zn_M zy_M_collect zy_M_collect ∈ zw_all := zw_mem 28 (by decide +kernel) (by decide +kernel)
theorem zi_29 : Cond.selects zn_M zy_M_isGroup zy_M_isGroup ∈ zw_all := zw_mem 29 (by decide +kernel) (by decide +kernel)
theorem zi_30 : Cond.selects zn_M zy_M_isAllowed zy_M_isAllowed ∈ zw_all := zw_mem 30 (by decide +kernel) (by decide +kernel)
theorem zi_31 : Cond.selects zn_M zy_M_keeps zy_M_keeps ∈ zw_all := zw_mem 31 (by decide +kernel) (by decide +kernel)
theorem zi_32 : Cond.selects zn_M zy_M_sizeOf zy_M_sizeOf ∈ zw_all := zw_mem 32 (by decide +kernel) (by decide +kernel)
theorem zi_33 : Cond.selects zn_M zy_M_costOf zy_M_costOf ∈ zw_all := zw_mem 33 (by decide +kernel) (by decide +kernel)
theorem zi_34 : Cond.selects zn_M zy_M_best zy_M_best ∈ zw_all := zw_mem 34 (by decide +kernel) (by decide +kernel)
theorem zi_35 : Cond.selects zn_M zy_M_lay zy_M_lay ∈ zw_all := zw_mem 35 (by decide +kernel) (by decide +kernel)
theorem zi_36 : Cond.selects zn_M zy_M_oneByOne zy_M_oneByOne ∈ zw_all := zw_mem 36 (by decide +kernel) (by decide +kernel)
theorem zi_37 : Cond.selects zn_M zy_M_cheapest zy_M_cheapest ∈ zw_all := zw_mem 37 (by decide +kernel) (by decide +kernel)
theorem zi_38 : Cond.selects zn_M zy_M_plannedFor zy_M_plannedFor ∈ zw_all := zw_mem 38 (by decide +kernel) (by decide +kernel)
theorem zi_39 : Cond.selects zn_M zy_M_isPlanned zy_M_isPlanned ∈ zw_all := zw_mem 39 (by decide +kernel) (by decide +kernel)
theorem zi_40 : Cond.initialized zn_L ∈ zw_all := zw_mem 40 (by decide +kernel) (by decide +kernel)
theorem zi_41 : Cond.initialized zn_A ∈ zw_all := zw_mem 41 (by decide +kernel) (by decide +kernel)
theorem zi_42 : Cond.initialized zn_G ∈ zw_all := zw_mem 42 (by decide +kernel) (by decide +kernel)
theorem zi_43 : Cond.initialized zn_B ∈ zw_all := zw_mem 43 (by decide +kernel) (by decide +kernel)
theorem zi_44 : Cond.initialized zn_M ∈ zw_all := zw_mem 44 (by decide +kernel) (by decide +kernel)
theorem zi_45 : Cond.initialized "java/lang/Throwable" ∈ zw_all := zw_mem 45 (by decide +kernel) (by decide +kernel)
theorem zi_46 : Cond.initialized "java/lang/Exception" ∈ zw_all := zw_mem 46 (by decide +kernel) (by decide +kernel)
theorem zi_47 : Cond.initialized "java/lang/RuntimeException" ∈ zw_all := zw_mem 47 (by decide +kernel) (by decide +kernel)
theorem zi_48 : Cond.initialized "java/lang/IllegalArgumentException" ∈ zw_all := zw_mem 48 (by decide +kernel) (by decide +kernel)
theorem zi_49 : Cond.initialized "java/lang/UnsupportedOperationException" ∈ zw_all := zw_mem 49 (by decide +kernel) (by decide +kernel)
theorem zi_50 : Cond.initialized zn_U ∈ zw_all := zw_mem 50 (by decide +kernel) (by decide +kernel)
theorem zi_51 : Cond.initialized zn_P ∈ zw_all := zw_mem 51 (by decide +kernel) (by decide +kernel)
theorem zi_52 : Cond.initialized "java/util/NoSuchElementException" ∈ zw_all := zw_mem 52 (by decide +kernel) (by decide +kernel)
theorem zi_53 : Cond.initialized "java/lang/IllegalStateException" ∈ zw_all := zw_mem 53 (by decide +kernel) (by decide +kernel)
theorem zi_54 : Cond.initialized "java/lang/Math" ∈ zw_all := zw_mem 54 (by decide +kernel) (by decide +kernel)
theorem zi_55 : Cond.initialized "java/lang/ArithmeticException" ∈ zw_all := zw_mem 55 (by decide +kernel) (by decide +kernel)
theorem zi_56 : Cond.classLink zn_L 8 zn_A ∈ zw_all := zw_mem 56 (by decide +kernel) (by decide +kernel)
theorem zi_57 : Cond.instantiable zn_A 11 ∈ zw_all := zw_mem 57 (by decide +kernel) (by decide +kernel)
theorem zi_58 : Cond.methodLink zn_L 77 zy_A_init ∈ zw_all := zw_mem 58 (by decide +kernel) (by decide +kernel)
theorem zi_59 : Cond.instanceMethod zy_A_init ∈ zw_all := zw_mem 59 (by decide +kernel) (by decide +kernel)
theorem zi_60 : Cond.code zy_A_init prog_1_method_1_code 2 (Option.none : Option Jvm.ClassFile.FieldType) ∈ zw_all := zw_mem 60 (by decide +kernel) (by decide +kernel)
theorem zi_61 : Cond.methodLink zn_A 1 objectInit ∈ zw_all := zw_mem 61 (by decide +kernel) (by decide +kernel)
theorem zi_62 : Cond.instanceMethod objectInit ∈ zw_all := zw_mem 62 (by decide +kernel) (by decide +kernel)
theorem zi_63 : Cond.code objectInit object_method_1_code 1 (Option.none : Option Jvm.ClassFile.FieldType) ∈ zw_all := zw_mem 63 (by decide +kernel) (by decide +kernel)
theorem zi_64 : Cond.classLink zn_A 9 zn_U ∈ zw_all := zw_mem 64 (by decide +kernel) (by decide +kernel)
theorem zi_66 : Cond.classLink zn_A 15 zn_P ∈ zw_all := zw_mem 66 (by decide +kernel) (by decide +kernel)
theorem zi_68 : Cond.classLink zn_A 25 zn_G ∈ zw_all := zw_mem 68 (by decide +kernel) (by decide +kernel)
theorem zi_69 : Cond.instantiable zn_G 7 ∈ zw_all := zw_mem 69 (by decide +kernel) (by decide +kernel)
theorem zi_71 : Cond.instanceMethod zy_G_init ∈ zw_all := zw_mem 71 (by decide +kernel) (by decide +kernel)
theorem zi_72 : Cond.code zy_G_init prog_3_method_1_code 1 (Option.none : Option Jvm.ClassFile.FieldType) ∈ zw_all := zw_mem 72 (by decide +kernel) (by decide +kernel)
theorem zi_73 : Cond.methodLink zn_G 3 objectInit ∈ zw_all := zw_mem 73 (by decide +kernel) (by decide +kernel)
theorem zi_74 : Cond.fieldLink zn_G 9 zn_G "number" "I" ∈ zw_all := zw_mem 74 (by decide +kernel) (by decide +kernel)
theorem zi_75 : Cond.fieldLink zn_A 195 zn_G "number" "I" ∈ zw_all := zw_mem 75 (by decide +kernel) (by decide +kernel)
theorem zi_76 : Cond.fieldLink zn_G 15 zn_G "count" "I" ∈ zw_all := zw_mem 76 (by decide +kernel) (by decide +kernel)
theorem zi_77 : Cond.fieldLink zn_A 136 zn_G "count" "I" ∈ zw_all := zw_mem 77 (by decide +kernel) (by decide +kernel)
theorem zi_78 : Cond.fieldLink zn_G 18 zn_G "size" "I" ∈ zw_all := zw_mem 78 (by decide +kernel) (by decide +kernel)
theorem zi_79 : Cond.fieldLink zn_A 192 zn_G "size" "I" ∈ zw_all := zw_mem 79 (by decide +kernel) (by decide +kernel)
theorem zi_80 : Cond.fieldLink zn_G 21 zn_G "heaviest" "I" ∈ zw_all := zw_mem 80 (by decide +kernel) (by decide +kernel)
theorem zi_81 : Cond.fieldLink zn_A 267 zn_G "heaviest" "I" ∈ zw_all := zw_mem 81 (by decide +kernel) (by decide +kernel)
theorem zi_82 : Cond.fieldLink zn_G 24 zn_G "kinds" "I" ∈ zw_all := zw_mem 82 (by decide +kernel) (by decide +kernel)
theorem zi_83 : Cond.fieldLink zn_A 258 zn_G "kinds" "I" ∈ zw_all := zw_mem 83 (by decide +kernel) (by decide +kernel)
theorem zi_84 : Cond.fieldLink zn_G 27 zn_G "notAt" "I" ∈ zw_all := zw_mem 84 (by decide +kernel) (by decide +kernel)
theorem zi_85 : Cond.fieldLink zn_A 262 zn_G "notAt" "I" ∈ zw_all := zw_mem 85 (by decide +kernel) (by decide +kernel)
theorem zi_86 : Cond.fieldLink zn_G 30 zn_G "fixed" "I" ∈ zw_all := zw_mem 86 (by decide +kernel) (by decide +kernel)
theorem zi_87 : Cond.fieldLink zn_A 263 zn_G "fixed" "I" ∈ zw_all := zw_mem 87 (by decide +kernel) (by decide +kernel)
theorem zi_103 : Cond.arrayClass Jvm.ClassFile.FieldType.int ∈ zw_all := zw_mem 103 (by decide +kernel) (by decide +kernel)
theorem zi_104 : Cond.classLink zn_A 32 zn_B ∈ zw_all := zw_mem 104 (by decide +kernel) (by decide +kernel)
theorem zi_105 : Cond.instantiable zn_B 9 ∈ zw_all := zw_mem 105 (by decide +kernel) (by decide +kernel)
theorem zi_107 : Cond.instanceMethod zy_B_init ∈ zw_all := zw_mem 107 (by decide +kernel) (by decide +kernel)
theorem zi_108 : Cond.code zy_B_init prog_2_method_1_code 1 (Option.none : Option Jvm.ClassFile.FieldType) ∈ zw_all := zw_mem 108 (by decide +kernel) (by decide +kernel)
theorem zi_109 : Cond.methodLink zn_B 5 objectInit ∈ zw_all := zw_mem 109 (by decide +kernel) (by decide +kernel)
theorem zi_110 : Cond.classLink zn_B 11 "[[J" ∈ zw_all := zw_mem 110 (by decide +kernel) (by decide +kernel)
theorem zi_112 : Cond.fieldLink zn_B 13 zn_B "prices" "[[J" ∈ zw_all := zw_mem 112 (by decide +kernel) (by decide +kernel)
theorem zi_113 : Cond.fieldLink zn_B 16 zn_B "rowShift" "[J" ∈ zw_all := zw_mem 113 (by decide +kernel) (by decide +kernel)
theorem zi_114 : Cond.fieldLink zn_B 20 zn_B "columnShift" "[J" ∈ zw_all := zw_mem 114 (by decide +kernel) (by decide +kernel)
theorem zi_115 : Cond.fieldLink zn_B 23 zn_B "rowWith" "[I" ∈ zw_all := zw_mem 115 (by decide +kernel) (by decide +kernel)
theorem zi_116 : Cond.fieldLink zn_B 27 zn_B "columnBefore" "[I" ∈ zw_all := zw_mem 116 (by decide +kernel) (by decide +kernel)
theorem zi_117 : Cond.fieldLink zn_B 30 zn_B "distance" "[J" ∈ zw_all := zw_mem 117 (by decide +kernel) (by decide +kernel)
theorem zi_118 : Cond.fieldLink zn_B 33 zn_B "reached" "[Z" ∈ zw_all := zw_mem 118 (by decide +kernel) (by decide +kernel)
theorem zi_119 : Cond.fieldLink zn_B 37 zn_B "rows" "I" ∈ zw_all := zw_mem 119 (by decide +kernel) (by decide +kernel)
theorem zi_120 : Cond.fieldLink zn_B 43 zn_B "digitWorth" "J" ∈ zw_all := zw_mem 120 (by decide +kernel) (by decide +kernel)
theorem zi_140 : Cond.arrayClass Jvm.ClassFile.FieldType.long ∈ zw_all := zw_mem 140 (by decide +kernel) (by decide +kernel)
theorem zi_141 : Cond.arrayClass Jvm.ClassFile.FieldType.boolean ∈ zw_all := zw_mem 141 (by decide +kernel) (by decide +kernel)
theorem zi_142 : Cond.fieldLink zn_A 11 zn_A "units" "[LPutAwayAssign$Unit;" ∈ zw_all := zw_mem 142 (by decide +kernel) (by decide +kernel)
theorem zi_143 : Cond.fieldLink zn_A 17 zn_A "places" "[LPutAwayAssign$Place;" ∈ zw_all := zw_mem 143 (by decide +kernel) (by decide +kernel)
theorem zi_144 : Cond.fieldLink zn_A 21 zn_A "weights" "[I" ∈ zw_all := zw_mem 144 (by decide +kernel) (by decide +kernel)
theorem zi_145 : Cond.fieldLink zn_A 28 zn_A "looked" "LPutAwayAssign$Group;" ∈ zw_all := zw_mem 145 (by decide +kernel) (by decide +kernel)
theorem zi_146 : Cond.fieldLink zn_A 35 zn_A "bestPlan" "LPutAwayAssign$BestPlan;" ∈ zw_all := zw_mem 146 (by decide +kernel) (by decide +kernel)
theorem zi_147 : Cond.fieldLink zn_A 39 zn_A "draft" "[I" ∈ zw_all := zw_mem 147 (by decide +kernel) (by decide +kernel)
theorem zi_148 : Cond.fieldLink zn_A 60 zn_A "unitCount" "I" ∈ zw_all := zw_mem 148 (by decide +kernel) (by decide +kernel)
theorem zi_149 : Cond.fieldLink zn_A 75 zn_A "placeCount" "I" ∈ zw_all := zw_mem 149 (by decide +kernel) (by decide +kernel)
theorem zi_150 : Cond.fieldLink zn_A 42 zn_A "exactLimit" "I" ∈ zw_all := zw_mem 150 (by decide +kernel) (by decide +kernel)
theorem zi_151 : Cond.fieldLink zn_A 46 zn_A "cartSize" "I" ∈ zw_all := zw_mem 151 (by decide +kernel) (by decide +kernel)
theorem zi_152 : Cond.fieldLink zn_A 161 zn_A "madeAsBest" "Z" ∈ zw_all := zw_mem 152 (by decide +kernel) (by decide +kernel)
theorem zi_176 : Cond.methodLink zn_L 123 zy_A_exact ∈ zw_all := zw_mem 176 (by decide +kernel) (by decide +kernel)
theorem zi_177 : Cond.instanceMethod zy_A_exact ∈ zw_all := zw_mem 177 (by decide +kernel) (by decide +kernel)
theorem zi_178 : Cond.selects zn_A zy_A_exact zy_A_exact ∈ zw_all := zw_mem 178 (by decide +kernel) (by decide +kernel)
theorem zi_179 : Cond.code zy_A_exact prog_1_method_12_code 1 (Option.some Jvm.ClassFile.FieldType.boolean) ∈ zw_all := zw_mem 179 (by decide +kernel) (by decide +kernel)
theorem zi_180 : Cond.methodLink zn_L 128 zy_A_bound ∈ zw_all := zw_mem 180 (by decide +kernel) (by decide +kernel)
theorem zi_181 : Cond.instanceMethod zy_A_bound ∈ zw_all := zw_mem 181 (by decide +kernel) (by decide +kernel)
theorem zi_182 : Cond.selects zn_A zy_A_bound zy_A_bound ∈ zw_all := zw_mem 182 (by decide +kernel) (by decide +kernel)
theorem zi_183 : Cond.code zy_A_bound prog_1_method_13_code 5 (Option.some Jvm.ClassFile.FieldType.int) ∈ zw_all := zw_mem 183 (by decide +kernel) (by decide +kernel)
theorem zi_184 : Cond.methodLink zn_A 167 zy_A_isGroup ∈ zw_all := zw_mem 184 (by decide +kernel) (by decide +kernel)
theorem zi_186 : Cond.instanceMethod zy_A_isGroup ∈ zw_all := zw_mem 186 (by decide +kernel) (by decide +kernel)
theorem zi_187 : Cond.code zy_A_isGroup prog_1_method_26_code 2 (Option.some Jvm.ClassFile.FieldType.boolean) ∈ zw_all := zw_mem 187 (by decide +kernel) (by decide +kernel)
theorem zi_188 : Cond.methodLink zn_A 244 zy_A_isIn ∈ zw_all := zw_mem 188 (by decide +kernel) (by decide +kernel)
theorem zi_190 : Cond.instanceMethod zy_A_isIn ∈ zw_all := zw_mem 190 (by decide +kernel) (by decide +kernel)
theorem zi_191 : Cond.code zy_A_isIn prog_1_method_25_code 3 (Option.some Jvm.ClassFile.FieldType.boolean) ∈ zw_all := zw_mem 191 (by decide +kernel) (by decide +kernel)
theorem zi_192 : Cond.methodLink zn_A 132 zy_A_gather ∈ zw_all := zw_mem 192 (by decide +kernel) (by decide +kernel)
theorem zi_194 : Cond.instanceMethod zy_A_gather ∈ zw_all := zw_mem 194 (by decide +kernel) (by decide +kernel)
theorem zi_195 : Cond.code zy_A_gather prog_1_method_31_code 3 (Option.some (Jvm.ClassFile.FieldType.object "PutAwayAssign$Group")) ∈ zw_all := zw_mem 195 (by decide +kernel) (by decide +kernel)
theorem zi_196 : Cond.methodLink zn_A 248 zy_G_clear ∈ zw_all := zw_mem 196 (by decide +kernel) (by decide +kernel)
theorem zi_197 : Cond.instanceMethod zy_G_clear ∈ zw_all := zw_mem 197 (by decide +kernel) (by decide +kernel)
theorem zi_198 : Cond.selects zn_G zy_G_clear zy_G_clear ∈ zw_all := zw_mem 198 (by decide +kernel) (by decide +kernel)
theorem zi_199 : Cond.code zy_G_clear prog_3_method_2_code 2 (Option.none : Option Jvm.ClassFile.FieldType) ∈ zw_all := zw_mem 199 (by decide +kernel) (by decide +kernel)
theorem zi_200 : Cond.methodLink zn_A 254 zy_G_take ∈ zw_all := zw_mem 200 (by decide +kernel) (by decide +kernel)
theorem zi_201 : Cond.instanceMethod zy_G_take ∈ zw_all := zw_mem 201 (by decide +kernel) (by decide +kernel)
theorem zi_202 : Cond.selects zn_G zy_G_take zy_G_take ∈ zw_all := zw_mem 202 (by decide +kernel) (by decide +kernel)
theorem zi_203 : Cond.code zy_G_take prog_3_method_3_code 3 (Option.none : Option Jvm.ClassFile.FieldType) ∈ zw_all := zw_mem 203 (by decide +kernel) (by decide +kernel)
theorem zi_204 : Cond.methodLink zn_G 36 ⟨"java/lang/Math", "max", "(II)I"⟩ ∈ zw_all := zw_mem 204 (by decide +kernel) (by decide +kernel)
theorem zi_205 : Cond.static ⟨"java/lang/Math", "max", "(II)I"⟩ ∈ zw_all := zw_mem 205 (by decide +kernel) (by decide +kernel)
theorem zi_206 : Cond.code ⟨"java/lang/Math", "max", "(II)I"⟩ prog_12_method_65_code 2 (Option.some Jvm.ClassFile.FieldType.int) ∈ zw_all := zw_mem 206 (by decide +kernel) (by decide +kernel)
theorem zi_207 : Cond.methodLink zn_A 171 zy_A_cheapestPlace ∈ zw_all := zw_mem 207 (by decide +kernel) (by decide +kernel)
theorem zi_209 : Cond.instanceMethod zy_A_cheapestPlace ∈ zw_all := zw_mem 209 (by decide +kernel) (by decide +kernel)
theorem zi_210 : Cond.code zy_A_cheapestPlace prog_1_method_40_code 7 (Option.some Jvm.ClassFile.FieldType.int) ∈ zw_all := zw_mem 210 (by decide +kernel) (by decide +kernel)
theorem zi_211 : Cond.methodLink zn_A 178 zy_A_brokenRule ∈ zw_all := zw_mem 211 (by decide +kernel) (by decide +kernel)
theorem zi_213 : Cond.instanceMethod zy_A_brokenRule ∈ zw_all := zw_mem 213 (by decide +kernel) (by decide +kernel)
theorem zi_214 : Cond.code zy_A_brokenRule prog_1_method_38_code 4 (Option.some Jvm.ClassFile.FieldType.int) ∈ zw_all := zw_mem 214 (by decide +kernel) (by decide +kernel)
theorem zi_215 : Cond.methodLink zn_A 175 zy_A_costAt ∈ zw_all := zw_mem 215 (by decide +kernel) (by decide +kernel)
theorem zi_217 : Cond.instanceMethod zy_A_costAt ∈ zw_all := zw_mem 217 (by decide +kernel) (by decide +kernel)
theorem zi_218 : Cond.code zy_A_costAt prog_1_method_39_code 4 (Option.some Jvm.ClassFile.FieldType.int) ∈ zw_all := zw_mem 218 (by decide +kernel) (by decide +kernel)
theorem zi_219 : Cond.methodLink zn_L 154 zy_A_count ∈ zw_all := zw_mem 219 (by decide +kernel) (by decide +kernel)
theorem zi_220 : Cond.instanceMethod zy_A_count ∈ zw_all := zw_mem 220 (by decide +kernel) (by decide +kernel)
theorem zi_221 : Cond.selects zn_A zy_A_count zy_A_count ∈ zw_all := zw_mem 221 (by decide +kernel) (by decide +kernel)
theorem zi_222 : Cond.code zy_A_count prog_1_method_21_code 2 (Option.some Jvm.ClassFile.FieldType.int) ∈ zw_all := zw_mem 222 (by decide +kernel) (by decide +kernel)
theorem zi_223 : Cond.methodLink zn_A 148 zy_A_groupCount ∈ zw_all := zw_mem 223 (by decide +kernel) (by decide +kernel)
theorem zi_225 : Cond.instanceMethod zy_A_groupCount ∈ zw_all := zw_mem 225 (by decide +kernel) (by decide +kernel)
theorem zi_226 : Cond.code zy_A_groupCount prog_1_method_29_code 3 (Option.some Jvm.ClassFile.FieldType.int) ∈ zw_all := zw_mem 226 (by decide +kernel) (by decide +kernel)
theorem zi_227 : Cond.methodLink zn_A 234 zy_A_doneCount ∈ zw_all := zw_mem 227 (by decide +kernel) (by decide +kernel)
theorem zi_229 : Cond.instanceMethod zy_A_doneCount ∈ zw_all := zw_mem 229 (by decide +kernel) (by decide +kernel)
theorem zi_230 : Cond.code zy_A_doneCount prog_1_method_30_code 3 (Option.some Jvm.ClassFile.FieldType.int) ∈ zw_all := zw_mem 230 (by decide +kernel) (by decide +kernel)
theorem zi_231 : Cond.methodLink zn_L 81 zy_L_unit ∈ zw_all := zw_mem 231 (by decide +kernel) (by decide +kernel)
theorem zi_232 : Cond.static zy_L_unit ∈ zw_all := zw_mem 232 (by decide +kernel) (by decide +kernel)
theorem zi_233 : Cond.codeWith zy_L_unit method_3_code 5 (Option.some Jvm.ClassFile.FieldType.int) [((0 : Nat), (10 : Nat), (13 : Nat), (13 : Nat)), ((0 : Nat), (10 : Nat), (17 : Nat), (15 : Nat))] ∈ zw_all := zw_mem 233 (by decide +kernel) (by decide +kernel)
theorem zi_234 : Cond.classLink zn_L 13 "java/lang/IllegalArgumentException" ∈ zw_all := zw_mem 234 (by decide +kernel) (by decide +kernel)
theorem zi_235 : Cond.classLink zn_L 15 "java/lang/UnsupportedOperationException" ∈ zw_all := zw_mem 235 (by decide +kernel) (by decide +kernel)
theorem zi_236 : Cond.methodLink zn_L 7 zy_A_unit ∈ zw_all := zw_mem 236 (by decide +kernel) (by decide +kernel)
theorem zi_237 : Cond.instanceMethod zy_A_unit ∈ zw_all := zw_mem 237 (by decide +kernel) (by decide +kernel)
theorem zi_238 : Cond.selects zn_A zy_A_unit zy_A_unit ∈ zw_all := zw_mem 238 (by decide +kernel) (by decide +kernel)
theorem zi_239 : Cond.code zy_A_unit prog_1_method_2_code 3 (Option.some Jvm.ClassFile.FieldType.int) ∈ zw_all := zw_mem 239 (by decide +kernel) (by decide +kernel)
theorem zi_240 : Cond.methodLink zn_A 49 zy_A_outside ∈ zw_all := zw_mem 240 (by decide +kernel) (by decide +kernel)
theorem zi_241 : Cond.static zy_A_outside ∈ zw_all := zw_mem 241 (by decide +kernel) (by decide +kernel)
theorem zi_242 : Cond.code zy_A_outside prog_1_method_22_code 3 (Option.some Jvm.ClassFile.FieldType.boolean) ∈ zw_all := zw_mem 242 (by decide +kernel) (by decide +kernel)
theorem zi_243 : Cond.classLink zn_A 53 "java/lang/IllegalArgumentException" ∈ zw_all := zw_mem 243 (by decide +kernel) (by decide +kernel)
theorem zi_287 : Cond.methodLink zn_A 57 ⟨"java/lang/IllegalArgumentException", "<init>", "(Ljava/lang/String;)V"⟩ ∈ zw_all := zw_mem 287 (by decide +kernel) (by decide +kernel)
theorem zi_312 : Cond.arrayClass Jvm.ClassFile.FieldType.byte ∈ zw_all := zw_mem 312 (by decide +kernel) (by decide +kernel)
theorem zi_313 : Cond.classLink zn_A 63 "java/lang/UnsupportedOperationException" ∈ zw_all := zw_mem 313 (by decide +kernel) (by decide +kernel)
theorem zi_323 : Cond.methodLink zn_A 67 ⟨"java/lang/UnsupportedOperationException", "<init>", "(Ljava/lang/String;)V"⟩ ∈ zw_all := zw_mem 323 (by decide +kernel) (by decide +kernel)
theorem zi_329 : Cond.instantiable zn_U 8 ∈ zw_all := zw_mem 329 (by decide +kernel) (by decide +kernel)
theorem zi_330 : Cond.methodLink zn_A 68 zy_U_init ∈ zw_all := zw_mem 330 (by decide +kernel) (by decide +kernel)
theorem zi_331 : Cond.instanceMethod zy_U_init ∈ zw_all := zw_mem 331 (by decide +kernel) (by decide +kernel)
theorem zi_332 : Cond.code zy_U_init prog_5_method_1_code 5 (Option.none : Option Jvm.ClassFile.FieldType) ∈ zw_all := zw_mem 332 (by decide +kernel) (by decide +kernel)
theorem zi_333 : Cond.methodLink zn_U 3 objectInit ∈ zw_all := zw_mem 333 (by decide +kernel) (by decide +kernel)
theorem zi_334 : Cond.fieldLink zn_U 22 zn_U "kind" "I" ∈ zw_all := zw_mem 334 (by decide +kernel) (by decide +kernel)
theorem zi_335 : Cond.fieldLink zn_G 42 zn_U "kind" "I" ∈ zw_all := zw_mem 335 (by decide +kernel) (by decide +kernel)
theorem zi_336 : Cond.fieldLink zn_A 251 zn_U "kind" "I" ∈ zw_all := zw_mem 336 (by decide +kernel) (by decide +kernel)
theorem zi_337 : Cond.fieldLink zn_U 25 zn_U "size" "I" ∈ zw_all := zw_mem 337 (by decide +kernel) (by decide +kernel)
theorem zi_338 : Cond.fieldLink zn_G 33 zn_U "size" "I" ∈ zw_all := zw_mem 338 (by decide +kernel) (by decide +kernel)
theorem zi_339 : Cond.fieldLink zn_A 228 zn_U "size" "I" ∈ zw_all := zw_mem 339 (by decide +kernel) (by decide +kernel)
theorem zi_340 : Cond.fieldLink zn_U 28 zn_U "group" "I" ∈ zw_all := zw_mem 340 (by decide +kernel) (by decide +kernel)
theorem zi_341 : Cond.fieldLink zn_A 111 zn_U "group" "I" ∈ zw_all := zw_mem 341 (by decide +kernel) (by decide +kernel)
theorem zi_342 : Cond.fieldLink zn_U 9 zn_U "stand" "I" ∈ zw_all := zw_mem 342 (by decide +kernel) (by decide +kernel)
theorem zi_343 : Cond.fieldLink zn_A 164 zn_U "stand" "I" ∈ zw_all := zw_mem 343 (by decide +kernel) (by decide +kernel)
theorem zi_344 : Cond.fieldLink zn_U 15 zn_U "fixed" "I" ∈ zw_all := zw_mem 344 (by decide +kernel) (by decide +kernel)
theorem zi_345 : Cond.fieldLink zn_G 46 zn_U "fixed" "I" ∈ zw_all := zw_mem 345 (by decide +kernel) (by decide +kernel)
theorem zi_346 : Cond.fieldLink zn_A 141 zn_U "fixed" "I" ∈ zw_all := zw_mem 346 (by decide +kernel) (by decide +kernel)
theorem zi_347 : Cond.fieldLink zn_A 102 zn_U "done" "Z" ∈ zw_all := zw_mem 347 (by decide +kernel) (by decide +kernel)
theorem zi_348 : Cond.fieldLink zn_G 45 zn_U "notAt" "I" ∈ zw_all := zw_mem 348 (by decide +kernel) (by decide +kernel)
theorem zi_349 : Cond.fieldLink zn_A 93 zn_U "notAt" "I" ∈ zw_all := zw_mem 349 (by decide +kernel) (by decide +kernel)
theorem zi_350 : Cond.fieldLink zn_U 18 zn_U "toldCosts" "[I" ∈ zw_all := zw_mem 350 (by decide +kernel) (by decide +kernel)
theorem zi_351 : Cond.fieldLink zn_A 99 zn_U "toldCosts" "[I" ∈ zw_all := zw_mem 351 (by decide +kernel) (by decide +kernel)
theorem zi_369 : Cond.methodLink zn_L 91 zy_L_place ∈ zw_all := zw_mem 369 (by decide +kernel) (by decide +kernel)
theorem zi_370 : Cond.static zy_L_place ∈ zw_all := zw_mem 370 (by decide +kernel) (by decide +kernel)
theorem zi_371 : Cond.codeWith zy_L_place method_4_code 7 (Option.some Jvm.ClassFile.FieldType.int) [((0 : Nat), (14 : Nat), (17 : Nat), (13 : Nat)), ((0 : Nat), (14 : Nat), (21 : Nat), (15 : Nat))] ∈ zw_all := zw_mem 371 (by decide +kernel) (by decide +kernel)
theorem zi_372 : Cond.methodLink zn_L 17 zy_A_place ∈ zw_all := zw_mem 372 (by decide +kernel) (by decide +kernel)
theorem zi_373 : Cond.instanceMethod zy_A_place ∈ zw_all := zw_mem 373 (by decide +kernel) (by decide +kernel)
theorem zi_374 : Cond.selects zn_A zy_A_place zy_A_place ∈ zw_all := zw_mem 374 (by decide +kernel) (by decide +kernel)
theorem zi_375 : Cond.code zy_A_place prog_1_method_3_code 5 (Option.some Jvm.ClassFile.FieldType.int) ∈ zw_all := zw_mem 375 (by decide +kernel) (by decide +kernel)
theorem zi_379 : Cond.instantiable zn_P 5 ∈ zw_all := zw_mem 379 (by decide +kernel) (by decide +kernel)
theorem zi_380 : Cond.methodLink zn_A 80 zy_P_init ∈ zw_all := zw_mem 380 (by decide +kernel) (by decide +kernel)
theorem zi_381 : Cond.instanceMethod zy_P_init ∈ zw_all := zw_mem 381 (by decide +kernel) (by decide +kernel)
theorem zi_382 : Cond.code zy_P_init prog_4_method_1_code 5 (Option.none : Option Jvm.ClassFile.FieldType) ∈ zw_all := zw_mem 382 (by decide +kernel) (by decide +kernel)
theorem zi_383 : Cond.methodLink zn_P 1 objectInit ∈ zw_all := zw_mem 383 (by decide +kernel) (by decide +kernel)
theorem zi_384 : Cond.fieldLink zn_P 7 zn_P "kinds" "I" ∈ zw_all := zw_mem 384 (by decide +kernel) (by decide +kernel)
theorem zi_385 : Cond.fieldLink zn_A 261 zn_P "kinds" "I" ∈ zw_all := zw_mem 385 (by decide +kernel) (by decide +kernel)
theorem zi_386 : Cond.fieldLink zn_P 13 zn_P "zone" "I" ∈ zw_all := zw_mem 386 (by decide +kernel) (by decide +kernel)
theorem zi_387 : Cond.fieldLink zn_A 229 zn_P "zone" "I" ∈ zw_all := zw_mem 387 (by decide +kernel) (by decide +kernel)
theorem zi_388 : Cond.fieldLink zn_P 19 zn_P "way" "I" ∈ zw_all := zw_mem 388 (by decide +kernel) (by decide +kernel)
theorem zi_389 : Cond.fieldLink zn_A 264 zn_P "way" "I" ∈ zw_all := zw_mem 389 (by decide +kernel) (by decide +kernel)
theorem zi_390 : Cond.fieldLink zn_P 16 zn_P "free" "I" ∈ zw_all := zw_mem 390 (by decide +kernel) (by decide +kernel)
theorem zi_391 : Cond.fieldLink zn_A 189 zn_P "free" "I" ∈ zw_all := zw_mem 391 (by decide +kernel) (by decide +kernel)
theorem zi_392 : Cond.fieldLink zn_A 202 zn_P "blocked" "Z" ∈ zw_all := zw_mem 392 (by decide +kernel) (by decide +kernel)
theorem zi_404 : Cond.methodLink zn_L 95 zy_L_weight ∈ zw_all := zw_mem 404 (by decide +kernel) (by decide +kernel)
theorem zi_405 : Cond.static zy_L_weight ∈ zw_all := zw_mem 405 (by decide +kernel) (by decide +kernel)
theorem zi_406 : Cond.codeWith zy_L_weight method_5_code 4 (Option.some Jvm.ClassFile.FieldType.int) [((0 : Nat), (6 : Nat), (9 : Nat), (13 : Nat))] ∈ zw_all := zw_mem 406 (by decide +kernel) (by decide +kernel)
theorem zi_407 : Cond.methodLink zn_L 21 zy_A_weight ∈ zw_all := zw_mem 407 (by decide +kernel) (by decide +kernel)
theorem zi_408 : Cond.instanceMethod zy_A_weight ∈ zw_all := zw_mem 408 (by decide +kernel) (by decide +kernel)
theorem zi_409 : Cond.selects zn_A zy_A_weight zy_A_weight ∈ zw_all := zw_mem 409 (by decide +kernel) (by decide +kernel)
theorem zi_410 : Cond.code zy_A_weight prog_1_method_4_code 3 (Option.none : Option Jvm.ClassFile.FieldType) ∈ zw_all := zw_mem 410 (by decide +kernel) (by decide +kernel)
theorem zi_412 : Cond.methodLink zn_L 99 zy_L_fits ∈ zw_all := zw_mem 412 (by decide +kernel) (by decide +kernel)
theorem zi_413 : Cond.static zy_L_fits ∈ zw_all := zw_mem 413 (by decide +kernel) (by decide +kernel)
theorem zi_414 : Cond.codeWith zy_L_fits method_6_code 5 (Option.some Jvm.ClassFile.FieldType.int) [((0 : Nat), (7 : Nat), (10 : Nat), (29 : Nat))] ∈ zw_all := zw_mem 414 (by decide +kernel) (by decide +kernel)
theorem zi_415 : Cond.classLink zn_L 29 "java/util/NoSuchElementException" ∈ zw_all := zw_mem 415 (by decide +kernel) (by decide +kernel)
theorem zi_416 : Cond.methodLink zn_L 25 zy_A_fits ∈ zw_all := zw_mem 416 (by decide +kernel) (by decide +kernel)
theorem zi_417 : Cond.instanceMethod zy_A_fits ∈ zw_all := zw_mem 417 (by decide +kernel) (by decide +kernel)
theorem zi_418 : Cond.selects zn_A zy_A_fits zy_A_fits ∈ zw_all := zw_mem 418 (by decide +kernel) (by decide +kernel)
theorem zi_419 : Cond.code zy_A_fits prog_1_method_5_code 5 (Option.none : Option Jvm.ClassFile.FieldType) ∈ zw_all := zw_mem 419 (by decide +kernel) (by decide +kernel)
theorem zi_420 : Cond.methodLink zn_A 85 zy_A_unitOf ∈ zw_all := zw_mem 420 (by decide +kernel) (by decide +kernel)
theorem zi_422 : Cond.instanceMethod zy_A_unitOf ∈ zw_all := zw_mem 422 (by decide +kernel) (by decide +kernel)
theorem zi_423 : Cond.code zy_A_unitOf prog_1_method_23_code 2 (Option.some (Jvm.ClassFile.FieldType.object "PutAwayAssign$Unit")) ∈ zw_all := zw_mem 423 (by decide +kernel) (by decide +kernel)
theorem zi_424 : Cond.classLink zn_A 237 "java/util/NoSuchElementException" ∈ zw_all := zw_mem 424 (by decide +kernel) (by decide +kernel)
theorem zi_434 : Cond.methodLink zn_A 241 ⟨"java/util/NoSuchElementException", "<init>", "(Ljava/lang/String;)V"⟩ ∈ zw_all := zw_mem 434 (by decide +kernel) (by decide +kernel)
theorem zi_440 : Cond.methodLink zn_A 89 zy_A_placeOf ∈ zw_all := zw_mem 440 (by decide +kernel) (by decide +kernel)
theorem zi_442 : Cond.instanceMethod zy_A_placeOf ∈ zw_all := zw_mem 442 (by decide +kernel) (by decide +kernel)
theorem zi_443 : Cond.code zy_A_placeOf prog_1_method_24_code 2 (Option.some (Jvm.ClassFile.FieldType.object "PutAwayAssign$Place")) ∈ zw_all := zw_mem 443 (by decide +kernel) (by decide +kernel)
theorem zi_445 : Cond.methodLink zn_L 103 zy_L_cost ∈ zw_all := zw_mem 445 (by decide +kernel) (by decide +kernel)
theorem zi_446 : Cond.static zy_L_cost ∈ zw_all := zw_mem 446 (by decide +kernel) (by decide +kernel)
theorem zi_447 : Cond.codeWith zy_L_cost method_7_code 5 (Option.some Jvm.ClassFile.FieldType.int) [((0 : Nat), (7 : Nat), (10 : Nat), (29 : Nat)), ((0 : Nat), (7 : Nat), (14 : Nat), (13 : Nat))] ∈ zw_all := zw_mem 447 (by decide +kernel) (by decide +kernel)
theorem zi_448 : Cond.methodLink zn_L 31 zy_A_cost ∈ zw_all := zw_mem 448 (by decide +kernel) (by decide +kernel)
theorem zi_449 : Cond.instanceMethod zy_A_cost ∈ zw_all := zw_mem 449 (by decide +kernel) (by decide +kernel)
theorem zi_450 : Cond.selects zn_A zy_A_cost zy_A_cost ∈ zw_all := zw_mem 450 (by decide +kernel) (by decide +kernel)
theorem zi_451 : Cond.code zy_A_cost prog_1_method_6_code 5 (Option.none : Option Jvm.ClassFile.FieldType) ∈ zw_all := zw_mem 451 (by decide +kernel) (by decide +kernel)
theorem zi_452 : Cond.constant zn_A 96 1000000 ∈ zw_all := zw_mem 452 (by decide +kernel) (by decide +kernel)
theorem zi_454 : Cond.methodLink zn_L 107 zy_L_together ∈ zw_all := zw_mem 454 (by decide +kernel) (by decide +kernel)
theorem zi_455 : Cond.static zy_L_together ∈ zw_all := zw_mem 455 (by decide +kernel) (by decide +kernel)
theorem zi_456 : Cond.codeWith zy_L_together method_8_code 5 (Option.some Jvm.ClassFile.FieldType.int) [((0 : Nat), (10 : Nat), (13 : Nat), (29 : Nat)), ((0 : Nat), (10 : Nat), (17 : Nat), (38 : Nat))] ∈ zw_all := zw_mem 456 (by decide +kernel) (by decide +kernel)
theorem zi_457 : Cond.classLink zn_L 38 "java/lang/IllegalStateException" ∈ zw_all := zw_mem 457 (by decide +kernel) (by decide +kernel)
theorem zi_458 : Cond.methodLink zn_L 35 zy_A_together ∈ zw_all := zw_mem 458 (by decide +kernel) (by decide +kernel)
theorem zi_459 : Cond.instanceMethod zy_A_together ∈ zw_all := zw_mem 459 (by decide +kernel) (by decide +kernel)
theorem zi_460 : Cond.selects zn_A zy_A_together zy_A_together ∈ zw_all := zw_mem 460 (by decide +kernel) (by decide +kernel)
theorem zi_461 : Cond.code zy_A_together prog_1_method_7_code 6 (Option.some Jvm.ClassFile.FieldType.int) ∈ zw_all := zw_mem 461 (by decide +kernel) (by decide +kernel)
theorem zi_462 : Cond.classLink zn_A 106 "java/lang/IllegalStateException" ∈ zw_all := zw_mem 462 (by decide +kernel) (by decide +kernel)
theorem zi_472 : Cond.methodLink zn_A 110 ⟨"java/lang/IllegalStateException", "<init>", "(Ljava/lang/String;)V"⟩ ∈ zw_all := zw_mem 472 (by decide +kernel) (by decide +kernel)
theorem zi_479 : Cond.methodLink zn_A 116 ⟨"java/lang/Math", "min", "(II)I"⟩ ∈ zw_all := zw_mem 479 (by decide +kernel) (by decide +kernel)
theorem zi_480 : Cond.static ⟨"java/lang/Math", "min", "(II)I"⟩ ∈ zw_all := zw_mem 480 (by decide +kernel) (by decide +kernel)
theorem zi_481 : Cond.code ⟨"java/lang/Math", "min", "(II)I"⟩ prog_12_method_69_code 2 (Option.some Jvm.ClassFile.FieldType.int) ∈ zw_all := zw_mem 481 (by decide +kernel) (by decide +kernel)
theorem zi_482 : Cond.methodLink zn_A 122 ⟨"java/lang/Math", "max", "(II)I"⟩ ∈ zw_all := zw_mem 482 (by decide +kernel) (by decide +kernel)
theorem zi_483 : Cond.methodLink zn_A 125 zy_A_join ∈ zw_all := zw_mem 483 (by decide +kernel) (by decide +kernel)
theorem zi_485 : Cond.instanceMethod zy_A_join ∈ zw_all := zw_mem 485 (by decide +kernel) (by decide +kernel)
theorem zi_486 : Cond.code zy_A_join prog_1_method_32_code 4 (Option.none : Option Jvm.ClassFile.FieldType) ∈ zw_all := zw_mem 486 (by decide +kernel) (by decide +kernel)
theorem zi_487 : Cond.methodLink zn_A 129 zy_A_planFor ∈ zw_all := zw_mem 487 (by decide +kernel) (by decide +kernel)
theorem zi_489 : Cond.instanceMethod zy_A_planFor ∈ zw_all := zw_mem 489 (by decide +kernel) (by decide +kernel)
theorem zi_490 : Cond.code zy_A_planFor prog_1_method_33_code 4 (Option.none : Option Jvm.ClassFile.FieldType) ∈ zw_all := zw_mem 490 (by decide +kernel) (by decide +kernel)
theorem zi_491 : Cond.methodLink zn_L 110 zy_L_fix ∈ zw_all := zw_mem 491 (by decide +kernel) (by decide +kernel)
theorem zi_492 : Cond.static zy_L_fix ∈ zw_all := zw_mem 492 (by decide +kernel) (by decide +kernel)
theorem zi_493 : Cond.codeWith zy_L_fix method_9_code 4 (Option.some Jvm.ClassFile.FieldType.int) [((0 : Nat), (6 : Nat), (9 : Nat), (29 : Nat)), ((0 : Nat), (6 : Nat), (12 : Nat), (38 : Nat))] ∈ zw_all := zw_mem 493 (by decide +kernel) (by decide +kernel)
theorem zi_494 : Cond.methodLink zn_L 40 zy_A_fix ∈ zw_all := zw_mem 494 (by decide +kernel) (by decide +kernel)
theorem zi_495 : Cond.instanceMethod zy_A_fix ∈ zw_all := zw_mem 495 (by decide +kernel) (by decide +kernel)
theorem zi_496 : Cond.selects zn_A zy_A_fix zy_A_fix ∈ zw_all := zw_mem 496 (by decide +kernel) (by decide +kernel)
theorem zi_497 : Cond.code zy_A_fix prog_1_method_8_code 4 (Option.none : Option Jvm.ClassFile.FieldType) ∈ zw_all := zw_mem 497 (by decide +kernel) (by decide +kernel)
theorem zi_499 : Cond.methodLink zn_L 113 zy_L_limits ∈ zw_all := zw_mem 499 (by decide +kernel) (by decide +kernel)
theorem zi_500 : Cond.static zy_L_limits ∈ zw_all := zw_mem 500 (by decide +kernel) (by decide +kernel)
theorem zi_501 : Cond.codeWith zy_L_limits method_10_code 4 (Option.some Jvm.ClassFile.FieldType.int) [((0 : Nat), (6 : Nat), (9 : Nat), (13 : Nat))] ∈ zw_all := zw_mem 501 (by decide +kernel) (by decide +kernel)
theorem zi_502 : Cond.methodLink zn_L 43 zy_A_limits ∈ zw_all := zw_mem 502 (by decide +kernel) (by decide +kernel)
theorem zi_503 : Cond.instanceMethod zy_A_limits ∈ zw_all := zw_mem 503 (by decide +kernel) (by decide +kernel)
theorem zi_504 : Cond.selects zn_A zy_A_limits zy_A_limits ∈ zw_all := zw_mem 504 (by decide +kernel) (by decide +kernel)
theorem zi_505 : Cond.code zy_A_limits prog_1_method_9_code 3 (Option.none : Option Jvm.ClassFile.FieldType) ∈ zw_all := zw_mem 505 (by decide +kernel) (by decide +kernel)
theorem zi_507 : Cond.methodLink zn_L 116 zy_L_assign ∈ zw_all := zw_mem 507 (by decide +kernel) (by decide +kernel)
theorem zi_508 : Cond.static zy_L_assign ∈ zw_all := zw_mem 508 (by decide +kernel) (by decide +kernel)
theorem zi_509 : Cond.codeWith zy_L_assign method_11_code 4 (Option.some Jvm.ClassFile.FieldType.int) [((0 : Nat), (9 : Nat), (12 : Nat), (13 : Nat))] ∈ zw_all := zw_mem 509 (by decide +kernel) (by decide +kernel)
theorem zi_510 : Cond.methodLink zn_L 46 zy_A_assign ∈ zw_all := zw_mem 510 (by decide +kernel) (by decide +kernel)
theorem zi_511 : Cond.instanceMethod zy_A_assign ∈ zw_all := zw_mem 511 (by decide +kernel) (by decide +kernel)
theorem zi_512 : Cond.selects zn_A zy_A_assign zy_A_assign ∈ zw_all := zw_mem 512 (by decide +kernel) (by decide +kernel)
theorem zi_513 : Cond.code zy_A_assign prog_1_method_10_code 4 (Option.some Jvm.ClassFile.FieldType.int) ∈ zw_all := zw_mem 513 (by decide +kernel) (by decide +kernel)
theorem zi_515 : Cond.methodLink zn_A 152 zy_A_draftBest ∈ zw_all := zw_mem 515 (by decide +kernel) (by decide +kernel)
theorem zi_517 : Cond.instanceMethod zy_A_draftBest ∈ zw_all := zw_mem 517 (by decide +kernel) (by decide +kernel)
theorem zi_518 : Cond.code zy_A_draftBest prog_1_method_42_code 4 (Option.some Jvm.ClassFile.FieldType.int) ∈ zw_all := zw_mem 518 (by decide +kernel) (by decide +kernel)
theorem zi_519 : Cond.methodLink zn_A 270 zy_B_clear ∈ zw_all := zw_mem 519 (by decide +kernel) (by decide +kernel)
theorem zi_520 : Cond.instanceMethod zy_B_clear ∈ zw_all := zw_mem 520 (by decide +kernel) (by decide +kernel)
theorem zi_521 : Cond.selects zn_B zy_B_clear zy_B_clear ∈ zw_all := zw_mem 521 (by decide +kernel) (by decide +kernel)
theorem zi_522 : Cond.code zy_B_clear prog_2_method_2_code 2 (Option.none : Option Jvm.ClassFile.FieldType) ∈ zw_all := zw_mem 522 (by decide +kernel) (by decide +kernel)
theorem zi_523 : Cond.constantLong zn_B 41 815730721 ∈ zw_all := zw_mem 523 (by decide +kernel) (by decide +kernel)
theorem zi_524 : Cond.methodLink zn_A 272 zy_A_offerPlaces ∈ zw_all := zw_mem 524 (by decide +kernel) (by decide +kernel)
theorem zi_526 : Cond.instanceMethod zy_A_offerPlaces ∈ zw_all := zw_mem 526 (by decide +kernel) (by decide +kernel)
theorem zi_527 : Cond.code zy_A_offerPlaces prog_1_method_43_code 3 (Option.none : Option Jvm.ClassFile.FieldType) ∈ zw_all := zw_mem 527 (by decide +kernel) (by decide +kernel)
theorem zi_528 : Cond.methodLink zn_A 282 zy_B_addGroup ∈ zw_all := zw_mem 528 (by decide +kernel) (by decide +kernel)
theorem zi_529 : Cond.instanceMethod zy_B_addGroup ∈ zw_all := zw_mem 529 (by decide +kernel) (by decide +kernel)
theorem zi_530 : Cond.selects zn_B zy_B_addGroup zy_B_addGroup ∈ zw_all := zw_mem 530 (by decide +kernel) (by decide +kernel)
theorem zi_531 : Cond.code zy_B_addGroup prog_2_method_3_code 2 (Option.none : Option Jvm.ClassFile.FieldType) ∈ zw_all := zw_mem 531 (by decide +kernel) (by decide +kernel)
theorem zi_532 : Cond.constantLong zn_B 47 13 ∈ zw_all := zw_mem 532 (by decide +kernel) (by decide +kernel)
theorem zi_533 : Cond.constantLong zn_B 49 6525847399461442 ∈ zw_all := zw_mem 533 (by decide +kernel) (by decide +kernel)
theorem zi_534 : Cond.constantLong zn_B 51 6525846583730721 ∈ zw_all := zw_mem 534 (by decide +kernel) (by decide +kernel)
theorem zi_535 : Cond.constantLong zn_B 53 12 ∈ zw_all := zw_mem 535 (by decide +kernel) (by decide +kernel)
theorem zi_536 : Cond.methodLink zn_A 285 zy_B_offer ∈ zw_all := zw_mem 536 (by decide +kernel) (by decide +kernel)
theorem zi_537 : Cond.instanceMethod zy_B_offer ∈ zw_all := zw_mem 537 (by decide +kernel) (by decide +kernel)
theorem zi_538 : Cond.selects zn_B zy_B_offer zy_B_offer ∈ zw_all := zw_mem 538 (by decide +kernel) (by decide +kernel)
theorem zi_539 : Cond.code zy_B_offer prog_2_method_4_code 3 (Option.none : Option Jvm.ClassFile.FieldType) ∈ zw_all := zw_mem 539 (by decide +kernel) (by decide +kernel)
theorem zi_540 : Cond.methodLink zn_A 276 zy_B_solve ∈ zw_all := zw_mem 540 (by decide +kernel) (by decide +kernel)
theorem zi_541 : Cond.instanceMethod zy_B_solve ∈ zw_all := zw_mem 541 (by decide +kernel) (by decide +kernel)
theorem zi_542 : Cond.selects zn_B zy_B_solve zy_B_solve ∈ zw_all := zw_mem 542 (by decide +kernel) (by decide +kernel)
theorem zi_543 : Cond.code zy_B_solve prog_2_method_5_code 2 (Option.none : Option Jvm.ClassFile.FieldType) ∈ zw_all := zw_mem 543 (by decide +kernel) (by decide +kernel)
theorem zi_544 : Cond.methodLink zn_B 55 zy_B_giveColumn ∈ zw_all := zw_mem 544 (by decide +kernel) (by decide +kernel)
theorem zi_546 : Cond.instanceMethod zy_B_giveColumn ∈ zw_all := zw_mem 546 (by decide +kernel) (by decide +kernel)
theorem zi_547 : Cond.code zy_B_giveColumn prog_2_method_7_code 5 (Option.none : Option Jvm.ClassFile.FieldType) ∈ zw_all := zw_mem 547 (by decide +kernel) (by decide +kernel)
theorem zi_548 : Cond.constantLong zn_B 61 9223372036854775807 ∈ zw_all := zw_mem 548 (by decide +kernel) (by decide +kernel)
theorem zi_549 : Cond.methodLink zn_B 63 zy_B_measureFrom ∈ zw_all := zw_mem 549 (by decide +kernel) (by decide +kernel)
theorem zi_551 : Cond.instanceMethod zy_B_measureFrom ∈ zw_all := zw_mem 551 (by decide +kernel) (by decide +kernel)
theorem zi_552 : Cond.code zy_B_measureFrom prog_2_method_8_code 6 (Option.none : Option Jvm.ClassFile.FieldType) ∈ zw_all := zw_mem 552 (by decide +kernel) (by decide +kernel)
theorem zi_553 : Cond.methodLink zn_B 66 zy_B_nearestColumn ∈ zw_all := zw_mem 553 (by decide +kernel) (by decide +kernel)
theorem zi_555 : Cond.instanceMethod zy_B_nearestColumn ∈ zw_all := zw_mem 555 (by decide +kernel) (by decide +kernel)
theorem zi_556 : Cond.code zy_B_nearestColumn prog_2_method_9_code 3 (Option.some Jvm.ClassFile.FieldType.int) ∈ zw_all := zw_mem 556 (by decide +kernel) (by decide +kernel)
theorem zi_557 : Cond.methodLink zn_B 70 zy_B_shiftBy ∈ zw_all := zw_mem 557 (by decide +kernel) (by decide +kernel)
theorem zi_559 : Cond.instanceMethod zy_B_shiftBy ∈ zw_all := zw_mem 559 (by decide +kernel) (by decide +kernel)
theorem zi_560 : Cond.code zy_B_shiftBy prog_2_method_10_code 4 (Option.none : Option Jvm.ClassFile.FieldType) ∈ zw_all := zw_mem 560 (by decide +kernel) (by decide +kernel)
theorem zi_561 : Cond.methodLink zn_A 279 zy_B_placeGiven ∈ zw_all := zw_mem 561 (by decide +kernel) (by decide +kernel)
theorem zi_562 : Cond.instanceMethod zy_B_placeGiven ∈ zw_all := zw_mem 562 (by decide +kernel) (by decide +kernel)
theorem zi_563 : Cond.selects zn_B zy_B_placeGiven zy_B_placeGiven ∈ zw_all := zw_mem 563 (by decide +kernel) (by decide +kernel)
theorem zi_564 : Cond.code zy_B_placeGiven prog_2_method_6_code 3 (Option.some Jvm.ClassFile.FieldType.int) ∈ zw_all := zw_mem 564 (by decide +kernel) (by decide +kernel)
theorem zi_565 : Cond.methodLink zn_A 155 zy_A_draftOneByOne ∈ zw_all := zw_mem 565 (by decide +kernel) (by decide +kernel)
theorem zi_567 : Cond.instanceMethod zy_A_draftOneByOne ∈ zw_all := zw_mem 567 (by decide +kernel) (by decide +kernel)
theorem zi_568 : Cond.code zy_A_draftOneByOne prog_1_method_41_code 6 (Option.some Jvm.ClassFile.FieldType.int) ∈ zw_all := zw_mem 568 (by decide +kernel) (by decide +kernel)
theorem zi_569 : Cond.methodLink zn_A 158 zy_A_takeDraft ∈ zw_all := zw_mem 569 (by decide +kernel) (by decide +kernel)
theorem zi_571 : Cond.instanceMethod zy_A_takeDraft ∈ zw_all := zw_mem 571 (by decide +kernel) (by decide +kernel)
theorem zi_572 : Cond.code zy_A_takeDraft prog_1_method_44_code 2 (Option.none : Option Jvm.ClassFile.FieldType) ∈ zw_all := zw_mem 572 (by decide +kernel) (by decide +kernel)
theorem zi_573 : Cond.methodLink zn_L 120 zy_L_at ∈ zw_all := zw_mem 573 (by decide +kernel) (by decide +kernel)
theorem zi_574 : Cond.static zy_L_at ∈ zw_all := zw_mem 574 (by decide +kernel) (by decide +kernel)
theorem zi_575 : Cond.codeWith zy_L_at method_12_code 4 (Option.some Jvm.ClassFile.FieldType.int) [((0 : Nat), (9 : Nat), (12 : Nat), (29 : Nat))] ∈ zw_all := zw_mem 575 (by decide +kernel) (by decide +kernel)
theorem zi_576 : Cond.methodLink zn_L 50 zy_A_at ∈ zw_all := zw_mem 576 (by decide +kernel) (by decide +kernel)
theorem zi_577 : Cond.instanceMethod zy_A_at ∈ zw_all := zw_mem 577 (by decide +kernel) (by decide +kernel)
theorem zi_578 : Cond.selects zn_A zy_A_at zy_A_at ∈ zw_all := zw_mem 578 (by decide +kernel) (by decide +kernel)
theorem zi_579 : Cond.code zy_A_at prog_1_method_11_code 2 (Option.some Jvm.ClassFile.FieldType.int) ∈ zw_all := zw_mem 579 (by decide +kernel) (by decide +kernel)
theorem zi_580 : Cond.methodLink zn_L 132 zy_L_barred ∈ zw_all := zw_mem 580 (by decide +kernel) (by decide +kernel)
theorem zi_581 : Cond.static zy_L_barred ∈ zw_all := zw_mem 581 (by decide +kernel) (by decide +kernel)
theorem zi_582 : Cond.codeWith zy_L_barred method_13_code 4 (Option.some Jvm.ClassFile.FieldType.int) [((0 : Nat), (9 : Nat), (12 : Nat), (29 : Nat)), ((0 : Nat), (9 : Nat), (15 : Nat), (38 : Nat))] ∈ zw_all := zw_mem 582 (by decide +kernel) (by decide +kernel)
theorem zi_583 : Cond.methodLink zn_L 53 zy_A_barred ∈ zw_all := zw_mem 583 (by decide +kernel) (by decide +kernel)
theorem zi_584 : Cond.instanceMethod zy_A_barred ∈ zw_all := zw_mem 584 (by decide +kernel) (by decide +kernel)
theorem zi_585 : Cond.selects zn_A zy_A_barred zy_A_barred ∈ zw_all := zw_mem 585 (by decide +kernel) (by decide +kernel)
theorem zi_586 : Cond.code zy_A_barred prog_1_method_14_code 7 (Option.some Jvm.ClassFile.FieldType.int) ∈ zw_all := zw_mem 586 (by decide +kernel) (by decide +kernel)
theorem zi_587 : Cond.methodLink zn_L 135 zy_L_put ∈ zw_all := zw_mem 587 (by decide +kernel) (by decide +kernel)
theorem zi_588 : Cond.static zy_L_put ∈ zw_all := zw_mem 588 (by decide +kernel) (by decide +kernel)
theorem zi_589 : Cond.codeWith zy_L_put method_14_code 4 (Option.some Jvm.ClassFile.FieldType.int) [((0 : Nat), (9 : Nat), (12 : Nat), (29 : Nat)), ((0 : Nat), (9 : Nat), (15 : Nat), (38 : Nat))] ∈ zw_all := zw_mem 589 (by decide +kernel) (by decide +kernel)
theorem zi_590 : Cond.methodLink zn_L 56 zy_A_put ∈ zw_all := zw_mem 590 (by decide +kernel) (by decide +kernel)
theorem zi_591 : Cond.instanceMethod zy_A_put ∈ zw_all := zw_mem 591 (by decide +kernel) (by decide +kernel)
theorem zi_592 : Cond.selects zn_A zy_A_put zy_A_put ∈ zw_all := zw_mem 592 (by decide +kernel) (by decide +kernel)
theorem zi_593 : Cond.code zy_A_put prog_1_method_15_code 4 (Option.some Jvm.ClassFile.FieldType.int) ∈ zw_all := zw_mem 593 (by decide +kernel) (by decide +kernel)
theorem zi_594 : Cond.methodLink zn_A 181 zy_A_isPlanned ∈ zw_all := zw_mem 594 (by decide +kernel) (by decide +kernel)
theorem zi_595 : Cond.static zy_A_isPlanned ∈ zw_all := zw_mem 595 (by decide +kernel) (by decide +kernel)
theorem zi_596 : Cond.code zy_A_isPlanned prog_1_method_27_code 1 (Option.some Jvm.ClassFile.FieldType.boolean) ∈ zw_all := zw_mem 596 (by decide +kernel) (by decide +kernel)
theorem zi_599 : Cond.methodLink zn_A 198 zy_A_finish ∈ zw_all := zw_mem 599 (by decide +kernel) (by decide +kernel)
theorem zi_601 : Cond.instanceMethod zy_A_finish ∈ zw_all := zw_mem 601 (by decide +kernel) (by decide +kernel)
theorem zi_602 : Cond.code zy_A_finish prog_1_method_34_code 3 (Option.none : Option Jvm.ClassFile.FieldType) ∈ zw_all := zw_mem 602 (by decide +kernel) (by decide +kernel)
theorem zi_603 : Cond.methodLink zn_L 138 zy_L_block ∈ zw_all := zw_mem 603 (by decide +kernel) (by decide +kernel)
theorem zi_604 : Cond.static zy_L_block ∈ zw_all := zw_mem 604 (by decide +kernel) (by decide +kernel)
theorem zi_605 : Cond.codeWith zy_L_block method_15_code 4 (Option.some Jvm.ClassFile.FieldType.int) [((0 : Nat), (9 : Nat), (12 : Nat), (29 : Nat)), ((0 : Nat), (9 : Nat), (15 : Nat), (38 : Nat))] ∈ zw_all := zw_mem 605 (by decide +kernel) (by decide +kernel)
theorem zi_606 : Cond.methodLink zn_L 59 zy_A_block ∈ zw_all := zw_mem 606 (by decide +kernel) (by decide +kernel)
theorem zi_607 : Cond.instanceMethod zy_A_block ∈ zw_all := zw_mem 607 (by decide +kernel) (by decide +kernel)
theorem zi_608 : Cond.selects zn_A zy_A_block zy_A_block ∈ zw_all := zw_mem 608 (by decide +kernel) (by decide +kernel)
theorem zi_609 : Cond.code zy_A_block prog_1_method_16_code 5 (Option.some Jvm.ClassFile.FieldType.int) ∈ zw_all := zw_mem 609 (by decide +kernel) (by decide +kernel)
theorem zi_611 : Cond.methodLink zn_A 207 zy_A_groupPlannedFor ∈ zw_all := zw_mem 611 (by decide +kernel) (by decide +kernel)
theorem zi_613 : Cond.instanceMethod zy_A_groupPlannedFor ∈ zw_all := zw_mem 613 (by decide +kernel) (by decide +kernel)
theorem zi_614 : Cond.code zy_A_groupPlannedFor prog_1_method_35_code 3 (Option.some Jvm.ClassFile.FieldType.int) ∈ zw_all := zw_mem 614 (by decide +kernel) (by decide +kernel)
theorem zi_615 : Cond.methodLink zn_A 211 zy_A_plannedPlaces ∈ zw_all := zw_mem 615 (by decide +kernel) (by decide +kernel)
theorem zi_617 : Cond.instanceMethod zy_A_plannedPlaces ∈ zw_all := zw_mem 617 (by decide +kernel) (by decide +kernel)
theorem zi_618 : Cond.code zy_A_plannedPlaces prog_1_method_36_code 3 (Option.some Jvm.ClassFile.FieldType.int) ∈ zw_all := zw_mem 618 (by decide +kernel) (by decide +kernel)
theorem zi_619 : Cond.methodLink zn_L 141 zy_L_open ∈ zw_all := zw_mem 619 (by decide +kernel) (by decide +kernel)
theorem zi_620 : Cond.static zy_L_open ∈ zw_all := zw_mem 620 (by decide +kernel) (by decide +kernel)
theorem zi_621 : Cond.codeWith zy_L_open method_16_code 3 (Option.some Jvm.ClassFile.FieldType.int) [((0 : Nat), (5 : Nat), (8 : Nat), (29 : Nat)), ((0 : Nat), (5 : Nat), (11 : Nat), (38 : Nat))] ∈ zw_all := zw_mem 621 (by decide +kernel) (by decide +kernel)
theorem zi_622 : Cond.methodLink zn_L 62 zy_A_open ∈ zw_all := zw_mem 622 (by decide +kernel) (by decide +kernel)
theorem zi_623 : Cond.instanceMethod zy_A_open ∈ zw_all := zw_mem 623 (by decide +kernel) (by decide +kernel)
theorem zi_624 : Cond.selects zn_A zy_A_open zy_A_open ∈ zw_all := zw_mem 624 (by decide +kernel) (by decide +kernel)
theorem zi_625 : Cond.code zy_A_open prog_1_method_17_code 3 (Option.none : Option Jvm.ClassFile.FieldType) ∈ zw_all := zw_mem 625 (by decide +kernel) (by decide +kernel)
theorem zi_627 : Cond.methodLink zn_L 145 zy_L_share ∈ zw_all := zw_mem 627 (by decide +kernel) (by decide +kernel)
theorem zi_628 : Cond.static zy_L_share ∈ zw_all := zw_mem 628 (by decide +kernel) (by decide +kernel)
theorem zi_629 : Cond.codeWith zy_L_share method_17_code 4 (Option.some Jvm.ClassFile.FieldType.int) [((0 : Nat), (9 : Nat), (12 : Nat), (29 : Nat)), ((0 : Nat), (9 : Nat), (15 : Nat), (38 : Nat)), ((0 : Nat), (9 : Nat), (18 : Nat), (69 : Nat))] ∈ zw_all := zw_mem 629 (by decide +kernel) (by decide +kernel)
theorem zi_630 : Cond.classLink zn_L 69 "java/lang/ArithmeticException" ∈ zw_all := zw_mem 630 (by decide +kernel) (by decide +kernel)
theorem zi_631 : Cond.methodLink zn_L 66 zy_A_share ∈ zw_all := zw_mem 631 (by decide +kernel) (by decide +kernel)
theorem zi_632 : Cond.instanceMethod zy_A_share ∈ zw_all := zw_mem 632 (by decide +kernel) (by decide +kernel)
theorem zi_633 : Cond.selects zn_A zy_A_share zy_A_share ∈ zw_all := zw_mem 633 (by decide +kernel) (by decide +kernel)
theorem zi_634 : Cond.code zy_A_share prog_1_method_18_code 4 (Option.some Jvm.ClassFile.FieldType.int) ∈ zw_all := zw_mem 634 (by decide +kernel) (by decide +kernel)
theorem zi_635 : Cond.methodLink zn_A 216 zy_A_plannedCosts ∈ zw_all := zw_mem 635 (by decide +kernel) (by decide +kernel)
theorem zi_637 : Cond.instanceMethod zy_A_plannedCosts ∈ zw_all := zw_mem 637 (by decide +kernel) (by decide +kernel)
theorem zi_638 : Cond.code zy_A_plannedCosts prog_1_method_37_code 3 (Option.some Jvm.ClassFile.FieldType.int) ∈ zw_all := zw_mem 638 (by decide +kernel) (by decide +kernel)
theorem zi_639 : Cond.classLink zn_A 219 "java/lang/ArithmeticException" ∈ zw_all := zw_mem 639 (by decide +kernel) (by decide +kernel)
theorem zi_649 : Cond.methodLink zn_A 223 ⟨"java/lang/ArithmeticException", "<init>", "(Ljava/lang/String;)V"⟩ ∈ zw_all := zw_mem 649 (by decide +kernel) (by decide +kernel)
theorem zi_655 : Cond.methodLink zn_L 148 zy_L_trip ∈ zw_all := zw_mem 655 (by decide +kernel) (by decide +kernel)
theorem zi_656 : Cond.static zy_L_trip ∈ zw_all := zw_mem 656 (by decide +kernel) (by decide +kernel)
theorem zi_657 : Cond.codeWith zy_L_trip method_18_code 4 (Option.some Jvm.ClassFile.FieldType.int) [((0 : Nat), (9 : Nat), (12 : Nat), (29 : Nat))] ∈ zw_all := zw_mem 657 (by decide +kernel) (by decide +kernel)
theorem zi_658 : Cond.methodLink zn_L 71 zy_A_trip ∈ zw_all := zw_mem 658 (by decide +kernel) (by decide +kernel)
theorem zi_659 : Cond.instanceMethod zy_A_trip ∈ zw_all := zw_mem 659 (by decide +kernel) (by decide +kernel)
theorem zi_660 : Cond.selects zn_A zy_A_trip zy_A_trip ∈ zw_all := zw_mem 660 (by decide +kernel) (by decide +kernel)
theorem zi_661 : Cond.code zy_A_trip prog_1_method_19_code 7 (Option.some Jvm.ClassFile.FieldType.int) ∈ zw_all := zw_mem 661 (by decide +kernel) (by decide +kernel)
theorem zi_662 : Cond.methodLink zn_A 224 zy_A_goesTo ∈ zw_all := zw_mem 662 (by decide +kernel) (by decide +kernel)
theorem zi_664 : Cond.instanceMethod zy_A_goesTo ∈ zw_all := zw_mem 664 (by decide +kernel) (by decide +kernel)
theorem zi_665 : Cond.code zy_A_goesTo prog_1_method_28_code 3 (Option.some Jvm.ClassFile.FieldType.boolean) ∈ zw_all := zw_mem 665 (by decide +kernel) (by decide +kernel)
theorem zi_666 : Cond.methodLink zn_L 151 zy_L_told ∈ zw_all := zw_mem 666 (by decide +kernel) (by decide +kernel)
theorem zi_667 : Cond.static zy_L_told ∈ zw_all := zw_mem 667 (by decide +kernel) (by decide +kernel)
theorem zi_668 : Cond.codeWith zy_L_told method_19_code 5 (Option.some Jvm.ClassFile.FieldType.int) [((0 : Nat), (10 : Nat), (13 : Nat), (29 : Nat)), ((0 : Nat), (10 : Nat), (17 : Nat), (13 : Nat))] ∈ zw_all := zw_mem 668 (by decide +kernel) (by decide +kernel)
theorem zi_669 : Cond.methodLink zn_L 74 zy_A_told ∈ zw_all := zw_mem 669 (by decide +kernel) (by decide +kernel)
theorem zi_670 : Cond.instanceMethod zy_A_told ∈ zw_all := zw_mem 670 (by decide +kernel) (by decide +kernel)
theorem zi_671 : Cond.selects zn_A zy_A_told zy_A_told ∈ zw_all := zw_mem 671 (by decide +kernel) (by decide +kernel)
theorem zi_672 : Cond.code zy_A_told prog_1_method_20_code 4 (Option.some Jvm.ClassFile.FieldType.int) ∈ zw_all := zw_mem 672 (by decide +kernel) (by decide +kernel)
theorem zi_674 : Cond.classLink zn_L 78 zn_M ∈ zw_all := zw_mem 674 (by decide +kernel) (by decide +kernel)
theorem zi_675 : Cond.instantiable zn_M 26 ∈ zw_all := zw_mem 675 (by decide +kernel) (by decide +kernel)
theorem zi_676 : Cond.methodLink zn_L 80 zy_M_init ∈ zw_all := zw_mem 676 (by decide +kernel) (by decide +kernel)
theorem zi_677 : Cond.instanceMethod zy_M_init ∈ zw_all := zw_mem 677 (by decide +kernel) (by decide +kernel)
theorem zi_678 : Cond.code zy_M_init prog_7_method_1_code 2 (Option.none : Option Jvm.ClassFile.FieldType) ∈ zw_all := zw_mem 678 (by decide +kernel) (by decide +kernel)
theorem zi_679 : Cond.methodLink zn_M 1 objectInit ∈ zw_all := zw_mem 679 (by decide +kernel) (by decide +kernel)
theorem zi_680 : Cond.fieldLink zn_M 76 zn_M "code" "I" ∈ zw_all := zw_mem 680 (by decide +kernel) (by decide +kernel)
theorem zi_681 : Cond.fieldLink zn_M 79 zn_M "units" "I" ∈ zw_all := zw_mem 681 (by decide +kernel) (by decide +kernel)
theorem zi_682 : Cond.fieldLink zn_M 7 zn_M "kind" "[I" ∈ zw_all := zw_mem 682 (by decide +kernel) (by decide +kernel)
theorem zi_683 : Cond.fieldLink zn_M 13 zn_M "size" "[I" ∈ zw_all := zw_mem 683 (by decide +kernel) (by decide +kernel)
theorem zi_684 : Cond.fieldLink zn_M 16 zn_M "group" "[I" ∈ zw_all := zw_mem 684 (by decide +kernel) (by decide +kernel)
theorem zi_685 : Cond.fieldLink zn_M 19 zn_M "fixed" "[I" ∈ zw_all := zw_mem 685 (by decide +kernel) (by decide +kernel)
theorem zi_686 : Cond.fieldLink zn_M 22 zn_M "at" "[I" ∈ zw_all := zw_mem 686 (by decide +kernel) (by decide +kernel)
theorem zi_687 : Cond.fieldLink zn_M 25 zn_M "done" "[Z" ∈ zw_all := zw_mem 687 (by decide +kernel) (by decide +kernel)
theorem zi_688 : Cond.fieldLink zn_M 29 zn_M "barredAt" "[Z" ∈ zw_all := zw_mem 688 (by decide +kernel) (by decide +kernel)
theorem zi_689 : Cond.fieldLink zn_M 32 zn_M "toldCost" "[I" ∈ zw_all := zw_mem 689 (by decide +kernel) (by decide +kernel)
theorem zi_690 : Cond.fieldLink zn_M 86 zn_M "places" "I" ∈ zw_all := zw_mem 690 (by decide +kernel) (by decide +kernel)
theorem zi_691 : Cond.fieldLink zn_M 35 zn_M "fits" "[I" ∈ zw_all := zw_mem 691 (by decide +kernel) (by decide +kernel)
theorem zi_692 : Cond.fieldLink zn_M 38 zn_M "zone" "[I" ∈ zw_all := zw_mem 692 (by decide +kernel) (by decide +kernel)
theorem zi_693 : Cond.fieldLink zn_M 41 zn_M "free" "[I" ∈ zw_all := zw_mem 693 (by decide +kernel) (by decide +kernel)
theorem zi_694 : Cond.fieldLink zn_M 44 zn_M "way" "[I" ∈ zw_all := zw_mem 694 (by decide +kernel) (by decide +kernel)
theorem zi_695 : Cond.fieldLink zn_M 47 zn_M "blocked" "[Z" ∈ zw_all := zw_mem 695 (by decide +kernel) (by decide +kernel)
theorem zi_696 : Cond.fieldLink zn_M 50 zn_M "weights" "[I" ∈ zw_all := zw_mem 696 (by decide +kernel) (by decide +kernel)
theorem zi_697 : Cond.fieldLink zn_M 53 zn_M "exactMost" "I" ∈ zw_all := zw_mem 697 (by decide +kernel) (by decide +kernel)
theorem zi_698 : Cond.fieldLink zn_M 57 zn_M "cart" "I" ∈ zw_all := zw_mem 698 (by decide +kernel) (by decide +kernel)
theorem zi_699 : Cond.fieldLink zn_M 135 zn_M "exact" "Z" ∈ zw_all := zw_mem 699 (by decide +kernel) (by decide +kernel)
theorem zi_700 : Cond.fieldLink zn_M 104 zn_M "groups" "I" ∈ zw_all := zw_mem 700 (by decide +kernel) (by decide +kernel)
theorem zi_701 : Cond.fieldLink zn_M 60 zn_M "leader" "[I" ∈ zw_all := zw_mem 701 (by decide +kernel) (by decide +kernel)
theorem zi_702 : Cond.fieldLink zn_M 63 zn_M "given" "[I" ∈ zw_all := zw_mem 702 (by decide +kernel) (by decide +kernel)
theorem zi_703 : Cond.fieldLink zn_M 66 zn_M "prices" "[I" ∈ zw_all := zw_mem 703 (by decide +kernel) (by decide +kernel)
theorem zi_704 : Cond.fieldLink zn_M 69 zn_M "layer" "[J" ∈ zw_all := zw_mem 704 (by decide +kernel) (by decide +kernel)
theorem zi_705 : Cond.fieldLink zn_M 73 zn_M "next" "[J" ∈ zw_all := zw_mem 705 (by decide +kernel) (by decide +kernel)
theorem zi_759 : Cond.methodLink zn_L 87 zy_M_thrown ∈ zw_all := zw_mem 759 (by decide +kernel) (by decide +kernel)
theorem zi_760 : Cond.instanceMethod zy_M_thrown ∈ zw_all := zw_mem 760 (by decide +kernel) (by decide +kernel)
theorem zi_761 : Cond.selects zn_M zy_M_thrown zy_M_thrown ∈ zw_all := zw_mem 761 (by decide +kernel) (by decide +kernel)
theorem zi_762 : Cond.code zy_M_thrown prog_7_method_2_code 1 (Option.some Jvm.ClassFile.FieldType.int) ∈ zw_all := zw_mem 762 (by decide +kernel) (by decide +kernel)
theorem zi_763 : Cond.methodLink zn_L 86 zy_M_unit ∈ zw_all := zw_mem 763 (by decide +kernel) (by decide +kernel)
theorem zi_764 : Cond.instanceMethod zy_M_unit ∈ zw_all := zw_mem 764 (by decide +kernel) (by decide +kernel)
theorem zi_765 : Cond.selects zn_M zy_M_unit zy_M_unit ∈ zw_all := zw_mem 765 (by decide +kernel) (by decide +kernel)
theorem zi_766 : Cond.code zy_M_unit prog_7_method_6_code 3 (Option.some Jvm.ClassFile.FieldType.int) ∈ zw_all := zw_mem 766 (by decide +kernel) (by decide +kernel)
theorem zi_767 : Cond.methodLink zn_M 82 zy_M_in ∈ zw_all := zw_mem 767 (by decide +kernel) (by decide +kernel)
theorem zi_768 : Cond.static zy_M_in ∈ zw_all := zw_mem 768 (by decide +kernel) (by decide +kernel)
theorem zi_769 : Cond.code zy_M_in prog_7_method_3_code 3 (Option.some Jvm.ClassFile.FieldType.boolean) ∈ zw_all := zw_mem 769 (by decide +kernel) (by decide +kernel)
theorem zi_770 : Cond.methodLink zn_L 94 zy_M_place ∈ zw_all := zw_mem 770 (by decide +kernel) (by decide +kernel)
theorem zi_771 : Cond.instanceMethod zy_M_place ∈ zw_all := zw_mem 771 (by decide +kernel) (by decide +kernel)
theorem zi_772 : Cond.selects zn_M zy_M_place zy_M_place ∈ zw_all := zw_mem 772 (by decide +kernel) (by decide +kernel)
theorem zi_773 : Cond.code zy_M_place prog_7_method_7_code 5 (Option.some Jvm.ClassFile.FieldType.int) ∈ zw_all := zw_mem 773 (by decide +kernel) (by decide +kernel)
theorem zi_774 : Cond.methodLink zn_L 98 zy_M_weight ∈ zw_all := zw_mem 774 (by decide +kernel) (by decide +kernel)
theorem zi_775 : Cond.instanceMethod zy_M_weight ∈ zw_all := zw_mem 775 (by decide +kernel) (by decide +kernel)
theorem zi_776 : Cond.selects zn_M zy_M_weight zy_M_weight ∈ zw_all := zw_mem 776 (by decide +kernel) (by decide +kernel)
theorem zi_777 : Cond.code zy_M_weight prog_7_method_8_code 3 (Option.none : Option Jvm.ClassFile.FieldType) ∈ zw_all := zw_mem 777 (by decide +kernel) (by decide +kernel)
theorem zi_778 : Cond.methodLink zn_L 102 zy_M_fits ∈ zw_all := zw_mem 778 (by decide +kernel) (by decide +kernel)
theorem zi_779 : Cond.instanceMethod zy_M_fits ∈ zw_all := zw_mem 779 (by decide +kernel) (by decide +kernel)
theorem zi_780 : Cond.selects zn_M zy_M_fits zy_M_fits ∈ zw_all := zw_mem 780 (by decide +kernel) (by decide +kernel)
theorem zi_781 : Cond.code zy_M_fits prog_7_method_9_code 4 (Option.none : Option Jvm.ClassFile.FieldType) ∈ zw_all := zw_mem 781 (by decide +kernel) (by decide +kernel)
theorem zi_782 : Cond.methodLink zn_M 89 zy_M_isUnit ∈ zw_all := zw_mem 782 (by decide +kernel) (by decide +kernel)
theorem zi_784 : Cond.instanceMethod zy_M_isUnit ∈ zw_all := zw_mem 784 (by decide +kernel) (by decide +kernel)
theorem zi_785 : Cond.code zy_M_isUnit prog_7_method_4_code 2 (Option.some Jvm.ClassFile.FieldType.boolean) ∈ zw_all := zw_mem 785 (by decide +kernel) (by decide +kernel)
theorem zi_786 : Cond.methodLink zn_M 93 zy_M_isPlace ∈ zw_all := zw_mem 786 (by decide +kernel) (by decide +kernel)
theorem zi_788 : Cond.instanceMethod zy_M_isPlace ∈ zw_all := zw_mem 788 (by decide +kernel) (by decide +kernel)
theorem zi_789 : Cond.code zy_M_isPlace prog_7_method_5_code 2 (Option.some Jvm.ClassFile.FieldType.boolean) ∈ zw_all := zw_mem 789 (by decide +kernel) (by decide +kernel)
theorem zi_790 : Cond.methodLink zn_L 106 zy_M_cost ∈ zw_all := zw_mem 790 (by decide +kernel) (by decide +kernel)
theorem zi_791 : Cond.instanceMethod zy_M_cost ∈ zw_all := zw_mem 791 (by decide +kernel) (by decide +kernel)
theorem zi_792 : Cond.selects zn_M zy_M_cost zy_M_cost ∈ zw_all := zw_mem 792 (by decide +kernel) (by decide +kernel)
theorem zi_793 : Cond.code zy_M_cost prog_7_method_10_code 4 (Option.none : Option Jvm.ClassFile.FieldType) ∈ zw_all := zw_mem 793 (by decide +kernel) (by decide +kernel)
theorem zi_794 : Cond.constant zn_M 96 1000000 ∈ zw_all := zw_mem 794 (by decide +kernel) (by decide +kernel)
theorem zi_795 : Cond.methodLink zn_L 109 zy_M_together ∈ zw_all := zw_mem 795 (by decide +kernel) (by decide +kernel)
theorem zi_796 : Cond.instanceMethod zy_M_together ∈ zw_all := zw_mem 796 (by decide +kernel) (by decide +kernel)
theorem zi_797 : Cond.selects zn_M zy_M_together zy_M_together ∈ zw_all := zw_mem 797 (by decide +kernel) (by decide +kernel)
theorem zi_798 : Cond.code zy_M_together prog_7_method_11_code 7 (Option.some Jvm.ClassFile.FieldType.int) ∈ zw_all := zw_mem 798 (by decide +kernel) (by decide +kernel)
theorem zi_799 : Cond.methodLink zn_L 112 zy_M_fix ∈ zw_all := zw_mem 799 (by decide +kernel) (by decide +kernel)
theorem zi_800 : Cond.instanceMethod zy_M_fix ∈ zw_all := zw_mem 800 (by decide +kernel) (by decide +kernel)
theorem zi_801 : Cond.selects zn_M zy_M_fix zy_M_fix ∈ zw_all := zw_mem 801 (by decide +kernel) (by decide +kernel)
theorem zi_802 : Cond.code zy_M_fix prog_7_method_12_code 3 (Option.none : Option Jvm.ClassFile.FieldType) ∈ zw_all := zw_mem 802 (by decide +kernel) (by decide +kernel)
theorem zi_803 : Cond.methodLink zn_L 115 zy_M_limits ∈ zw_all := zw_mem 803 (by decide +kernel) (by decide +kernel)
theorem zi_804 : Cond.instanceMethod zy_M_limits ∈ zw_all := zw_mem 804 (by decide +kernel) (by decide +kernel)
theorem zi_805 : Cond.selects zn_M zy_M_limits zy_M_limits ∈ zw_all := zw_mem 805 (by decide +kernel) (by decide +kernel)
theorem zi_806 : Cond.code zy_M_limits prog_7_method_13_code 3 (Option.none : Option Jvm.ClassFile.FieldType) ∈ zw_all := zw_mem 806 (by decide +kernel) (by decide +kernel)
theorem zi_807 : Cond.methodLink zn_L 119 zy_M_assign ∈ zw_all := zw_mem 807 (by decide +kernel) (by decide +kernel)
theorem zi_808 : Cond.instanceMethod zy_M_assign ∈ zw_all := zw_mem 808 (by decide +kernel) (by decide +kernel)
theorem zi_809 : Cond.selects zn_M zy_M_assign zy_M_assign ∈ zw_all := zw_mem 809 (by decide +kernel) (by decide +kernel)
theorem zi_810 : Cond.code zy_M_assign prog_7_method_24_code 6 (Option.some Jvm.ClassFile.FieldType.int) ∈ zw_all := zw_mem 810 (by decide +kernel) (by decide +kernel)
theorem zi_811 : Cond.methodLink zn_M 126 zy_M_collect ∈ zw_all := zw_mem 811 (by decide +kernel) (by decide +kernel)
theorem zi_813 : Cond.instanceMethod zy_M_collect ∈ zw_all := zw_mem 813 (by decide +kernel) (by decide +kernel)
theorem zi_814 : Cond.code zy_M_collect prog_7_method_19_code 3 (Option.none : Option Jvm.ClassFile.FieldType) ∈ zw_all := zw_mem 814 (by decide +kernel) (by decide +kernel)
theorem zi_815 : Cond.methodLink zn_M 107 zy_M_isGroup ∈ zw_all := zw_mem 815 (by decide +kernel) (by decide +kernel)
theorem zi_817 : Cond.instanceMethod zy_M_isGroup ∈ zw_all := zw_mem 817 (by decide +kernel) (by decide +kernel)
theorem zi_818 : Cond.code zy_M_isGroup prog_7_method_18_code 2 (Option.some Jvm.ClassFile.FieldType.boolean) ∈ zw_all := zw_mem 818 (by decide +kernel) (by decide +kernel)
theorem zi_819 : Cond.methodLink zn_M 110 zy_M_isAllowed ∈ zw_all := zw_mem 819 (by decide +kernel) (by decide +kernel)
theorem zi_821 : Cond.instanceMethod zy_M_isAllowed ∈ zw_all := zw_mem 821 (by decide +kernel) (by decide +kernel)
theorem zi_822 : Cond.code zy_M_isAllowed prog_7_method_16_code 6 (Option.some Jvm.ClassFile.FieldType.boolean) ∈ zw_all := zw_mem 822 (by decide +kernel) (by decide +kernel)
theorem zi_823 : Cond.methodLink zn_M 101 zy_M_keeps ∈ zw_all := zw_mem 823 (by decide +kernel) (by decide +kernel)
theorem zi_825 : Cond.instanceMethod zy_M_keeps ∈ zw_all := zw_mem 825 (by decide +kernel) (by decide +kernel)
theorem zi_826 : Cond.code zy_M_keeps prog_7_method_15_code 5 (Option.some Jvm.ClassFile.FieldType.boolean) ∈ zw_all := zw_mem 826 (by decide +kernel) (by decide +kernel)
theorem zi_827 : Cond.methodLink zn_M 97 zy_M_sizeOf ∈ zw_all := zw_mem 827 (by decide +kernel) (by decide +kernel)
theorem zi_829 : Cond.instanceMethod zy_M_sizeOf ∈ zw_all := zw_mem 829 (by decide +kernel) (by decide +kernel)
theorem zi_830 : Cond.code zy_M_sizeOf prog_7_method_14_code 4 (Option.some Jvm.ClassFile.FieldType.int) ∈ zw_all := zw_mem 830 (by decide +kernel) (by decide +kernel)
theorem zi_831 : Cond.methodLink zn_M 113 zy_M_costOf ∈ zw_all := zw_mem 831 (by decide +kernel) (by decide +kernel)
theorem zi_833 : Cond.instanceMethod zy_M_costOf ∈ zw_all := zw_mem 833 (by decide +kernel) (by decide +kernel)
theorem zi_834 : Cond.code zy_M_costOf prog_7_method_17_code 5 (Option.some Jvm.ClassFile.FieldType.int) ∈ zw_all := zw_mem 834 (by decide +kernel) (by decide +kernel)
theorem zi_835 : Cond.methodLink zn_M 129 zy_M_best ∈ zw_all := zw_mem 835 (by decide +kernel) (by decide +kernel)
theorem zi_837 : Cond.instanceMethod zy_M_best ∈ zw_all := zw_mem 837 (by decide +kernel) (by decide +kernel)
theorem zi_838 : Cond.code zy_M_best prog_7_method_21_code 7 (Option.none : Option Jvm.ClassFile.FieldType) ∈ zw_all := zw_mem 838 (by decide +kernel) (by decide +kernel)
theorem zi_839 : Cond.methodLink zn_M 119 zy_M_lay ∈ zw_all := zw_mem 839 (by decide +kernel) (by decide +kernel)
theorem zi_841 : Cond.instanceMethod zy_M_lay ∈ zw_all := zw_mem 841 (by decide +kernel) (by decide +kernel)
theorem zi_842 : Cond.code zy_M_lay prog_7_method_20_code 8 (Option.none : Option Jvm.ClassFile.FieldType) ∈ zw_all := zw_mem 842 (by decide +kernel) (by decide +kernel)
theorem zi_843 : Cond.constantLong zn_M 117 1099511627776 ∈ zw_all := zw_mem 843 (by decide +kernel) (by decide +kernel)
theorem zi_844 : Cond.methodLink zn_M 132 zy_M_oneByOne ∈ zw_all := zw_mem 844 (by decide +kernel) (by decide +kernel)
theorem zi_846 : Cond.instanceMethod zy_M_oneByOne ∈ zw_all := zw_mem 846 (by decide +kernel) (by decide +kernel)
theorem zi_847 : Cond.code zy_M_oneByOne prog_7_method_23_code 3 (Option.none : Option Jvm.ClassFile.FieldType) ∈ zw_all := zw_mem 847 (by decide +kernel) (by decide +kernel)
theorem zi_848 : Cond.methodLink zn_M 123 zy_M_cheapest ∈ zw_all := zw_mem 848 (by decide +kernel) (by decide +kernel)
theorem zi_850 : Cond.instanceMethod zy_M_cheapest ∈ zw_all := zw_mem 850 (by decide +kernel) (by decide +kernel)
theorem zi_851 : Cond.code zy_M_cheapest prog_7_method_22_code 5 (Option.some Jvm.ClassFile.FieldType.int) ∈ zw_all := zw_mem 851 (by decide +kernel) (by decide +kernel)
theorem zi_852 : Cond.methodLink zn_L 122 zy_M_at ∈ zw_all := zw_mem 852 (by decide +kernel) (by decide +kernel)
theorem zi_853 : Cond.instanceMethod zy_M_at ∈ zw_all := zw_mem 853 (by decide +kernel) (by decide +kernel)
theorem zi_854 : Cond.selects zn_M zy_M_at zy_M_at ∈ zw_all := zw_mem 854 (by decide +kernel) (by decide +kernel)
theorem zi_855 : Cond.code zy_M_at prog_7_method_25_code 2 (Option.some Jvm.ClassFile.FieldType.int) ∈ zw_all := zw_mem 855 (by decide +kernel) (by decide +kernel)
theorem zi_856 : Cond.methodLink zn_L 127 zy_M_exact ∈ zw_all := zw_mem 856 (by decide +kernel) (by decide +kernel)
theorem zi_857 : Cond.instanceMethod zy_M_exact ∈ zw_all := zw_mem 857 (by decide +kernel) (by decide +kernel)
theorem zi_858 : Cond.selects zn_M zy_M_exact zy_M_exact ∈ zw_all := zw_mem 858 (by decide +kernel) (by decide +kernel)
theorem zi_859 : Cond.code zy_M_exact prog_7_method_26_code 1 (Option.some Jvm.ClassFile.FieldType.boolean) ∈ zw_all := zw_mem 859 (by decide +kernel) (by decide +kernel)
theorem zi_860 : Cond.methodLink zn_L 131 zy_M_bound ∈ zw_all := zw_mem 860 (by decide +kernel) (by decide +kernel)
theorem zi_861 : Cond.instanceMethod zy_M_bound ∈ zw_all := zw_mem 861 (by decide +kernel) (by decide +kernel)
theorem zi_862 : Cond.selects zn_M zy_M_bound zy_M_bound ∈ zw_all := zw_mem 862 (by decide +kernel) (by decide +kernel)
theorem zi_863 : Cond.code zy_M_bound prog_7_method_27_code 4 (Option.some Jvm.ClassFile.FieldType.int) ∈ zw_all := zw_mem 863 (by decide +kernel) (by decide +kernel)
theorem zi_864 : Cond.methodLink zn_L 134 zy_M_barred ∈ zw_all := zw_mem 864 (by decide +kernel) (by decide +kernel)
theorem zi_865 : Cond.instanceMethod zy_M_barred ∈ zw_all := zw_mem 865 (by decide +kernel) (by decide +kernel)
theorem zi_866 : Cond.selects zn_M zy_M_barred zy_M_barred ∈ zw_all := zw_mem 866 (by decide +kernel) (by decide +kernel)
theorem zi_867 : Cond.code zy_M_barred prog_7_method_28_code 5 (Option.some Jvm.ClassFile.FieldType.int) ∈ zw_all := zw_mem 867 (by decide +kernel) (by decide +kernel)
theorem zi_868 : Cond.methodLink zn_L 137 zy_M_put ∈ zw_all := zw_mem 868 (by decide +kernel) (by decide +kernel)
theorem zi_869 : Cond.instanceMethod zy_M_put ∈ zw_all := zw_mem 869 (by decide +kernel) (by decide +kernel)
theorem zi_870 : Cond.selects zn_M zy_M_put zy_M_put ∈ zw_all := zw_mem 870 (by decide +kernel) (by decide +kernel)
theorem zi_871 : Cond.code zy_M_put prog_7_method_29_code 4 (Option.some Jvm.ClassFile.FieldType.int) ∈ zw_all := zw_mem 871 (by decide +kernel) (by decide +kernel)
theorem zi_872 : Cond.methodLink zn_L 140 zy_M_block ∈ zw_all := zw_mem 872 (by decide +kernel) (by decide +kernel)
theorem zi_873 : Cond.instanceMethod zy_M_block ∈ zw_all := zw_mem 873 (by decide +kernel) (by decide +kernel)
theorem zi_874 : Cond.selects zn_M zy_M_block zy_M_block ∈ zw_all := zw_mem 874 (by decide +kernel) (by decide +kernel)
theorem zi_875 : Cond.code zy_M_block prog_7_method_31_code 6 (Option.some Jvm.ClassFile.FieldType.int) ∈ zw_all := zw_mem 875 (by decide +kernel) (by decide +kernel)
theorem zi_876 : Cond.methodLink zn_M 139 zy_M_plannedFor ∈ zw_all := zw_mem 876 (by decide +kernel) (by decide +kernel)
theorem zi_878 : Cond.instanceMethod zy_M_plannedFor ∈ zw_all := zw_mem 878 (by decide +kernel) (by decide +kernel)
theorem zi_879 : Cond.code zy_M_plannedFor prog_7_method_30_code 3 (Option.some Jvm.ClassFile.FieldType.int) ∈ zw_all := zw_mem 879 (by decide +kernel) (by decide +kernel)
theorem zi_880 : Cond.methodLink zn_L 144 zy_M_open ∈ zw_all := zw_mem 880 (by decide +kernel) (by decide +kernel)
theorem zi_881 : Cond.instanceMethod zy_M_open ∈ zw_all := zw_mem 881 (by decide +kernel) (by decide +kernel)
theorem zi_882 : Cond.selects zn_M zy_M_open zy_M_open ∈ zw_all := zw_mem 882 (by decide +kernel) (by decide +kernel)
theorem zi_883 : Cond.code zy_M_open prog_7_method_32_code 2 (Option.none : Option Jvm.ClassFile.FieldType) ∈ zw_all := zw_mem 883 (by decide +kernel) (by decide +kernel)
theorem zi_884 : Cond.methodLink zn_L 147 zy_M_share ∈ zw_all := zw_mem 884 (by decide +kernel) (by decide +kernel)
theorem zi_885 : Cond.instanceMethod zy_M_share ∈ zw_all := zw_mem 885 (by decide +kernel) (by decide +kernel)
theorem zi_886 : Cond.selects zn_M zy_M_share zy_M_share ∈ zw_all := zw_mem 886 (by decide +kernel) (by decide +kernel)
theorem zi_887 : Cond.code zy_M_share prog_7_method_33_code 4 (Option.some Jvm.ClassFile.FieldType.int) ∈ zw_all := zw_mem 887 (by decide +kernel) (by decide +kernel)
theorem zi_888 : Cond.methodLink zn_L 150 zy_M_trip ∈ zw_all := zw_mem 888 (by decide +kernel) (by decide +kernel)
theorem zi_889 : Cond.instanceMethod zy_M_trip ∈ zw_all := zw_mem 889 (by decide +kernel) (by decide +kernel)
theorem zi_890 : Cond.selects zn_M zy_M_trip zy_M_trip ∈ zw_all := zw_mem 890 (by decide +kernel) (by decide +kernel)
theorem zi_891 : Cond.code zy_M_trip prog_7_method_35_code 8 (Option.some Jvm.ClassFile.FieldType.int) ∈ zw_all := zw_mem 891 (by decide +kernel) (by decide +kernel)
theorem zi_892 : Cond.methodLink zn_M 142 zy_M_isPlanned ∈ zw_all := zw_mem 892 (by decide +kernel) (by decide +kernel)
theorem zi_894 : Cond.instanceMethod zy_M_isPlanned ∈ zw_all := zw_mem 894 (by decide +kernel) (by decide +kernel)
theorem zi_895 : Cond.code zy_M_isPlanned prog_7_method_34_code 2 (Option.some Jvm.ClassFile.FieldType.boolean) ∈ zw_all := zw_mem 895 (by decide +kernel) (by decide +kernel)
theorem zi_896 : Cond.methodLink zn_L 153 zy_M_told ∈ zw_all := zw_mem 896 (by decide +kernel) (by decide +kernel)
theorem zi_897 : Cond.instanceMethod zy_M_told ∈ zw_all := zw_mem 897 (by decide +kernel) (by decide +kernel)
theorem zi_898 : Cond.selects zn_M zy_M_told zy_M_told ∈ zw_all := zw_mem 898 (by decide +kernel) (by decide +kernel)
theorem zi_899 : Cond.code zy_M_told prog_7_method_36_code 3 (Option.some Jvm.ClassFile.FieldType.int) ∈ zw_all := zw_mem 899 (by decide +kernel) (by decide +kernel)
theorem zi_900 : Cond.methodLink zn_L 157 zy_M_count ∈ zw_all := zw_mem 900 (by decide +kernel) (by decide +kernel)
theorem zi_901 : Cond.instanceMethod zy_M_count ∈ zw_all := zw_mem 901 (by decide +kernel) (by decide +kernel)
theorem zi_902 : Cond.selects zn_M zy_M_count zy_M_count ∈ zw_all := zw_mem 902 (by decide +kernel) (by decide +kernel)
theorem zi_903 : Cond.code zy_M_count prog_7_method_37_code 4 (Option.some Jvm.ClassFile.FieldType.int) ∈ zw_all := zw_mem 903 (by decide +kernel) (by decide +kernel)
theorem zl_A : ∀ w ∈ u_ws zn_A zf_A 11, w ∈ zw_all := by decide +kernel
theorem zl_B : ∀ w ∈ u_ws zn_B zf_B 9, w ∈ zw_all := by decide +kernel
theorem zl_G : ∀ w ∈ u_ws zn_G zf_G 7, w ∈ zw_all := by decide +kernel
theorem zl_P : ∀ w ∈ u_ws zn_P zf_P 5, w ∈ zw_all := by decide +kernel
theorem zl_U : ∀ w ∈ u_ws zn_U zf_U 8, w ∈ zw_all := by decide +kernel
theorem zl_M : ∀ w ∈ u_ws zn_M zf_M 26, w ∈ zw_all := by decide +kernel
end
section
/-! PURE: sums, the pigeonhole, and the dual certificate of an assignment. -/
/-- the sum of f over 0 .. n-1 -/
def hu_sum (f : Nat → Int) : Nat → Int
  | 0 => 0
  | n + 1 => hu_sum f n + f n
theorem hu_sum_congr {f g : Nat → Int} {n : Nat} (h : ∀ i, i < n → f i = g i) : hu_sum f n = hu_sum g n := by
  induction n with
  | zero => rfl
  | succ n ih =>
    simp only [hu_sum]
    rw [ih (fun i hi => h i (by omega)), h n (by omega)]
theorem hu_sum_le {f g : Nat → Int} {n : Nat} (h : ∀ i, i < n → f i ≤ g i) : hu_sum f n ≤ hu_sum g n := by
  induction n with
  | zero => exact Int.le_refl _
  | succ n ih =>
    simp only [hu_sum]
    have h1 := ih (fun i hi => h i (by omega))
    have h2 := h n (by omega)
    omega
theorem hu_sum_add (f g : Nat → Int) (n : Nat) : hu_sum (fun i => f i + g i) n = hu_sum f n + hu_sum g n := by
  induction n with
  | zero => rfl
  | succ n ih => simp only [hu_sum]; rw [ih]; omega
theorem hu_sum_zero (n : Nat) : hu_sum (fun _ => 0) n = 0 := by
  induction n with
  | zero => rfl
  | succ n ih => simp only [hu_sum]; rw [ih]; omega
theorem hu_sum_zero_at (w : Nat → Int) (k N : Nat) (hk : k < N) : hu_sum (fun c => if c = k then 0 else w c) N = hu_sum w N - w k := by
  induction N with
  | zero => omega
  | succ N ih =>
    simp only [hu_sum]
    by_cases h : k = N
    · subst h
      rw [if_pos rfl, hu_sum_congr (g := w) (fun i hi => if_neg (by omega))]
      omega
    · rw [ih (by omega), if_neg (by omega)]
      omega
/-- s takes n different values below N -/
def hu_inj (s : Nat → Nat) (n N : Nat) : Prop := (∀ i, i < n → s i < N) ∧ ∀ i j, i < n → j < n → s i = s j → i = j
theorem hu_inj_ge (N : Nat) : ∀ (n : Nat) (s : Nat → Nat) (w : Nat → Int), hu_inj s n N → (∀ c, c < N → w c ≤ 0) → hu_sum w N ≤ hu_sum (fun i => w (s i)) n := by
  intro n
  induction n with
  | zero =>
    intro s w _ hw
    have h := hu_sum_le (f := w) (g := fun _ => 0) (n := N) hw
    rw [hu_sum_zero] at h
    exact h
  | succ n ih =>
    intro s w hs hw
    have h1 := ih s (fun c => if c = s n then 0 else w c) ⟨fun i h => hs.1 i (by omega), fun i j a b => hs.2 i j (by omega) (by omega)⟩ (fun c hc => by
      by_cases e : c = s n
      · simp only [if_pos e]; exact Int.le_refl 0
      · simp only [if_neg e]; exact hw c hc)
    rw [hu_sum_zero_at w (s n) N (hs.1 n (by omega))] at h1
    have h2 : hu_sum (fun i => (fun c => if c = s n then 0 else w c) (s i)) n = hu_sum (fun i => w (s i)) n := hu_sum_congr (fun i h => if_neg (fun e => by have := hs.2 i n (by omega) (by omega) e; omega))
    rw [h2] at h1
    simp only [hu_sum]
    omega
theorem hu_inj_eq (N : Nat) : ∀ (n : Nat) (s : Nat → Nat) (w : Nat → Int), hu_inj s n N → (∀ c, c < N → (∀ i, i < n → s i ≠ c) → w c = 0) → hu_sum w N = hu_sum (fun i => w (s i)) n := by
  intro n
  induction n with
  | zero =>
    intro s w _ hw
    rw [hu_sum_congr (f := w) (g := fun _ => 0) (n := N) (fun c hc => hw c hc (fun i hi => absurd hi (by omega))), hu_sum_zero]
    rfl
  | succ n ih =>
    intro s w hs hw
    have h1 := ih s (fun c => if c = s n then 0 else w c) ⟨fun i h => hs.1 i (by omega), fun i j a b => hs.2 i j (by omega) (by omega)⟩ (fun c hc hn => by
      by_cases e : c = s n
      · simp only [if_pos e]
      · simp only [if_neg e]
        refine hw c hc (fun i hi => ?_)
        rcases Nat.lt_or_ge i n with q | q
        · exact hn i q
        · have : i = n := by omega
          subst this
          exact fun z => e z.symm)
    rw [hu_sum_zero_at w (s n) N (hs.1 n (by omega))] at h1
    have h2 : hu_sum (fun i => (fun c => if c = s n then 0 else w c) (s i)) n = hu_sum (fun i => w (s i)) n := hu_sum_congr (fun i h => if_neg (fun e => by have := hs.2 i n (by omega) (by omega) e; omega))
    rw [h2] at h1
    simp only [hu_sum]
    omega
/-- an assignment with a dual certificate is the cheapest -/
theorem hu_opt {n N : Nat} {a : Nat → Nat → Int} {u v : Nat → Int} {m s : Nat → Nat} (hm : hu_inj m n N) (hle : ∀ i c, i < n → c < N → u i + v c ≤ a i c) (ht : ∀ i, i < n → u i + v (m i) = a i (m i))
    (hv : ∀ c, c < N → v c ≤ 0) (hv0 : ∀ c, c < N → (∀ i, i < n → m i ≠ c) → v c = 0) (hs : hu_inj s n N) : hu_sum (fun i => a i (m i)) n ≤ hu_sum (fun i => a i (s i)) n := by
  have h1 : hu_sum (fun i => a i (m i)) n = hu_sum u n + hu_sum v N := by
    rw [hu_inj_eq N n m v hm hv0, ← hu_sum_add]
    exact hu_sum_congr (fun i hi => (ht i hi).symm)
  have h2 : hu_sum u n + hu_sum (fun i => v (s i)) n ≤ hu_sum (fun i => a i (s i)) n := by
    rw [← hu_sum_add]
    exact hu_sum_le (fun i hi => hle i (s i) hi (hs.1 i hi))
  have h3 := hu_inj_ge N n s v hs hv
  omega
theorem hu_pigeon : ∀ (m n : Nat) (f : Nat → Nat), hu_inj f n m → n ≤ m := by
  intro m
  induction m with
  | zero =>
    intro n f h
    rcases Nat.eq_zero_or_pos n with q | q
    · omega
    · exact absurd (h.1 0 q) (by omega)
  | succ m ih =>
    intro n f h
    cases n with
    | zero => omega
    | succ n =>
      refine Nat.succ_le_succ (ih n (fun j => if f j = m then f n else f j) ⟨fun i hi => ?_, fun i j hi hj e => ?_⟩)
      · by_cases q : f i = m
        · simp only [if_pos q]
          have h1 := h.1 n (by omega)
          have h2 : f n ≠ m := fun z => by have := h.2 i n (by omega) (by omega) (q.trans z.symm); omega
          omega
        · simp only [if_neg q]
          have h1 := h.1 i (by omega)
          omega
      · by_cases q : f i = m <;> by_cases r : f j = m
        · exact h.2 i j (by omega) (by omega) (q.trans r.symm)
        · simp only [if_pos q, if_neg r] at e
          have := h.2 n j (by omega) (by omega) e
          omega
        · simp only [if_neg q, if_pos r] at e
          have := h.2 i n (by omega) (by omega) e
          omega
        · simp only [if_neg q, if_neg r] at e
          exact h.2 i j (by omega) (by omega) e
end
section
/-! PURE: one row gets its column: the search by least distances, and the chain that is moved. Rows 1 .. k, columns 1 .. N, column 0 stands for the row being placed. -/
/-- k rows have their columns: p c is the row of column c (0: none), u and v are the shifts -/
def hu_G (N k : Nat) (a : Nat → Nat → Int) (u v : Nat → Int) (p : Nat → Nat) : Prop :=
  (∀ c, 1 ≤ c → c ≤ N → p c ≤ k) ∧ (∀ c d, 1 ≤ c → c ≤ N → 1 ≤ d → d ≤ N → p c = p d → p c ≠ 0 → c = d) ∧ (∀ i, 1 ≤ i → i ≤ k → ∃ c, 1 ≤ c ∧ c ≤ N ∧ p c = i) ∧
  (∀ i c, 1 ≤ i → i ≤ k → 1 ≤ c → c ≤ N → u i + v c ≤ a i c) ∧ (∀ c, 1 ≤ c → c ≤ N → p c ≠ 0 → u (p c) + v c = a (p c) c) ∧ (∀ c, 1 ≤ c → c ≤ N → v c ≤ 0) ∧ (∀ c, 1 ≤ c → c ≤ N → p c = 0 → v c = 0) ∧ (∀ i, k < i → u i = 0)
/-- row k is being placed: p 0 = k -/
def hu_M (N k : Nat) (a : Nat → Nat → Int) (u v : Nat → Int) (p : Nat → Nat) : Prop :=
  p 0 = k ∧ 1 ≤ k ∧ (∀ c, 1 ≤ c → c ≤ N → p c < k) ∧ (∀ c d, c ≤ N → d ≤ N → p c = p d → p c ≠ 0 → c = d) ∧ (∀ i, 1 ≤ i → i < k → ∃ c, 1 ≤ c ∧ c ≤ N ∧ p c = i) ∧
  (∀ i c, 1 ≤ i → i ≤ k → 1 ≤ c → c ≤ N → u i + v c ≤ a i c) ∧ (∀ c, 1 ≤ c → c ≤ N → p c ≠ 0 → u (p c) + v c = a (p c) c) ∧ (∀ c, 1 ≤ c → c ≤ N → v c ≤ 0) ∧ (∀ c, 1 ≤ c → c ≤ N → p c = 0 → v c = 0) ∧ (∀ i, k < i → u i = 0)
/-- the columns reached so far are z 0 .. z (step - 1), the one looked at is z step -/
def hu_Z (N step : Nat) (a : Nat → Nat → Int) (u v : Nat → Int) (p way z : Nat → Nat) : Prop :=
  z 0 = 0 ∧ (∀ i, i ≤ step → z i ≤ N) ∧ (∀ i j, i ≤ step → j ≤ step → z i = z j → i = j) ∧ (∀ i, i < step → p (z i) ≠ 0) ∧
  (∀ i, 1 ≤ i → i ≤ step → ∃ j, j < i ∧ way (z i) = z j ∧ u (p (z j)) + v (z i) = a (p (z j)) (z i))
/-- the distances from the columns z 0 .. z (step - 1) -/
def hu_D (N step : Nat) (a : Nat → Nat → Int) (u v : Nat → Int) (p way z : Nat → Nat) (d : Nat → Int) : Prop :=
  ∀ c, 1 ≤ c → c ≤ N → (∀ i, i < step → z i ≠ c) → (∀ i, i < step → d c ≤ a (p (z i)) c - u (p (z i)) - v c) ∧ (0 < step → ∃ j, j < step ∧ way c = z j ∧ d c = a (p (z j)) c - u (p (z j)) - v c)
theorem hu_row {N k step : Nat} {a : Nat → Nat → Int} {u v : Nat → Int} {p way z : Nat → Nat} (hM : hu_M N k a u v p) (hZ : hu_Z N step a u v p way z) (hp : p (z step) ≠ 0) {t : Nat} (ht : t ≤ step) : 1 ≤ p (z t) ∧ p (z t) ≤ k := by
  obtain ⟨m0, mk, m1, -⟩ := hM
  obtain ⟨z0, zN, -, zp, -⟩ := hZ
  have h1 : p (z t) ≠ 0 := by
    rcases Nat.lt_or_ge t step with q | q
    · exact zp t q
    · have e : t = step := by omega
      rw [e]; exact hp
  have h2 := zN t ht
  rcases Nat.eq_zero_or_pos (z t) with q | q
  · rw [q, m0]; omega
  · have := m1 (z t) q h2
    omega
/-- while the row of the column looked at isn't 0, fewer columns are reached than rows are there -/
theorem hu_steps {N k step : Nat} {a : Nat → Nat → Int} {u v : Nat → Int} {p way z : Nat → Nat} (hM : hu_M N k a u v p) (hZ : hu_Z N step a u v p way z) (hp : p (z step) ≠ 0) : step < k := by
  have h := hu_pigeon k (step + 1) (fun t => p (z t) - 1) ⟨fun t ht => by have := hu_row hM hZ hp (t := t) (by omega); show p (z t) - 1 < k; omega, fun i j hi hj e => by
    have e : p (z i) - 1 = p (z j) - 1 := e
    have h1 := hu_row hM hZ hp (t := i) (by omega)
    have h2 := hu_row hM hZ hp (t := j) (by omega)
    have e2 : p (z i) = p (z j) := by omega
    obtain ⟨-, -, -, m2, -⟩ := hM
    obtain ⟨-, zN, zi, -⟩ := hZ
    exact zi i j (by omega) (by omega) (m2 _ _ (zN i (by omega)) (zN j (by omega)) e2 (by omega))⟩
  omega
/-- there is a column that no row has -/
theorem hu_bare {N k : Nat} {a : Nat → Nat → Int} {u v : Nat → Int} {p : Nat → Nat} (hM : hu_M N k a u v p) (hk : k ≤ N) : ∃ c, 1 ≤ c ∧ c ≤ N ∧ p c = 0 := by
  obtain ⟨-, mk, m1, m2, -⟩ := hM
  by_cases h : ∃ c, 1 ≤ c ∧ c ≤ N ∧ p c = 0
  · exact h
  · have hn : ∀ c, 1 ≤ c → c ≤ N → p c ≠ 0 := fun c h1 h2 e => h ⟨c, h1, h2, e⟩
    have := hu_pigeon (k - 1) N (fun t => p (t + 1) - 1) ⟨fun t ht => by have := hn (t + 1) (by omega) (by omega); have := m1 (t + 1) (by omega) (by omega); show p (t + 1) - 1 < k - 1; omega, fun i j hi hj e => by
      have e : p (i + 1) - 1 = p (j + 1) - 1 := e
      have h1 := hn (i + 1) (by omega) (by omega)
      have h2 := hn (j + 1) (by omega) (by omega)
      have e2 : p (i + 1) = p (j + 1) := by omega
      have := m2 (i + 1) (j + 1) (by omega) (by omega) e2 h1
      omega⟩
    omega
/-- the shifts stay small -/
theorem hu_small {N k : Nat} {a : Nat → Nat → Int} {u v : Nat → Int} {p : Nat → Nat} {m : Int} (hM : hu_M N k a u v p) (hk : k ≤ N) (ha : ∀ i c, 1 ≤ i → i ≤ k → 1 ≤ c → c ≤ N → 0 ≤ a i c ∧ a i c ≤ m) (huk : 0 ≤ u k) :
    (∀ i, 1 ≤ i → i ≤ k → 0 ≤ u i ∧ u i ≤ m) ∧ (∀ c, 1 ≤ c → c ≤ N → -m ≤ v c ∧ v c ≤ 0) := by
  obtain ⟨c0, c01, c0N, hc0⟩ := hu_bare hM hk
  obtain ⟨m0, mk, m1, m2, m3, m4, m5, m6, m7, -⟩ := hM
  have h1 : ∀ i, 1 ≤ i → i ≤ k → 0 ≤ u i ∧ u i ≤ m := by
    intro i i1 ik
    have e1 := m4 i c0 i1 ik c01 c0N
    have e2 := m7 c0 c01 c0N hc0
    have e3 := ha i c0 i1 ik c01 c0N
    refine ⟨?_, by omega⟩
    rcases Nat.lt_or_ge i k with q | q
    · obtain ⟨c, c1, cN, hc⟩ := m3 i i1 q
      have e4 := m5 c c1 cN (by omega)
      have e5 := m6 c c1 cN
      have e6 := ha i c i1 ik c1 cN
      rw [hc] at e4
      omega
    · have e : i = k := by omega
      rw [e]; exact huk
  refine ⟨h1, fun c c1 cN => ⟨?_, m6 c c1 cN⟩⟩
  by_cases hc : p c = 0
  · have e1 := m7 c c1 cN hc
    have e2 := ha k c mk (Nat.le_refl k) c1 cN
    omega
  · have e1 := m5 c c1 cN hc
    have e2 := m1 c c1 cN
    have e3 := h1 (p c) (by omega) (by omega)
    have e4 := ha (p c) c (by omega) (by omega) c1 cN
    omega
/-- the distances are measured from the column looked at, too -/
theorem hu_measure {N step : Nat} {a : Nat → Nat → Int} {u v d d1 : Nat → Int} {p way way1 z : Nat → Nat} (hZ : hu_Z N step a u v p way z) (hD : hu_D N step a u v p way z d)
    (h0 : step = 0 → ∀ c, 1 ≤ c → c ≤ N → a (p (z step)) c - u (p (z step)) - v c < d c)
    (hin : ∀ c, 1 ≤ c → c ≤ N → (∀ i, i ≤ step → z i ≠ c) → a (p (z step)) c - u (p (z step)) - v c < d c → d1 c = a (p (z step)) c - u (p (z step)) - v c ∧ way1 c = z step)
    (hout : ∀ c, 1 ≤ c → c ≤ N → (∀ i, i ≤ step → z i ≠ c) → ¬ a (p (z step)) c - u (p (z step)) - v c < d c → d1 c = d c ∧ way1 c = way c)
    (hway : ∀ i, i ≤ step → way1 (z i) = way (z i)) : hu_Z N step a u v p way1 z ∧ hu_D N (step + 1) a u v p way1 z d1 := by
  obtain ⟨z0, zN, zi, zp, zw⟩ := hZ
  refine ⟨⟨z0, zN, zi, zp, fun i i1 hi => ?_⟩, fun c c1 cN hc => ?_⟩
  · obtain ⟨j, h1, h2, h3⟩ := zw i i1 hi
    exact ⟨j, h1, by rw [hway i hi]; exact h2, h3⟩
  · have hc' : ∀ i, i ≤ step → z i ≠ c := fun i hi => hc i (by omega)
    obtain ⟨g1, g2⟩ := hD c c1 cN (fun i hi => hc i (by omega))
    by_cases hf : a (p (z step)) c - u (p (z step)) - v c < d c
    · obtain ⟨e1, e2⟩ := hin c c1 cN hc' hf
      refine ⟨fun i hi => ?_, fun _ => ⟨step, by omega, e2, e1⟩⟩
      rcases Nat.lt_or_ge i step with q | q
      · have := g1 i q
        omega
      · have e : i = step := by omega
        subst e
        omega
    · obtain ⟨e1, e2⟩ := hout c c1 cN hc' hf
      have hs : 0 < step := by
        rcases Nat.eq_zero_or_pos step with q | q
        · exact absurd (h0 q c c1 cN) hf
        · exact q
      obtain ⟨j, j1, j2, j3⟩ := g2 hs
      refine ⟨fun i hi => ?_, fun _ => ⟨j, by omega, by rw [e2]; exact j2, by rw [e1]; exact j3⟩⟩
      rcases Nat.lt_or_ge i step with q | q
      · have := g1 i q
        omega
      · have e : i = step := by omega
        subst e
        omega
/-- the shifts by the least distance w, that of column j -/
theorem hu_shift {N k step : Nat} {a : Nat → Nat → Int} {u v u' v' d d' : Nat → Int} {p way z : Nat → Nat} {j : Nat} {w : Int} (hM : hu_M N k a u v p) (hZ : hu_Z N step a u v p way z) (hp : p (z step) ≠ 0) (hD : hu_D N (step + 1) a u v p way z d)
    (hj1 : 1 ≤ j) (hjN : j ≤ N) (hjz : ∀ i, i ≤ step → z i ≠ j) (hw : d j = w) (hmin : ∀ c, 1 ≤ c → c ≤ N → (∀ i, i ≤ step → z i ≠ c) → w ≤ d c)
    (hu1 : ∀ t, t ≤ step → u' (p (z t)) = u (p (z t)) + w) (hu2 : ∀ i, (∀ t, t ≤ step → p (z t) ≠ i) → u' i = u i)
    (hv1 : ∀ t, t ≤ step → v' (z t) = v (z t) - w) (hv2 : ∀ c, c ≤ N → (∀ t, t ≤ step → z t ≠ c) → v' c = v c)
    (hd' : ∀ c, 1 ≤ c → c ≤ N → (∀ t, t ≤ step → z t ≠ c) → d' c = d c - w) :
    0 ≤ w ∧ hu_M N k a u' v' p ∧ hu_Z N (step + 1) a u' v' p way (fun i => if i = step + 1 then j else z i) ∧ hu_D N (step + 1) a u' v' p way (fun i => if i = step + 1 then j else z i) d' := by
  have hrow := fun t ht => hu_row hM hZ hp (t := t) ht
  obtain ⟨m0, mk, m1, m2, m3, m4, m5, m6, m7, m8⟩ := hM
  obtain ⟨z0, zN, zi, zp, zw⟩ := hZ
  obtain ⟨jt, jt1, jt2, jt3⟩ := (hD j hj1 hjN (fun i hi => hjz i (by omega))).2 (by omega)
  have hw0 : 0 ≤ w := by
    have h1 := hrow jt (by omega)
    have h2 := m4 (p (z jt)) j h1.1 h1.2 hj1 hjN
    omega
  have hzz : ∀ i, i ≤ step → (if i = step + 1 then j else z i) = z i := fun i hi => if_neg (by omega)
  refine ⟨hw0, ⟨m0, mk, m1, m2, m3, fun i c i1 ik c1 cN => ?_, fun c c1 cN hc => ?_, fun c c1 cN => ?_, fun c c1 cN hc => ?_, fun i hi => ?_⟩, ⟨?_, fun i hi => ?_, fun i i' hi hi' e => ?_, fun i hi => ?_, fun i i1 hi => ?_⟩, fun c c1 cN hc => ?_⟩
  · have hf := m4 i c i1 ik c1 cN
    by_cases hr : ∃ t, t ≤ step ∧ p (z t) = i
    · obtain ⟨t, ht, rfl⟩ := hr
      rw [hu1 t ht]
      by_cases hcZ : ∃ t', t' ≤ step ∧ z t' = c
      · obtain ⟨t', ht', rfl⟩ := hcZ
        rw [hv1 t' ht']
        omega
      · have hn : ∀ t', t' ≤ step → z t' ≠ c := fun t' h e => hcZ ⟨t', h, e⟩
        rw [hv2 c cN hn]
        have h1 := (hD c c1 cN (fun i hi => hn i (by omega))).1 t (by omega)
        have h2 := hmin c c1 cN hn
        omega
    · have hn : ∀ t, t ≤ step → p (z t) ≠ i := fun t h e => hr ⟨t, h, e⟩
      rw [hu2 i hn]
      by_cases hcZ : ∃ t', t' ≤ step ∧ z t' = c
      · obtain ⟨t', ht', rfl⟩ := hcZ
        rw [hv1 t' ht']
        omega
      · rw [hv2 c cN (fun t' h e => hcZ ⟨t', h, e⟩)]
        exact hf
  · have hf := m5 c c1 cN hc
    by_cases hcZ : ∃ t', t' ≤ step ∧ z t' = c
    · obtain ⟨t', ht', rfl⟩ := hcZ
      rw [hv1 t' ht', hu1 t' ht']
      omega
    · have hn : ∀ t', t' ≤ step → z t' ≠ c := fun t' h e => hcZ ⟨t', h, e⟩
      rw [hv2 c cN hn, hu2 (p c) (fun t ht e => hn t ht (m2 _ _ (zN t ht) cN e (by rw [e]; exact hc)))]
      exact hf
  · have hf := m6 c c1 cN
    by_cases hcZ : ∃ t', t' ≤ step ∧ z t' = c
    · obtain ⟨t', ht', rfl⟩ := hcZ
      rw [hv1 t' ht']
      omega
    · rw [hv2 c cN (fun t' h e => hcZ ⟨t', h, e⟩)]
      exact hf
  · rw [hv2 c cN (fun t ht e => by have := hrow t ht; rw [e] at this; omega)]
    exact m7 c c1 cN hc
  · rw [hu2 i (fun t ht e => by have := hrow t ht; omega)]
    exact m8 i hi
  · show (if 0 = step + 1 then j else z 0) = 0
    rw [hzz 0 (by omega)]; exact z0
  · show (if i = step + 1 then j else z i) ≤ N
    by_cases e : i = step + 1
    · rw [if_pos e]; exact hjN
    · rw [if_neg e]; exact zN i (by omega)
  · have e : (if i = step + 1 then j else z i) = (if i' = step + 1 then j else z i') := e
    by_cases q : i = step + 1 <;> by_cases r : i' = step + 1
    · omega
    · rw [if_pos q, if_neg r] at e
      exact absurd e.symm (hjz i' (by omega))
    · rw [if_neg q, if_pos r] at e
      exact absurd e (hjz i (by omega))
    · rw [if_neg q, if_neg r] at e
      exact zi i i' (by omega) (by omega) e
  · show p (if i = step + 1 then j else z i) ≠ 0
    rw [hzz i (by omega)]
    have := hrow i (by omega)
    omega
  · by_cases q : i = step + 1
    · refine ⟨jt, by omega, ?_, ?_⟩
      · show way (if i = step + 1 then j else z i) = (if jt = step + 1 then j else z jt)
        rw [if_pos q, hzz jt (by omega)]; exact jt2
      · show u' (p (if jt = step + 1 then j else z jt)) + v' (if i = step + 1 then j else z i) = a (p (if jt = step + 1 then j else z jt)) (if i = step + 1 then j else z i)
        rw [if_pos q, hzz jt (by omega), hu1 jt (by omega), hv2 j hjN hjz]
        omega
    · obtain ⟨j', h1, h2, h3⟩ := zw i i1 (by omega)
      refine ⟨j', h1, ?_, ?_⟩
      · show way (if i = step + 1 then j else z i) = (if j' = step + 1 then j else z j')
        rw [if_neg q, hzz j' (by omega)]; exact h2
      · show u' (p (if j' = step + 1 then j else z j')) + v' (if i = step + 1 then j else z i) = a (p (if j' = step + 1 then j else z j')) (if i = step + 1 then j else z i)
        rw [if_neg q, hzz j' (by omega), hu1 j' (by omega), hv1 i (by omega)]
        omega
  · have hc' : ∀ i, i ≤ step → z i ≠ c := fun i hi e => hc i (by omega) (by show (if i = step + 1 then j else z i) = c; rw [hzz i hi]; exact e)
    obtain ⟨g1, g2⟩ := hD c c1 cN (fun i hi => hc' i (by omega))
    obtain ⟨j', q1, q2, q3⟩ := g2 (by omega)
    refine ⟨fun i hi => ?_, fun _ => ⟨j', q1, ?_, ?_⟩⟩
    · show d' c ≤ a (p (if i = step + 1 then j else z i)) c - u' (p (if i = step + 1 then j else z i)) - v' c
      rw [hzz i (by omega), hu1 i (by omega), hv2 c cN hc', hd' c c1 cN hc']
      have := g1 i hi
      omega
    · show way c = (if j' = step + 1 then j else z j')
      rw [hzz j' (by omega)]; exact q2
    · show d' c = a (p (if j' = step + 1 then j else z j')) c - u' (p (if j' = step + 1 then j else z j')) - v' c
      rw [hzz j' (by omega), hu1 j' (by omega), hv2 c cN hc', hd' c c1 cN hc']
      omega
/-- the chain is moved: column z i is to be filled; p is the matching before, q the one now -/
def hu_A (N k i : Nat) (a : Nat → Nat → Int) (u v : Nat → Int) (p q z : Nat → Nat) : Prop :=
  q 0 = k ∧ (∀ t, t < i → q (z t) = p (z t)) ∧ (∀ c d, c ≤ N → d ≤ N → c ≠ z i → d ≠ z i → q c = q d → q c ≠ 0 → c = d) ∧ (∀ r, 1 ≤ r → r ≤ k → ∃ c, c ≤ N ∧ c ≠ z i ∧ q c = r) ∧ (∀ c, c ≤ N → c ≠ z i → q c ≤ k) ∧
  (∀ c, 1 ≤ c → c ≤ N → c ≠ z i → q c ≠ 0 → u (q c) + v c = a (q c) c) ∧ (∀ c, 1 ≤ c → c ≤ N → c ≠ z i → q c = 0 → v c = 0)
theorem hu_A_start {N k step : Nat} {a : Nat → Nat → Int} {u v : Nat → Int} {p z : Nat → Nat} (hM : hu_M N k a u v p) (h0 : p (z step) = 0) : hu_A N k step a u v p p z := by
  obtain ⟨m0, mk, m1, m2, m3, m4, m5, m6, m7, m8⟩ := hM
  refine ⟨m0, fun _ _ => rfl, fun c d hc hd _ _ e hn => m2 c d hc hd e hn, fun r r1 rk => ?_, fun c hc _ => ?_, fun c c1 cN _ hn => m5 c c1 cN hn, fun c c1 cN _ hn => m7 c c1 cN hn⟩
  · rcases Nat.lt_or_ge r k with q | q
    · obtain ⟨c, c1, cN, e⟩ := m3 r r1 q
      exact ⟨c, cN, fun z => by rw [z] at e; omega, e⟩
    · exact ⟨0, by omega, fun z => by rw [← z] at h0; omega, by omega⟩
  · rcases Nat.eq_zero_or_pos c with q | q
    · rw [q]; omega
    · have := m1 c q hc
      omega
theorem hu_A_step {N k step i : Nat} {a : Nat → Nat → Int} {u v : Nat → Int} {p q q' way z : Nat → Nat} (hZ : hu_Z N step a u v p way z) (hi : i ≤ step) (hA : hu_A N k i a u v p q z) (hn : z i ≠ 0)
    (hq1 : q' (z i) = q (way (z i))) (hq2 : ∀ c, c ≠ z i → q' c = q c) : ∃ j, j < i ∧ way (z i) = z j ∧ hu_A N k j a u v p q' z := by
  obtain ⟨z0, zN, zi, zp, zw⟩ := hZ
  obtain ⟨a0, a1, a2, a3, a4, a5, a6⟩ := hA
  have hi1 : 1 ≤ i := by
    rcases Nat.eq_zero_or_pos i with e | e
    · rw [e] at hn; exact absurd z0 hn
    · exact e
  obtain ⟨j, h1, h2, h3⟩ := zw i hi1 hi
  rw [h2] at hq1
  have hne : z j ≠ z i := fun e => by have := zi j i (by omega) hi e; omega
  have hpj : p (z j) ≠ 0 := zp j (by omega)
  have hqj : q (z j) = p (z j) := a1 j h1
  refine ⟨j, h1, h2, ?_, fun t ht => ?_, fun c d hc hd nc nd e ne => ?_, fun r r1 rk => ?_, fun c hc nc => ?_, fun c c1 cN nc hx => ?_, fun c c1 cN nc hx => ?_⟩
  · rw [hq2 0 (fun e => hn e.symm)]; exact a0
  · rw [hq2 (z t) (fun e => by have := zi t i (by omega) hi e; omega)]
    exact a1 t (by omega)
  · by_cases e1 : c = z i <;> by_cases e2 : d = z i
    · rw [e1, e2]
    · rw [e1, hq1, hq2 d e2] at e
      exact absurd (a2 (z j) d (zN j (by omega)) hd hne e2 e (by rw [hqj]; exact hpj)).symm nd
    · rw [e2, hq1, hq2 c e1] at e
      exact absurd (a2 c (z j) hc (zN j (by omega)) e1 hne e (by rw [e, hqj]; exact hpj)) nc
    · rw [hq2 c e1, hq2 d e2] at e
      rw [hq2 c e1] at ne
      exact a2 c d hc hd e1 e2 e ne
  · obtain ⟨c, c1, c2, c3⟩ := a3 r r1 rk
    by_cases e : c = z j
    · exact ⟨z i, zN i hi, fun x => hne x.symm, by rw [hq1, ← e]; exact c3⟩
    · exact ⟨c, c1, e, by rw [hq2 c c2]; exact c3⟩
  · by_cases e1 : c = z i
    · rw [e1, hq1]; exact a4 (z j) (zN j (by omega)) hne
    · rw [hq2 c e1]; exact a4 c hc e1
  · by_cases e1 : c = z i
    · rw [e1, hq1, hqj]; exact h3
    · rw [hq2 c e1] at hx ⊢
      exact a5 c c1 cN e1 hx
  · by_cases e1 : c = z i
    · rw [e1, hq1, hqj] at hx
      exact absurd hx hpj
    · rw [hq2 c e1] at hx
      exact a6 c c1 cN e1 hx
theorem hu_A_end {N k step : Nat} {a : Nat → Nat → Int} {u v : Nat → Int} {p q way z : Nat → Nat} (hM : hu_M N k a u v p) (hZ : hu_Z N step a u v p way z) (hA : hu_A N k 0 a u v p q z) : hu_G N k a u v q := by
  obtain ⟨m0, mk, m1, m2, m3, m4, m5, m6, m7, m8⟩ := hM
  obtain ⟨a0, a1, a2, a3, a4, a5, a6⟩ := hA
  have z0 := hZ.1
  rw [z0] at a2 a3 a4 a5 a6
  refine ⟨fun c c1 cN => a4 c cN (by omega), fun c d c1 cN d1 dN e hn => a2 c d cN dN (by omega) (by omega) e hn, fun i i1 ik => ?_, m4, fun c c1 cN hn => a5 c c1 cN (by omega) hn, m6, fun c c1 cN hn => a6 c c1 cN (by omega) hn, m8⟩
  obtain ⟨c, h1, h2, h3⟩ := a3 i i1 ik
  exact ⟨c, by omega, h1, h3⟩
/-- row k + 1 comes -/
theorem hu_G_next {N k : Nat} {a : Nat → Nat → Int} {u v : Nat → Int} {p q : Nat → Nat} (hG : hu_G N k a u v p) (ha : ∀ c, 1 ≤ c → c ≤ N → 0 ≤ a (k + 1) c) (h0 : q 0 = k + 1) (hq : ∀ c, 1 ≤ c → c ≤ N → q c = p c) : hu_M N (k + 1) a u v q := by
  obtain ⟨g1, g2, g3, g4, g5, g6, g7, g8⟩ := hG
  refine ⟨h0, by omega, fun c c1 cN => ?_, fun c d hc hd e hn => ?_, fun i i1 ik => ?_, fun i c i1 ik c1 cN => ?_, fun c c1 cN hn => ?_, g6, fun c c1 cN hn => ?_, fun i hi => g8 i (by omega)⟩
  · have := g1 c c1 cN
    rw [hq c c1 cN]; omega
  · rcases Nat.eq_zero_or_pos c with x | x <;> rcases Nat.eq_zero_or_pos d with y | y
    · omega
    · rw [x, h0, hq d y hd] at e
      have := g1 d y hd
      omega
    · rw [y, h0, hq c x hc] at e
      have := g1 c x hc
      omega
    · rw [hq c x hc, hq d y hd] at e
      rw [hq c x hc] at hn
      exact g2 c d x hc y hd e hn
  · obtain ⟨c, c1, cN, e⟩ := g3 i i1 (by omega)
    exact ⟨c, c1, cN, by rw [hq c c1 cN]; exact e⟩
  · rcases Nat.lt_or_ge k i with x | x
    · have e : i = k + 1 := by omega
      have h1 := g8 i x
      have h2 := g6 c c1 cN
      have h3 := ha c c1 cN
      rw [← e] at h3
      omega
    · exact g4 i c i1 x c1 cN
  · rw [hq c c1 cN] at hn ⊢
    exact g5 c c1 cN hn
  · rw [hq c c1 cN] at hn
    exact g7 c c1 cN hn
/-- when all n rows have their columns, no other choice of columns is cheaper -/
theorem hu_G_best {N n : Nat} {a : Nat → Nat → Int} {u v : Nat → Int} {p : Nat → Nat} (hG : hu_G N n a u v p) {m s : Nat → Nat} (hm : ∀ i, i < n → m i < N ∧ p (m i + 1) = i + 1) (hs : hu_inj s n N) :
    hu_sum (fun i => a (i + 1) (m i + 1)) n ≤ hu_sum (fun i => a (i + 1) (s i + 1)) n := by
  obtain ⟨g1, g2, g3, g4, g5, g6, g7, g8⟩ := hG
  refine hu_opt (N := N) (a := fun i c => a (i + 1) (c + 1)) (u := fun i => u (i + 1)) (v := fun c => v (c + 1)) (m := m) (s := s) ⟨fun i hi => (hm i hi).1, fun i j hi hj e => ?_⟩ (fun i c hi hc => g4 (i + 1) (c + 1) (by omega) (by omega) (by omega) (by omega)) (fun i hi => ?_) (fun c hc => g6 (c + 1) (by omega) (by omega)) (fun c hc hn => g7 (c + 1) (by omega) (by omega) ?_) hs
  · have h1 := (hm i hi).2
    have h2 := (hm j hj).2
    rw [e] at h1
    omega
  · have h1 := g5 (m i + 1) (by omega) (by have := (hm i hi).1; omega) (by rw [(hm i hi).2]; omega)
    rw [(hm i hi).2] at h1
    exact h1
  · rcases Nat.eq_zero_or_pos (p (c + 1)) with x | x
    · exact x
    · have h1 := g1 (c + 1) (by omega) (by omega)
      have h2 := (hm (p (c + 1) - 1) (by omega)).2
      have h3 := (hm (p (c + 1) - 1) (by omega)).1
      have h4 := g2 (m (p (c + 1) - 1) + 1) (c + 1) (by omega) (by omega) (by omega) (by omega) (by rw [h2]; omega) (by rw [h2]; omega)
      exact absurd (by omega) (hn (p (c + 1) - 1) (by omega))
end
section
/-! PURE: plans and their prices. Groups are 0 .. n-1 (n at most 8), places 0 .. 11, and 12 stands for none. -/
def pl_W : Int := 8000001
def pl_P : Int := 815730721
/-- the price of group i at place f (12: none), with the plan's digit -/
def pl_pr (cost : Nat → Nat → Int) (i f : Nat) : Int := (if f = 12 then pl_W else cost i f) * pl_P + (f : Int) * (13 : Int) ^ (7 - i)
/-- a plan: places that are allowed, each for one group at most -/
def pl_ok (n : Nat) (al : Nat → Nat → Prop) (f : Nat → Nat) : Prop := (∀ i, i < n → f i ≤ 12 ∧ (f i ≠ 12 → al i (f i))) ∧ ∀ i j, i < n → j < n → f i = f j → f i ≠ 12 → i = j
def pl_tot (n : Nat) (cost : Nat → Nat → Int) (f : Nat → Nat) : Int := hu_sum (fun i => pl_pr cost i (f i)) n
/-- the digits of a plan, read as a number -/
def pl_num (f : Nat → Nat) : Nat → Int
  | 0 => 0
  | n + 1 => 13 * pl_num f n + (f n : Int)
theorem pl_pow {i : Nat} (h : i < 8) : (13 : Int) ^ (8 - i) = 13 * (13 : Int) ^ (7 - i) := by
  have e : 8 - i = (7 - i) + 1 := by omega
  rw [e, Int.pow_succ, Int.mul_comm]
theorem pl_dig (f : Nat → Nat) : ∀ n, n ≤ 8 → hu_sum (fun i => (f i : Int) * (13 : Int) ^ (7 - i)) n = pl_num f n * (13 : Int) ^ (8 - n) := by
  intro n
  induction n with
  | zero => intro _; simp [hu_sum, pl_num]
  | succ n ih =>
    intro h
    simp only [hu_sum, pl_num]
    have e : 8 - (n + 1) = 7 - n := by omega
    rw [ih (by omega), pl_pow (by omega), e, Int.add_mul, Int.mul_comm 13 (pl_num f n), Int.mul_assoc]
theorem pl_num_in (f : Nat → Nat) : ∀ n, (∀ i, i < n → f i ≤ 12) → 0 ≤ pl_num f n ∧ pl_num f n < (13 : Int) ^ n := by
  intro n
  induction n with
  | zero => intro _; simp [pl_num]
  | succ n ih =>
    intro h
    obtain ⟨h1, h2⟩ := ih (fun i hi => h i (by omega))
    have h3 := h n (by omega)
    simp only [pl_num]
    rw [Int.pow_succ]
    generalize (13 : Int) ^ n = w at h2 ⊢
    omega
theorem pl_num_inj (f g : Nat → Nat) : ∀ n, (∀ i, i < n → f i ≤ 12) → (∀ i, i < n → g i ≤ 12) → pl_num f n = pl_num g n → ∀ i, i < n → f i = g i := by
  intro n
  induction n with
  | zero => intro _ _ _ i hi; omega
  | succ n ih =>
    intro hf hg e i hi
    simp only [pl_num] at e
    have h1 := hf n (by omega)
    have h2 := hg n (by omega)
    have e1 : pl_num f n = pl_num g n := by omega
    rcases Nat.lt_or_ge i n with q | q
    · exact ih (fun i hi => hf i (by omega)) (fun i hi => hg i (by omega)) e1 i q
    · have : i = n := by omega
      subst this
      omega
/-- the costs alone, none as dear as pl_W -/
def pl_key (n : Nat) (cost : Nat → Nat → Int) (f : Nat → Nat) : Int := hu_sum (fun i => if f i = 12 then pl_W else cost i (f i)) n
theorem hu_sum_mul (f : Nat → Int) (k : Int) (n : Nat) : hu_sum (fun i => f i * k) n = hu_sum f n * k := by
  induction n with
  | zero => simp [hu_sum]
  | succ n ih => simp only [hu_sum]; rw [ih, Int.add_mul]
theorem pl_split (n : Nat) (hn : n ≤ 8) (cost : Nat → Nat → Int) (f : Nat → Nat) : pl_tot n cost f = pl_key n cost f * pl_P + pl_num f n * (13 : Int) ^ (8 - n) := by
  unfold pl_tot pl_key pl_pr
  rw [hu_sum_add, hu_sum_mul, pl_dig f n hn]
theorem pl_low {n : Nat} (hn : n ≤ 8) {f : Nat → Nat} (h : ∀ i, i < n → f i ≤ 12) : 0 ≤ pl_num f n * (13 : Int) ^ (8 - n) ∧ pl_num f n * (13 : Int) ^ (8 - n) < pl_P := by
  obtain ⟨h1, h2⟩ := pl_num_in f n h
  have hp : (0 : Int) < (13 : Int) ^ (8 - n) := Int.pow_pos (by decide)
  refine ⟨Int.mul_nonneg h1 (Int.le_of_lt hp), ?_⟩
  have h3 := Int.mul_lt_mul_of_pos_right h2 hp
  rw [← Int.pow_add, show n + (8 - n) = 8 by omega] at h3
  have h4 : (13 : Int) ^ 8 = pl_P := by decide
  rw [h4] at h3
  exact h3
/-- two plans of one price are one -/
theorem pl_uniq {n : Nat} (hn : n ≤ 8) {cost : Nat → Nat → Int} {f g : Nat → Nat} (hf : ∀ i, i < n → f i ≤ 12) (hg : ∀ i, i < n → g i ≤ 12) (e : pl_tot n cost f = pl_tot n cost g) : ∀ i, i < n → f i = g i := by
  rw [pl_split n hn, pl_split n hn] at e
  have h1 := pl_low hn hf
  have h2 := pl_low hn hg
  have hp : (0 : Int) < (13 : Int) ^ (8 - n) := Int.pow_pos (by decide)
  have e2 : pl_num f n * (13 : Int) ^ (8 - n) = pl_num g n * (13 : Int) ^ (8 - n) := by
    unfold pl_P at *
    generalize pl_num f n * (13 : Int) ^ (8 - n) = a at *
    generalize pl_num g n * (13 : Int) ^ (8 - n) = b at *
    omega
  exact pl_num_inj f g n hf hg (Int.eq_of_mul_eq_mul_right (Int.ne_of_gt hp) e2)
/-- the table: row i, columns 0 .. 11 the places, 12 .. 19 for none -/
def pl_tab (cost : Nat → Nat → Int) (al : Nat → Nat → Prop) [∀ i c, Decidable (al i c)] (i c : Nat) : Int := if c < 12 then (if al i c then pl_pr cost i c else (pl_W + 1) * pl_P) else pl_pr cost i 12
theorem hu_sum_upd (f g : Nat → Int) (k : Nat) : ∀ n, k < n → (∀ i, i < n → i ≠ k → f i = g i) → hu_sum f n - f k = hu_sum g n - g k := by
  intro n
  induction n with
  | zero => intro h; omega
  | succ n ih =>
    intro hk h
    simp only [hu_sum]
    by_cases e : k = n
    · subst e
      rw [hu_sum_congr (f := f) (g := g) (fun i hi => h i (by omega) (by omega))]
      omega
    · have h1 := ih (by omega) (fun i hi hn => h i (by omega) hn)
      have h2 := h n (by omega) (by omega)
      omega
/-- a cheapest choice of columns is a plan, and a cheapest one -/
theorem pl_best {n : Nat} (hn : n ≤ 8) {cost : Nat → Nat → Int} {al : Nat → Nat → Prop} [∀ i c, Decidable (al i c)] {m : Nat → Nat} (hm : hu_inj m n 20)
    (hmin : ∀ s, hu_inj s n 20 → hu_sum (fun i => pl_tab cost al i (m i)) n ≤ hu_sum (fun i => pl_tab cost al i (s i)) n) :
    pl_ok n al (fun i => if m i < 12 then m i else 12) ∧ ∀ f, pl_ok n al f → pl_tot n cost (fun i => if m i < 12 then m i else 12) ≤ pl_tot n cost f := by
  have hal : ∀ i, i < n → m i < 12 → al i (m i) := by
    intro i hi h12
    by_cases h : al i (m i)
    · exact h
    · exfalso
      have hex : ∃ c, 12 ≤ c ∧ c < 20 ∧ ∀ j, j < n → m j ≠ c := by
        by_cases q : ∃ c, 12 ≤ c ∧ c < 20 ∧ ∀ j, j < n → m j ≠ c
        · exact q
        · exfalso
          have hall : ∀ c, 12 ≤ c → c < 20 → ∃ j, j < n ∧ m j = c := by
            intro c c1 c2
            by_cases z : ∃ j, j < n ∧ m j = c
            · exact z
            · exact absurd ⟨c, c1, c2, fun j hj e => z ⟨j, hj, e⟩⟩ q
          have hpick : ∃ w : Nat → Nat, ∀ c, 12 ≤ c → c < 20 → w c < n ∧ m (w c) = c :=
            ⟨fun c => if h : 12 ≤ c ∧ c < 20 then (hall c h.1 h.2).choose else 0, fun c c1 c2 => by
              simp only [dif_pos (And.intro c1 c2)]
              exact (hall c c1 c2).choose_spec⟩
          obtain ⟨w, hw⟩ := hpick
          have := hu_pigeon n 9 (fun t => if t = 0 then i else w (11 + t)) ⟨fun t ht => by
              by_cases z : t = 0
              · simp only [if_pos z]; exact hi
              · simp only [if_neg z]; exact (hw (11 + t) (by omega) (by omega)).1, fun t t' ht ht' e => by
              by_cases z : t = 0 <;> by_cases z' : t' = 0
              · omega
              · simp only [if_pos z, if_neg z'] at e
                have := (hw (11 + t') (by omega) (by omega)).2
                rw [← e] at this
                omega
              · simp only [if_neg z, if_pos z'] at e
                have := (hw (11 + t) (by omega) (by omega)).2
                rw [e] at this
                omega
              · simp only [if_neg z, if_neg z'] at e
                have h1 := (hw (11 + t) (by omega) (by omega)).2
                have h2 := (hw (11 + t') (by omega) (by omega)).2
                rw [e] at h1
                omega⟩
          omega
      obtain ⟨c, c1, c2, hc⟩ := hex
      have h1 := hmin (fun j => if j = i then c else m j) ⟨fun j hj => by
          by_cases z : j = i
          · simp only [if_pos z]; exact c2
          · simp only [if_neg z]; exact hm.1 j hj, fun j j' hj hj' e => by
          by_cases z : j = i <;> by_cases z' : j' = i
          · omega
          · simp only [if_pos z, if_neg z'] at e
            exact absurd e.symm (hc j' hj')
          · simp only [if_neg z, if_pos z'] at e
            exact absurd e (hc j hj)
          · simp only [if_neg z, if_neg z'] at e
            exact hm.2 j j' hj hj' e⟩
      have h2 := hu_sum_upd (fun j => pl_tab cost al j (m j)) (fun j => pl_tab cost al j (if j = i then c else m j)) i n hi (fun j _ hne => by simp only [if_neg hne])
      have h3 : pl_tab cost al i (m i) = (pl_W + 1) * pl_P := by simp only [pl_tab, if_pos h12, if_neg h]
      have h2 : hu_sum (fun j => pl_tab cost al j (m j)) n - pl_tab cost al i (m i) = hu_sum (fun j => pl_tab cost al j (if j = i then c else m j)) n - pl_tab cost al i (if i = i then c else m i) := h2
      have h1 : hu_sum (fun j => pl_tab cost al j (m j)) n ≤ hu_sum (fun j => pl_tab cost al j (if j = i then c else m j)) n := h1
      rw [if_pos rfl] at h2
      have h4 : pl_tab cost al i c = pl_pr cost i 12 := by
        simp only [pl_tab, if_neg (show ¬ c < 12 by omega)]
      have h5 : pl_pr cost i 12 < (pl_W + 1) * pl_P := by
        have h6 : (13 : Int) ^ (7 - i) ≤ 62748517 := (show ∀ j, j < 8 → (13 : Int) ^ (7 - j) ≤ 62748517 by decide) i (by omega)
        simp only [pl_pr, if_true, pl_W, pl_P]
        omega
      rw [h3, h4] at h2
      omega
  refine ⟨⟨fun i hi => ?_, fun i j hi hj e hne => ?_⟩, fun f hf => ?_⟩
  · by_cases h : m i < 12
    · simp only [if_pos h]; exact ⟨by omega, fun _ => hal i hi h⟩
    · simp only [if_neg h]; exact ⟨Nat.le_refl 12, fun z => absurd rfl z⟩
  · have e : (if m i < 12 then m i else 12) = (if m j < 12 then m j else 12) := e
    have hne : (if m i < 12 then m i else 12) ≠ 12 := hne
    by_cases h : m i < 12
    · by_cases h' : m j < 12
      · rw [if_pos h, if_pos h'] at e
        exact hm.2 i j hi hj e
      · rw [if_pos h, if_neg h'] at e
        omega
    · rw [if_neg h] at hne
      exact absurd rfl hne
  · have h1 := hmin (fun i => if f i < 12 then f i else 12 + i) ⟨fun i hi => by
        by_cases h : f i < 12
        · simp only [if_pos h]; omega
        · simp only [if_neg h]; omega, fun i j hi hj e => by
        by_cases h : f i < 12 <;> by_cases h' : f j < 12
        · simp only [if_pos h, if_pos h'] at e
          exact hf.2 i j hi hj e (by omega)
        · simp only [if_pos h, if_neg h'] at e
          omega
        · simp only [if_neg h, if_pos h'] at e
          omega
        · simp only [if_neg h, if_neg h'] at e
          omega⟩
    have h2 : hu_sum (fun i => pl_tab cost al i (m i)) n = pl_tot n cost (fun i => if m i < 12 then m i else 12) := hu_sum_congr (fun i hi => by
      by_cases h : m i < 12
      · simp only [pl_tab, if_pos h, if_pos (hal i hi h)]
      · simp only [pl_tab, if_neg h])
    have h3 : hu_sum (fun i => pl_tab cost al i (if f i < 12 then f i else 12 + i)) n = pl_tot n cost f := hu_sum_congr (fun i hi => by
      have hb := (hf.1 i hi).1
      by_cases h : f i < 12
      · have ha := (hf.1 i hi).2 (by omega)
        simp only [pl_tab, if_pos h, if_pos ha]
      · have e : f i = 12 := by omega
        show pl_tab cost al i (if f i < 12 then f i else 12 + i) = pl_pr cost i (f i)
        rw [if_neg h, e]
        simp only [pl_tab, if_neg (show ¬ 12 + i < 12 by omega)])
    rw [h2, h3] at h1
    exact h1
end
section
/-! THE WORLD BY ROLES: a list dl of roles; a role's cell is F r = (address, contents). -/
theorem rp_at {dl : List Nat} (F : Nat → Nat × va_E) {r : Nat} (h : r ∈ dl) : ∃ q : Nat, dl[q]? = some r ∧ (dl.map F)[q]? = some (F r) := by
  obtain ⟨q, hq⟩ := List.getElem?_of_mem h
  exact ⟨q, hq, by rw [List.getElem?_map, hq]; rfl⟩
theorem rp_set {dl : List Nat} {F F' : Nat → Nat × va_E} {A : Nat → Prop} (hD : va_D A (dl.map F)) {q r : Nat} (hq : dl[q]? = some r) (h : ∀ r', r' ∈ dl → r' ≠ r → F' r' = F r') : (dl.map F).set q (F' r) = dl.map F' := by
  apply List.ext_getElem?
  intro i
  by_cases hi : i = q
  · subst hi
    have hl : i < (dl.map F).length := by rw [List.length_map]; exact (List.getElem?_eq_some_iff.mp hq).1
    rw [List.getElem?_set_self hl, List.getElem?_map, hq]
    rfl
  · rw [List.getElem?_set_ne (Ne.symm hi), List.getElem?_map, List.getElem?_map]
    cases hd : dl[i]? with
    | none => rfl
    | some r' =>
      have hne : r' ≠ r := by
        intro e
        subst e
        exact hi (hD.1 i q (F r') (F r') (by rw [List.getElem?_map, hd]; rfl) (by rw [List.getElem?_map, hq]; rfl) rfl)
      show some (F r') = some (F' r')
      rw [h r' (List.mem_of_getElem? hd) hne]
/-- a role's address and contents out of its row of ints and its row of longs -/
def rp_F (ad : Nat → Nat) (en : Nat → (Nat → Int32) → (Nat → Int64) → va_E) (S : Nat → Nat → Int32) (L : Nat → Nat → Int64) : Nat → Nat × va_E := fun r => (ad r, en r (S r) (L r))
theorem rp_FS {ad : Nat → Nat} {en : Nat → (Nat → Int32) → (Nat → Int64) → va_E} {S : Nat → Nat → Int32} {L : Nat → Nat → Int64} {r : Nat} {row : Nat → Int32} : ∀ (dl : List Nat) (r' : Nat), r' ∈ dl → r' ≠ r → rp_F ad en (va_up S r row) L r' = rp_F ad en S L r' := by
  intro dl r' _ h
  simp only [rp_F, va_up_ne S row h]
theorem rp_FL {ad : Nat → Nat} {en : Nat → (Nat → Int32) → (Nat → Int64) → va_E} {S : Nat → Nat → Int32} {L : Nat → Nat → Int64} {r : Nat} {row : Nat → Int64} : ∀ (dl : List Nat) (r' : Nat), r' ∈ dl → r' ≠ r → rp_F ad en S (va_up L r row) r' = rp_F ad en S L r' := by
  intro dl r' _ h
  simp only [rp_F, va_up_ne L row h]
section RPW
variable {p : Program} {l : Launch} {e : Env} {R : Room} {s : State} {m : MethodId} {args : Array Value} {below : List Frame} {meth : Method} {c : Code} {H : Heap} {locs : List Loc} {cells slots : Nat} {Q : State → Prop}
variable {cc : ByteArray} {pc : Nat} {ls : Array Slot} {rest : List Value} {D : va_G} {cl : List vw_C} {A : Nat → Prop} {a : Nat} {tys : List (ClassId × FieldType)} {H0 : Heap}
variable {dl : List Nat} {ad : Nat → Nat} {en : Nat → (Nat → Int32) → (Nat → Int64) → va_E} {S : Nat → Nat → Int32} {L : Nat → Nat → Int64}
/-- a field is read -/
theorem rp_get (hexec : p.tables.exec = Jvm.exec) (hb : c.code = cc) {own ref C : String} {T : u_T} {N ci index : Nat} {Ts : List Cond} (hts : ∀ w ∈ Ts, w.before args s = true) (hin : ∀ w ∈ u_ws C T N, w ∈ Ts) (hown : s.vm.findClass own = some m.cls) (hK : va_K D cl tys s) (hP : va_P D cl (dl.map (rp_F ad en S L)) H) {r : Nat} (hr : r ∈ dl) {fs : List Value} (he : en r (S r) (L r) = .inr (ci, fs)) (hc : cl[ci]? = some (C, T, N)) (k : Nat) (hk : k < N) (hlink : (Cond.fieldLink own index ref (T k).2.1 (T k).2.2.1).before args s = true) (hsame : ∀ x, s.fieldFound? (T k).1 (T k).2.1 (T k).2.2.1 = some x → s.fieldFound? ref (T k).2.1 (T k).2.2.1 = some x) {v : Value} (hv : fs[k]? = some v) (hdg : decode cc pc = .ok (.getfield index, 3))
    (kk : W p l e R s m args below meth c H locs cells slots Q (F0 m (pc + 3) ls (v :: rest))) : W p l e R s m args below meth c H locs cells slots Q (F0 m pc ls (.ref (ad r) :: rest)) := by
  obtain ⟨q, -, hq⟩ := rp_at (rp_F ad en S L) hr
  have hq2 : (dl.map (rp_F ad en S L))[q]? = some (ad r, .inr (ci, fs)) := by rw [hq]; simp only [rp_F, he]
  exact va_get hexec hb hts hin hown hK hP q hq2 hc k hk hlink hsame hv hdg kk
/-- an int field is written -/
theorem rp_put (hexec : p.tables.exec = Jvm.exec) (hb : c.code = cc) {own ref C : String} {T : u_T} {N ci index : Nat} {Ts : List Cond} (hts : ∀ w ∈ Ts, w.before args s = true) (hin : ∀ w ∈ u_ws C T N, w ∈ Ts) (ty0 : Nat → FieldType) (hty : ∀ k, k < N → parseFieldDescriptor (T k).2.2.1 = some (ty0 k)) (hnm : ∀ a, a < N → ∀ b, b < N → a ≠ b → (T a).2.1 ≠ (T b).2.1) (hown : s.vm.findClass own = some m.cls) (hK : va_K D cl tys s) (hP : va_P D cl (dl.map (rp_F ad en S L)) H) (hD : va_D A (dl.map (rp_F ad en S L))) (hS0 : va_S A H0 H locs) {r : Nat} (hr : r ∈ dl) {fs : List Value} (he : en r (S r) (L r) = .inr (ci, fs)) (hc : cl[ci]? = some (C, T, N)) (k : Nat) (hk : k < N) (hlink : (Cond.fieldLink own index ref (T k).2.1 (T k).2.2.1).before args s = true) (hsame : ∀ x, s.fieldFound? (T k).1 (T k).2.1 (T k).2.2.1 = some x → s.fieldFound? ref (T k).2.1 (T k).2.2.1 = some x) (hfin : (T k).2.2.2 = false) {ty : FieldType} {x : Int32} (hd : parseFieldDescriptor (T k).2.2.1 = some ty) (hn : narrow ty (.int x) = .int x) (hfit : fits ty (.int x) = true) (hl : k < fs.length) (j : Nat) (he' : en r (upd (S r) j x) (L r) = .inr (ci, fs.set k (.int x)))
    (hdg : decode cc pc = .ok (.putfield index, 3)) (kk : ∀ (H1 : Heap) (locs1 : List Loc), va_P D cl (dl.map (rp_F ad en (va_up S r (upd (S r) j x)) L)) H1 → va_D A (dl.map (rp_F ad en (va_up S r (upd (S r) j x)) L)) → va_S A H0 H1 locs1 → W p l e R s m args below meth c H1 locs1 cells slots Q (F0 m (pc + 3) ls rest)) : W p l e R s m args below meth c H locs cells slots Q (F0 m pc ls (.int x :: .ref (ad r) :: rest)) := by
  obtain ⟨q, hq0, hq⟩ := rp_at (rp_F ad en S L) hr
  have hq2 : (dl.map (rp_F ad en S L))[q]? = some (ad r, .inr (ci, fs)) := by rw [hq]; simp only [rp_F, he]
  have e1 : rp_F ad en (va_up S r (upd (S r) j x)) L r = (ad r, .inr (ci, fs.set k (.int x))) := by simp only [rp_F, va_up_self, he']
  have e2 := rp_set (F' := rp_F ad en (va_up S r (upd (S r) j x)) L) hD hq0 (rp_FS dl)
  rw [e1] at e2
  exact va_put hexec hb hts hin ty0 hty hnm hown hK hP hD hS0 q hq2 hc k hk hlink hsame hfin hd hn hfit hl hdg (fun H1 locs1 hP1 hD1 hS1 => kk H1 locs1 (by rw [← e2]; exact hP1) (by rw [← e2]; exact hD1) hS1)
/-- a long field is written -/
theorem rp_putL (hexec : p.tables.exec = Jvm.exec) (hb : c.code = cc) {own ref C : String} {T : u_T} {N ci index : Nat} {Ts : List Cond} (hts : ∀ w ∈ Ts, w.before args s = true) (hin : ∀ w ∈ u_ws C T N, w ∈ Ts) (ty0 : Nat → FieldType) (hty : ∀ k, k < N → parseFieldDescriptor (T k).2.2.1 = some (ty0 k)) (hnm : ∀ a, a < N → ∀ b, b < N → a ≠ b → (T a).2.1 ≠ (T b).2.1) (hown : s.vm.findClass own = some m.cls) (hK : va_K D cl tys s) (hP : va_P D cl (dl.map (rp_F ad en S L)) H) (hD : va_D A (dl.map (rp_F ad en S L))) (hS0 : va_S A H0 H locs) {r : Nat} (hr : r ∈ dl) {fs : List Value} (he : en r (S r) (L r) = .inr (ci, fs)) (hc : cl[ci]? = some (C, T, N)) (k : Nat) (hk : k < N) (hlink : (Cond.fieldLink own index ref (T k).2.1 (T k).2.2.1).before args s = true) (hsame : ∀ x, s.fieldFound? (T k).1 (T k).2.1 (T k).2.2.1 = some x → s.fieldFound? ref (T k).2.1 (T k).2.2.1 = some x) (hfin : (T k).2.2.2 = false) {ty : FieldType} {x : Int64} (hd : parseFieldDescriptor (T k).2.2.1 = some ty) (hn : narrow ty (.long x) = .long x) (hfit : fits ty (.long x) = true) (hl : k < fs.length) (j : Nat) (he' : en r (S r) (vp_updL (L r) j x) = .inr (ci, fs.set k (.long x)))
    (hdg : decode cc pc = .ok (.putfield index, 3)) (kk : ∀ (H1 : Heap) (locs1 : List Loc), va_P D cl (dl.map (rp_F ad en S (va_up L r (vp_updL (L r) j x)))) H1 → va_D A (dl.map (rp_F ad en S (va_up L r (vp_updL (L r) j x)))) → va_S A H0 H1 locs1 → W p l e R s m args below meth c H1 locs1 cells slots Q (F0 m (pc + 3) ls rest)) : W p l e R s m args below meth c H locs cells slots Q (F0 m pc ls (.long x :: .ref (ad r) :: rest)) := by
  obtain ⟨q, hq0, hq⟩ := rp_at (rp_F ad en S L) hr
  have hq2 : (dl.map (rp_F ad en S L))[q]? = some (ad r, .inr (ci, fs)) := by rw [hq]; simp only [rp_F, he]
  have e1 : rp_F ad en S (va_up L r (vp_updL (L r) j x)) r = (ad r, .inr (ci, fs.set k (.long x))) := by simp only [rp_F, va_up_self, he']
  have e2 := rp_set (F' := rp_F ad en S (va_up L r (vp_updL (L r) j x))) hD hq0 (rp_FL dl)
  rw [e1] at e2
  exact va_put hexec hb hts hin ty0 hty hnm hown hK hP hD hS0 q hq2 hc k hk hlink hsame hfin hd hn hfit hl hdg (fun H1 locs1 hP1 hD1 hS1 => kk H1 locs1 (by rw [← e2]; exact hP1) (by rw [← e2]; exact hD1) hS1)
/-- arrays are read -/
theorem rp_ild (hexec : p.tables.exec = Jvm.exec) (hb : c.code = cc) (hK : va_K D cl tys s) (hP : va_P D cl (dl.map (rp_F ad en S L)) H) (t0 : Nat) {r : Nat} (hr : r ∈ dl) {cA : ClassId} {n : Nat} {f : Nat → Int32} (he : en r (S r) (L r) = .inl (cA, n, .inl f)) (ht : tys[t0]? = some (cA, .int)) {i : Int32} (hin : vp_in i n) (hdg : decode cc pc = .ok (.iaload, 1))
    (kk : W p l e R s m args below meth c H locs cells slots Q (F0 m (pc + 1) ls (.int (f i.toNatClampNeg) :: rest))) : W p l e R s m args below meth c H locs cells slots Q (F0 m pc ls (.int i :: .ref (ad r) :: rest)) := by
  obtain ⟨q, -, hq⟩ := rp_at (rp_F ad en S L) hr
  have hq2 : (dl.map (rp_F ad en S L))[q]? = some (ad r, .inl (cA, n, .inl f)) := by rw [hq]; simp only [rp_F, he]
  exact va_iald hexec hb hK hP q t0 hq2 ht hin hdg kk
theorem rp_zld (hexec : p.tables.exec = Jvm.exec) (hb : c.code = cc) (hK : va_K D cl tys s) (hP : va_P D cl (dl.map (rp_F ad en S L)) H) (t0 : Nat) {r : Nat} (hr : r ∈ dl) {cA : ClassId} {n : Nat} {f : Nat → Int32} (he : en r (S r) (L r) = .inl (cA, n, .inl f)) (ht : tys[t0]? = some (cA, .boolean)) {i : Int32} (hin : vp_in i n) (hdg : decode cc pc = .ok (.baload, 1))
    (kk : W p l e R s m args below meth c H locs cells slots Q (F0 m (pc + 1) ls (.int (f i.toNatClampNeg) :: rest))) : W p l e R s m args below meth c H locs cells slots Q (F0 m pc ls (.int i :: .ref (ad r) :: rest)) := by
  obtain ⟨q, -, hq⟩ := rp_at (rp_F ad en S L) hr
  have hq2 : (dl.map (rp_F ad en S L))[q]? = some (ad r, .inl (cA, n, .inl f)) := by rw [hq]; simp only [rp_F, he]
  exact va_zald hexec hb hK hP q t0 hq2 ht hin hdg kk
theorem rp_lld (hexec : p.tables.exec = Jvm.exec) (hb : c.code = cc) (hK : va_K D cl tys s) (hP : va_P D cl (dl.map (rp_F ad en S L)) H) (t0 : Nat) {r : Nat} (hr : r ∈ dl) {cA : ClassId} {n : Nat} {f : Nat → Int64} (he : en r (S r) (L r) = .inl (cA, n, .inr (.inl f))) (ht : tys[t0]? = some (cA, .long)) {i : Int32} (hin : vp_in i n) (hdg : decode cc pc = .ok (.laload, 1))
    (kk : W p l e R s m args below meth c H locs cells slots Q (F0 m (pc + 1) ls (.long (f i.toNatClampNeg) :: rest))) : W p l e R s m args below meth c H locs cells slots Q (F0 m pc ls (.int i :: .ref (ad r) :: rest)) := by
  obtain ⟨q, -, hq⟩ := rp_at (rp_F ad en S L) hr
  have hq2 : (dl.map (rp_F ad en S L))[q]? = some (ad r, .inl (cA, n, .inr (.inl f))) := by rw [hq]; simp only [rp_F, he]
  exact va_lald hexec hb hK hP q t0 hq2 ht hin hdg kk
theorem rp_ald (hexec : p.tables.exec = Jvm.exec) (hb : c.code = cc) (hK : va_K D cl tys s) (hP : va_P D cl (dl.map (rp_F ad en S L)) H) (t0 : Nat) {r : Nat} (hr : r ∈ dl) {cA : ClassId} {n : Nat} {f : Nat → Option Nat} {ty : FieldType} (hty : ty.isReference = true) (he : en r (S r) (L r) = .inl (cA, n, .inr (.inr (.inr (.inr f))))) (ht : tys[t0]? = some (cA, ty)) {i : Int32} (hin : vp_in i n) {y : Nat} (hy : f i.toNatClampNeg = some y) (hdg : decode cc pc = .ok (.aaload, 1))
    (kk : W p l e R s m args below meth c H locs cells slots Q (F0 m (pc + 1) ls (.ref y :: rest))) : W p l e R s m args below meth c H locs cells slots Q (F0 m pc ls (.int i :: .ref (ad r) :: rest)) := by
  obtain ⟨q, -, hq⟩ := rp_at (rp_F ad en S L) hr
  have hq2 : (dl.map (rp_F ad en S L))[q]? = some (ad r, .inl (cA, n, .inr (.inr (.inr (.inr f))))) := by rw [hq]; simp only [rp_F, he]
  have hlt : i.toNatClampNeg < n := Nat.not_le.mp fun q => hin (Or.inr q)
  exact W.aald (v := .ref y) (ty := ty) hexec hb (hP q _ hq2) ((hK.2 t0 _ ht).1 n (fun j => va_rf (f j))) hty (fun q => by cases q) (by show ¬ (i < 0 ∨ (arrV _ _ _).slots.size ≤ _); rw [arrV_size]; exact hin) (by show (arrV _ _ _).slots[_]? = _; rw [arrV_read _ _ hlt, hy]; rfl) rfl rfl hdg kk
/-- arrays are written -/
theorem rp_ist (hexec : p.tables.exec = Jvm.exec) (hb : c.code = cc) (hK : va_K D cl tys s) (hP : va_P D cl (dl.map (rp_F ad en S L)) H) (hD : va_D A (dl.map (rp_F ad en S L))) (hS : va_S A H0 H locs) (t0 : Nat) {r : Nat} (hr : r ∈ dl) {cA : ClassId} {n : Nat} (he : ∀ f : Nat → Int32, en r f (L r) = .inl (cA, n, .inl f)) (ht : tys[t0]? = some (cA, .int)) {i x : Int32} (hin : vp_in i n) (hdg : decode cc pc = .ok (.iastore, 1))
    (kk : ∀ (H1 : Heap) (locs1 : List Loc), va_P D cl (dl.map (rp_F ad en (va_up S r (upd (S r) i.toNatClampNeg x)) L)) H1 → va_D A (dl.map (rp_F ad en (va_up S r (upd (S r) i.toNatClampNeg x)) L)) → va_S A H0 H1 locs1 → W p l e R s m args below meth c H1 locs1 cells slots Q (F0 m (pc + 1) ls rest)) : W p l e R s m args below meth c H locs cells slots Q (F0 m pc ls (.int x :: .int i :: .ref (ad r) :: rest)) := by
  obtain ⟨q, hq0, hq⟩ := rp_at (rp_F ad en S L) hr
  have hq2 : (dl.map (rp_F ad en S L))[q]? = some (ad r, .inl (cA, n, .inl (S r))) := by rw [hq]; simp only [rp_F, he]
  have e1 : rp_F ad en (va_up S r (upd (S r) i.toNatClampNeg x)) L r = (ad r, .inl (cA, n, .inl (upd (S r) i.toNatClampNeg x))) := by simp only [rp_F, va_up_self, he]
  have e2 := rp_set (F' := rp_F ad en (va_up S r (upd (S r) i.toNatClampNeg x)) L) hD hq0 (rp_FS dl)
  rw [e1] at e2
  exact va_iast hexec hb hK hP hD hS q t0 hq2 ht hin hdg (fun H1 locs1 hP1 hD1 hS1 => kk H1 locs1 (by rw [← e2]; exact hP1) (by rw [← e2]; exact hD1) hS1)
theorem rp_zst (hexec : p.tables.exec = Jvm.exec) (hb : c.code = cc) (hK : va_K D cl tys s) (hP : va_P D cl (dl.map (rp_F ad en S L)) H) (hD : va_D A (dl.map (rp_F ad en S L))) (hS : va_S A H0 H locs) (t0 : Nat) {r : Nat} (hr : r ∈ dl) {cA : ClassId} {n : Nat} (he : ∀ f : Nat → Int32, en r f (L r) = .inl (cA, n, .inl f)) (ht : tys[t0]? = some (cA, .boolean)) {i x : Int32} (hx : vp_nar .boolean x = x) (hin : vp_in i n) (hdg : decode cc pc = .ok (.bastore, 1))
    (kk : ∀ (H1 : Heap) (locs1 : List Loc), va_P D cl (dl.map (rp_F ad en (va_up S r (upd (S r) i.toNatClampNeg x)) L)) H1 → va_D A (dl.map (rp_F ad en (va_up S r (upd (S r) i.toNatClampNeg x)) L)) → va_S A H0 H1 locs1 → W p l e R s m args below meth c H1 locs1 cells slots Q (F0 m (pc + 1) ls rest)) : W p l e R s m args below meth c H locs cells slots Q (F0 m pc ls (.int x :: .int i :: .ref (ad r) :: rest)) := by
  obtain ⟨q, hq0, hq⟩ := rp_at (rp_F ad en S L) hr
  have hq2 : (dl.map (rp_F ad en S L))[q]? = some (ad r, .inl (cA, n, .inl (S r))) := by rw [hq]; simp only [rp_F, he]
  have e1 : rp_F ad en (va_up S r (upd (S r) i.toNatClampNeg x)) L r = (ad r, .inl (cA, n, .inl (upd (S r) i.toNatClampNeg x))) := by simp only [rp_F, va_up_self, he]
  have e2 := rp_set (F' := rp_F ad en (va_up S r (upd (S r) i.toNatClampNeg x)) L) hD hq0 (rp_FS dl)
  rw [e1] at e2
  refine va_zast hexec hb hK hP hD hS q t0 hq2 ht hin hdg (fun H1 locs1 hP1 hD1 hS1 => ?_)
  rw [hx] at hP1 hD1
  exact kk H1 locs1 (by rw [← e2]; exact hP1) (by rw [← e2]; exact hD1) hS1
theorem rp_lst (hexec : p.tables.exec = Jvm.exec) (hb : c.code = cc) (hK : va_K D cl tys s) (hP : va_P D cl (dl.map (rp_F ad en S L)) H) (hD : va_D A (dl.map (rp_F ad en S L))) (hS : va_S A H0 H locs) (t0 : Nat) {r : Nat} (hr : r ∈ dl) {cA : ClassId} {n : Nat} (he : ∀ f : Nat → Int64, en r (S r) f = .inl (cA, n, .inr (.inl f))) (ht : tys[t0]? = some (cA, .long)) {i : Int32} {x : Int64} (hin : vp_in i n) (hdg : decode cc pc = .ok (.lastore, 1))
    (kk : ∀ (H1 : Heap) (locs1 : List Loc), va_P D cl (dl.map (rp_F ad en S (va_up L r (vp_updL (L r) i.toNatClampNeg x)))) H1 → va_D A (dl.map (rp_F ad en S (va_up L r (vp_updL (L r) i.toNatClampNeg x)))) → va_S A H0 H1 locs1 → W p l e R s m args below meth c H1 locs1 cells slots Q (F0 m (pc + 1) ls rest)) : W p l e R s m args below meth c H locs cells slots Q (F0 m pc ls (.long x :: .int i :: .ref (ad r) :: rest)) := by
  obtain ⟨q, hq0, hq⟩ := rp_at (rp_F ad en S L) hr
  have hq2 : (dl.map (rp_F ad en S L))[q]? = some (ad r, .inl (cA, n, .inr (.inl (L r)))) := by rw [hq]; simp only [rp_F, he]
  have e1 : rp_F ad en S (va_up L r (vp_updL (L r) i.toNatClampNeg x)) r = (ad r, .inl (cA, n, .inr (.inl (vp_updL (L r) i.toNatClampNeg x)))) := by simp only [rp_F, va_up_self, he]
  have e2 := rp_set (F' := rp_F ad en S (va_up L r (vp_updL (L r) i.toNatClampNeg x))) hD hq0 (rp_FL dl)
  rw [e1] at e2
  exact va_last hexec hb hK hP hD hS q t0 hq2 ht hin hdg (fun H1 locs1 hP1 hD1 hS1 => kk H1 locs1 (by rw [← e2]; exact hP1) (by rw [← e2]; exact hD1) hS1)
/-- a receiver -/
theorem rp_recv (hK : va_K D cl tys s) (hP : va_P D cl (dl.map (rp_F ad en S L)) H) {r ci : Nat} (hr : r ∈ dl) {fs : List Value} (he : en r (S r) (L r) = .inr (ci, fs)) {k : vw_C} (hc : cl[ci]? = some k) : ∃ cell : Cell, H[ad r]? = some cell ∧ cell.vm.isStatics = false ∧ s.vm.findClass k.1 = some cell.cls := by
  obtain ⟨q, -, hq⟩ := rp_at (rp_F ad en S L) hr
  have hq2 : (dl.map (rp_F ad en S L))[q]? = some (ad r, .inr (ci, fs)) := by rw [hq]; simp only [rp_F, he]
  exact va_recv hK hP hc hq2
/-- what a callee may change, the caller may -/
theorem rp_free {A0 : Nat → Prop} {F : Nat → Nat × va_E} (hD : va_D A0 (dl.map F)) (hS : va_S A0 H0 H locs) (hA : ∀ q, H0.size ≤ q → A0 q) : ∀ q, va_A (dl.map F) H.size q → A0 q := by
  intro q h
  rcases h with ⟨k, e, h⟩ | h
  · exact hD.2 k (q, e) h
  · exact hA q (Nat.le_trans hS.1 h)
end RPW
end
section
/-! VALUES AND WORLDS: ints, longs, roles (objects and arrays of the world by their number), and bare addresses. -/
abbrev av_T : Type := Int32 ⊕ Int64 ⊕ Nat ⊕ Nat
abbrev av_i (x : Int32) : av_T := Sum.inl x
abbrev av_l (x : Int64) : av_T := Sum.inr (Sum.inl x)
abbrev av_r (r : Nat) : av_T := Sum.inr (Sum.inr (Sum.inl r))
abbrev av_a (a : Nat) : av_T := Sum.inr (Sum.inr (Sum.inr a))
def av_v (ad : Nat → Nat) : av_T → Value
  | .inl x => .int x
  | .inr (.inl x) => .long x
  | .inr (.inr (.inl r)) => .ref (ad r)
  | .inr (.inr (.inr a)) => .ref a
def av_cat : av_T → Nat
  | .inr (.inl _) => 2
  | _ => 1
theorem av_cat_ok (ad : Nat → Nat) (v : av_T) : (av_v ad v).category = av_cat v := by
  rcases v with x | x | r | a <;> rfl
/-- a cell by its contents: an array (its kind, its length; ints, longs, or roles) or an object (its kind, its fields) -/
abbrev ac_T : Type := (Nat × Nat × (Nat ⊕ (Nat → Option Nat))) ⊕ (Nat × List av_T)
/-- the world: addresses of roles, kinds of arrays, how many units, how many places -/
abbrev wd_T : Type := (Nat → Nat) × (Nat → ClassId) × Nat × Nat
def ac_B (r : Nat) (row : Nat → Int32) (lr : Nat → Int64) : ac_T := match r with
  | 0 => .inr (0, [av_r 1, av_r 2, av_r 3, av_r 4, av_r 5, av_r 6, av_i (row 6), av_i (row 7), av_i (row 8), av_i (row 9), av_i (row 10)])
  | 3 => .inl (0, 8, .inl 0)
  | 4 => .inr (2, [av_i (row 0), av_i (row 1), av_i (row 2), av_i (row 3), av_i (row 4), av_i (row 5), av_i (row 6)])
  | 5 => .inr (1, [av_r 7, av_r 8, av_r 9, av_r 10, av_r 11, av_r 12, av_r 13, av_i (row 7), av_l (lr 8)])
  | 6 => .inl (0, 12, .inl 0)
  | 7 => .inl (5, 9, .inr (fun j => if j < 9 then some (14 + j) else none))
  | 8 => .inl (1, 9, .inl 1)
  | 9 => .inl (1, 21, .inl 1)
  | 10 => .inl (0, 21, .inl 0)
  | 11 => .inl (0, 21, .inl 0)
  | 12 => .inl (1, 21, .inl 1)
  | 13 => .inl (2, 21, .inl 0)
  | _ => .inl (1, 21, .inl 1)
def ac_M (r : Nat) (row : Nat → Int32) : ac_T := match r with
  | 0 => .inr (5, [av_i (row 0), av_i (row 1), av_r 403, av_r 404, av_r 405, av_r 406, av_r 407, av_r 408, av_r 409, av_r 410, av_i (row 10), av_r 412, av_r 413, av_r 414, av_r 415, av_r 416, av_r 417, av_i (row 17), av_i (row 18), av_i (row 19), av_i (row 20), av_r 422, av_r 423, av_r 424, av_r 425, av_r 426])
  | 8 => .inl (2, 12, .inl 0)
  | 9 => .inl (2, 144, .inl 0)
  | 10 => .inl (0, 144, .inl 0)
  | 16 => .inl (2, 12, .inl 0)
  | 17 => .inl (0, 8, .inl 0)
  | 24 => .inl (0, 144, .inl 0)
  | 25 => .inl (1, 4096, .inl 1)
  | 26 => .inl (1, 4096, .inl 1)
  | _ => .inl (0, 12, .inl 0)
/-- roles 0 .. 22 the class's own, 100+ units, 200+ their told costs, 300+ places, 400+ the model's, 500 the law's array -/
def ac_of (nU nP : Nat) (r : Nat) (row : Nat → Int32) (lr : Nat → Int64) : ac_T :=
  if r = 1 then .inl (3, 12, .inr (fun j => if j < nU then some (100 + j) else none))
  else if r = 2 then .inl (4, 12, .inr (fun j => if j < nP then some (300 + j) else none))
  else if r < 100 then ac_B r row lr
  else if r < 200 then .inr (4, [av_i (row 0), av_i (row 1), av_i (row 2), av_i (row 3), av_i (row 4), av_i (row 5), av_i (row 6), av_r (r + 100)])
  else if r < 300 then .inl (0, 12, .inl 0)
  else if r < 400 then .inr (3, [av_i (row 0), av_i (row 1), av_i (row 2), av_i (row 3), av_i (row 4)])
  else if r < 500 then ac_M (r - 400) row
  else .inl (1, 1, .inl 1)
def wd_en (w : wd_T) (r : Nat) (row : Nat → Int32) (lr : Nat → Int64) : va_E := match ac_of w.2.2.1 w.2.2.2 r row lr with
  | .inl (k, n, .inl 0) => .inl (w.2.1 k, n, .inl row)
  | .inl (k, n, .inl _) => .inl (w.2.1 k, n, .inr (.inl lr))
  | .inl (k, n, .inr f) => .inl (w.2.1 k, n, .inr (.inr (.inr (.inr (fun j => (f j).map w.1)))))
  | .inr (ci, fs) => .inr (ci, fs.map (av_v w.1))
/-- which roles there are -/
def rl_in (nU nP r : Nat) : Bool := decide (r < 23) || (decide (100 ≤ r) && decide (r < 100 + nU)) || (decide (200 ≤ r) && decide (r < 200 + nU)) || (decide (300 ≤ r) && decide (r < 300 + nP)) || decide (r = 400) || (decide (403 ≤ r) && decide (r < 411)) || (decide (412 ≤ r) && decide (r < 418)) || (decide (422 ≤ r) && decide (r < 427)) || decide (r = 500)
def wd_dl (w : wd_T) : List Nat := (List.range 501).filter (rl_in w.2.2.1 w.2.2.2)
abbrev wd_W (w : wd_T) (S : Nat → Nat → Int32) (L : Nat → Nat → Int64) : va_W := (wd_dl w).map (rp_F w.1 (wd_en w) S L)
abbrev wd_ty (w : wd_T) : List (ClassId × FieldType) := [(w.2.1 0, .int), (w.2.1 1, .long), (w.2.1 2, .boolean), (w.2.1 3, .object "PutAwayAssign$Unit"), (w.2.1 4, .object "PutAwayAssign$Place"), (w.2.1 5, .array .long)]
theorem wd_mem {w : wd_T} {r : Nat} (h : rl_in w.2.2.1 w.2.2.2 r = true) (h2 : r < 501) : r ∈ wd_dl w := List.mem_filter.mpr ⟨List.mem_range.mpr h2, h⟩
theorem wd_obj {w : wd_T} {r ci : Nat} {row : Nat → Int32} {lr : Nat → Int64} {fs : List av_T} (h : ac_of w.2.2.1 w.2.2.2 r row lr = .inr (ci, fs)) : wd_en w r row lr = .inr (ci, fs.map (av_v w.1)) := by
  unfold wd_en; rw [h]
theorem wd_ints {w : wd_T} {r k n : Nat} {row : Nat → Int32} {lr : Nat → Int64} (h : ac_of w.2.2.1 w.2.2.2 r row lr = .inl (k, n, .inl 0)) : wd_en w r row lr = .inl (w.2.1 k, n, .inl row) := by
  unfold wd_en; rw [h]; rfl
theorem wd_longs {w : wd_T} {r k n : Nat} {row : Nat → Int32} {lr : Nat → Int64} (h : ac_of w.2.2.1 w.2.2.2 r row lr = .inl (k, n, .inl 1)) : wd_en w r row lr = .inl (w.2.1 k, n, .inr (.inl lr)) := by
  unfold wd_en; rw [h]; rfl
theorem wd_refs {w : wd_T} {r k n : Nat} {row : Nat → Int32} {lr : Nat → Int64} {f : Nat → Option Nat} (h : ac_of w.2.2.1 w.2.2.2 r row lr = .inl (k, n, .inr f)) : wd_en w r row lr = .inl (w.2.1 k, n, .inr (.inr (.inr (.inr (fun j => (f j).map w.1))))) := by
  unfold wd_en; rw [h]
/-- locals, by their numbers -/
abbrev jl_T : Type := List (Nat × av_T)
def jl_get (lo : jl_T) (i : Nat) : Option av_T := (lo.find? (fun q => q.1 == i)).map (fun q => q.2)
def jl_s1 (lo : jl_T) (i : Nat) (v : av_T) : jl_T := (i, v) :: lo.filter (fun q => !(q.1 == i) && !(q.1 + 1 == i && av_cat q.2 == 2))
def jl_s2 (lo : jl_T) (i : Nat) (v : av_T) : jl_T := (i, v) :: lo.filter (fun q => !(q.1 == i) && (!(q.1 == i + 1) && !(q.1 + 1 == i && av_cat q.2 == 2)))
def jl_v (ad : Nat → Nat) (lo : jl_T) : List (Nat × Value) := lo.map (fun q => (q.1, av_v ad q.2))
theorem jl_mem {lo : jl_T} {i : Nat} {v : av_T} (h : jl_get lo i = some v) : (i, v) ∈ lo := by
  unfold jl_get at h
  cases hf : lo.find? (fun q => q.1 == i) with
  | none => rw [hf] at h; cases h
  | some q =>
    rw [hf] at h
    cases h
    have h1 := List.mem_of_find?_eq_some hf
    have h2 := List.find?_some hf
    simp only [beq_iff_eq] at h2
    rw [← h2]
    exact h1
theorem jl_at {ad : Nat → Nat} {ls : Array Slot} {nL : Nat} {lo : jl_T} {i : Nat} {v : av_T} (hl : lv_has ls nL (jl_v ad lo)) (h : jl_get lo i = some v) : ls[i]? = some (.val (av_v ad v)) :=
  hl.2.2 (i, av_v ad v) (List.mem_map.mpr ⟨(i, v), jl_mem h, rfl⟩)
theorem jl_f1 (ad : Nat → Nat) (lo : jl_T) (i : Nat) (v : av_T) : (i, av_v ad v) :: (jl_v ad lo).filter (fun q => !(q.1 == i) && !(q.1 + 1 == i && q.2.category == 2)) = jl_v ad (jl_s1 lo i v) := by
  unfold jl_v jl_s1
  rw [List.map_cons, List.filter_map]
  congr 2
  apply List.filter_congr
  intro q _
  simp only [Function.comp, av_cat_ok]
theorem jl_f2 (ad : Nat → Nat) (lo : jl_T) (i : Nat) (v : av_T) : (i, av_v ad v) :: (jl_v ad lo).filter (fun q => !(q.1 == i) && (!(q.1 == i + 1) && !(q.1 + 1 == i && q.2.category == 2))) = jl_v ad (jl_s2 lo i v) := by
  unfold jl_v jl_s2
  rw [List.map_cons, List.filter_map]
  congr 2
  apply List.filter_congr
  intro q _
  simp only [Function.comp, av_cat_ok]
/-- fewer locals -/
def jl_le (lo : jl_T) : jl_T → Prop
  | [] => True
  | q :: t => jl_get lo q.1 = some q.2 ∧ jl_le lo t
theorem jl_sub {ad : Nat → Nat} {ls : Array Slot} {nL : Nat} {lo : jl_T} : ∀ {lo' : jl_T}, jl_le lo lo' → lv_has ls nL (jl_v ad lo) → lv_has ls nL (jl_v ad lo')
  | [], _, hl => ⟨hl.1, hl.2.1, fun q hq => by cases hq⟩
  | q :: t, h, hl => by
    have h2 := jl_sub (lo' := t) h.2 hl
    refine ⟨hl.1, hl.2.1, fun z hz => ?_⟩
    rcases List.mem_cons.mp hz with e | e
    · rw [e]; exact jl_at hl h.1
    · exact h2.2.2 z e
def jl_args : Nat → List av_T → jl_T
  | _, [] => []
  | i, v :: vs => (i, v) :: jl_args (if av_cat v = 2 then i + 2 else i + 1) vs
theorem jl_args_ok (ad : Nat → Nat) : ∀ (vs : List av_T) (i : Nat), lv_args i (vs.map (av_v ad)) = jl_v ad (jl_args i vs)
  | [], _ => rfl
  | v :: vs, i => by
    show (i, av_v ad v) :: lv_args (if (av_v ad v).category = 2 then i + 2 else i + 1) (vs.map (av_v ad)) = _
    rw [av_cat_ok, jl_args_ok ad vs]
    rfl
end
section
/-! THE JUDGEMENT: from this frame, over the world with the numbers S and L, the method comes to an end that Qp allows (its first half: returned; its second: thrown, by the kind's name). -/
abbrev jd_P : Type := (Option av_T → (Nat → Nat → Int32) → (Nat → Nat → Int64) → Prop) × (String → (Nat → Nat → Int32) → (Nat → Nat → Int64) → Prop)
def jd_kinds : List String := ["java/lang/IllegalArgumentException", "java/lang/UnsupportedOperationException", "java/util/NoSuchElementException", "java/lang/IllegalStateException", "java/lang/ArithmeticException"]
def jd_texts : List (Nat × String) := [(55, "a kind is 0 .. 7, a size 1 .. 100"), (65, "no room for another unit"), (71, "fits are 0 .. 255, a zone is 0 .. 3"), (73, "free room and way are 0 .. 1000"), (78, "no room for another place"), (83, "a kind is 0 .. 7, a weight 0 .. 100"), (239, "no such unit"), (242, "no such place"), (97, "a cost is at most 1000000"), (108, "a unit is done"), (114, "the units are together already"), (139, "the unit is done"), (144, "exact is 0 .. 8, a cart 1 .. 1000"), (146, "most is below 0"), (185, "the unit is done or not planned"), (187, "rules do not allow the place any more"), (205, "the place is blocked"), (214, "the place is not blocked"), (221, "/ by zero"), (232, "what is 0 .. 3")]
def jd_decl : List MethodName := [⟨"java/lang/RuntimeException", "<init>", "(Ljava/lang/String;)V"⟩, ⟨"java/lang/Exception", "<init>", "(Ljava/lang/String;)V"⟩, ⟨"java/lang/Throwable", "<init>", "(Ljava/lang/String;)V"⟩]
/-- what throwing and catching need of a state beside the good words -/
def jd_X (A : Nat → Prop) (U : State) (H : Heap) : Prop :=
  vx_Zq Bundle.tN "UNASSIGNED_STACK" Bundle.steD A U H ∧ vx_Zq Bundle.tN "SUPPRESSED_SENTINEL" Bundle.listD A U H ∧ (∀ E ∈ jd_kinds, (Cond.castable E E).before #[] U = true) ∧ (∀ E ∈ jd_kinds, ∀ E' ∈ jd_kinds, E ≠ E' → va_Nc E E' U) ∧ (∀ q ∈ jd_decl, va_Nw (.declares q) U) ∧ ∀ q ∈ jd_texts, ∃ a : Nat, vk_R zn_A q.1 q.2 a U
theorem jd_cast {E E' : String} {A A' : Array Value} {u U : State} (hvm : u.vm.Alike U.vm) (h : (Cond.castable E E').before A u = true) : (Cond.castable E E').before A' U = true := by
  obtain ⟨c, t, h1, h2, h3⟩ := Cond.castable_spec h
  simp [Cond.before, Cond.holds, Cond.value, hvm.findClass, h1, h2, hvm.assignable, h3]
theorem jd_X.call {A A' : Nat → Prop} {s U : State} {H : Heap} {locs : List Loc} (h : jd_X A s s.heap) (hS : va_S A s.heap H locs) (hA : ∀ q, A' q → A q) (hW : s.WarmedH U.vm) : jd_X A' U H := by
  obtain ⟨h1, h2, h3, h4, h6, h5⟩ := h
  refine ⟨((h1.kept hS.2.1).narrow hA).moved hW.alike, ((h2.kept hS.2.1).narrow hA).moved hW.alike, fun E hE => jd_cast hW.alike (h3 E hE), fun E hE E' hE' hne => va_Nc.moved hW.alike (h4 E hE E' hE' hne), fun q hq => va_Nw.warmD hW (h6 q hq), fun q hq => ?_⟩
  obtain ⟨a, ha⟩ := h5 q hq
  exact ⟨a, vk_R.warm hW ha⟩
/-- what stands fast during a method -/
def jd_C (p : Program) (l : Launch) (s : State) (m : MethodId) (args : Array Value) (meth : Method) (c : Code) (D : va_G) (w : wd_T) (own : String) (cc : ByteArray) (nL : Nat) (ret : Option FieldType) (tab : List ExceptionTableEntry) (A : Nat → Prop) : Prop :=
  p.tables.exec = Jvm.exec ∧ c.code = cc ∧ c.maxLocals = nL ∧ s.vm.findClass own = some m.cls ∧ (∀ q ∈ zw_all, q.before args s = true) ∧ meth.locks = false ∧ va_K D zcl (wd_ty w) s ∧ (∀ q, s.heap.size ≤ q → A q) ∧ c.exceptionTable.toList = tab ∧ l.stackTraces = false ∧ jd_X A s s.heap ∧ meth.sig.returnType = ret
/-- which ends the method's own end allows -/
def jd_E (D : va_G) (w : wd_T) (s : State) (args : Array Value) (A : Nat → Prop) (Qp : jd_P) (Qc : Array Value → State → Outcome → State → Prop) (XC : String → State → State → Prop) : Prop :=
  (∀ (v : Option av_T) S L (t : State), Qp.1 v S L → va_P D zcl (wd_W w S L) t.heap → va_D A (wd_W w S L) → va_F A s t → s.vm.Alike t.vm → Qc args s (.returned (v.map (av_v w.1))) t) ∧
  (∀ (E : String) S L (t : State), Qp.2 E S L → va_P D zcl (wd_W w S L) t.heap → va_D A (wd_W w S L) → va_F A s t → s.vm.Alike t.vm → XC E s t)
def jd_J (l : Launch) (D : va_G) (w : wd_T) (own : String) (cc : ByteArray) (nL : Nat) (ret : Option FieldType) (tab : List ExceptionTableEntry) (R : Room) (mc ms : Nat) (Qp : jd_P) (kc ks : Nat) (pc : Nat) (lo : jl_T) (st : List av_T) (S : Nat → Nat → Int32) (L : Nat → Nat → Int64) : Prop :=
  ∀ (p : Program) (e : Env) (s : State) (m : MethodId) (args : Array Value) (below : List Frame) (meth : Method) (c : Code) (H : Heap) (locs : List Loc) (A free : Nat → Prop) (Qc : Array Value → State → Outcome → State → Prop) (XC : String → State → State → Prop) (ls : Array Slot),
    jd_C p l s m args meth c D w own cc nL ret tab A → jd_E D w s args A Qp Qc XC → (∀ q, A q → free q) → lv_has ls nL (jl_v w.1 lo) → va_P D zcl (wd_W w S L) H → va_D A (wd_W w S L) → va_S A s.heap H locs →
    W p l e R s m args below meth c H locs kc ks (vx_MQ below Qc XC args s mc ms free) (F0 m pc ls (st.map (av_v w.1)))
section JDR
variable {l : Launch} {D : va_G} {w : wd_T} {own : String} {cc : ByteArray} {nL : Nat} {ret : Option FieldType} {tab : List ExceptionTableEntry} {R : Room} {mc ms : Nat} {Qp : jd_P} {kc ks : Nat} {pc : Nat} {lo : jl_T} {st : List av_T} {S : Nat → Nat → Int32} {L : Nat → Nat → Int64}
/-- fewer locals suffice -/
theorem jd_sub (lo' : jl_T) (h : jl_le lo lo') (k : jd_J l D w own cc nL ret tab R mc ms Qp kc ks pc lo' st S L) : jd_J l D w own cc nL ret tab R mc ms Qp kc ks pc lo st S L :=
  fun p e s m args below meth c H locs A free Qc XC ls hC hE hf hl => k p e s m args below meth c H locs A free Qc XC ls hC hE hf (jl_sub h hl)
/-- more cells may be counted -/
theorem jd_widen {kc' ks' : Nat} (h1 : kc ≤ kc') (h2 : ks ≤ ks') (k : jd_J l D w own cc nL ret tab R mc ms Qp kc' ks' pc lo st S L) : jd_J l D w own cc nL ret tab R mc ms Qp kc ks pc lo st S L :=
  fun p e s m args below meth c H locs A free Qc XC ls hC hE hf hl hP hD hS => W.widen h1 h2 (k p e s m args below meth c H locs A free Qc XC ls hC hE hf hl hP hD hS)
theorem jd_iconst {n : Int} {v : Int32} (hdg : decode cc pc = .ok (.iconst n, 1)) (hv : Int32.ofInt n = v) (k : jd_J l D w own cc nL ret tab R mc ms Qp kc ks (pc + 1) lo (av_i v :: st) S L) : jd_J l D w own cc nL ret tab R mc ms Qp kc ks pc lo st S L := by
  intro p e s m args below meth c H locs A free Qc XC ls hC hE hf hl hP hD hS
  exact lv_iconst hC.1 hC.2.1 hdg hv (k p e s m args below meth c H locs A free Qc XC ls hC hE hf hl hP hD hS)
theorem jd_bipush {n : Int} {v : Int32} (hdg : decode cc pc = .ok (.bipush n, 2)) (hv : (Int8.ofInt n).toInt32 = v) (k : jd_J l D w own cc nL ret tab R mc ms Qp kc ks (pc + 2) lo (av_i v :: st) S L) : jd_J l D w own cc nL ret tab R mc ms Qp kc ks pc lo st S L := by
  intro p e s m args below meth c H locs A free Qc XC ls hC hE hf hl hP hD hS
  exact lv_bipush hC.1 hC.2.1 hdg hv (k p e s m args below meth c H locs A free Qc XC ls hC hE hf hl hP hD hS)
theorem jd_sipush {n : Int} {v : Int32} (hdg : decode cc pc = .ok (.sipush n, 3)) (hv : (Int16.ofInt n).toInt32 = v) (k : jd_J l D w own cc nL ret tab R mc ms Qp kc ks (pc + 3) lo (av_i v :: st) S L) : jd_J l D w own cc nL ret tab R mc ms Qp kc ks pc lo st S L := by
  intro p e s m args below meth c H locs A free Qc XC ls hC hE hf hl hP hD hS
  exact lv_sipush hC.1 hC.2.1 hdg hv (k p e s m args below meth c H locs A free Qc XC ls hC hE hf hl hP hD hS)
theorem jd_ldc {index : Nat} {v : Int32} (hc : Cond.constant own index v ∈ zw_all) (hdg : decode cc pc = .ok (.ldc index, 2)) (k : jd_J l D w own cc nL ret tab R mc ms Qp kc ks (pc + 2) lo (av_i v :: st) S L) : jd_J l D w own cc nL ret tab R mc ms Qp kc ks pc lo st S L := by
  intro p e s m args below meth c H locs A free Qc XC ls hC hE hf hl hP hD hS
  exact lv_ldc hC.1 hC.2.1 hC.2.2.2.1 (hC.2.2.2.2.1 _ hc) hdg (k p e s m args below meth c H locs A free Qc XC ls hC hE hf hl hP hD hS)
theorem jd_ldc2 {index : Nat} {v : Int64} (hc : Cond.constantLong own index v ∈ zw_all) (hdg : decode cc pc = .ok (.ldc2_w index, 3)) (k : jd_J l D w own cc nL ret tab R mc ms Qp kc ks (pc + 3) lo (av_l v :: st) S L) : jd_J l D w own cc nL ret tab R mc ms Qp kc ks pc lo st S L := by
  intro p e s m args below meth c H locs A free Qc XC ls hC hE hf hl hP hD hS
  exact lv_ldc2 hC.1 hC.2.1 hC.2.2.2.1 (hC.2.2.2.2.1 _ hc) hdg (k p e s m args below meth c H locs A free Qc XC ls hC hE hf hl hP hD hS)
theorem jd_iload_n {i : Fin 4} {x : Int32} (hdg : decode cc pc = .ok (.iload_n i, 1)) (hv : jl_get lo i = some (av_i x)) (k : jd_J l D w own cc nL ret tab R mc ms Qp kc ks (pc + 1) lo (av_i x :: st) S L) : jd_J l D w own cc nL ret tab R mc ms Qp kc ks pc lo st S L := by
  intro p e s m args below meth c H locs A free Qc XC ls hC hE hf hl hP hD hS
  exact lv_iload_n hC.1 hC.2.1 hdg rfl (jl_at hl hv) (k p e s m args below meth c H locs A free Qc XC ls hC hE hf hl hP hD hS)
theorem jd_iload {i : Nat} {x : Int32} (hdg : decode cc pc = .ok (.iload i, 2)) (hv : jl_get lo i = some (av_i x)) (k : jd_J l D w own cc nL ret tab R mc ms Qp kc ks (pc + 2) lo (av_i x :: st) S L) : jd_J l D w own cc nL ret tab R mc ms Qp kc ks pc lo st S L := by
  intro p e s m args below meth c H locs A free Qc XC ls hC hE hf hl hP hD hS
  exact lv_iload hC.1 hC.2.1 hdg (jl_at hl hv) (k p e s m args below meth c H locs A free Qc XC ls hC hE hf hl hP hD hS)
theorem jd_lload_n {i : Fin 4} {x : Int64} (hdg : decode cc pc = .ok (.lload_n i, 1)) (hv : jl_get lo i = some (av_l x)) (k : jd_J l D w own cc nL ret tab R mc ms Qp kc ks (pc + 1) lo (av_l x :: st) S L) : jd_J l D w own cc nL ret tab R mc ms Qp kc ks pc lo st S L := by
  intro p e s m args below meth c H locs A free Qc XC ls hC hE hf hl hP hD hS
  exact lv_lload_n hC.1 hC.2.1 hdg rfl (jl_at hl hv) (k p e s m args below meth c H locs A free Qc XC ls hC hE hf hl hP hD hS)
theorem jd_lload {i : Nat} {x : Int64} (hdg : decode cc pc = .ok (.lload i, 2)) (hv : jl_get lo i = some (av_l x)) (k : jd_J l D w own cc nL ret tab R mc ms Qp kc ks (pc + 2) lo (av_l x :: st) S L) : jd_J l D w own cc nL ret tab R mc ms Qp kc ks pc lo st S L := by
  intro p e s m args below meth c H locs A free Qc XC ls hC hE hf hl hP hD hS
  exact lv_lload hC.1 hC.2.1 hdg (jl_at hl hv) (k p e s m args below meth c H locs A free Qc XC ls hC hE hf hl hP hD hS)
theorem jd_aload_n {i : Fin 4} {r : Nat} (hdg : decode cc pc = .ok (.aload_n i, 1)) (hv : jl_get lo i = some (av_r r)) (k : jd_J l D w own cc nL ret tab R mc ms Qp kc ks (pc + 1) lo (av_r r :: st) S L) : jd_J l D w own cc nL ret tab R mc ms Qp kc ks pc lo st S L := by
  intro p e s m args below meth c H locs A free Qc XC ls hC hE hf hl hP hD hS
  exact lv_aload_n hC.1 hC.2.1 hdg rfl (jl_at hl hv) (k p e s m args below meth c H locs A free Qc XC ls hC hE hf hl hP hD hS)
theorem jd_aload {i : Nat} {r : Nat} (hdg : decode cc pc = .ok (.aload i, 2)) (hv : jl_get lo i = some (av_r r)) (k : jd_J l D w own cc nL ret tab R mc ms Qp kc ks (pc + 2) lo (av_r r :: st) S L) : jd_J l D w own cc nL ret tab R mc ms Qp kc ks pc lo st S L := by
  intro p e s m args below meth c H locs A free Qc XC ls hC hE hf hl hP hD hS
  exact lv_aload hC.1 hC.2.1 hdg (jl_at hl hv) (k p e s m args below meth c H locs A free Qc XC ls hC hE hf hl hP hD hS)
theorem jd_istore_n {i : Fin 4} {x : Int32} (hdg : decode cc pc = .ok (.istore_n i, 1)) (hn : (i : Nat) < nL) (k : jd_J l D w own cc nL ret tab R mc ms Qp kc ks (pc + 1) (jl_s1 lo i (av_i x)) st S L) : jd_J l D w own cc nL ret tab R mc ms Qp kc ks pc lo (av_i x :: st) S L := by
  intro p e s m args below meth c H locs A free Qc XC ls hC hE hf hl hP hD hS
  exact lv_istore_n hC.1 hC.2.1 hdg rfl hl hn (jl_f1 w.1 lo i (av_i x)) (fun ls' hl' => k p e s m args below meth c H locs A free Qc XC ls' hC hE hf hl' hP hD hS)
theorem jd_istore {i : Nat} {x : Int32} (hdg : decode cc pc = .ok (.istore i, 2)) (hn : i < nL) (k : jd_J l D w own cc nL ret tab R mc ms Qp kc ks (pc + 2) (jl_s1 lo i (av_i x)) st S L) : jd_J l D w own cc nL ret tab R mc ms Qp kc ks pc lo (av_i x :: st) S L := by
  intro p e s m args below meth c H locs A free Qc XC ls hC hE hf hl hP hD hS
  exact lv_istore hC.1 hC.2.1 hdg hl hn (jl_f1 w.1 lo i (av_i x)) (fun ls' hl' => k p e s m args below meth c H locs A free Qc XC ls' hC hE hf hl' hP hD hS)
theorem jd_lstore_n {i : Fin 4} {x : Int64} (hdg : decode cc pc = .ok (.lstore_n i, 1)) (hn : (i : Nat) + 1 < nL) (k : jd_J l D w own cc nL ret tab R mc ms Qp kc ks (pc + 1) (jl_s2 lo i (av_l x)) st S L) : jd_J l D w own cc nL ret tab R mc ms Qp kc ks pc lo (av_l x :: st) S L := by
  intro p e s m args below meth c H locs A free Qc XC ls hC hE hf hl hP hD hS
  exact lv_lstore_n hC.1 hC.2.1 hdg rfl hl hn (jl_f2 w.1 lo i (av_l x)) (fun ls' hl' => k p e s m args below meth c H locs A free Qc XC ls' hC hE hf hl' hP hD hS)
theorem jd_lstore {i : Nat} {x : Int64} (hdg : decode cc pc = .ok (.lstore i, 2)) (hn : i + 1 < nL) (k : jd_J l D w own cc nL ret tab R mc ms Qp kc ks (pc + 2) (jl_s2 lo i (av_l x)) st S L) : jd_J l D w own cc nL ret tab R mc ms Qp kc ks pc lo (av_l x :: st) S L := by
  intro p e s m args below meth c H locs A free Qc XC ls hC hE hf hl hP hD hS
  exact lv_lstore hC.1 hC.2.1 hdg hl hn (jl_f2 w.1 lo i (av_l x)) (fun ls' hl' => k p e s m args below meth c H locs A free Qc XC ls' hC hE hf hl' hP hD hS)
theorem jd_astore_n {i : Fin 4} {r : Nat} (hdg : decode cc pc = .ok (.astore_n i, 1)) (hn : (i : Nat) < nL) (k : jd_J l D w own cc nL ret tab R mc ms Qp kc ks (pc + 1) (jl_s1 lo i (av_r r)) st S L) : jd_J l D w own cc nL ret tab R mc ms Qp kc ks pc lo (av_r r :: st) S L := by
  intro p e s m args below meth c H locs A free Qc XC ls hC hE hf hl hP hD hS
  exact lv_astore_n hC.1 hC.2.1 hdg rfl hl hn (jl_f1 w.1 lo i (av_r r)) (fun ls' hl' => k p e s m args below meth c H locs A free Qc XC ls' hC hE hf hl' hP hD hS)
theorem jd_astore {i : Nat} {r : Nat} (hdg : decode cc pc = .ok (.astore i, 2)) (hn : i < nL) (k : jd_J l D w own cc nL ret tab R mc ms Qp kc ks (pc + 2) (jl_s1 lo i (av_r r)) st S L) : jd_J l D w own cc nL ret tab R mc ms Qp kc ks pc lo (av_r r :: st) S L := by
  intro p e s m args below meth c H locs A free Qc XC ls hC hE hf hl hP hD hS
  exact lv_astore hC.1 hC.2.1 hdg hl hn (jl_f1 w.1 lo i (av_r r)) (fun ls' hl' => k p e s m args below meth c H locs A free Qc XC ls' hC hE hf hl' hP hD hS)
theorem jd_astoreX {i : Nat} {q : Nat} (hdg : decode cc pc = .ok (.astore i, 2)) (hn : i < nL) (k : jd_J l D w own cc nL ret tab R mc ms Qp kc ks (pc + 2) (jl_s1 lo i (av_a q)) st S L) : jd_J l D w own cc nL ret tab R mc ms Qp kc ks pc lo (av_a q :: st) S L := by
  intro p e s m args below meth c H locs A free Qc XC ls hC hE hf hl hP hD hS
  exact lv_astore hC.1 hC.2.1 hdg hl hn (jl_f1 w.1 lo i (av_a q)) (fun ls' hl' => k p e s m args below meth c H locs A free Qc XC ls' hC hE hf hl' hP hD hS)
theorem jd_astore_nX {i : Fin 4} {q : Nat} (hdg : decode cc pc = .ok (.astore_n i, 1)) (hn : (i : Nat) < nL) (k : jd_J l D w own cc nL ret tab R mc ms Qp kc ks (pc + 1) (jl_s1 lo i (av_a q)) st S L) : jd_J l D w own cc nL ret tab R mc ms Qp kc ks pc lo (av_a q :: st) S L := by
  intro p e s m args below meth c H locs A free Qc XC ls hC hE hf hl hP hD hS
  exact lv_astore_n hC.1 hC.2.1 hdg rfl hl hn (jl_f1 w.1 lo i (av_a q)) (fun ls' hl' => k p e s m args below meth c H locs A free Qc XC ls' hC hE hf hl' hP hD hS)
end JDR
end
section
/-! RULES of the judgement, by program (wip/whole/gen/rules2.py): arithmetic, branches, the heap, ends -/
section JDS
variable {l : Launch} {D : va_G} {w : wd_T} {own : String} {cc : ByteArray} {nL : Nat} {ret : Option FieldType} {tab : List ExceptionTableEntry} {R : Room} {mc ms : Nat} {Qp : jd_P} {kc ks : Nat} {pc : Nat} {lo : jl_T} {st : List av_T} {S : Nat → Nat → Int32} {L : Nat → Nat → Int64}
theorem jd_iadd {x y : Int32} (hdg : decode cc pc = .ok (.iadd, 1))  (k : jd_J l D w own cc nL ret tab R mc ms Qp kc ks (pc + 1) lo (av_i (x + y) :: st) S L) : jd_J l D w own cc nL ret tab R mc ms Qp kc ks pc lo (av_i y :: av_i x :: st) S L := by
  intro p e s m args below meth c H locs A free Qc XC ls hC hE hf hl hP hD hS
  exact lv_iadd hC.1 hC.2.1 hdg (k p e s m args below meth c H locs A free Qc XC ls hC hE hf hl hP hD hS)
theorem jd_isub {x y : Int32} (hdg : decode cc pc = .ok (.isub, 1))  (k : jd_J l D w own cc nL ret tab R mc ms Qp kc ks (pc + 1) lo (av_i (x - y) :: st) S L) : jd_J l D w own cc nL ret tab R mc ms Qp kc ks pc lo (av_i y :: av_i x :: st) S L := by
  intro p e s m args below meth c H locs A free Qc XC ls hC hE hf hl hP hD hS
  exact lv_isub hC.1 hC.2.1 hdg (k p e s m args below meth c H locs A free Qc XC ls hC hE hf hl hP hD hS)
theorem jd_imul {x y : Int32} (hdg : decode cc pc = .ok (.imul, 1))  (k : jd_J l D w own cc nL ret tab R mc ms Qp kc ks (pc + 1) lo (av_i (x * y) :: st) S L) : jd_J l D w own cc nL ret tab R mc ms Qp kc ks pc lo (av_i y :: av_i x :: st) S L := by
  intro p e s m args below meth c H locs A free Qc XC ls hC hE hf hl hP hD hS
  exact lv_imul hC.1 hC.2.1 hdg (k p e s m args below meth c H locs A free Qc XC ls hC hE hf hl hP hD hS)
theorem jd_iand {x y : Int32} (hdg : decode cc pc = .ok (.iand, 1))  (k : jd_J l D w own cc nL ret tab R mc ms Qp kc ks (pc + 1) lo (av_i (x &&& y) :: st) S L) : jd_J l D w own cc nL ret tab R mc ms Qp kc ks pc lo (av_i y :: av_i x :: st) S L := by
  intro p e s m args below meth c H locs A free Qc XC ls hC hE hf hl hP hD hS
  exact lv_iand hC.1 hC.2.1 hdg (k p e s m args below meth c H locs A free Qc XC ls hC hE hf hl hP hD hS)
theorem jd_ior {x y : Int32} (hdg : decode cc pc = .ok (.ior, 1))  (k : jd_J l D w own cc nL ret tab R mc ms Qp kc ks (pc + 1) lo (av_i (x ||| y) :: st) S L) : jd_J l D w own cc nL ret tab R mc ms Qp kc ks pc lo (av_i y :: av_i x :: st) S L := by
  intro p e s m args below meth c H locs A free Qc XC ls hC hE hf hl hP hD hS
  exact lv_ior hC.1 hC.2.1 hdg (k p e s m args below meth c H locs A free Qc XC ls hC hE hf hl hP hD hS)
theorem jd_ixor {x y : Int32} (hdg : decode cc pc = .ok (.ixor, 1))  (k : jd_J l D w own cc nL ret tab R mc ms Qp kc ks (pc + 1) lo (av_i (x ^^^ y) :: st) S L) : jd_J l D w own cc nL ret tab R mc ms Qp kc ks pc lo (av_i y :: av_i x :: st) S L := by
  intro p e s m args below meth c H locs A free Qc XC ls hC hE hf hl hP hD hS
  exact lv_ixor hC.1 hC.2.1 hdg (k p e s m args below meth c H locs A free Qc XC ls hC hE hf hl hP hD hS)
theorem jd_ishl {x y : Int32} (hdg : decode cc pc = .ok (.ishl, 1))  (k : jd_J l D w own cc nL ret tab R mc ms Qp kc ks (pc + 1) lo (av_i (x <<< (y &&& 31)) :: st) S L) : jd_J l D w own cc nL ret tab R mc ms Qp kc ks pc lo (av_i y :: av_i x :: st) S L := by
  intro p e s m args below meth c H locs A free Qc XC ls hC hE hf hl hP hD hS
  exact lv_ishl hC.1 hC.2.1 hdg (k p e s m args below meth c H locs A free Qc XC ls hC hE hf hl hP hD hS)
theorem jd_ishr {x y : Int32} (hdg : decode cc pc = .ok (.ishr, 1))  (k : jd_J l D w own cc nL ret tab R mc ms Qp kc ks (pc + 1) lo (av_i (x >>> (y &&& 31)) :: st) S L) : jd_J l D w own cc nL ret tab R mc ms Qp kc ks pc lo (av_i y :: av_i x :: st) S L := by
  intro p e s m args below meth c H locs A free Qc XC ls hC hE hf hl hP hD hS
  exact lv_ishr hC.1 hC.2.1 hdg (k p e s m args below meth c H locs A free Qc XC ls hC hE hf hl hP hD hS)
theorem jd_idiv {x y : Int32} (hdg : decode cc pc = .ok (.idiv, 1)) (hne : ¬ y = 0) (k : jd_J l D w own cc nL ret tab R mc ms Qp kc ks (pc + 1) lo (av_i (x / y) :: st) S L) : jd_J l D w own cc nL ret tab R mc ms Qp kc ks pc lo (av_i y :: av_i x :: st) S L := by
  intro p e s m args below meth c H locs A free Qc XC ls hC hE hf hl hP hD hS
  exact lv_idiv hC.1 hC.2.1 hdg hne (k p e s m args below meth c H locs A free Qc XC ls hC hE hf hl hP hD hS)
theorem jd_ladd {x y : Int64} (hdg : decode cc pc = .ok (.ladd, 1))  (k : jd_J l D w own cc nL ret tab R mc ms Qp kc ks (pc + 1) lo (av_l (x + y) :: st) S L) : jd_J l D w own cc nL ret tab R mc ms Qp kc ks pc lo (av_l y :: av_l x :: st) S L := by
  intro p e s m args below meth c H locs A free Qc XC ls hC hE hf hl hP hD hS
  exact lv_ladd hC.1 hC.2.1 hdg (k p e s m args below meth c H locs A free Qc XC ls hC hE hf hl hP hD hS)
theorem jd_lsub {x y : Int64} (hdg : decode cc pc = .ok (.lsub, 1))  (k : jd_J l D w own cc nL ret tab R mc ms Qp kc ks (pc + 1) lo (av_l (x - y) :: st) S L) : jd_J l D w own cc nL ret tab R mc ms Qp kc ks pc lo (av_l y :: av_l x :: st) S L := by
  intro p e s m args below meth c H locs A free Qc XC ls hC hE hf hl hP hD hS
  exact lv_lsub hC.1 hC.2.1 hdg (k p e s m args below meth c H locs A free Qc XC ls hC hE hf hl hP hD hS)
theorem jd_lmul {x y : Int64} (hdg : decode cc pc = .ok (.lmul, 1))  (k : jd_J l D w own cc nL ret tab R mc ms Qp kc ks (pc + 1) lo (av_l (x * y) :: st) S L) : jd_J l D w own cc nL ret tab R mc ms Qp kc ks pc lo (av_l y :: av_l x :: st) S L := by
  intro p e s m args below meth c H locs A free Qc XC ls hC hE hf hl hP hD hS
  exact lv_lmul hC.1 hC.2.1 hdg (k p e s m args below meth c H locs A free Qc XC ls hC hE hf hl hP hD hS)
theorem jd_ldiv {x y : Int64} (hdg : decode cc pc = .ok (.ldiv, 1)) (hne : ¬ y = 0) (k : jd_J l D w own cc nL ret tab R mc ms Qp kc ks (pc + 1) lo (av_l (x / y) :: st) S L) : jd_J l D w own cc nL ret tab R mc ms Qp kc ks pc lo (av_l y :: av_l x :: st) S L := by
  intro p e s m args below meth c H locs A free Qc XC ls hC hE hf hl hP hD hS
  exact lv_ldiv hC.1 hC.2.1 hdg hne (k p e s m args below meth c H locs A free Qc XC ls hC hE hf hl hP hD hS)
theorem jd_lcmp {x y : Int64} (hdg : decode cc pc = .ok (.lcmp, 1))  (k : jd_J l D w own cc nL ret tab R mc ms Qp kc ks (pc + 1) lo (av_i (lg_cmp x y) :: st) S L) : jd_J l D w own cc nL ret tab R mc ms Qp kc ks pc lo (av_l y :: av_l x :: st) S L := by
  intro p e s m args below meth c H locs A free Qc XC ls hC hE hf hl hP hD hS
  exact W.lcmp hC.1 hC.2.1 hdg (k p e s m args below meth c H locs A free Qc XC ls hC hE hf hl hP hD hS)
theorem jd_i2l {x : Int32} (hdg : decode cc pc = .ok (.i2l, 1))  (k : jd_J l D w own cc nL ret tab R mc ms Qp kc ks (pc + 1) lo (av_l x.toInt64 :: st) S L) : jd_J l D w own cc nL ret tab R mc ms Qp kc ks pc lo (av_i x :: st) S L := by
  intro p e s m args below meth c H locs A free Qc XC ls hC hE hf hl hP hD hS
  exact lv_i2l hC.1 hC.2.1 hdg rfl (k p e s m args below meth c H locs A free Qc XC ls hC hE hf hl hP hD hS)
theorem jd_lconst {n : Fin 2} {v : Int64} (hdg : decode cc pc = .ok (.lconst n, 1)) (hv : Int64.ofNat (n : Nat) = v) (k : jd_J l D w own cc nL ret tab R mc ms Qp kc ks (pc + 1) lo (av_l v :: st) S L) : jd_J l D w own cc nL ret tab R mc ms Qp kc ks pc lo st S L := by
  intro p e s m args below meth c H locs A free Qc XC ls hC hE hf hl hP hD hS
  exact lv_lconst hC.1 hC.2.1 hdg hv (k p e s m args below meth c H locs A free Qc XC ls hC hE hf hl hP hD hS)
theorem jd_dup {v : av_T} (hdg : decode cc pc = .ok (.dup, 1)) (hv : av_cat v = 1) (k : jd_J l D w own cc nL ret tab R mc ms Qp kc ks (pc + 1) lo (v :: v :: st) S L) : jd_J l D w own cc nL ret tab R mc ms Qp kc ks pc lo (v :: st) S L := by
  intro p e s m args below meth c H locs A free Qc XC ls hC hE hf hl hP hD hS
  exact lv_dup hC.1 hC.2.1 hdg ((av_cat_ok w.1 v).trans hv) (k p e s m args below meth c H locs A free Qc XC ls hC hE hf hl hP hD hS)
theorem jd_pop {v : av_T} (hdg : decode cc pc = .ok (.pop, 1)) (hv : av_cat v = 1) (k : jd_J l D w own cc nL ret tab R mc ms Qp kc ks (pc + 1) lo st S L) : jd_J l D w own cc nL ret tab R mc ms Qp kc ks pc lo (v :: st) S L := by
  intro p e s m args below meth c H locs A free Qc XC ls hC hE hf hl hP hD hS
  exact lv_pop hC.1 hC.2.1 hdg ((av_cat_ok w.1 v).trans hv) (k p e s m args below meth c H locs A free Qc XC ls hC hE hf hl hP hD hS)
theorem jd_dup2 {v u : av_T} (hdg : decode cc pc = .ok (.dup2, 1)) (hv : av_cat v = 1) (hu : av_cat u = 1) (k : jd_J l D w own cc nL ret tab R mc ms Qp kc ks (pc + 1) lo (v :: u :: v :: u :: st) S L) : jd_J l D w own cc nL ret tab R mc ms Qp kc ks pc lo (v :: u :: st) S L := by
  intro p e s m args below meth c H locs A free Qc XC ls hC hE hf hl hP hD hS
  exact lv_dup2_11 hC.1 hC.2.1 hdg ((av_cat_ok w.1 v).trans hv) ((av_cat_ok w.1 u).trans hu) (k p e s m args below meth c H locs A free Qc XC ls hC hE hf hl hP hD hS)
theorem jd_iinc {i : Nat} {n : Int} {x v : Int32} (hdg : decode cc pc = .ok (.iinc i n, 3)) (hx : jl_get lo i = some (av_i x)) (hv : x + Int32.ofInt n = v) (hn : i < nL) (k : jd_J l D w own cc nL ret tab R mc ms Qp kc ks (pc + 3) (jl_s1 lo i (av_i v)) st S L) : jd_J l D w own cc nL ret tab R mc ms Qp kc ks pc lo st S L := by
  intro p e s m args below meth c H locs A free Qc XC ls hC hE hf hl hP hD hS
  obtain ⟨k9, hk9⟩ := List.getElem?_of_mem (jl_mem hx)
  exact lv_iinc (k := k9) hC.1 hC.2.1 hdg hl (by unfold jl_v; rw [List.getElem?_map, hk9]; rfl) hv hn (jl_f1 w.1 lo i (av_i v)) (fun ls hl => k p e s m args below meth c H locs A free Qc XC ls hC hE hf hl hP hD hS)
theorem jd_if_eq {x : Int32} {off : Int} (tgt : Nat) (hdg : decode cc pc = .ok (.ifCond .eq off, 3)) (ht : (pc : Int) + off = (tgt : Int)) (kt : x = 0 → jd_J l D w own cc nL ret tab R mc ms Qp kc ks tgt lo st S L) (kf : ¬ (x = 0) → jd_J l D w own cc nL ret tab R mc ms Qp kc ks (pc + 3) lo st S L) : jd_J l D w own cc nL ret tab R mc ms Qp kc ks pc lo (av_i x :: st) S L := by
  intro p e s m args below meth c H locs A free Qc XC ls hC hE hf hl hP hD hS
  exact lv_if_eq hC.1 hC.2.1 hdg ht (fun h9 => kt h9 p e s m args below meth c H locs A free Qc XC ls hC hE hf hl hP hD hS) (fun h9 => kf h9 p e s m args below meth c H locs A free Qc XC ls hC hE hf hl hP hD hS)
theorem jd_if_ne {x : Int32} {off : Int} (tgt : Nat) (hdg : decode cc pc = .ok (.ifCond .ne off, 3)) (ht : (pc : Int) + off = (tgt : Int)) (kt : ¬ x = 0 → jd_J l D w own cc nL ret tab R mc ms Qp kc ks tgt lo st S L) (kf : x = 0 → jd_J l D w own cc nL ret tab R mc ms Qp kc ks (pc + 3) lo st S L) : jd_J l D w own cc nL ret tab R mc ms Qp kc ks pc lo (av_i x :: st) S L := by
  intro p e s m args below meth c H locs A free Qc XC ls hC hE hf hl hP hD hS
  exact lv_if_ne hC.1 hC.2.1 hdg ht (fun h9 => kt h9 p e s m args below meth c H locs A free Qc XC ls hC hE hf hl hP hD hS) (fun h9 => kf h9 p e s m args below meth c H locs A free Qc XC ls hC hE hf hl hP hD hS)
theorem jd_if_lt {x : Int32} {off : Int} (tgt : Nat) (hdg : decode cc pc = .ok (.ifCond .lt off, 3)) (ht : (pc : Int) + off = (tgt : Int)) (kt : x < 0 → jd_J l D w own cc nL ret tab R mc ms Qp kc ks tgt lo st S L) (kf : ¬ (x < 0) → jd_J l D w own cc nL ret tab R mc ms Qp kc ks (pc + 3) lo st S L) : jd_J l D w own cc nL ret tab R mc ms Qp kc ks pc lo (av_i x :: st) S L := by
  intro p e s m args below meth c H locs A free Qc XC ls hC hE hf hl hP hD hS
  exact lv_if_lt hC.1 hC.2.1 hdg ht (fun h9 => kt h9 p e s m args below meth c H locs A free Qc XC ls hC hE hf hl hP hD hS) (fun h9 => kf h9 p e s m args below meth c H locs A free Qc XC ls hC hE hf hl hP hD hS)
theorem jd_if_ge {x : Int32} {off : Int} (tgt : Nat) (hdg : decode cc pc = .ok (.ifCond .ge off, 3)) (ht : (pc : Int) + off = (tgt : Int)) (kt : 0 ≤ x → jd_J l D w own cc nL ret tab R mc ms Qp kc ks tgt lo st S L) (kf : ¬ (0 ≤ x) → jd_J l D w own cc nL ret tab R mc ms Qp kc ks (pc + 3) lo st S L) : jd_J l D w own cc nL ret tab R mc ms Qp kc ks pc lo (av_i x :: st) S L := by
  intro p e s m args below meth c H locs A free Qc XC ls hC hE hf hl hP hD hS
  exact lv_if_ge hC.1 hC.2.1 hdg ht (fun h9 => kt h9 p e s m args below meth c H locs A free Qc XC ls hC hE hf hl hP hD hS) (fun h9 => kf h9 p e s m args below meth c H locs A free Qc XC ls hC hE hf hl hP hD hS)
theorem jd_if_gt {x : Int32} {off : Int} (tgt : Nat) (hdg : decode cc pc = .ok (.ifCond .gt off, 3)) (ht : (pc : Int) + off = (tgt : Int)) (kt : 0 < x → jd_J l D w own cc nL ret tab R mc ms Qp kc ks tgt lo st S L) (kf : ¬ (0 < x) → jd_J l D w own cc nL ret tab R mc ms Qp kc ks (pc + 3) lo st S L) : jd_J l D w own cc nL ret tab R mc ms Qp kc ks pc lo (av_i x :: st) S L := by
  intro p e s m args below meth c H locs A free Qc XC ls hC hE hf hl hP hD hS
  exact lv_if_gt hC.1 hC.2.1 hdg ht (fun h9 => kt h9 p e s m args below meth c H locs A free Qc XC ls hC hE hf hl hP hD hS) (fun h9 => kf h9 p e s m args below meth c H locs A free Qc XC ls hC hE hf hl hP hD hS)
theorem jd_if_le {x : Int32} {off : Int} (tgt : Nat) (hdg : decode cc pc = .ok (.ifCond .le off, 3)) (ht : (pc : Int) + off = (tgt : Int)) (kt : x ≤ 0 → jd_J l D w own cc nL ret tab R mc ms Qp kc ks tgt lo st S L) (kf : ¬ (x ≤ 0) → jd_J l D w own cc nL ret tab R mc ms Qp kc ks (pc + 3) lo st S L) : jd_J l D w own cc nL ret tab R mc ms Qp kc ks pc lo (av_i x :: st) S L := by
  intro p e s m args below meth c H locs A free Qc XC ls hC hE hf hl hP hD hS
  exact lv_if_le hC.1 hC.2.1 hdg ht (fun h9 => kt h9 p e s m args below meth c H locs A free Qc XC ls hC hE hf hl hP hD hS) (fun h9 => kf h9 p e s m args below meth c H locs A free Qc XC ls hC hE hf hl hP hD hS)
theorem jd_icmp_eq {x y : Int32} {off : Int} (tgt : Nat) (hdg : decode cc pc = .ok (.if_icmp .eq off, 3)) (ht : (pc : Int) + off = (tgt : Int)) (kt : x = y → jd_J l D w own cc nL ret tab R mc ms Qp kc ks tgt lo st S L) (kf : ¬ (x = y) → jd_J l D w own cc nL ret tab R mc ms Qp kc ks (pc + 3) lo st S L) : jd_J l D w own cc nL ret tab R mc ms Qp kc ks pc lo (av_i y :: av_i x :: st) S L := by
  intro p e s m args below meth c H locs A free Qc XC ls hC hE hf hl hP hD hS
  exact lv_icmp_eq hC.1 hC.2.1 hdg ht (fun h9 => kt h9 p e s m args below meth c H locs A free Qc XC ls hC hE hf hl hP hD hS) (fun h9 => kf h9 p e s m args below meth c H locs A free Qc XC ls hC hE hf hl hP hD hS)
theorem jd_icmp_ne {x y : Int32} {off : Int} (tgt : Nat) (hdg : decode cc pc = .ok (.if_icmp .ne off, 3)) (ht : (pc : Int) + off = (tgt : Int)) (kt : ¬ x = y → jd_J l D w own cc nL ret tab R mc ms Qp kc ks tgt lo st S L) (kf : x = y → jd_J l D w own cc nL ret tab R mc ms Qp kc ks (pc + 3) lo st S L) : jd_J l D w own cc nL ret tab R mc ms Qp kc ks pc lo (av_i y :: av_i x :: st) S L := by
  intro p e s m args below meth c H locs A free Qc XC ls hC hE hf hl hP hD hS
  exact lv_icmp_ne hC.1 hC.2.1 hdg ht (fun h9 => kt h9 p e s m args below meth c H locs A free Qc XC ls hC hE hf hl hP hD hS) (fun h9 => kf h9 p e s m args below meth c H locs A free Qc XC ls hC hE hf hl hP hD hS)
theorem jd_icmp_lt {x y : Int32} {off : Int} (tgt : Nat) (hdg : decode cc pc = .ok (.if_icmp .lt off, 3)) (ht : (pc : Int) + off = (tgt : Int)) (kt : x < y → jd_J l D w own cc nL ret tab R mc ms Qp kc ks tgt lo st S L) (kf : ¬ (x < y) → jd_J l D w own cc nL ret tab R mc ms Qp kc ks (pc + 3) lo st S L) : jd_J l D w own cc nL ret tab R mc ms Qp kc ks pc lo (av_i y :: av_i x :: st) S L := by
  intro p e s m args below meth c H locs A free Qc XC ls hC hE hf hl hP hD hS
  exact lv_icmp_lt hC.1 hC.2.1 hdg ht (fun h9 => kt h9 p e s m args below meth c H locs A free Qc XC ls hC hE hf hl hP hD hS) (fun h9 => kf h9 p e s m args below meth c H locs A free Qc XC ls hC hE hf hl hP hD hS)
theorem jd_icmp_ge {x y : Int32} {off : Int} (tgt : Nat) (hdg : decode cc pc = .ok (.if_icmp .ge off, 3)) (ht : (pc : Int) + off = (tgt : Int)) (kt : y ≤ x → jd_J l D w own cc nL ret tab R mc ms Qp kc ks tgt lo st S L) (kf : ¬ (y ≤ x) → jd_J l D w own cc nL ret tab R mc ms Qp kc ks (pc + 3) lo st S L) : jd_J l D w own cc nL ret tab R mc ms Qp kc ks pc lo (av_i y :: av_i x :: st) S L := by
  intro p e s m args below meth c H locs A free Qc XC ls hC hE hf hl hP hD hS
  exact lv_icmp_ge hC.1 hC.2.1 hdg ht (fun h9 => kt h9 p e s m args below meth c H locs A free Qc XC ls hC hE hf hl hP hD hS) (fun h9 => kf h9 p e s m args below meth c H locs A free Qc XC ls hC hE hf hl hP hD hS)
theorem jd_icmp_gt {x y : Int32} {off : Int} (tgt : Nat) (hdg : decode cc pc = .ok (.if_icmp .gt off, 3)) (ht : (pc : Int) + off = (tgt : Int)) (kt : y < x → jd_J l D w own cc nL ret tab R mc ms Qp kc ks tgt lo st S L) (kf : ¬ (y < x) → jd_J l D w own cc nL ret tab R mc ms Qp kc ks (pc + 3) lo st S L) : jd_J l D w own cc nL ret tab R mc ms Qp kc ks pc lo (av_i y :: av_i x :: st) S L := by
  intro p e s m args below meth c H locs A free Qc XC ls hC hE hf hl hP hD hS
  exact lv_icmp_gt hC.1 hC.2.1 hdg ht (fun h9 => kt h9 p e s m args below meth c H locs A free Qc XC ls hC hE hf hl hP hD hS) (fun h9 => kf h9 p e s m args below meth c H locs A free Qc XC ls hC hE hf hl hP hD hS)
theorem jd_icmp_le {x y : Int32} {off : Int} (tgt : Nat) (hdg : decode cc pc = .ok (.if_icmp .le off, 3)) (ht : (pc : Int) + off = (tgt : Int)) (kt : x ≤ y → jd_J l D w own cc nL ret tab R mc ms Qp kc ks tgt lo st S L) (kf : ¬ (x ≤ y) → jd_J l D w own cc nL ret tab R mc ms Qp kc ks (pc + 3) lo st S L) : jd_J l D w own cc nL ret tab R mc ms Qp kc ks pc lo (av_i y :: av_i x :: st) S L := by
  intro p e s m args below meth c H locs A free Qc XC ls hC hE hf hl hP hD hS
  exact lv_icmp_le hC.1 hC.2.1 hdg ht (fun h9 => kt h9 p e s m args below meth c H locs A free Qc XC ls hC hE hf hl hP hD hS) (fun h9 => kf h9 p e s m args below meth c H locs A free Qc XC ls hC hE hf hl hP hD hS)
theorem jd_goto {off : Int} (tgt : Nat) (hdg : decode cc pc = .ok (.goto off, 3)) (ht : (pc : Int) + off = (tgt : Int)) (k : jd_J l D w own cc nL ret tab R mc ms Qp kc ks tgt lo st S L) : jd_J l D w own cc nL ret tab R mc ms Qp kc ks pc lo st S L := by
  intro p e s m args below meth c H locs A free Qc XC ls hC hE hf hl hP hD hS
  exact lv_goto hC.1 hC.2.1 hdg ht (k p e s m args below meth c H locs A free Qc XC ls hC hE hf hl hP hD hS)
theorem jd_get {ref C : String} {T : u_T} {N ci index r : Nat} {fs : List av_T} {v : av_T} (hc : ac_of w.2.2.1 w.2.2.2 r (S r) (L r) = .inr (ci, fs)) (hcl : zcl[ci]? = some (C, T, N)) (hin : ∀ q ∈ u_ws C T N, q ∈ zw_all) (k0 : Nat) (hk : k0 < N) (hlink : Cond.fieldLink own index ref (T k0).2.1 (T k0).2.2.1 ∈ zw_all) (hsame : (T k0).1 = ref) (hv : fs[k0]? = some v) (hr : rl_in w.2.2.1 w.2.2.2 r = true) (hr2 : r < 501) (hdg : decode cc pc = .ok (.getfield index, 3)) (k : jd_J l D w own cc nL ret tab R mc ms Qp kc ks (pc + 3) lo (v :: st) S L) : jd_J l D w own cc nL ret tab R mc ms Qp kc ks pc lo (av_r r :: st) S L := by
  intro p e s m args below meth c H locs A free Qc XC ls hC hE hf hl hP hD hS
  exact rp_get hC.1 hC.2.1 hC.2.2.2.2.1 hin hC.2.2.2.1 hC.2.2.2.2.2.2.1 hP (wd_mem hr hr2) (wd_obj hc) hcl k0 hk (hC.2.2.2.2.1 _ hlink) (fun x h => by rw [← hsame]; exact h) (by rw [List.getElem?_map, hv]; rfl) hdg (k p e s m args below meth c H locs A free Qc XC ls hC hE hf hl hP hD hS)
theorem jd_put {ref C : String} {T : u_T} {ty0 : Nat → FieldType} {N ci index r : Nat} {fs : List av_T} {x : Int32} {ty : FieldType} (hc : ac_of w.2.2.1 w.2.2.2 r (S r) (L r) = .inr (ci, fs)) (hcl : zcl[ci]? = some (C, T, N)) (hin : ∀ q ∈ u_ws C T N, q ∈ zw_all) (hty : ∀ k, k < N → parseFieldDescriptor (T k).2.2.1 = some (ty0 k)) (hnm : ∀ a, a < N → ∀ b, b < N → a ≠ b → (T a).2.1 ≠ (T b).2.1) (k0 : Nat) (hk : k0 < N) (hlink : Cond.fieldLink own index ref (T k0).2.1 (T k0).2.2.1 ∈ zw_all) (hsame : (T k0).1 = ref) (hfin : (T k0).2.2.2 = false) (hd : parseFieldDescriptor (T k0).2.2.1 = some ty) (hn : narrow ty (.int x) = .int x) (hfit : fits ty (.int x) = true) (hlen : k0 < fs.length) (hc2 : ac_of w.2.2.1 w.2.2.2 r (upd (S r) k0 x) (L r) = .inr (ci, fs.set k0 (av_i x))) (hr : rl_in w.2.2.1 w.2.2.2 r = true) (hr2 : r < 501) (hdg : decode cc pc = .ok (.putfield index, 3)) (k : jd_J l D w own cc nL ret tab R mc ms Qp kc ks (pc + 3) lo st (va_up S r (upd (S r) k0 x)) L) : jd_J l D w own cc nL ret tab R mc ms Qp kc ks pc lo (av_i x :: av_r r :: st) S L := by
  intro p e s m args below meth c H locs A free Qc XC ls hC hE hf hl hP hD hS
  exact rp_put hC.1 hC.2.1 hC.2.2.2.2.1 hin ty0 hty hnm hC.2.2.2.1 hC.2.2.2.2.2.2.1 hP hD hS (wd_mem hr hr2) (wd_obj hc) hcl k0 hk (hC.2.2.2.2.1 _ hlink) (fun x h => by rw [← hsame]; exact h) hfin hd hn hfit (by rw [List.length_map]; exact hlen) k0 (by rw [wd_obj hc2, List.map_set]; rfl) hdg (fun H locs hP hD hS => k p e s m args below meth c H locs A free Qc XC ls hC hE hf hl hP hD hS)
theorem jd_putL {ref C : String} {T : u_T} {ty0 : Nat → FieldType} {N ci index r : Nat} {fs : List av_T} {x : Int64} {ty : FieldType} (hc : ac_of w.2.2.1 w.2.2.2 r (S r) (L r) = .inr (ci, fs)) (hcl : zcl[ci]? = some (C, T, N)) (hin : ∀ q ∈ u_ws C T N, q ∈ zw_all) (hty : ∀ k, k < N → parseFieldDescriptor (T k).2.2.1 = some (ty0 k)) (hnm : ∀ a, a < N → ∀ b, b < N → a ≠ b → (T a).2.1 ≠ (T b).2.1) (k0 : Nat) (hk : k0 < N) (hlink : Cond.fieldLink own index ref (T k0).2.1 (T k0).2.2.1 ∈ zw_all) (hsame : (T k0).1 = ref) (hfin : (T k0).2.2.2 = false) (hd : parseFieldDescriptor (T k0).2.2.1 = some ty) (hn : narrow ty (.long x) = .long x) (hfit : fits ty (.long x) = true) (hlen : k0 < fs.length) (hc2 : ac_of w.2.2.1 w.2.2.2 r (S r) (vp_updL (L r) k0 x) = .inr (ci, fs.set k0 (av_l x))) (hr : rl_in w.2.2.1 w.2.2.2 r = true) (hr2 : r < 501) (hdg : decode cc pc = .ok (.putfield index, 3)) (k : jd_J l D w own cc nL ret tab R mc ms Qp kc ks (pc + 3) lo st S (va_up L r (vp_updL (L r) k0 x))) : jd_J l D w own cc nL ret tab R mc ms Qp kc ks pc lo (av_l x :: av_r r :: st) S L := by
  intro p e s m args below meth c H locs A free Qc XC ls hC hE hf hl hP hD hS
  exact rp_putL hC.1 hC.2.1 hC.2.2.2.2.1 hin ty0 hty hnm hC.2.2.2.1 hC.2.2.2.2.2.2.1 hP hD hS (wd_mem hr hr2) (wd_obj hc) hcl k0 hk (hC.2.2.2.2.1 _ hlink) (fun x h => by rw [← hsame]; exact h) hfin hd hn hfit (by rw [List.length_map]; exact hlen) k0 (by rw [wd_obj hc2, List.map_set]; rfl) hdg (fun H locs hP hD hS => k p e s m args below meth c H locs A free Qc XC ls hC hE hf hl hP hD hS)
theorem jd_iald {n r : Nat} {i : Int32} (hc : ac_of w.2.2.1 w.2.2.2 r (S r) (L r) = .inl (0, n, .inl 0)) (hin : vp_in i n) (hr : rl_in w.2.2.1 w.2.2.2 r = true) (hr2 : r < 501) (hdg : decode cc pc = .ok (.iaload, 1)) (k : jd_J l D w own cc nL ret tab R mc ms Qp kc ks (pc + 1) lo (av_i (S r i.toNatClampNeg) :: st) S L) : jd_J l D w own cc nL ret tab R mc ms Qp kc ks pc lo (av_i i :: av_r r :: st) S L := by
  intro p e s m args below meth c H locs A free Qc XC ls hC hE hf hl hP hD hS
  exact rp_ild hC.1 hC.2.1 hC.2.2.2.2.2.2.1 hP 0 (wd_mem hr hr2) (wd_ints hc) rfl hin hdg (k p e s m args below meth c H locs A free Qc XC ls hC hE hf hl hP hD hS)
theorem jd_zald {n r : Nat} {i : Int32} (hc : ac_of w.2.2.1 w.2.2.2 r (S r) (L r) = .inl (2, n, .inl 0)) (hin : vp_in i n) (hr : rl_in w.2.2.1 w.2.2.2 r = true) (hr2 : r < 501) (hdg : decode cc pc = .ok (.baload, 1)) (k : jd_J l D w own cc nL ret tab R mc ms Qp kc ks (pc + 1) lo (av_i (S r i.toNatClampNeg) :: st) S L) : jd_J l D w own cc nL ret tab R mc ms Qp kc ks pc lo (av_i i :: av_r r :: st) S L := by
  intro p e s m args below meth c H locs A free Qc XC ls hC hE hf hl hP hD hS
  exact rp_zld hC.1 hC.2.1 hC.2.2.2.2.2.2.1 hP 2 (wd_mem hr hr2) (wd_ints hc) rfl hin hdg (k p e s m args below meth c H locs A free Qc XC ls hC hE hf hl hP hD hS)
theorem jd_lald {n r : Nat} {i : Int32} (hc : ac_of w.2.2.1 w.2.2.2 r (S r) (L r) = .inl (1, n, .inl 1)) (hin : vp_in i n) (hr : rl_in w.2.2.1 w.2.2.2 r = true) (hr2 : r < 501) (hdg : decode cc pc = .ok (.laload, 1)) (k : jd_J l D w own cc nL ret tab R mc ms Qp kc ks (pc + 1) lo (av_l (L r i.toNatClampNeg) :: st) S L) : jd_J l D w own cc nL ret tab R mc ms Qp kc ks pc lo (av_i i :: av_r r :: st) S L := by
  intro p e s m args below meth c H locs A free Qc XC ls hC hE hf hl hP hD hS
  exact rp_lld hC.1 hC.2.1 hC.2.2.2.2.2.2.1 hP 1 (wd_mem hr hr2) (wd_longs hc) rfl hin hdg (k p e s m args below meth c H locs A free Qc XC ls hC hE hf hl hP hD hS)
theorem jd_aald {n r k0 : Nat} {i : Int32} {f : Nat → Option Nat} {ty : FieldType} (hc : ac_of w.2.2.1 w.2.2.2 r (S r) (L r) = .inl (k0, n, .inr f)) (hty : (wd_ty w)[k0]? = some (w.2.1 k0, ty)) (href : ty.isReference = true) (hin : vp_in i n) {r2 : Nat} (hf2 : f i.toNatClampNeg = some r2) (hr : rl_in w.2.2.1 w.2.2.2 r = true) (hr2 : r < 501) (hdg : decode cc pc = .ok (.aaload, 1)) (k : jd_J l D w own cc nL ret tab R mc ms Qp kc ks (pc + 1) lo (av_r r2 :: st) S L) : jd_J l D w own cc nL ret tab R mc ms Qp kc ks pc lo (av_i i :: av_r r :: st) S L := by
  intro p e s m args below meth c H locs A free Qc XC ls hC hE hf hl hP hD hS
  exact rp_ald hC.1 hC.2.1 hC.2.2.2.2.2.2.1 hP k0 (wd_mem hr hr2) href (wd_refs hc) hty hin (y := w.1 r2) (by rw [hf2]; rfl) hdg (k p e s m args below meth c H locs A free Qc XC ls hC hE hf hl hP hD hS)
theorem jd_iast {n r : Nat} {i x : Int32} (hc : ∀ f : Nat → Int32, ac_of w.2.2.1 w.2.2.2 r f (L r) = .inl (0, n, .inl 0)) (hin : vp_in i n) (hr : rl_in w.2.2.1 w.2.2.2 r = true) (hr2 : r < 501) (hdg : decode cc pc = .ok (.iastore, 1)) (k : jd_J l D w own cc nL ret tab R mc ms Qp kc ks (pc + 1) lo st (va_up S r (upd (S r) i.toNatClampNeg x)) L) : jd_J l D w own cc nL ret tab R mc ms Qp kc ks pc lo (av_i x :: av_i i :: av_r r :: st) S L := by
  intro p e s m args below meth c H locs A free Qc XC ls hC hE hf hl hP hD hS
  exact rp_ist hC.1 hC.2.1 hC.2.2.2.2.2.2.1 hP hD hS 0 (wd_mem hr hr2) (fun f => wd_ints (hc f)) rfl hin hdg (fun H locs hP hD hS => k p e s m args below meth c H locs A free Qc XC ls hC hE hf hl hP hD hS)
theorem jd_zast {n r : Nat} {i x : Int32} (hc : ∀ f : Nat → Int32, ac_of w.2.2.1 w.2.2.2 r f (L r) = .inl (2, n, .inl 0)) (hx : vp_nar .boolean x = x) (hin : vp_in i n) (hr : rl_in w.2.2.1 w.2.2.2 r = true) (hr2 : r < 501) (hdg : decode cc pc = .ok (.bastore, 1)) (k : jd_J l D w own cc nL ret tab R mc ms Qp kc ks (pc + 1) lo st (va_up S r (upd (S r) i.toNatClampNeg x)) L) : jd_J l D w own cc nL ret tab R mc ms Qp kc ks pc lo (av_i x :: av_i i :: av_r r :: st) S L := by
  intro p e s m args below meth c H locs A free Qc XC ls hC hE hf hl hP hD hS
  exact rp_zst hC.1 hC.2.1 hC.2.2.2.2.2.2.1 hP hD hS 2 (wd_mem hr hr2) (fun f => wd_ints (hc f)) rfl hx hin hdg (fun H locs hP hD hS => k p e s m args below meth c H locs A free Qc XC ls hC hE hf hl hP hD hS)
theorem jd_last {n r : Nat} {i : Int32} {x : Int64} (hc : ∀ f : Nat → Int64, ac_of w.2.2.1 w.2.2.2 r (S r) f = .inl (1, n, .inl 1)) (hin : vp_in i n) (hr : rl_in w.2.2.1 w.2.2.2 r = true) (hr2 : r < 501) (hdg : decode cc pc = .ok (.lastore, 1)) (k : jd_J l D w own cc nL ret tab R mc ms Qp kc ks (pc + 1) lo st S (va_up L r (vp_updL (L r) i.toNatClampNeg x))) : jd_J l D w own cc nL ret tab R mc ms Qp kc ks pc lo (av_l x :: av_i i :: av_r r :: st) S L := by
  intro p e s m args below meth c H locs A free Qc XC ls hC hE hf hl hP hD hS
  exact rp_lst hC.1 hC.2.1 hC.2.2.2.2.2.2.1 hP hD hS 1 (wd_mem hr hr2) (fun f => wd_longs (hc f)) rfl hin hdg (fun H locs hP hD hS => k p e s m args below meth c H locs A free Qc XC ls hC hE hf hl hP hD hS)
theorem jd_iret {v : Int32} (hr : ret = some .int) (hq : Qp.1 (some (av_i v)) S L) (h1 : kc ≤ mc) (h2 : ks ≤ ms) (hdg : decode cc pc = .ok (.ireturn, 1)) : jd_J l D w own cc nL ret tab R mc ms Qp kc ks pc lo [av_i v] S L := by
  intro p e s m args below meth c H locs A free Qc XC ls hC hE hf hl hP hD hS
  exact W.widen h1 h2 (vx_ret (W.iret hC.1 hC.2.1 (hC.2.2.2.2.2.2.2.2.2.2.2.trans hr) (fun t ht hW => hE.1 (some (av_i v)) S L t hq (by rw [ht]; exact hP) hD (hS.F ht) hW.alike) (fun q hq => hf _ (hS.2.2 q hq)) hdg hC.2.2.2.2.2.1))
theorem jd_zret {v : Int32} (hr : ret = some .boolean) (hn : narrow .boolean (.int v) = .int v) (hq : Qp.1 (some (av_i v)) S L) (h1 : kc ≤ mc) (h2 : ks ≤ ms) (hdg : decode cc pc = .ok (.ireturn, 1)) : jd_J l D w own cc nL ret tab R mc ms Qp kc ks pc lo [av_i v] S L := by
  intro p e s m args below meth c H locs A free Qc XC ls hC hE hf hl hP hD hS
  exact W.widen h1 h2 (vx_ret (W.zret hC.1 hC.2.1 (hC.2.2.2.2.2.2.2.2.2.2.2.trans hr) hn (fun t ht hW => hE.1 (some (av_i v)) S L t hq (by rw [ht]; exact hP) hD (hS.F ht) hW.alike) (fun q hq => hf _ (hS.2.2 q hq)) hdg hC.2.2.2.2.2.1))
theorem jd_vret (hr : ret = none) (hq : Qp.1 none S L) (h1 : kc ≤ mc) (h2 : ks ≤ ms) (hdg : decode cc pc = .ok (.return_, 1)) : jd_J l D w own cc nL ret tab R mc ms Qp kc ks pc lo [] S L := by
  intro p e s m args below meth c H locs A free Qc XC ls hC hE hf hl hP hD hS
  exact W.widen h1 h2 (vx_ret (W.vret hC.1 hC.2.1 (hC.2.2.2.2.2.2.2.2.2.2.2.trans hr) (fun t ht hW => hE.1 none S L t hq (by rw [ht]; exact hP) hD (hS.F ht) hW.alike) (fun q hq => hf _ (hS.2.2 q hq)) hdg hC.2.2.2.2.2.1))
theorem jd_aret {r : Nat} {nm : String} (hr : ret = some (.object nm)) (hq : Qp.1 (some (av_r r)) S L) (h1 : kc ≤ mc) (h2 : ks ≤ ms) (hdg : decode cc pc = .ok (.areturn, 1)) : jd_J l D w own cc nL ret tab R mc ms Qp kc ks pc lo [av_r r] S L := by
  intro p e s m args below meth c H locs A free Qc XC ls hC hE hf hl hP hD hS
  exact W.widen h1 h2 (vx_ret (W.aret hC.1 hC.2.1 (hC.2.2.2.2.2.2.2.2.2.2.2.trans hr) (Or.inl ⟨nm, rfl⟩) (Or.inr ⟨w.1 r, rfl⟩) (fun t ht hW => hE.1 (some (av_r r)) S L t hq (by rw [ht]; exact hP) hD (hS.F ht) hW.alike) (fun q hq => hf _ (hS.2.2 q hq)) hdg hC.2.2.2.2.2.1))
end JDS
end
section
/-! CONTRACTS over worlds, and calls. -/
def ct_Pc (D : va_G) (w : wd_T) (av : List av_T) (S : Nat → Nat → Int32) (L : Nat → Nat → Int64) (sz : Nat) : Array Value → State → Prop :=
  va_Pc (av.map (av_v w.1)) (fun U => U.heap.size = sz ∧ va_P D zcl (wd_W w S L) U.heap ∧ va_K D zcl (wd_ty w) U ∧ va_D (fun _ => True) (wd_W w S L) ∧ jd_X (va_A (wd_W w S L) sz) U U.heap)
def ct_Qc (D : va_G) (w : wd_T) (S : Nat → Nat → Int32) (L : Nat → Nat → Int64) (Qp : jd_P) (sz : Nat) : Array Value → State → Outcome → State → Prop := fun _ st oc t =>
  (∃ (v : Option av_T) (S' : Nat → Nat → Int32) (L' : Nat → Nat → Int64), oc = .returned (v.map (av_v w.1)) ∧ Qp.1 v S' L' ∧ va_P D zcl (wd_W w S' L') t.heap ∧ va_D (va_A (wd_W w S L) sz) (wd_W w S' L')) ∧ va_F (va_A (wd_W w S L) sz) st t
def ct_XC (D : va_G) (w : wd_T) (S : Nat → Nat → Int32) (L : Nat → Nat → Int64) (Qp : jd_P) (sz : Nat) : String → State → State → Prop := fun E st t =>
  (∃ (S' : Nat → Nat → Int32) (L' : Nat → Nat → Int64), Qp.2 E S' L' ∧ va_P D zcl (wd_W w S' L') t.heap ∧ va_D (va_A (wd_W w S L) sz) (wd_W w S' L')) ∧ va_F (va_A (wd_W w S L) sz) st t
/-- the contract of a method with the code word hd: from the numbers S and L with these arguments it comes to an end that Qp allows -/
def ct_M (l : Launch) (D : va_G) (w : wd_T) (y : MethodName) (hd : Cond) (rm : Room) (av : List av_T) (S : Nat → Nat → Int32) (L : Nat → Nat → Int64) (Qp : jd_P) (mc ms : Nat) : Prop :=
  ∀ sz : Nat, vx_Met l y (hd :: zw_all) rm (ct_Pc D w av S L sz) (ct_Qc D w S L Qp sz) (ct_XC D w S L Qp sz) mc ms (va_A (wd_W w S L) sz)
theorem jd_X.same {A : Nat → Prop} {u U : State} {H : Heap} (hv : U.vm = u.vm) (h : jd_X A u H) : jd_X A U H := by
  obtain ⟨h1, h2, h3, h4, h6, h5⟩ := h
  have hal : u.vm.Alike U.vm := by rw [hv]; exact Vm.Alike.refl u.vm
  refine ⟨h1.moved hal, h2.moved hal, fun E hE => jd_cast hal (h3 E hE), fun E hE E' hE' hne => va_Nc.moved hal (h4 E hE E' hE' hne), fun q hq => va_Nw.same rfl hv.symm (h6 q hq), fun q hq => ?_⟩
  obtain ⟨a, ha⟩ := h5 q hq
  exact ⟨a, vk_R.same hv ha⟩
theorem ct_blind {D : va_G} {w : wd_T} {av : List av_T} {S : Nat → Nat → Int32} {L : Nat → Nat → Int64} {sz : Nat} : FrameBlind (ct_Pc D w av S L sz) := by
  intro a U g mk h
  obtain ⟨q0, q1, qP, qK, qD, qX⟩ := h
  exact ⟨q0, q1, qP, va_K.moved (u := U) (U := U.calling g mk a) (Vm.Alike.refl U.vm) qK, qD, jd_X.same (u := U) (U := U.calling g mk a) rfl qX⟩
/-- out of the judgement at the entry -/
theorem ct_intro {l : Launch} (hls : l.stackTraces = false) {D : va_G} {w : wd_T} {own : String} {y : MethodName} {cc : ByteArray} {nL : Nat} {ret : Option FieldType} {rm : Room} {av : List av_T} {S : Nat → Nat → Int32} {L : Nat → Nat → Int64} {Qp : jd_P} {mc ms : Nat} (hy : plainName y.cls = true) (hyo : y.cls = own) (hfit : (lg_sl (av.map (av_v w.1))).length ≤ nL)
    (k : jd_J l D w own cc nL ret [] rm mc ms Qp 0 0 0 (jl_args 0 av) [] S L) : ct_M l D w y (.code y cc nL ret) rm av S L Qp mc ms := by
  intro sz
  refine vx_ofW (cc := cc) (maxL := nL) (ret := ret) hy rfl ?_
  intro p e s m args below meth c s₁ B hml ht hv
  obtain ⟨rfl, hsz, hP, hK, hD0, hX⟩ := hv
  have hts := atoms_spec (ws := .code y cc nL ret :: zw_all) B.pre
  have hown : s.vm.findClass own = some m.cls := by rw [← hyo]; exact findClass_of_methodNamed B.named
  subst hsz
  have hD := hD0.self (sz := s.heap.size)
  have hl := lv_entry (av.map (av_v w.1)) (n := nL) hfit
  rw [jl_args_ok] at hl
  rw [lg_entry_eq]
  have htab : c.exceptionTable.toList = [] := List.eq_nil_iff_forall_not_mem.mpr (fun x hx => ht x hx)
  exact k p e s m _ below meth c s.heap [] (va_A (wd_W w S L) s.heap.size) (va_A (wd_W w S L) s.heap.size) _ _ _
    ⟨B.exec, B.bytes, hml, hown, fun q hq => hts q (List.mem_cons_of_mem _ hq), B.notSynchronized, hK, fun q h => Or.inr h, htab, hls, hX, B.returns⟩
    ⟨fun v S' L' t hq hP' hD' hF _ => ⟨⟨v, S', L', rfl, hq, hP', hD'⟩, hF⟩, fun E S' L' t hq hP' hD' hF _ => ⟨⟨S', L', hq, hP', hD'⟩, hF⟩⟩ (fun _ h => h) hl hP hD va_S.rf
/-- the same for a method with a table of its own -/
theorem ct_introH {l : Launch} (hls : l.stackTraces = false) {D : va_G} {w : wd_T} {own : String} {y : MethodName} {cc : ByteArray} {nL : Nat} {ret : Option FieldType} {hh : List (Nat × Nat × Nat × Nat)} {rm : Room} {av : List av_T} {S : Nat → Nat → Int32} {L : Nat → Nat → Int64} {Qp : jd_P} {mc ms : Nat} (hy : plainName y.cls = true) (hyo : y.cls = own) (hfit : (lg_sl (av.map (av_v w.1))).length ≤ nL)
    (k : jd_J l D w own cc nL ret (tableOf hh) rm mc ms Qp 0 0 0 (jl_args 0 av) [] S L) : ct_M l D w y (.codeWith y cc nL ret hh) rm av S L Qp mc ms := by
  intro sz
  refine vx_ofWH (cc := cc) (maxL := nL) (ret := ret) hy rfl ?_
  intro p e s m args below meth c s₁ B hml hv
  obtain ⟨rfl, hsz, hP, hK, hD0, hX⟩ := hv
  have hts := atoms_spec (ws := .codeWith y cc nL ret hh :: zw_all) B.pre
  have hown : s.vm.findClass own = some m.cls := by rw [← hyo]; exact findClass_of_methodNamed B.named
  subst hsz
  have hD := hD0.self (sz := s.heap.size)
  have hl := lv_entry (av.map (av_v w.1)) (n := nL) hfit
  rw [jl_args_ok] at hl
  rw [lg_entry_eq]
  have htab : c.exceptionTable.toList = tableOf hh := vx_table (x := y) B (hts _ List.mem_cons_self)
  exact k p e s m _ below meth c s.heap [] (va_A (wd_W w S L) s.heap.size) (va_A (wd_W w S L) s.heap.size) _ _ _
    ⟨B.exec, B.bytes, hml, hown, fun q hq => hts q (List.mem_cons_of_mem _ hq), B.notSynchronized, hK, fun q h => Or.inr h, htab, hls, hX, B.returns⟩
    ⟨fun v S' L' t hq hP' hD' hF _ => ⟨⟨v, S', L', rfl, hq, hP', hD'⟩, hF⟩, fun E S' L' t hq hP' hD' hF _ => ⟨⟨S', L', hq, hP', hD'⟩, hF⟩⟩ (fun _ h => h) hl hP hD va_S.rf
theorem tw_all {ws : List Cond} (h : ∀ q ∈ ws, q ∈ zw_all) : GoodIn zw_all ws := fun q hq => ⟨h q hq, good_of_word (zw_good q (h q hq))⟩
theorem tw_V {own C : String} {index : Nat} {y : MethodName} {hd : Cond} (h1 : Cond.methodLink own index y ∈ zw_all) (h2 : Cond.instanceMethod y ∈ zw_all) (h3 : Cond.selects C y y ∈ zw_all) (h4 : Cond.initialized C ∈ zw_all) (h5 : hd ∈ zw_all) : GoodIn zw_all (wsV own index C y (hd :: zw_all)) := tw_all (fun q hq => by
  unfold wsV at hq
  simp only [List.cons_append, List.nil_append, List.mem_cons] at hq
  rcases hq with e | e | e | e | e | e
  · rw [e]; exact h1
  · rw [e]; exact h2
  · rw [e]; exact h3
  · rw [e]; exact h4
  · rw [e]; exact h5
  · exact e)
theorem tw_S {own : String} {index : Nat} {y : MethodName} {hd : Cond} (h1 : Cond.methodLink own index y ∈ zw_all) (h2 : Cond.static y ∈ zw_all) (h4 : Cond.initialized y.cls ∈ zw_all) (h5 : hd ∈ zw_all) : GoodIn zw_all (va_wsS own index y (hd :: zw_all)) := tw_all (fun q hq => by
  unfold va_wsS at hq
  simp only [List.cons_append, List.nil_append, List.mem_cons] at hq
  rcases hq with e | e | e | e | e
  · rw [e]; exact h1
  · rw [e]; exact h2
  · rw [e]; exact h4
  · rw [e]; exact h5
  · exact e)
section JDC
variable {l : Launch} {D : va_G} {w : wd_T} {own : String} {cc : ByteArray} {nL : Nat} {ret : Option FieldType} {tab : List ExceptionTableEntry} {R : Room} {mc ms : Nat} {Qp : jd_P} {kc ks : Nat} {pc : Nat} {lo : jl_T} {st : List av_T} {S : Nat → Nat → Int32} {L : Nat → Nat → Int64}
/-- an exception of the kind E is on its way over the frame -/
def jd_T (l : Launch) (D : va_G) (w : wd_T) (own : String) (cc : ByteArray) (nL : Nat) (ret : Option FieldType) (tab : List ExceptionTableEntry) (R : Room) (mc ms : Nat) (Qp : jd_P) (kc ks : Nat) (pc : Nat) (lo : jl_T) (E : String) (S : Nat → Nat → Int32) (L : Nat → Nat → Int64) : Prop :=
  ∀ (p : Program) (e : Env) (s : State) (m : MethodId) (args : Array Value) (below : List Frame) (meth : Method) (c : Code) (H : Heap) (locs : List Loc) (A free : Nat → Prop) (Qc : Array Value → State → Outcome → State → Prop) (XC : String → State → State → Prop) (ls : Array Slot) (st : List Value) (q : Nat) (ce : Cell),
    jd_C p l s m args meth c D w own cc nL ret tab A → jd_E D w s args A Qp Qc XC → (∀ q, A q → free q) → lv_has ls nL (jl_v w.1 lo) → va_P D zcl (wd_W w S L) H → va_D A (wd_W w S L) → va_S A s.heap H locs → H[q]? = some ce → ce.vm = .none → s.vm.findClass E = some ce.cls →
    vx_W p l e R s m args below meth c H locs kc ks (vx_MQ below Qc XC args s mc ms free) (F0 m pc ls st) q
/-- the method has no table: it ends by the exception -/
theorem jd_out {E : String} (ht : tab = []) (hq : Qp.2 E S L) (h1 : kc ≤ mc) (h2 : ks ≤ ms) : jd_T l D w own cc nL ret tab R mc ms Qp kc ks pc lo E S L := by
  intro p e s m args below meth c H locs A free Qc XC ls st q ce hC hE hf hl hP hD hS hce hcv hcl
  exact vx_out (by rw [hC.2.2.2.2.2.2.2.2.1, ht]; exact fun x hx => by cases hx) hC.2.2.2.2.2.1 hce hcv hcl (fun t ht hW => hE.2 E S L t hq (by rw [ht]; exact hP) hD (hS.F ht) hW) (fun z hz => hf _ (hS.2.2 z hz)) h1 h2
/-- a call of an object's method: it returns, or throws -/
theorem jd_callV {C : String} {index ci rb : Nat} {y : MethodName} {bb : ByteArray} {nB : Nat} {retB : Option FieldType} {rm : Room} {As rest st0 : List av_T} {Qp' : jd_P} {mc' ms' n : Nat} {fs : List av_T} {T : u_T} {N : Nat}
    (hM : ct_M l D w y (.code y bb nB retB) rm (av_r rb :: As) S L Qp' mc' ms') (hst : st0 = As.reverse ++ av_r rb :: rest) (hc : ac_of w.2.2.1 w.2.2.2 rb (S rb) (L rb) = .inr (ci, fs)) (hcl : zcl[ci]? = some (C, T, N)) (hr : rl_in w.2.2.1 w.2.2.2 rb = true) (hr2 : rb < 501)
    (h1 : Cond.methodLink own index y ∈ zw_all) (h2 : Cond.instanceMethod y ∈ zw_all) (h3 : Cond.selects C y y ∈ zw_all) (h4 : Cond.initialized C ∈ zw_all) (h5 : Cond.code y bb nB retB ∈ zw_all) (hd : y.cls = C ∧ y.cls ≠ "java/lang/invoke/MethodHandle" ∧ y.cls ≠ "java/lang/invoke/VarHandle" ∧ (parseMethodDescriptor y.desc).map (fun d => d.parameters.length) = some n) (hn : As.length = n)
    (hrc : rm.cells = mc') (hrs : rm.slots = ms') (hR : rm.frames + 1 ≤ R.frames ∧ 8 + (nB + 11) + rm.locals ≤ R.locals) (hw8 : (rest.map av_cat).sum ≤ 8) (hroom : kc + mc' ≤ R.cells ∧ ks + ms' ≤ R.slots) (hdg : decode cc pc = .ok (.invokevirtual index, 3))
    (kt : ∀ E S' L', Qp'.2 E S' L' → jd_T l D w own cc nL ret tab R mc ms Qp (kc + mc') (ks + ms') pc lo E S' L')
    (kk : ∀ v S' L', Qp'.1 v S' L' → jd_J l D w own cc nL ret tab R mc ms Qp (kc + mc') (ks + ms') (pc + 3) lo (v.toList ++ rest) S' L') : jd_J l D w own cc nL ret tab R mc ms Qp kc ks pc lo st0 S L := by
  intro p e s m args below meth c H locs A free Qc XC ls hC hE hf hl hP hD hS
  have hFc := rp_free (H := H) hD hS hC.2.2.2.2.2.2.2.1
  have hrun := vx_runV (p := p) (e := e) (R := R) (below := below) (meth := meth) (H := H) (locs := locs) (cells := kc) (slots := ks) (g := F0 m pc ls (st0.map (av_v w.1))) (As := As.map (av_v w.1)) (rest := rest.map (av_v w.1)) (b := w.1 rb) (Ts := zw_all) (cc := cc) (nL := nL) ⟨hC.1, hC.2.1, hC.2.2.1, hC.2.2.2.1, hC.2.2.2.2.1⟩ (hM H.size) (cwV n hC.2.2.2.2.1 (tw_V h1 h2 h3 h4 h5) rfl hrc hrs hd hR)
    ⟨ct_blind, rp_recv hC.2.2.2.2.2.2.1 hP (wd_mem hr hr2) (wd_obj hc) hcl, fun U hU hW => ⟨rfl, by rw [hU], by rw [hU]; exact hP, va_K.moved hW.alike hC.2.2.2.2.2.2.1, hD.weaken (fun _ _ _ _ => trivial), by rw [hU]; exact hC.2.2.2.2.2.2.2.2.2.2.1.call hS hFc hW⟩⟩ rfl (by rw [List.length_map]; exact hn) hl.1 (by show st0.map (av_v w.1) = _; rw [hst]; simp [av_v]) (lv_room (by rw [List.map_map]; refine Nat.le_trans (Nat.le_of_eq ?_) hw8; congr 1; apply List.map_congr_left; intro v _; exact av_cat_ok w.1 v)) hdg hroom
  intro T9 hT X
  rcases hrun T9 hT X with ⟨v, st₀, t, T', L9, h0, X', hL, e1, e2, ⟨⟨v', S', L', hv, hq, hP', hD'⟩, hF⟩, sg⟩ | ⟨q, st₀, t, T', L9, E, ce, h0, X', hL, e1, e2, ⟨⟨S', L', hq, hP', hD'⟩, hF⟩, hce, hcv, hcl9, sg⟩
  · cases hv
    obtain ⟨k1, k2, k3⟩ := vx_keep h0 e1 hS (fun q _ h => hFc q h) hFc hL hF
    obtain ⟨t2, a1, b1⟩ := kk v' S' L' hq p e s m args below meth c T'.heap (locs ++ L9) A free Qc XC ls hC hE hf hl (by rw [e1]; exact hP') (hD'.weaken (fun _ z _ h => hFc _ h)) k3 T' rfl X'
    refine ⟨t2, sg t2 ?_, b1⟩
    have e9 : (v'.toList ++ rest).map (av_v w.1) = (v'.map (av_v w.1)).toList ++ rest.map (av_v w.1) := by cases v' <;> simp
    rw [e9] at a1
    exact a1
  · obtain ⟨k1, k2, k3⟩ := vx_keep h0 e1 hS (fun q _ h => hFc q h) hFc hL hF
    obtain ⟨t2, a1, b1⟩ := kt E S' L' hq p e s m args below meth c T'.heap (locs ++ L9) A free Qc XC ls (rest.map (av_v w.1)) q ce hC hE hf hl (by rw [e1]; exact hP') (hD'.weaken (fun _ z _ h => hFc _ h)) k3 (by rw [e1]; exact hce) hcv hcl9 T' rfl X'
    exact ⟨t2, sg.trans a1, b1⟩
/-- a call of a static method -/
theorem jd_callS {index : Nat} {y : MethodName} {bb : ByteArray} {nB : Nat} {retB : Option FieldType} {rm : Room} {As rest st0 : List av_T} {Qp' : jd_P} {mc' ms' n : Nat}
    (hM : ct_M l D w y (.code y bb nB retB) rm As S L Qp' mc' ms') (hst : st0 = As.reverse ++ rest)
    (h1 : Cond.methodLink own index y ∈ zw_all) (h2 : Cond.static y ∈ zw_all) (h4 : Cond.initialized y.cls ∈ zw_all) (h5 : Cond.code y bb nB retB ∈ zw_all) (hd : y.cls ≠ "java/lang/invoke/MethodHandle" ∧ y.cls ≠ "java/lang/invoke/VarHandle" ∧ (parseMethodDescriptor y.desc).map (fun d => d.parameters.length) = some n) (hn : As.length = n)
    (hrc : rm.cells = mc') (hrs : rm.slots = ms') (hR : rm.frames + 1 ≤ R.frames ∧ 8 + (nB + 11) + rm.locals ≤ R.locals) (hw8 : (rest.map av_cat).sum ≤ 8) (hroom : kc + mc' ≤ R.cells ∧ ks + ms' ≤ R.slots) (hdg : decode cc pc = .ok (.invokestatic index, 3))
    (kt : ∀ E S' L', Qp'.2 E S' L' → jd_T l D w own cc nL ret tab R mc ms Qp (kc + mc') (ks + ms') pc lo E S' L')
    (kk : ∀ v S' L', Qp'.1 v S' L' → jd_J l D w own cc nL ret tab R mc ms Qp (kc + mc') (ks + ms') (pc + 3) lo (v.toList ++ rest) S' L') : jd_J l D w own cc nL ret tab R mc ms Qp kc ks pc lo st0 S L := by
  intro p e s m args below meth c H locs A free Qc XC ls hC hE hf hl hP hD hS
  have hFc := rp_free (H := H) hD hS hC.2.2.2.2.2.2.2.1
  have hrun := vx_runS (p := p) (e := e) (R := R) (below := below) (meth := meth) (H := H) (locs := locs) (cells := kc) (slots := ks) (g := F0 m pc ls (st0.map (av_v w.1))) (As := As.map (av_v w.1)) (rest := rest.map (av_v w.1)) (Ts := zw_all) (cc := cc) (nL := nL) ⟨hC.1, hC.2.1, hC.2.2.1, hC.2.2.2.1, hC.2.2.2.2.1⟩ (hM H.size) (va_cwS n hC.2.2.2.2.1 (tw_S h1 h2 h4 h5) rfl hrc hrs hd hR)
    ⟨ct_blind, fun U hU hW => ⟨rfl, by rw [hU], by rw [hU]; exact hP, va_K.moved hW.alike hC.2.2.2.2.2.2.1, hD.weaken (fun _ _ _ _ => trivial), by rw [hU]; exact hC.2.2.2.2.2.2.2.2.2.2.1.call hS hFc hW⟩⟩ rfl (by rw [List.length_map]; exact hn) hl.1 (by show st0.map (av_v w.1) = _; rw [hst]; simp) (lv_room (by rw [List.map_map]; refine Nat.le_trans (Nat.le_of_eq ?_) hw8; congr 1; apply List.map_congr_left; intro v _; exact av_cat_ok w.1 v)) hdg hroom
  intro T9 hT X
  rcases hrun T9 hT X with ⟨v, st₀, t, T', L9, h0, X', hL, e1, e2, ⟨⟨v', S', L', hv, hq, hP', hD'⟩, hF⟩, sg⟩ | ⟨q, st₀, t, T', L9, E, ce, h0, X', hL, e1, e2, ⟨⟨S', L', hq, hP', hD'⟩, hF⟩, hce, hcv, hcl9, sg⟩
  · cases hv
    obtain ⟨k1, k2, k3⟩ := vx_keep h0 e1 hS (fun q _ h => hFc q h) hFc hL hF
    obtain ⟨t2, a1, b1⟩ := kk v' S' L' hq p e s m args below meth c T'.heap (locs ++ L9) A free Qc XC ls hC hE hf hl (by rw [e1]; exact hP') (hD'.weaken (fun _ z _ h => hFc _ h)) k3 T' rfl X'
    refine ⟨t2, sg t2 ?_, b1⟩
    have e9 : (v'.toList ++ rest).map (av_v w.1) = (v'.map (av_v w.1)).toList ++ rest.map (av_v w.1) := by cases v' <;> simp
    rw [e9] at a1
    exact a1
  · obtain ⟨k1, k2, k3⟩ := vx_keep h0 e1 hS (fun q _ h => hFc q h) hFc hL hF
    obtain ⟨t2, a1, b1⟩ := kt E S' L' hq p e s m args below meth c T'.heap (locs ++ L9) A free Qc XC ls (rest.map (av_v w.1)) q ce hC hE hf hl (by rw [e1]; exact hP') (hD'.weaken (fun _ z _ h => hFc _ h)) k3 (by rw [e1]; exact hce) hcv hcl9 T' rfl X'
    exact ⟨t2, sg.trans a1, b1⟩
end JDC
end
section
/-! THROWING AND CATCHING, and Math's two. -/
def th_up : List String := ["java/lang/RuntimeException", "java/lang/Exception"]
def th_bad (E : String) : List Cond := [Cond.castable E E, Cond.declares ⟨"java/lang/RuntimeException", "<init>", "(Ljava/lang/String;)V"⟩, Cond.declares ⟨"java/lang/Exception", "<init>", "(Ljava/lang/String;)V"⟩, Cond.declares ⟨"java/lang/Throwable", "<init>", "(Ljava/lang/String;)V"⟩]
def th_W (own : String) (ik ic : Nat) (E : String) : Prop := Cond.classLink own ik E ∈ zw_all ∧ Cond.initialized E ∈ zw_all ∧ E ∈ jd_kinds ∧ Bundle.fit E = true ∧ (∀ q ∈ (vx_atS own ic E th_up).filter goodWord, q ∈ zw_all) ∧ (∀ q ∈ (vx_atS own ic E th_up).filter (fun q => !goodWord q), q ∈ th_bad E) ∧ (∀ q ∈ Cond.classLink own ik E :: Cond.initialized E :: vx_atS own ic E th_up, vx_ot q = true)
theorem th_iae : th_W zn_A 53 57 "java/lang/IllegalArgumentException" := ⟨by decide +kernel, by decide +kernel, by decide +kernel, by decide +kernel, by decide +kernel, by decide +kernel, by decide +kernel⟩
theorem th_uoe : th_W zn_A 63 67 "java/lang/UnsupportedOperationException" := ⟨by decide +kernel, by decide +kernel, by decide +kernel, by decide +kernel, by decide +kernel, by decide +kernel, by decide +kernel⟩
theorem th_ise : th_W zn_A 106 110 "java/lang/IllegalStateException" := ⟨by decide +kernel, by decide +kernel, by decide +kernel, by decide +kernel, by decide +kernel, by decide +kernel, by decide +kernel⟩
theorem th_ae : th_W zn_A 219 223 "java/lang/ArithmeticException" := ⟨by decide +kernel, by decide +kernel, by decide +kernel, by decide +kernel, by decide +kernel, by decide +kernel, by decide +kernel⟩
theorem th_ups : ∀ q ∈ th_up, Bundle.fit q = true := by decide +kernel
section JDX
variable {l : Launch} {D : va_G} {w : wd_T} {own : String} {cc : ByteArray} {nL : Nat} {ret : Option FieldType} {tab : List ExceptionTableEntry} {R : Room} {mc ms : Nat} {Qp : jd_P} {kc ks : Nat} {pc : Nat} {lo : jl_T} {st : List av_T} {S : Nat → Nat → Int32} {L : Nat → Nat → Int64}
/-- new E("text") is made and thrown out of the method -/
theorem jd_throw {E text : String} {ik is ic : Nat} (hth : th_W zn_A ik ic E) (htx : (is, text) ∈ jd_texts) (ht : tab = []) (hq : Qp.2 E S L)
    (d0 : decode cc pc = .ok (.new ik, 3)) (d3 : decode cc (pc + 3) = .ok (.dup, 1)) (d4 : decode cc (pc + 4) = .ok (.ldc is, 2)) (d6 : decode cc (pc + 6) = .ok (.invokespecial ic, 3)) (d9 : decode cc (pc + 9) = .ok (.athrow, 1))
    (hR1 : 5 < R.frames) (hR2 : (st.map av_cat).sum + 82 ≤ R.locals) (hR3 : kc + 1 ≤ R.cells) (hR4 : ks + 6 ≤ R.slots) (h1 : kc + 1 ≤ mc) (h2 : ks + 6 ≤ ms) : jd_J l D w zn_A cc nL ret tab R mc ms Qp kc ks pc lo st S L := by
  intro p e s m args below meth c H locs A free Qc XC ls hC hE hf hl hP hD hS
  obtain ⟨t1, t2, t3, t4, t5, t6, t7⟩ := hth
  obtain ⟨x1, x2, x3, x4, x6, x5⟩ := hC.2.2.2.2.2.2.2.2.2.2.1
  obtain ⟨sa, hsa⟩ := x5 _ htx
  exact vx_throwS hC.1 hC.2.1 hC.2.2.2.2.2.2.2.2.2.1 (names := th_up) hC.2.2.2.1 t4 th_ups (hC.2.2.2.2.1 _ t1) (hC.2.2.2.2.1 _ t2) hsa (vx_hat (B := th_bad E) (fun q hq => hC.2.2.2.2.1 q (t5 q hq)) t6 (vx_c (jd_cast (Vm.Alike.refl s.vm) (x3 E t3)) (vx_c (va_Nw.use rfl (x6 _ (by decide +kernel))) (vx_c (va_Nw.use rfl (x6 _ (by decide +kernel))) (vx_c (va_Nw.use rfl (x6 _ (by decide +kernel))) vx_n))))) t7 x1 x2 hS (hl.1.trans hC.2.2.1.symm) d0 d3 d4 d6 d9
    (by rw [hC.2.2.2.2.2.2.2.2.1, ht]; exact fun x hx => by cases hx) hR1 (by rw [List.map_map]; refine Nat.le_trans (Nat.le_of_eq ?_) hR2; show _ + 82 = _ + 82; congr 2; apply List.map_congr_left; intro v _; exact av_cat_ok w.1 v) hR3 hR4 hC.2.2.2.2.2.1
    (fun t hal hz hk => hE.2 E S L t hq (hP.kept (fun k9 x hx => hk x.1 ((hP k9 x hx).lt))) hD ⟨Nat.le_trans hS.1 hz, fun q g1 g2 => (hk q (Nat.lt_of_lt_of_le g1 hS.1)).trans (hS.2.1 q g1 g2)⟩ hal) (fun z hz => hf _ (hS.2.2 z hz)) h1 h2
/-- caught by a row of the method's own table, behind rows that name other kinds -/
theorem jd_catch {E : String} (hE0 : E ∈ jd_kinds) (pre : List ExceptionTableEntry) (x : ExceptionTableEntry) (suf : List ExceptionTableEntry) (ht : tab = pre ++ x :: suf) (hpass : ∀ z ∈ pre, z.catchType ≠ 0 ∧ ∃ nm ∈ jd_kinds, E ≠ nm ∧ Cond.classLink own z.catchType nm ∈ zw_all) (hx : covers x pc = true) (h0 : x.catchType ≠ 0) (hlink : Cond.classLink own x.catchType E ∈ zw_all)
    (kk : ∀ q : Nat, jd_J l D w own cc nL ret tab R mc ms Qp kc ks x.handlerPc lo [av_a q] S L) : jd_T l D w own cc nL ret tab R mc ms Qp kc ks pc lo E S L := by
  intro p e s m args below meth c H locs A free Qc XC ls st q ce hC hE hf hl hP hD hS hce hcv hcl
  obtain ⟨x1, x2, x3, x4, x6, x5⟩ := hC.2.2.2.2.2.2.2.2.2.2.1
  exact vx_catch (name := E) hC.2.2.2.1 pre x suf (hC.2.2.2.2.2.2.2.2.1.trans ht) (fun z hz => by
      obtain ⟨g1, nm, g2, g3, g4⟩ := hpass z hz
      exact Or.inr ⟨g1, nm, hC.2.2.2.2.1 _ g4, x4 E hE0 nm g2 g3⟩) hx h0 (hC.2.2.2.2.1 _ hlink) (jd_cast (Vm.Alike.refl s.vm) (x3 E hE0)) hce hcv hcl (kk q p e s m args below meth c H locs A free Qc XC ls hC hE hf hl hP hD hS)
theorem jd_max {index : Nat} {x y : Int32} (h1 : Cond.methodLink own index Lib.Math.max.name ∈ zw_all) (h2 : Cond.static Lib.Math.max.name ∈ zw_all) (h3 : Cond.initialized "java/lang/Math" ∈ zw_all) (h4 : Cond.code Lib.Math.max.name Lib.Math.max.code 2 (some .int) ∈ zw_all) (hR1 : 1 ≤ R.frames) (hR2 : (st.map av_cat).sum + 13 ≤ R.locals) (hR3 : kc ≤ R.cells) (hR4 : ks ≤ R.slots) (hdg : decode cc pc = .ok (.invokestatic index, 3))
    (k : jd_J l D w own cc nL ret tab R mc ms Qp kc ks (pc + 3) lo (av_i (if x < y then y else x) :: st) S L) : jd_J l D w own cc nL ret tab R mc ms Qp kc ks pc lo (av_i y :: av_i x :: st) S L := by
  intro p e s m args below meth c H locs A free Qc XC ls hC hE hf hl hP hD hS
  exact va_mmax hC.1 hC.2.1 (hC.2.2.1.trans hl.1.symm) hC.2.2.2.1 (hC.2.2.2.2.1 _ h1) (hC.2.2.2.2.1 _ h2) (hC.2.2.2.2.1 _ h3) (hC.2.2.2.2.1 _ h4) hR1 (by rw [List.map_map]; refine Nat.le_trans (Nat.le_of_eq ?_) hR2; congr 2; apply List.map_congr_left; intro v _; exact av_cat_ok w.1 v) hR3 hR4 hdg (k p e s m args below meth c H locs A free Qc XC ls hC hE hf hl hP hD hS)
theorem jd_min {index : Nat} {x y : Int32} (h1 : Cond.methodLink own index Lib.Math.min.name ∈ zw_all) (h2 : Cond.static Lib.Math.min.name ∈ zw_all) (h3 : Cond.initialized "java/lang/Math" ∈ zw_all) (h4 : Cond.code Lib.Math.min.name Lib.Math.min.code 2 (some .int) ∈ zw_all) (hR1 : 1 ≤ R.frames) (hR2 : (st.map av_cat).sum + 13 ≤ R.locals) (hR3 : kc ≤ R.cells) (hR4 : ks ≤ R.slots) (hdg : decode cc pc = .ok (.invokestatic index, 3))
    (k : jd_J l D w own cc nL ret tab R mc ms Qp kc ks (pc + 3) lo (av_i (if y < x then y else x) :: st) S L) : jd_J l D w own cc nL ret tab R mc ms Qp kc ks pc lo (av_i y :: av_i x :: st) S L := by
  intro p e s m args below meth c H locs A free Qc XC ls hC hE hf hl hP hD hS
  exact va_mmin hC.1 hC.2.1 (hC.2.2.1.trans hl.1.symm) hC.2.2.2.1 (hC.2.2.2.2.1 _ h1) (hC.2.2.2.2.1 _ h2) (hC.2.2.2.2.1 _ h3) (hC.2.2.2.2.1 _ h4) hR1 (by rw [List.map_map]; refine Nat.le_trans (Nat.le_of_eq ?_) hR2; congr 2; apply List.map_congr_left; intro v _; exact av_cat_ok w.1 v) hR3 hR4 hdg (k p e s m args below meth c H locs A free Qc XC ls hC hE hf hl hP hD hS)
end JDX
end
section
/-! SMALL FACTS about roles, and rules for the class's own arrays of objects. -/
theorem ac_U {nU nP u : Nat} {row : Nat → Int32} {lr : Nat → Int64} (h : u < 100) : ac_of nU nP (100 + u) row lr = .inr (4, [av_i (row 0), av_i (row 1), av_i (row 2), av_i (row 3), av_i (row 4), av_i (row 5), av_i (row 6), av_r (100 + u + 100)]) := by
  unfold ac_of
  rw [if_neg (by omega), if_neg (by omega), if_neg (by omega), if_pos (by omega)]
theorem ac_C {nU nP u : Nat} {row : Nat → Int32} {lr : Nat → Int64} (h : u < 100) : ac_of nU nP (100 + u + 100) row lr = .inl (0, 12, .inl 0) := by
  unfold ac_of
  rw [if_neg (by omega), if_neg (by omega), if_neg (by omega), if_neg (by omega), if_pos (by omega)]
theorem ac_P {nU nP p : Nat} {row : Nat → Int32} {lr : Nat → Int64} (h : p < 100) : ac_of nU nP (300 + p) row lr = .inr (3, [av_i (row 0), av_i (row 1), av_i (row 2), av_i (row 3), av_i (row 4)]) := by
  unfold ac_of
  rw [if_neg (by omega), if_neg (by omega), if_neg (by omega), if_neg (by omega), if_neg (by omega), if_pos (by omega)]
theorem rl_U {nU nP u : Nat} (h : u < nU) : rl_in nU nP (100 + u) = true := by
  unfold rl_in
  simp
  omega
theorem rl_C {nU nP u : Nat} (h : u < nU) : rl_in nU nP (100 + u + 100) = true := by
  unfold rl_in
  simp
  omega
theorem rl_P {nU nP p : Nat} (h : p < nP) : rl_in nU nP (300 + p) = true := by
  unfold rl_in
  simp
  omega
theorem nI_inc (u : Nat) : nI u + Int32.ofInt 1 = nI (u + 1) := nI_1 u
/-- ends that change nothing -/
def po_i (r : Int32) (S : Nat → Nat → Int32) (L : Nat → Nat → Int64) : jd_P := (fun v S' L' => v = some (av_i r) ∧ S = S' ∧ L = L', fun _ _ _ => False)
def po_v (S : Nat → Nat → Int32) (L : Nat → Nat → Int64) : jd_P := (fun v S' L' => v = none ∧ S = S' ∧ L = L', fun _ _ _ => False)
section JDH
variable {l : Launch} {D : va_G} {w : wd_T} {own : String} {cc : ByteArray} {nL : Nat} {ret : Option FieldType} {tab : List ExceptionTableEntry} {R : Room} {mc ms : Nat} {Qp : jd_P} {kc ks : Nat} {pc : Nat} {lo : jl_T} {st : List av_T} {S : Nat → Nat → Int32} {L : Nat → Nat → Int64}
theorem jd_unit {u : Nat} {i : Int32} (hi : i = nI u) (hu : u < w.2.2.1) (h12 : w.2.2.1 ≤ 12) (hdg : decode cc pc = .ok (.aaload, 1)) (k : jd_J l D w own cc nL ret tab R mc ms Qp kc ks (pc + 1) lo (av_r (100 + u) :: st) S L) : jd_J l D w own cc nL ret tab R mc ms Qp kc ks pc lo (av_i i :: av_r 1 :: st) S L := by
  subst hi
  exact jd_aald (k0 := 3) rfl rfl rfl (vp_in_nI (by omega) (by omega)) (r2 := 100 + u) (by rw [nI_clamp (by omega)]; exact if_pos hu) rfl (by decide) hdg k
theorem jd_plc {u : Nat} {i : Int32} (hi : i = nI u) (hu : u < w.2.2.2) (h12 : w.2.2.2 ≤ 12) (hdg : decode cc pc = .ok (.aaload, 1)) (k : jd_J l D w own cc nL ret tab R mc ms Qp kc ks (pc + 1) lo (av_r (300 + u) :: st) S L) : jd_J l D w own cc nL ret tab R mc ms Qp kc ks pc lo (av_i i :: av_r 2 :: st) S L := by
  subst hi
  exact jd_aald (k0 := 4) rfl rfl rfl (vp_in_nI (by omega) (by omega)) (r2 := 300 + u) (by rw [nI_clamp (by omega)]; exact if_pos hu) rfl (by decide) hdg k
end JDH
section JDK
variable {l : Launch} {D : va_G} {w : wd_T} {own : String} {cc : ByteArray} {nL : Nat} {ret : Option FieldType} {tab : List ExceptionTableEntry} {R : Room} {mc ms : Nat} {Qp : jd_P} {kc ks : Nat} {pc : Nat} {lo : jl_T} {st : List av_T} {S S' : Nat → Nat → Int32} {L L' : Nat → Nat → Int64}
theorem jd_tabIn {dflt lo9 hi : Int} {offs : Array Int} {len : Nat} {x : Int32} {off : Int} (tgt : Nat) (hdg : decode cc pc = .ok (.tableswitch dflt lo9 hi offs, len)) (h1 : ¬ x.toInt < lo9) (h2 : ¬ hi < x.toInt) (ho : offs[(x.toInt - lo9).toNat]? = some off) (ht : (pc : Int) + off = (tgt : Int)) (k : jd_J l D w own cc nL ret tab R mc ms Qp kc ks tgt lo st S L) : jd_J l D w own cc nL ret tab R mc ms Qp kc ks pc lo (av_i x :: st) S L := by
  intro p e s m args below meth c H locs A free Qc XC ls hC hE hf hl hP hD hS
  exact lv_tableIn hC.1 hC.2.1 hdg h1 h2 ho ht (k p e s m args below meth c H locs A free Qc XC ls hC hE hf hl hP hD hS)
theorem jd_tabOut {dflt lo9 hi : Int} {offs : Array Int} {len : Nat} {x : Int32} (tgt : Nat) (hdg : decode cc pc = .ok (.tableswitch dflt lo9 hi offs, len)) (h : x.toInt < lo9 ∨ hi < x.toInt) (ht : (pc : Int) + dflt = (tgt : Int)) (k : jd_J l D w own cc nL ret tab R mc ms Qp kc ks tgt lo st S L) : jd_J l D w own cc nL ret tab R mc ms Qp kc ks pc lo (av_i x :: st) S L := by
  intro p e s m args below meth c H locs A free Qc XC ls hC hE hf hl hP hD hS
  exact lv_tableOut hC.1 hC.2.1 hdg h ht (k p e s m args below meth c H locs A free Qc XC ls hC hE hf hl hP hD hS)
/-- numbers that no cell shows may be others -/
def wd_same (w : wd_T) (S S' : Nat → Nat → Int32) (L L' : Nat → Nat → Int64) : Prop := ∀ r, r ∈ wd_dl w → ac_of w.2.2.1 w.2.2.2 r (S r) (L r) = ac_of w.2.2.1 w.2.2.2 r (S' r) (L' r) ∧ wd_en w r (S r) (L r) = wd_en w r (S' r) (L' r)
theorem wd_same_W {w : wd_T} {S S' : Nat → Nat → Int32} {L L' : Nat → Nat → Int64} (h : wd_same w S S' L L') : wd_W w S L = wd_W w S' L' := by
  unfold wd_W
  apply List.map_congr_left
  intro r hr
  simp only [rp_F, (h r hr).2]
theorem jd_same (h : wd_same w S S' L L') (k : jd_J l D w own cc nL ret tab R mc ms Qp kc ks pc lo st S' L') : jd_J l D w own cc nL ret tab R mc ms Qp kc ks pc lo st S L := by
  intro p e s m args below meth c H locs A free Qc XC ls hC hE hf hl hP hD hS
  rw [wd_same_W h] at hP hD
  exact k p e s m args below meth c H locs A free Qc XC ls hC hE hf hl hP hD hS
/-- .. of one role alone, an object -/
theorem wd_same1 {r0 ci : Nat} {fs : List av_T} (h0 : ∀ r, r ≠ r0 → S r = S' r) (hL : L = L') (h1 : ac_of w.2.2.1 w.2.2.2 r0 (S r0) (L r0) = .inr (ci, fs)) (h2 : ac_of w.2.2.1 w.2.2.2 r0 (S' r0) (L r0) = .inr (ci, fs)) : wd_same w S S' L L' := by
  subst hL
  intro r _
  by_cases e : r = r0
  · subst e
    exact ⟨h1.trans h2.symm, (wd_obj h1).trans (wd_obj h2).symm⟩
  · rw [h0 r e]; exact ⟨rfl, rfl⟩
end JDK
end
section
/-! THE CLASS AS FUNCTIONS of its numbers: S (100 + u) holds unit u (0 kind, 1 size, 2 group, 3 stand, 4 fixed, 5 done, 6 notAt), S (300 + p) place p (0 kinds, 1 zone, 2 way, 3 free, 4 blocked), S 0 6 and S 0 7 how many there are. -/
def bi_of (b : Bool) : Int32 := if b = true then 1 else 0
def fa_in (S : Nat → Nat → Int32) (u : Nat) (g : Int32) : Bool := decide (S (100 + u) 5 = 0) && decide (S (100 + u) 2 = g)
def fa_gr (S : Nat → Nat → Int32) (u : Nat) : Bool := fa_in S u (nI u)
def fa_pl (S : Nat → Nat → Int32) (u : Nat) : Bool := decide (S (100 + u) 5 = 0) && !decide (S (100 + u) 3 = -1)
def fa_cnt (S : Nat → Nat → Int32) : Nat → Int32
  | 0 => 0
  | u + 1 => if fa_gr S u = true then fa_cnt S u + 1 else fa_cnt S u
def fa_dn (S : Nat → Nat → Int32) : Nat → Int32
  | 0 => 0
  | u + 1 => if S (100 + u) 5 = 0 then fa_dn S u else fa_dn S u + 1
def fa_pf (S : Nat → Nat → Int32) (p : Int32) : Nat → Nat → Int32
  | 0, _ => -1
  | k + 1, u => if fa_gr S u = true ∧ S (100 + u) 3 = p then nI u else fa_pf S p k (u + 1)
def fa_pp (S : Nat → Nat → Int32) : Nat → Int32
  | 0 => 0
  | u + 1 => if fa_pl S u = true then fa_pp S u ||| ((1 : Int32) <<< (S (100 + u) 3 &&& 31)) else fa_pp S u
/-- how many there are -/
def ok_N (w : wd_T) (S : Nat → Nat → Int32) : Prop := w.2.2.1 ≤ 12 ∧ w.2.2.2 ≤ 12 ∧ S 0 6 = nI w.2.2.1 ∧ S 0 7 = nI w.2.2.2
theorem nI_end {x : Int32} {n u : Nat} (hx : x = nI n) (hn : n ≤ 5000) (hu : u ≤ n) (h : x ≤ nI u) : u = n := by
  rw [hx, nI_leI (by omega) (by omega)] at h
  omega
theorem nI_on {x : Int32} {n u : Nat} (hx : x = nI n) (hn : n ≤ 5000) (hu : u ≤ n) (h : ¬ x ≤ nI u) : u < n := by
  rw [hx, nI_leI (by omega) (by omega)] at h
  omega
/-- a unit's numbers: its kind, its group's number, its stand, done or not -/
def ok_U (w : wd_T) (S : Nat → Nat → Int32) : Prop := ∀ u, u < w.2.2.1 → (∃ k, k < 8 ∧ S (100 + u) 0 = nI k) ∧ (∃ g, g ≤ u ∧ S (100 + u) 2 = nI g) ∧ (S (100 + u) 3 = -1 ∨ ∃ p, p < w.2.2.2 ∧ S (100 + u) 3 = nI p) ∧ (S (100 + u) 5 = 0 ∨ S (100 + u) 5 = 1)
def fa_gt (S : Nat → Nat → Int32) (u : Nat) (z : Int32) : Bool := fa_pl S u && decide (S (300 + (S (100 + u) 3).toNatClampNeg) 1 = z)
def fa_ct (S : Nat → Nat → Int32) (n : Nat) (x : Int32) : Int32 := if x = 0 then S 0 6 else if x = 1 then S 0 7 else if x = 2 then fa_cnt S n else if x = 3 then fa_dn S n else -1
theorem i32_4 (x : Int32) : x = 0 ∨ x = 1 ∨ x = 2 ∨ x = 3 ∨ ((x.toInt < 0 ∨ 3 < x.toInt) ∧ ¬ x = 0 ∧ ¬ x = 1 ∧ ¬ x = 2 ∧ ¬ x = 3) := by
  by_cases h : x.toInt < 0 ∨ 3 < x.toInt
  · refine Or.inr (Or.inr (Or.inr (Or.inr ⟨h, fun e => ?_, fun e => ?_, fun e => ?_, fun e => ?_⟩)))
    · subst e; revert h; decide
    · subst e; revert h; decide
    · subst e; revert h; decide
    · subst e; revert h; decide
  · have h0 : x.toInt = 0 ∨ x.toInt = 1 ∨ x.toInt = 2 ∨ x.toInt = 3 := by omega
    rcases h0 with e | e | e | e
    · exact Or.inl (Int32.toInt_inj.mp (e.trans (by decide)))
    · exact Or.inr (Or.inl (Int32.toInt_inj.mp (e.trans (by decide))))
    · exact Or.inr (Or.inr (Or.inl (Int32.toInt_inj.mp (e.trans (by decide)))))
    · exact Or.inr (Or.inr (Or.inr (Or.inl (Int32.toInt_inj.mp (e.trans (by decide))))))
end
section
/-! THE CLASS: its small readers (rows by wip/whole/gen/a1.py) -/
theorem bi_nar (b : Bool) : narrow .boolean (.int (bi_of b)) = .int (bi_of b) := by cases b <;> decide
set_option maxRecDepth 100000 in
set_option maxHeartbeats 4000000 in
theorem kc_outside {l : Launch} (hls : l.stackTraces = false) {D : va_G} {w : wd_T} {S : Nat → Nat → Int32} {L : Nat → Nat → Int64} (x a b : Int32) : ct_M l D w zy_A_outside (Cond.code zy_A_outside zb_A_outside 3 (Option.some Jvm.ClassFile.FieldType.boolean)) ({ frames := 0, cells := 0, slots := 0, locals := 0 } : Room) [av_i x, av_i a, av_i b] S L (po_i (bi_of (decide (x < a) || decide (b < x))) S L) 0 0 := by
  refine ct_intro hls (own := zn_A) (by decide) rfl (Nat.le_of_ble_eq_true rfl) ?_
  refine jd_iload_n zd_A_outside_0 rfl ?_
  refine jd_iload_n zd_A_outside_1 rfl ?_
  refine jd_icmp_lt 10 zd_A_outside_2 (by decide) (fun h_2 => ?_) (fun h_2 => ?_)
  · refine jd_iconst (v := 1) zd_A_outside_10 (by decide) ?_
    refine jd_goto 15 zd_A_outside_11 (by decide) ?_
    exact jd_zret rfl (by first | rfl | decide | assumption) ⟨by simp_all [bi_of], rfl, rfl⟩ (by decide) (by decide) zd_A_outside_15
  · refine jd_iload_n zd_A_outside_5 rfl ?_
    refine jd_iload_n zd_A_outside_6 rfl ?_
    refine jd_icmp_le 14 zd_A_outside_7 (by decide) (fun h_7 => ?_) (fun h_7 => ?_)
    · refine jd_iconst (v := 0) zd_A_outside_14 (by decide) ?_
      exact jd_zret rfl (by first | rfl | decide | assumption) ⟨by simp_all [bi_of], rfl, rfl⟩ (by decide) (by decide) zd_A_outside_15
    · refine jd_iconst (v := 1) zd_A_outside_10 (by decide) ?_
      refine jd_goto 15 zd_A_outside_11 (by decide) ?_
      exact jd_zret rfl (by first | rfl | decide | assumption) ⟨by simp_all [bi_of], rfl, rfl⟩ (by decide) (by decide) zd_A_outside_15
set_option maxRecDepth 100000 in
set_option maxHeartbeats 4000000 in
theorem kc_isIn {l : Launch} (hls : l.stackTraces = false) {D : va_G} {w : wd_T} {S : Nat → Nat → Int32} {L : Nat → Nat → Int64} (h12 : w.2.2.1 ≤ 12) {u : Nat} (hu : u < w.2.2.1) (g : Int32) : ct_M l D w zy_A_isIn (Cond.code zy_A_isIn zb_A_isIn 3 (Option.some Jvm.ClassFile.FieldType.boolean)) ({ frames := 0, cells := 0, slots := 0, locals := 0 } : Room) [av_r 0, av_i (nI u), av_i g] S L (po_i (bi_of (fa_in S u g)) S L) 0 0 := by
  refine ct_intro hls (own := zn_A) (by decide) rfl (Nat.le_of_ble_eq_true rfl) ?_
  refine jd_aload_n zd_A_isIn_0 rfl ?_
  refine jd_get rfl rfl zl_A 0 (by decide) zi_142 rfl rfl rfl (by decide) zd_A_isIn_1 ?_
  refine jd_iload_n zd_A_isIn_4 rfl ?_
  refine jd_unit rfl hu h12 zd_A_isIn_5 ?_
  refine jd_get (ac_U (by omega)) rfl zl_U 5 (by decide) zi_347 rfl rfl (rl_U (by omega)) (by omega) zd_A_isIn_6 ?_
  refine jd_if_ne 29 zd_A_isIn_9 (by decide) (fun h_9 => ?_) (fun h_9 => ?_)
  · refine jd_iconst (v := 0) zd_A_isIn_29 (by decide) ?_
    exact jd_zret rfl (by first | rfl | decide | assumption) ⟨by simp_all [bi_of, fa_in], rfl, rfl⟩ (by decide) (by decide) zd_A_isIn_30
  · refine jd_aload_n zd_A_isIn_12 rfl ?_
    refine jd_get rfl rfl zl_A 0 (by decide) zi_142 rfl rfl rfl (by decide) zd_A_isIn_13 ?_
    refine jd_iload_n zd_A_isIn_16 rfl ?_
    refine jd_unit rfl hu h12 zd_A_isIn_17 ?_
    refine jd_get (ac_U (by omega)) rfl zl_U 2 (by decide) zi_341 rfl rfl (rl_U (by omega)) (by omega) zd_A_isIn_18 ?_
    refine jd_iload_n zd_A_isIn_21 rfl ?_
    refine jd_icmp_ne 29 zd_A_isIn_22 (by decide) (fun h_22 => ?_) (fun h_22 => ?_)
    · refine jd_iconst (v := 0) zd_A_isIn_29 (by decide) ?_
      exact jd_zret rfl (by first | rfl | decide | assumption) ⟨by simp_all [bi_of, fa_in], rfl, rfl⟩ (by decide) (by decide) zd_A_isIn_30
    · refine jd_iconst (v := 1) zd_A_isIn_25 (by decide) ?_
      refine jd_goto 30 zd_A_isIn_26 (by decide) ?_
      exact jd_zret rfl (by first | rfl | decide | assumption) ⟨by simp_all [bi_of, fa_in], rfl, rfl⟩ (by decide) (by decide) zd_A_isIn_30
set_option maxRecDepth 100000 in
set_option maxHeartbeats 4000000 in
theorem kc_isGroup {l : Launch} (hls : l.stackTraces = false) {D : va_G} {w : wd_T} {S : Nat → Nat → Int32} {L : Nat → Nat → Int64} (h12 : w.2.2.1 ≤ 12) {u : Nat} (hu : u < w.2.2.1) : ct_M l D w zy_A_isGroup (Cond.code zy_A_isGroup zb_A_isGroup 2 (Option.some Jvm.ClassFile.FieldType.boolean)) ({ frames := 1, cells := 0, slots := 0, locals := 22 } : Room) [av_r 0, av_i (nI u)] S L (po_i (bi_of (fa_gr S u)) S L) 0 0 := by
  refine ct_intro hls (own := zn_A) (by decide) rfl (Nat.le_of_ble_eq_true rfl) ?_
  refine jd_aload_n zd_A_isGroup_0 rfl ?_
  refine jd_iload_n zd_A_isGroup_1 rfl ?_
  refine jd_iload_n zd_A_isGroup_2 rfl ?_
  refine jd_callV (n := 2) (kc_isIn hls h12 hu (nI u)) rfl rfl rfl rfl (by decide) zi_188 zi_190 zi_1 zi_41 zi_191 (by decide +kernel) rfl rfl rfl (by decide) (by decide) (by decide) zd_A_isGroup_3 (fun _ _ _ h => h.elim) (fun v S2 L2 hq => ?_)
  obtain ⟨rfl, rfl, rfl⟩ := hq
  exact jd_zret rfl (bi_nar _) ⟨rfl, rfl, rfl⟩ (by decide) (by decide) zd_A_isGroup_6
set_option maxRecDepth 100000 in
set_option maxHeartbeats 4000000 in
theorem kc_isPlanned {l : Launch} (hls : l.stackTraces = false) {D : va_G} {w : wd_T} {S : Nat → Nat → Int32} {L : Nat → Nat → Int64} {u : Nat} (hu : u < w.2.2.1) (h12 : w.2.2.1 ≤ 12) : ct_M l D w zy_A_isPlanned (Cond.code zy_A_isPlanned zb_A_isPlanned 1 (Option.some Jvm.ClassFile.FieldType.boolean)) ({ frames := 0, cells := 0, slots := 0, locals := 0 } : Room) [av_r (100 + u)] S L (po_i (bi_of (fa_pl S u)) S L) 0 0 := by
  refine ct_intro hls (own := zn_A) (by decide) rfl (Nat.le_of_ble_eq_true rfl) ?_
  refine jd_aload_n zd_A_isPlanned_0 rfl ?_
  refine jd_get (ac_U (by omega)) rfl zl_U 5 (by decide) zi_347 rfl rfl (rl_U (by omega)) (by omega) zd_A_isPlanned_1 ?_
  refine jd_if_ne 19 zd_A_isPlanned_4 (by decide) (fun h_4 => ?_) (fun h_4 => ?_)
  · refine jd_iconst (v := 0) zd_A_isPlanned_19 (by decide) ?_
    exact jd_zret rfl (by first | rfl | decide | assumption) ⟨by simp_all [bi_of, fa_pl], rfl, rfl⟩ (by decide) (by decide) zd_A_isPlanned_20
  · refine jd_aload_n zd_A_isPlanned_7 rfl ?_
    refine jd_get (ac_U (by omega)) rfl zl_U 3 (by decide) zi_343 rfl rfl (rl_U (by omega)) (by omega) zd_A_isPlanned_8 ?_
    refine jd_iconst (v := (-1)) zd_A_isPlanned_11 (by decide) ?_
    refine jd_icmp_eq 19 zd_A_isPlanned_12 (by decide) (fun h_12 => ?_) (fun h_12 => ?_)
    · refine jd_iconst (v := 0) zd_A_isPlanned_19 (by decide) ?_
      exact jd_zret rfl (by first | rfl | decide | assumption) ⟨by simp_all [bi_of, fa_pl], rfl, rfl⟩ (by decide) (by decide) zd_A_isPlanned_20
    · refine jd_iconst (v := 1) zd_A_isPlanned_15 (by decide) ?_
      refine jd_goto 20 zd_A_isPlanned_16 (by decide) ?_
      exact jd_zret rfl (by first | rfl | decide | assumption) ⟨by simp_all [bi_of, fa_pl], rfl, rfl⟩ (by decide) (by decide) zd_A_isPlanned_20
set_option maxRecDepth 100000 in
set_option maxHeartbeats 4000000 in
theorem kl_groupCount {l : Launch} (hls : l.stackTraces = false) {D : va_G} {w : wd_T} {S : Nat → Nat → Int32} {L : Nat → Nat → Int64} (hN : ok_N w S) {Qp : jd_P} (hQ : Qp.1 (some (av_i (fa_cnt S w.2.2.1))) S L) : ∀ (k u : Nat), u ≤ w.2.2.1 → w.2.2.1 < u + k → ∀ c : Int32, c = fa_cnt S u → jd_J l D w zn_A zb_A_groupCount 3 (Option.some Jvm.ClassFile.FieldType.int) [] ({ frames := 2, cells := 0, slots := 0, locals := 43 } : Room) 0 0 Qp 0 0 4 [(0, av_r 0), (1, av_i c), (2, av_i (nI u))] [] S L := by
  have h12 := hN.1
  intro k
  induction k with
  | zero => intro u h1 h2; omega
  | succ k ih =>
    intro u hu hk c hc
    refine jd_iload_n zd_A_groupCount_4 rfl ?_
    refine jd_aload_n zd_A_groupCount_5 rfl ?_
    refine jd_get rfl rfl zl_A 6 (by decide) zi_148 rfl rfl rfl (by decide) zd_A_groupCount_6 ?_
    refine jd_icmp_ge 29 zd_A_groupCount_9 (by decide) (fun h_9 => ?_) (fun h_9 => ?_)
    · have e_u := nI_end hN.2.2.1 (by omega) hu h_9
      subst e_u
      refine jd_iload_n zd_A_groupCount_29 rfl ?_
      exact jd_iret rfl (by rw [hc]; exact hQ) (by decide) (by decide) zd_A_groupCount_30
    · have hu2 := nI_on hN.2.2.1 (by omega) hu h_9
      refine jd_aload_n zd_A_groupCount_12 rfl ?_
      refine jd_iload_n zd_A_groupCount_13 rfl ?_
      refine jd_callV (n := 1) (kc_isGroup hls (by omega) hu2) rfl rfl rfl rfl (by decide) zi_184 zi_186 zi_0 zi_41 zi_187 (by decide +kernel) rfl rfl rfl (by decide) (by decide) (by decide) zd_A_groupCount_14 (fun _ _ _ h => h.elim) (fun v S2 L2 hq => ?_)
      obtain ⟨rfl, rfl, rfl⟩ := hq
      refine jd_if_eq 23 zd_A_groupCount_17 (by decide) (fun h_17 => ?_) (fun h_17 => ?_)
      · refine jd_iinc (v := nI (u + 1)) zd_A_groupCount_23 rfl (nI_inc u) (by decide) ?_
        refine jd_goto 4 zd_A_groupCount_26 (by decide) ?_
        exact jd_sub [(0, av_r 0), (1, av_i _), (2, av_i (nI (u + 1)))] ⟨rfl, rfl, rfl, trivial⟩ (ih (u + 1) (by omega) (by omega) _ (by simp_all [fa_cnt, bi_of]))
      · refine jd_iinc (v := c + 1) zd_A_groupCount_20 rfl rfl (by decide) ?_
        refine jd_iinc (v := nI (u + 1)) zd_A_groupCount_23 rfl (nI_inc u) (by decide) ?_
        refine jd_goto 4 zd_A_groupCount_26 (by decide) ?_
        exact jd_sub [(0, av_r 0), (1, av_i _), (2, av_i (nI (u + 1)))] ⟨rfl, rfl, rfl, trivial⟩ (ih (u + 1) (by omega) (by omega) _ (by simp_all [fa_cnt, bi_of]))
set_option maxRecDepth 100000 in
set_option maxHeartbeats 4000000 in
theorem kc_groupCount {l : Launch} (hls : l.stackTraces = false) {D : va_G} {w : wd_T} {S : Nat → Nat → Int32} {L : Nat → Nat → Int64} (hN : ok_N w S) : ct_M l D w zy_A_groupCount (Cond.code zy_A_groupCount zb_A_groupCount 3 (Option.some Jvm.ClassFile.FieldType.int)) ({ frames := 2, cells := 0, slots := 0, locals := 43 } : Room) [av_r 0] S L (po_i (fa_cnt S w.2.2.1) S L) 0 0 := by
  refine ct_intro hls (own := zn_A) (by decide) rfl (Nat.le_of_ble_eq_true rfl) ?_
  refine jd_iconst (v := 0) zd_A_groupCount_0 (by decide) ?_
  refine jd_istore_n zd_A_groupCount_1 (by decide) ?_
  refine jd_iconst (v := 0) zd_A_groupCount_2 (by decide) ?_
  refine jd_istore_n zd_A_groupCount_3 (by decide) ?_
  exact jd_sub [(0, av_r 0), (1, av_i 0), (2, av_i (nI 0))] ⟨rfl, rfl, rfl, trivial⟩ (kl_groupCount (Qp := po_i (fa_cnt S w.2.2.1) S L) hls hN ⟨rfl, rfl, rfl⟩ (w.2.2.1 + 1) 0 (by omega) (by omega) 0 rfl)
end
section
/-! THE CLASS: more readers (rows by wip/whole/gen/a2.py) -/
set_option maxRecDepth 100000 in
set_option maxHeartbeats 4000000 in
theorem kc_exact {l : Launch} (hls : l.stackTraces = false) {D : va_G} {w : wd_T} {S : Nat → Nat → Int32} {L : Nat → Nat → Int64} (hb : narrow .boolean (.int (S 0 10)) = .int (S 0 10)) : ct_M l D w zy_A_exact (Cond.code zy_A_exact zb_A_exact 1 (Option.some Jvm.ClassFile.FieldType.boolean)) ({ frames := 0, cells := 0, slots := 0, locals := 0 } : Room) [av_r 0] S L (po_i (S 0 10) S L) 0 0 := by
  refine ct_intro hls (own := zn_A) (by decide) rfl (Nat.le_of_ble_eq_true rfl) ?_
  refine jd_aload_n zd_A_exact_0 rfl ?_
  refine jd_get rfl rfl zl_A 10 (by decide) zi_152 rfl rfl rfl (by decide) zd_A_exact_1 ?_
  exact jd_zret rfl (by first | rfl | decide | assumption) ⟨rfl, rfl, rfl⟩ (by decide) (by decide) zd_A_exact_4
set_option maxRecDepth 100000 in
set_option maxHeartbeats 4000000 in
theorem kl_doneCount {l : Launch} (hls : l.stackTraces = false) {D : va_G} {w : wd_T} {S : Nat → Nat → Int32} {L : Nat → Nat → Int64} (hN : ok_N w S) {Qp : jd_P} (hQ : Qp.1 (some (av_i (fa_dn S w.2.2.1))) S L) : ∀ (k u : Nat), u ≤ w.2.2.1 → w.2.2.1 < u + k → ∀ c : Int32, c = fa_dn S u → jd_J l D w zn_A zb_A_doneCount 3 (Option.some Jvm.ClassFile.FieldType.int) [] ({ frames := 0, cells := 0, slots := 0, locals := 0 } : Room) 0 0 Qp 0 0 4 [(0, av_r 0), (1, av_i c), (2, av_i (nI u))] [] S L := by
  have h12 := hN.1
  intro k
  induction k with
  | zero => intro u h1 h2; omega
  | succ k ih =>
    intro u hu hk c hc
    refine jd_iload_n zd_A_doneCount_4 rfl ?_
    refine jd_aload_n zd_A_doneCount_5 rfl ?_
    refine jd_get rfl rfl zl_A 6 (by decide) zi_148 rfl rfl rfl (by decide) zd_A_doneCount_6 ?_
    refine jd_icmp_ge 33 zd_A_doneCount_9 (by decide) (fun h_9 => ?_) (fun h_9 => ?_)
    · have e_u := nI_end hN.2.2.1 (by omega) hu h_9
      subst e_u
      refine jd_iload_n zd_A_doneCount_33 rfl ?_
      exact jd_iret rfl (by rw [hc]; exact hQ) (by decide) (by decide) zd_A_doneCount_34
    · have hu2 := nI_on hN.2.2.1 (by omega) hu h_9
      refine jd_aload_n zd_A_doneCount_12 rfl ?_
      refine jd_get rfl rfl zl_A 0 (by decide) zi_142 rfl rfl rfl (by decide) zd_A_doneCount_13 ?_
      refine jd_iload_n zd_A_doneCount_16 rfl ?_
      refine jd_unit rfl hu2 h12 zd_A_doneCount_17 ?_
      refine jd_get (ac_U (by omega)) rfl zl_U 5 (by decide) zi_347 rfl rfl (rl_U (by omega)) (by omega) zd_A_doneCount_18 ?_
      refine jd_if_eq 27 zd_A_doneCount_21 (by decide) (fun h_21 => ?_) (fun h_21 => ?_)
      · refine jd_iinc (v := nI (u + 1)) zd_A_doneCount_27 rfl (nI_inc u) (by decide) ?_
        refine jd_goto 4 zd_A_doneCount_30 (by decide) ?_
        exact jd_sub [(0, av_r 0), (1, av_i _), (2, av_i (nI (u + 1)))] ⟨rfl, rfl, rfl, trivial⟩ (ih (u + 1) (by omega) (by omega) _ (by simp_all [fa_dn]))
      · refine jd_iinc (v := c + 1) zd_A_doneCount_24 rfl rfl (by decide) ?_
        refine jd_iinc (v := nI (u + 1)) zd_A_doneCount_27 rfl (nI_inc u) (by decide) ?_
        refine jd_goto 4 zd_A_doneCount_30 (by decide) ?_
        exact jd_sub [(0, av_r 0), (1, av_i _), (2, av_i (nI (u + 1)))] ⟨rfl, rfl, rfl, trivial⟩ (ih (u + 1) (by omega) (by omega) _ (by simp_all [fa_dn]))
set_option maxRecDepth 100000 in
set_option maxHeartbeats 4000000 in
theorem kc_doneCount {l : Launch} (hls : l.stackTraces = false) {D : va_G} {w : wd_T} {S : Nat → Nat → Int32} {L : Nat → Nat → Int64} (hN : ok_N w S) : ct_M l D w zy_A_doneCount (Cond.code zy_A_doneCount zb_A_doneCount 3 (Option.some Jvm.ClassFile.FieldType.int)) ({ frames := 0, cells := 0, slots := 0, locals := 0 } : Room) [av_r 0] S L (po_i (fa_dn S w.2.2.1) S L) 0 0 := by
  refine ct_intro hls (own := zn_A) (by decide) rfl (Nat.le_of_ble_eq_true rfl) ?_
  refine jd_iconst (v := 0) zd_A_doneCount_0 (by decide) ?_
  refine jd_istore_n zd_A_doneCount_1 (by decide) ?_
  refine jd_iconst (v := 0) zd_A_doneCount_2 (by decide) ?_
  refine jd_istore_n zd_A_doneCount_3 (by decide) ?_
  exact jd_sub [(0, av_r 0), (1, av_i 0), (2, av_i (nI 0))] ⟨rfl, rfl, rfl, trivial⟩ (kl_doneCount (Qp := po_i (fa_dn S w.2.2.1) S L) hls hN ⟨rfl, rfl, rfl⟩ (w.2.2.1 + 1) 0 (by omega) (by omega) 0 rfl)
set_option maxRecDepth 100000 in
set_option maxHeartbeats 4000000 in
theorem kl_plannedFor {l : Launch} (hls : l.stackTraces = false) {D : va_G} {w : wd_T} {S : Nat → Nat → Int32} {L : Nat → Nat → Int64} (hN : ok_N w S) (p : Int32) {Qp : jd_P}  : ∀ (k u : Nat), u ≤ w.2.2.1 → w.2.2.1 < u + k → Qp.1 (some (av_i (fa_pf S p (w.2.2.1 - u) u))) S L → jd_J l D w zn_A zb_A_groupPlannedFor 3 (Option.some Jvm.ClassFile.FieldType.int) [] ({ frames := 2, cells := 0, slots := 0, locals := 43 } : Room) 0 0 Qp 0 0 2 [(0, av_r 0), (1, av_i p), (2, av_i (nI u))] [] S L := by
  have h12 := hN.1
  intro k
  induction k with
  | zero => intro u h1 h2; omega
  | succ k ih =>
    intro u hu hk hQ
    refine jd_iload_n zd_A_groupPlannedFor_2 rfl ?_
    refine jd_aload_n zd_A_groupPlannedFor_3 rfl ?_
    refine jd_get rfl rfl zl_A 6 (by decide) zi_148 rfl rfl rfl (by decide) zd_A_groupPlannedFor_4 ?_
    refine jd_icmp_ge 39 zd_A_groupPlannedFor_7 (by decide) (fun h_7 => ?_) (fun h_7 => ?_)
    · have e_u := nI_end hN.2.2.1 (by omega) hu h_7
      subst e_u
      refine jd_iconst (v := (-1)) zd_A_groupPlannedFor_39 (by decide) ?_
      exact jd_iret rfl (by simp [fa_pf] at hQ; exact hQ) (by decide) (by decide) zd_A_groupPlannedFor_40
    · have hu2 := nI_on hN.2.2.1 (by omega) hu h_7
      have e_k : w.2.2.1 - u = (w.2.2.1 - (u + 1)) + 1 := by omega
      rw [e_k] at hQ
      simp only [fa_pf] at hQ
      refine jd_aload_n zd_A_groupPlannedFor_10 rfl ?_
      refine jd_iload_n zd_A_groupPlannedFor_11 rfl ?_
      refine jd_callV (n := 1) (kc_isGroup hls (by omega) hu2) rfl rfl rfl rfl (by decide) zi_184 zi_186 zi_0 zi_41 zi_187 (by decide +kernel) rfl rfl rfl (by decide) (by decide) (by decide) zd_A_groupPlannedFor_12 (fun _ _ _ h => h.elim) (fun v S2 L2 hq => ?_)
      obtain ⟨rfl, rfl, rfl⟩ := hq
      refine jd_if_eq 33 zd_A_groupPlannedFor_15 (by decide) (fun h_15 => ?_) (fun h_15 => ?_)
      · rw [if_neg (by rintro ⟨q1, q2⟩; simp_all [bi_of])] at hQ
        refine jd_iinc (v := nI (u + 1)) zd_A_groupPlannedFor_33 rfl (nI_inc u) (by decide) ?_
        refine jd_goto 2 zd_A_groupPlannedFor_36 (by decide) ?_
        exact jd_sub [(0, av_r 0), (1, av_i p), (2, av_i (nI (u + 1)))] ⟨rfl, rfl, rfl, trivial⟩ (ih (u + 1) (by omega) (by omega) hQ)
      · refine jd_aload_n zd_A_groupPlannedFor_18 rfl ?_
        refine jd_get rfl rfl zl_A 0 (by decide) zi_142 rfl rfl rfl (by decide) zd_A_groupPlannedFor_19 ?_
        refine jd_iload_n zd_A_groupPlannedFor_22 rfl ?_
        refine jd_unit rfl hu2 h12 zd_A_groupPlannedFor_23 ?_
        refine jd_get (ac_U (by omega)) rfl zl_U 3 (by decide) zi_343 rfl rfl (rl_U (by omega)) (by omega) zd_A_groupPlannedFor_24 ?_
        refine jd_iload_n zd_A_groupPlannedFor_27 rfl ?_
        refine jd_icmp_ne 33 zd_A_groupPlannedFor_28 (by decide) (fun h_28 => ?_) (fun h_28 => ?_)
        · rw [if_neg (by rintro ⟨q1, q2⟩; simp_all [bi_of])] at hQ
          refine jd_iinc (v := nI (u + 1)) zd_A_groupPlannedFor_33 rfl (nI_inc u) (by decide) ?_
          refine jd_goto 2 zd_A_groupPlannedFor_36 (by decide) ?_
          exact jd_sub [(0, av_r 0), (1, av_i p), (2, av_i (nI (u + 1)))] ⟨rfl, rfl, rfl, trivial⟩ (ih (u + 1) (by omega) (by omega) hQ)
        · refine jd_iload_n zd_A_groupPlannedFor_31 rfl ?_
          rw [if_pos ⟨by cases hg : fa_gr S u <;> simp_all [bi_of], h_28⟩] at hQ
          exact jd_iret rfl hQ (by decide) (by decide) zd_A_groupPlannedFor_32
set_option maxRecDepth 100000 in
set_option maxHeartbeats 4000000 in
theorem kc_plannedFor {l : Launch} (hls : l.stackTraces = false) {D : va_G} {w : wd_T} {S : Nat → Nat → Int32} {L : Nat → Nat → Int64} (hN : ok_N w S) (p : Int32) : ct_M l D w zy_A_groupPlannedFor (Cond.code zy_A_groupPlannedFor zb_A_groupPlannedFor 3 (Option.some Jvm.ClassFile.FieldType.int)) ({ frames := 2, cells := 0, slots := 0, locals := 43 } : Room) [av_r 0, av_i p] S L (po_i (fa_pf S p w.2.2.1 0) S L) 0 0 := by
  refine ct_intro hls (own := zn_A) (by decide) rfl (Nat.le_of_ble_eq_true rfl) ?_
  refine jd_iconst (v := 0) zd_A_groupPlannedFor_0 (by decide) ?_
  refine jd_istore_n zd_A_groupPlannedFor_1 (by decide) ?_
  exact jd_sub [(0, av_r 0), (1, av_i p), (2, av_i (nI 0))] ⟨rfl, rfl, rfl, trivial⟩ (kl_plannedFor (Qp := po_i (fa_pf S p w.2.2.1 0) S L) hls hN p (w.2.2.1 + 1) 0 (by omega) (by omega) ⟨rfl, rfl, rfl⟩)
set_option maxRecDepth 100000 in
set_option maxHeartbeats 4000000 in
theorem kl_plannedPlaces {l : Launch} (hls : l.stackTraces = false) {D : va_G} {w : wd_T} {S : Nat → Nat → Int32} {L : Nat → Nat → Int64} (hN : ok_N w S) {Qp : jd_P} (hQ : Qp.1 (some (av_i (fa_pp S w.2.2.1))) S L) : ∀ (k u : Nat), u ≤ w.2.2.1 → w.2.2.1 < u + k → ∀ c : Int32, c = fa_pp S u → jd_J l D w zn_A zb_A_plannedPlaces 3 (Option.some Jvm.ClassFile.FieldType.int) [] ({ frames := 1, cells := 0, slots := 0, locals := 20 } : Room) 0 0 Qp 0 0 4 [(0, av_r 0), (1, av_i c), (2, av_i (nI u))] [] S L := by
  have h12 := hN.1
  intro k
  induction k with
  | zero => intro u h1 h2; omega
  | succ k ih =>
    intro u hu hk c hc
    refine jd_iload_n zd_A_plannedPlaces_4 rfl ?_
    refine jd_aload_n zd_A_plannedPlaces_5 rfl ?_
    refine jd_get rfl rfl zl_A 6 (by decide) zi_148 rfl rfl rfl (by decide) zd_A_plannedPlaces_6 ?_
    refine jd_icmp_ge 44 zd_A_plannedPlaces_9 (by decide) (fun h_9 => ?_) (fun h_9 => ?_)
    · have e_u := nI_end hN.2.2.1 (by omega) hu h_9
      subst e_u
      refine jd_iload_n zd_A_plannedPlaces_44 rfl ?_
      exact jd_iret rfl (by rw [hc]; exact hQ) (by decide) (by decide) zd_A_plannedPlaces_45
    · have hu2 := nI_on hN.2.2.1 (by omega) hu h_9
      refine jd_aload_n zd_A_plannedPlaces_12 rfl ?_
      refine jd_get rfl rfl zl_A 0 (by decide) zi_142 rfl rfl rfl (by decide) zd_A_plannedPlaces_13 ?_
      refine jd_iload_n zd_A_plannedPlaces_16 rfl ?_
      refine jd_unit rfl hu2 h12 zd_A_plannedPlaces_17 ?_
      refine jd_callS (n := 1) (kc_isPlanned hls hu2 h12) rfl zi_594 zi_595 zi_41 zi_596 (by decide +kernel) rfl rfl rfl (by decide) (by decide) (by decide) zd_A_plannedPlaces_18 (fun _ _ _ h => h.elim) (fun v S2 L2 hq => ?_)
      obtain ⟨rfl, rfl, rfl⟩ := hq
      refine jd_if_eq 38 zd_A_plannedPlaces_21 (by decide) (fun h_21 => ?_) (fun h_21 => ?_)
      · refine jd_iinc (v := nI (u + 1)) zd_A_plannedPlaces_38 rfl (nI_inc u) (by decide) ?_
        refine jd_goto 4 zd_A_plannedPlaces_41 (by decide) ?_
        exact jd_sub [(0, av_r 0), (1, av_i _), (2, av_i (nI (u + 1)))] ⟨rfl, rfl, rfl, trivial⟩ (ih (u + 1) (by omega) (by omega) _ (by cases hg : fa_pl S u <;> simp_all [fa_pp, bi_of]))
      · refine jd_iload_n zd_A_plannedPlaces_24 rfl ?_
        refine jd_iconst (v := 1) zd_A_plannedPlaces_25 (by decide) ?_
        refine jd_aload_n zd_A_plannedPlaces_26 rfl ?_
        refine jd_get rfl rfl zl_A 0 (by decide) zi_142 rfl rfl rfl (by decide) zd_A_plannedPlaces_27 ?_
        refine jd_iload_n zd_A_plannedPlaces_30 rfl ?_
        refine jd_unit rfl hu2 h12 zd_A_plannedPlaces_31 ?_
        refine jd_get (ac_U (by omega)) rfl zl_U 3 (by decide) zi_343 rfl rfl (rl_U (by omega)) (by omega) zd_A_plannedPlaces_32 ?_
        refine jd_ishl zd_A_plannedPlaces_35 ?_
        refine jd_ior zd_A_plannedPlaces_36 ?_
        refine jd_istore_n zd_A_plannedPlaces_37 (by decide) ?_
        refine jd_iinc (v := nI (u + 1)) zd_A_plannedPlaces_38 rfl (nI_inc u) (by decide) ?_
        refine jd_goto 4 zd_A_plannedPlaces_41 (by decide) ?_
        exact jd_sub [(0, av_r 0), (1, av_i _), (2, av_i (nI (u + 1)))] ⟨rfl, rfl, rfl, trivial⟩ (ih (u + 1) (by omega) (by omega) _ (by cases hg : fa_pl S u <;> simp_all [fa_pp, bi_of]))
set_option maxRecDepth 100000 in
set_option maxHeartbeats 4000000 in
theorem kc_plannedPlaces {l : Launch} (hls : l.stackTraces = false) {D : va_G} {w : wd_T} {S : Nat → Nat → Int32} {L : Nat → Nat → Int64} (hN : ok_N w S) : ct_M l D w zy_A_plannedPlaces (Cond.code zy_A_plannedPlaces zb_A_plannedPlaces 3 (Option.some Jvm.ClassFile.FieldType.int)) ({ frames := 1, cells := 0, slots := 0, locals := 20 } : Room) [av_r 0] S L (po_i (fa_pp S w.2.2.1) S L) 0 0 := by
  refine ct_intro hls (own := zn_A) (by decide) rfl (Nat.le_of_ble_eq_true rfl) ?_
  refine jd_iconst (v := 0) zd_A_plannedPlaces_0 (by decide) ?_
  refine jd_istore_n zd_A_plannedPlaces_1 (by decide) ?_
  refine jd_iconst (v := 0) zd_A_plannedPlaces_2 (by decide) ?_
  refine jd_istore_n zd_A_plannedPlaces_3 (by decide) ?_
  exact jd_sub [(0, av_r 0), (1, av_i 0), (2, av_i (nI 0))] ⟨rfl, rfl, rfl, trivial⟩ (kl_plannedPlaces (Qp := po_i (fa_pp S w.2.2.1) S L) hls hN ⟨rfl, rfl, rfl⟩ (w.2.2.1 + 1) 0 (by omega) (by omega) 0 rfl)
set_option maxRecDepth 100000 in
set_option maxHeartbeats 4000000 in
theorem kc_goesTo {l : Launch} (hls : l.stackTraces = false) {D : va_G} {w : wd_T} {S : Nat → Nat → Int32} {L : Nat → Nat → Int64} (hN : ok_N w S) (hU : ok_U w S) {u : Nat} (hu : u < w.2.2.1) (z : Int32) : ct_M l D w zy_A_goesTo (Cond.code zy_A_goesTo zb_A_goesTo 3 (Option.some Jvm.ClassFile.FieldType.boolean)) ({ frames := 1, cells := 0, slots := 0, locals := 20 } : Room) [av_r 0, av_r (100 + u), av_i z] S L (po_i (bi_of (fa_gt S u z)) S L) 0 0 := by
  have h12 := hN.1
  refine ct_intro hls (own := zn_A) (by decide) rfl (Nat.le_of_ble_eq_true rfl) ?_
  refine jd_aload_n zd_A_goesTo_0 rfl ?_
  refine jd_callS (n := 1) (kc_isPlanned hls hu hN.1) rfl zi_594 zi_595 zi_41 zi_596 (by decide +kernel) rfl rfl rfl (by decide) (by decide) (by decide) zd_A_goesTo_1 (fun _ _ _ h => h.elim) (fun v S2 L2 hq => ?_)
  obtain ⟨rfl, rfl, rfl⟩ := hq
  refine jd_if_eq 27 zd_A_goesTo_4 (by decide) (fun h_4 => ?_) (fun h_4 => ?_)
  · refine jd_iconst (v := 0) zd_A_goesTo_27 (by decide) ?_
    exact jd_zret rfl (by first | rfl | decide | assumption) ⟨by cases hg : fa_pl S u <;> simp_all [bi_of, fa_gt], rfl, rfl⟩ (by decide) (by decide) zd_A_goesTo_28
  · have hg : fa_pl S u = true := by cases hg : fa_pl S u <;> simp_all [bi_of]
    obtain ⟨p, hp, ep⟩ : ∃ p, p < w.2.2.2 ∧ S (100 + u) 3 = nI p := by
      rcases (hU u hu).2.2.1 with e | e
      · simp [fa_pl, e] at hg
      · exact e
    have h12 := hN.1
    have h13 := hN.2.1
    refine jd_aload_n zd_A_goesTo_7 rfl ?_
    refine jd_get rfl rfl zl_A 1 (by decide) zi_143 rfl rfl rfl (by decide) zd_A_goesTo_8 ?_
    refine jd_aload_n zd_A_goesTo_11 rfl ?_
    refine jd_get (ac_U (by omega)) rfl zl_U 3 (by decide) zi_343 rfl rfl (rl_U (by omega)) (by omega) zd_A_goesTo_12 ?_
    refine jd_plc ep hp h13 zd_A_goesTo_15 ?_
    refine jd_get (ac_P (by omega)) rfl zl_P 1 (by decide) zi_387 rfl rfl (rl_P (by omega)) (by omega) zd_A_goesTo_16 ?_
    refine jd_iload_n zd_A_goesTo_19 rfl ?_
    refine jd_icmp_ne 27 zd_A_goesTo_20 (by decide) (fun h_20 => ?_) (fun h_20 => ?_)
    · refine jd_iconst (v := 0) zd_A_goesTo_27 (by decide) ?_
      exact jd_zret rfl (by first | rfl | decide | assumption) ⟨by cases hg : fa_pl S u <;> simp_all [bi_of, fa_gt, nI_clamp, show p < 2 ^ 31 from by omega], rfl, rfl⟩ (by decide) (by decide) zd_A_goesTo_28
    · refine jd_iconst (v := 1) zd_A_goesTo_23 (by decide) ?_
      refine jd_goto 28 zd_A_goesTo_24 (by decide) ?_
      exact jd_zret rfl (by first | rfl | decide | assumption) ⟨by cases hg : fa_pl S u <;> simp_all [bi_of, fa_gt, nI_clamp, show p < 2 ^ 31 from by omega], rfl, rfl⟩ (by decide) (by decide) zd_A_goesTo_28
set_option maxRecDepth 100000 in
set_option maxHeartbeats 4000000 in
theorem kc_count {l : Launch} (hls : l.stackTraces = false) {D : va_G} {w : wd_T} {S : Nat → Nat → Int32} {L : Nat → Nat → Int64} (hN : ok_N w S) (x : Int32) : ct_M l D w zy_A_count (Cond.code zy_A_count zb_A_count 2 (Option.some Jvm.ClassFile.FieldType.int)) ({ frames := 3, cells := 0, slots := 0, locals := 65 } : Room) [av_r 0, av_i x] S L (po_i (fa_ct S w.2.2.1 x) S L) 0 0 := by
  refine ct_intro hls (own := zn_A) (by decide) rfl (Nat.le_of_ble_eq_true rfl) ?_
  refine jd_iload_n zd_A_count_0 rfl ?_
  rcases i32_4 x with e | e | e | e | ⟨e, n0, n1, n2, n3⟩
  · subst e
    refine jd_tabIn 32 zd_A_count_1 (by decide) (by decide) (off := 31) (by decide) (by decide) ?_
    refine jd_aload_n zd_A_count_32 rfl ?_
    refine jd_get rfl rfl zl_A 6 (by decide) zi_148 rfl rfl rfl (by decide) zd_A_count_33 ?_
    exact jd_iret rfl ⟨rfl, rfl, rfl⟩ (by decide) (by decide) zd_A_count_36
  · subst e
    refine jd_tabIn 37 zd_A_count_1 (by decide) (by decide) (off := 36) (by decide) (by decide) ?_
    refine jd_aload_n zd_A_count_37 rfl ?_
    refine jd_get rfl rfl zl_A 7 (by decide) zi_149 rfl rfl rfl (by decide) zd_A_count_38 ?_
    exact jd_iret rfl ⟨rfl, rfl, rfl⟩ (by decide) (by decide) zd_A_count_41
  · subst e
    refine jd_tabIn 42 zd_A_count_1 (by decide) (by decide) (off := 41) (by decide) (by decide) ?_
    refine jd_aload_n zd_A_count_42 rfl ?_
    refine jd_callV (n := 0) (kc_groupCount hls hN) rfl rfl rfl rfl (by decide) zi_223 zi_225 zi_6 zi_41 zi_226 (by decide +kernel) rfl rfl rfl (by decide) (by decide) (by decide) zd_A_count_43 (fun _ _ _ h => h.elim) (fun v S2 L2 hq => ?_)
    obtain ⟨rfl, rfl, rfl⟩ := hq
    exact jd_iret rfl ⟨rfl, rfl, rfl⟩ (by decide) (by decide) zd_A_count_46
  · subst e
    refine jd_tabIn 47 zd_A_count_1 (by decide) (by decide) (off := 46) (by decide) (by decide) ?_
    refine jd_aload_n zd_A_count_47 rfl ?_
    refine jd_callV (n := 0) (kc_doneCount hls hN) rfl rfl rfl rfl (by decide) zi_227 zi_229 zi_7 zi_41 zi_230 (by decide +kernel) rfl rfl rfl (by decide) (by decide) (by decide) zd_A_count_48 (fun _ _ _ h => h.elim) (fun v S2 L2 hq => ?_)
    obtain ⟨rfl, rfl, rfl⟩ := hq
    exact jd_iret rfl ⟨rfl, rfl, rfl⟩ (by decide) (by decide) zd_A_count_51
  · refine jd_tabOut 52 zd_A_count_1 e (by decide) ?_
    refine jd_iconst (v := (-1)) zd_A_count_52 (by decide) ?_
    exact jd_iret rfl ⟨by simp [fa_ct, n0, n1, n2, n3], rfl, rfl⟩ (by decide) (by decide) zd_A_count_53
end
section
/-! THE CLASS AS FUNCTIONS, on: what its loops write, groups, rules, costs. -/
section JDE
variable {l : Launch} {D : va_G} {w : wd_T} {own : String} {cc : ByteArray} {nL : Nat} {ret : Option FieldType} {tab : List ExceptionTableEntry} {R : Room} {mc ms : Nat} {Qp : jd_P} {kc ks : Nat} {pc : Nat} {lo : jl_T} {st : List av_T} {S S' : Nat → Nat → Int32} {L L' : Nat → Nat → Int64}
theorem jd_eqS (h : S = S') (k : jd_J l D w own cc nL ret tab R mc ms Qp kc ks pc lo st S' L) : jd_J l D w own cc nL ret tab R mc ms Qp kc ks pc lo st S L := h ▸ k
theorem jd_eqL (h : L = L') (k : jd_J l D w own cc nL ret tab R mc ms Qp kc ks pc lo st S L') : jd_J l D w own cc nL ret tab R mc ms Qp kc ks pc lo st S L := h ▸ k
end JDE
/-- the units below n for which c holds get the row that f makes -/
def fa_wr (S : Nat → Nat → Int32) (c : Nat → Bool) (f : (Nat → Int32) → Nat → Int32) : Nat → Nat → Nat → Int32
  | 0 => S
  | u + 1 => if c u = true then va_up (fa_wr S c f u) (100 + u) (f (S (100 + u))) else fa_wr S c f u
theorem fa_wr_out {S : Nat → Nat → Int32} {c : Nat → Bool} {f : (Nat → Int32) → Nat → Int32} {r : Nat} : ∀ n, (r < 100 ∨ 100 + n ≤ r) → fa_wr S c f n r = S r := by
  intro n
  induction n with
  | zero => intro _; rfl
  | succ n ih =>
    intro h
    simp only [fa_wr]
    split
    · rw [va_up_ne _ _ (by omega)]; exact ih (by omega)
    · exact ih (by omega)
theorem fa_wr_at {S : Nat → Nat → Int32} {c : Nat → Bool} {f : (Nat → Int32) → Nat → Int32} (u : Nat) : fa_wr S c f u (100 + u) = S (100 + u) := fa_wr_out u (Or.inr (Nat.le_refl _))
theorem fa_wr_un {S : Nat → Nat → Int32} {c : Nat → Bool} {f : (Nat → Int32) → Nat → Int32} {v : Nat} : ∀ n, v < n → fa_wr S c f n (100 + v) = if c v = true then f (S (100 + v)) else S (100 + v) := by
  intro n
  induction n with
  | zero => intro h; omega
  | succ n ih =>
    intro h
    simp only [fa_wr]
    by_cases e : v = n
    · subst e
      by_cases hc : c v = true
      · rw [if_pos hc, if_pos hc, va_up_self]
      · rw [if_neg hc, if_neg hc, fa_wr_at]
    · by_cases hc : c n = true
      · rw [if_pos hc, va_up_ne _ _ (by omega)]; exact ih (by omega)
      · rw [if_neg hc]; exact ih (by omega)
theorem fa_in_wr {S : Nat → Nat → Int32} {c : Nat → Bool} {f : (Nat → Int32) → Nat → Int32} (u : Nat) (g : Int32) : fa_in (fa_wr S c f u) u g = fa_in S u g := by
  unfold fa_in; rw [fa_wr_at]
theorem ok_N_wr {w : wd_T} {S : Nat → Nat → Int32} {c : Nat → Bool} {f : (Nat → Int32) → Nat → Int32} {n : Nat} (h : ok_N w S) : ok_N w (fa_wr S c f n) := by
  unfold ok_N
  rw [fa_wr_out (r := 0) n (Or.inl (by omega))]
  exact h
/-- a group's row: 0 number, 1 count, 2 size, 3 heaviest, 4 kinds, 5 notAt, 6 fixed -/
def fa_g0 (n : Int32) : Nat → Int32 := fun k => if k = 0 then n else if k = 6 then -1 else 0
def fa_tk (g u : Nat → Int32) (wt : Int32) : Nat → Int32 := fun k =>
  if k = 0 then g 0 else if k = 1 then g 1 + 1 else if k = 2 then g 2 + u 1 else if k = 3 then (if g 3 < wt then wt else g 3) else if k = 4 then g 4 ||| ((1 : Int32) <<< (u 0 &&& 31)) else if k = 5 then g 5 ||| u 6
  else if k = 6 then (if u 4 = -1 then g 6 else if g 6 = -1 ∨ g 6 = u 4 then u 4 else -2) else 0
def fa_ga (S : Nat → Nat → Int32) (g : Int32) : Nat → Nat → Int32
  | 0 => fa_g0 g
  | u + 1 => if fa_in S u g = true then fa_tk (fa_ga S g u) (S (100 + u)) (S 3 (S (100 + u) 0).toNatClampNeg) else fa_ga S g u
/-- the first rule that bars the group of the row g from the place of the row q -/
def fa_br (g q : Nat → Int32) (p : Int32) : Int32 :=
  if ¬ q 4 = 0 then 1 else if ¬ g 4 &&& (q 0 ^^^ (-1)) = 0 then 2 else if ¬ (g 5 >>> (p &&& 31)) &&& 1 = 0 then 3 else if ¬ g 2 ≤ q 3 then 4 else if ¬ g 6 = -1 ∧ ¬ g 6 = p then 5 else 0
def fa_co (S : Nat → Nat → Int32) (g : Nat → Int32) (gn p : Nat) : Int32 := if S (100 + gn + 100) p = -1 then S (300 + p) 2 * g 3 + S (300 + p) 3 - g 2 else S (100 + gn + 100) p
def fa_ch (S : Nat → Nat → Int32) (g : Nat → Int32) (gn : Nat) (taken : Int32) : Nat → Int32 × Int32
  | 0 => (-1, 0)
  | p + 1 => if (taken >>> (nI p &&& 31)) &&& 1 = 0 ∧ fa_br g (S (300 + p)) (nI p) = 0 ∧ ((fa_ch S g gn taken p).1 = -1 ∨ fa_co S g gn p < (fa_ch S g gn taken p).2) then (nI p, fa_co S g gn p) else fa_ch S g gn taken p
theorem up_4u (S : Nat → Nat → Int32) (r : Nat → Int32) (u : Nat) : va_up S 4 r (100 + u) = S (100 + u) := va_up_ne _ _ (by omega)
theorem up_40 (S : Nat → Nat → Int32) (r : Nat → Int32) : va_up S 4 r 0 = S 0 := va_up_ne _ _ (by omega)
theorem up_43 (S : Nat → Nat → Int32) (r : Nat → Int32) : va_up S 4 r 3 = S 3 := va_up_ne _ _ (by omega)
theorem up_44 (S : Nat → Nat → Int32) (r : Nat → Int32) : va_up S 4 r 4 = r := va_up_self _ _ _
theorem fa_in_4 (S : Nat → Nat → Int32) (r : Nat → Int32) (u : Nat) (g : Int32) : fa_in (va_up S 4 r) u g = fa_in S u g := by
  unfold fa_in; rw [up_4u]
theorem ok_N_4 {w : wd_T} {S : Nat → Nat → Int32} {r : Nat → Int32} (h : ok_N w S) : ok_N w (va_up S 4 r) := by
  unfold ok_N; rw [up_40]; exact h
theorem wd_same4 {w : wd_T} {S : Nat → Nat → Int32} {L : Nat → Nat → Int64} {a b : Nat → Int32} (h : ∀ k, k < 7 → a k = b k) : wd_same w (va_up S 4 a) (va_up S 4 b) L L := by
  refine wd_same1 (r0 := 4) (fun r hr => by rw [va_up_ne _ _ hr, va_up_ne _ _ hr]) rfl rfl ?_
  show Sum.inr (2, [av_i (b 0), av_i (b 1), av_i (b 2), av_i (b 3), av_i (b 4), av_i (b 5), av_i (b 6)]) = Sum.inr (2, [av_i (a 0), av_i (a 1), av_i (a 2), av_i (a 3), av_i (a 4), av_i (a 5), av_i (a 6)])
  rw [h 0 (by omega), h 1 (by omega), h 2 (by omega), h 3 (by omega), h 4 (by omega), h 5 (by omega), h 6 (by omega)]
def po_S (S : Nat → Nat → Int32) (L : Nat → Nat → Int64) : jd_P := (fun v S' L' => v = none ∧ S = S' ∧ L = L', fun _ _ _ => False)
def po_rS (r : Nat) (S : Nat → Nat → Int32) (L : Nat → Nat → Int64) : jd_P := (fun v S' L' => v = some (av_r r) ∧ S = S' ∧ L = L', fun _ _ _ => False)
end
section
/-! THE CLASS: writers, groups, rules and costs (rows by wip/whole/gen/a3.py) -/
set_option maxRecDepth 100000 in
set_option maxHeartbeats 4000000 in
theorem kl_join {l : Launch} (hls : l.stackTraces = false) {D : va_G} {w : wd_T} {S : Nat → Nat → Int32} {L : Nat → Nat → Int64} (hN : ok_N w S) (g other : Int32) {Qp : jd_P} (hQ : Qp.1 none (fa_wr S (fun u => fa_in S u other) (fun row => upd row 2 g) w.2.2.1) L) : ∀ (k u : Nat), u ≤ w.2.2.1 → w.2.2.1 < u + k → jd_J l D w zn_A zb_A_join 4 (Option.none : Option Jvm.ClassFile.FieldType) [] ({ frames := 1, cells := 0, slots := 0, locals := 22 } : Room) 0 0 Qp 0 0 2 [(0, av_r 0), (1, av_i g), (2, av_i other), (3, av_i (nI u))] [] (fa_wr S (fun u => fa_in S u other) (fun row => upd row 2 g) u) L := by
  have h12 := hN.1
  intro k
  induction k with
  | zero => intro u h1 h2; omega
  | succ k ih =>
    intro u hu hk
    refine jd_iload_n zd_A_join_2 rfl ?_
    refine jd_aload_n zd_A_join_3 rfl ?_
    refine jd_get rfl rfl zl_A 6 (by decide) zi_148 rfl rfl rfl (by decide) zd_A_join_4 ?_
    refine jd_icmp_ge 35 zd_A_join_7 (by decide) (fun h_7 => ?_) (fun h_7 => ?_)
    · have e_u := nI_end (ok_N_wr hN).2.2.1 (by omega) hu h_7
      subst e_u
      exact jd_vret rfl hQ (by decide) (by decide) zd_A_join_35
    · have hu2 := nI_on (ok_N_wr hN).2.2.1 (by omega) hu h_7
      refine jd_aload_n zd_A_join_10 rfl ?_
      refine jd_iload_n zd_A_join_11 rfl ?_
      refine jd_iload_n zd_A_join_12 rfl ?_
      refine jd_callV (n := 2) (kc_isIn hls h12 hu2 other) rfl rfl rfl rfl (by decide) zi_188 zi_190 zi_1 zi_41 zi_191 (by decide +kernel) rfl rfl rfl (by decide) (by decide) (by decide) zd_A_join_13 (fun _ _ _ h => h.elim) (fun v S2 L2 hq => ?_)
      obtain ⟨rfl, rfl, rfl⟩ := hq
      rw [fa_in_wr]
      refine jd_if_eq 29 zd_A_join_16 (by decide) (fun h_16 => ?_) (fun h_16 => ?_)
      · refine jd_iinc (v := nI (u + 1)) zd_A_join_29 rfl (nI_inc u) (by decide) ?_
        refine jd_goto 2 zd_A_join_32 (by decide) ?_
        refine jd_eqS (S' := (fa_wr S (fun u => fa_in S u other) (fun row => upd row 2 g) (u + 1))) (by cases hg : fa_in S u other <;> simp_all [fa_wr, bi_of, fa_wr_at]) ?_
        exact jd_sub [(0, av_r 0), (1, av_i g), (2, av_i other), (3, av_i (nI (u + 1)))] ⟨rfl, rfl, rfl, rfl, trivial⟩ (ih (u + 1) (by omega) (by omega))
      · refine jd_aload_n zd_A_join_19 rfl ?_
        refine jd_get rfl rfl zl_A 0 (by decide) zi_142 rfl rfl rfl (by decide) zd_A_join_20 ?_
        refine jd_iload_n zd_A_join_23 rfl ?_
        refine jd_unit rfl hu2 h12 zd_A_join_24 ?_
        refine jd_iload_n zd_A_join_25 rfl ?_
        refine jd_put (ac_U (by omega)) rfl zl_U zp_U zm_U 2 (by decide) zi_341 rfl rfl rfl rfl rfl (Nat.le_of_ble_eq_true rfl) (ac_U (by omega)) (rl_U (by omega)) (by omega) zd_A_join_26 ?_
        refine jd_iinc (v := nI (u + 1)) zd_A_join_29 rfl (nI_inc u) (by decide) ?_
        refine jd_goto 2 zd_A_join_32 (by decide) ?_
        refine jd_eqS (S' := (fa_wr S (fun u => fa_in S u other) (fun row => upd row 2 g) (u + 1))) (by cases hg : fa_in S u other <;> simp_all [fa_wr, bi_of, fa_wr_at]) ?_
        exact jd_sub [(0, av_r 0), (1, av_i g), (2, av_i other), (3, av_i (nI (u + 1)))] ⟨rfl, rfl, rfl, rfl, trivial⟩ (ih (u + 1) (by omega) (by omega))
set_option maxRecDepth 100000 in
set_option maxHeartbeats 4000000 in
theorem kc_join {l : Launch} (hls : l.stackTraces = false) {D : va_G} {w : wd_T} {S : Nat → Nat → Int32} {L : Nat → Nat → Int64} (hN : ok_N w S) (g other : Int32) : ct_M l D w zy_A_join (Cond.code zy_A_join zb_A_join 4 (Option.none : Option Jvm.ClassFile.FieldType)) ({ frames := 1, cells := 0, slots := 0, locals := 22 } : Room) [av_r 0, av_i g, av_i other] S L (po_S (fa_wr S (fun u => fa_in S u other) (fun row => upd row 2 g) w.2.2.1) L) 0 0 := by
  refine ct_intro hls (own := zn_A) (by decide) rfl (Nat.le_of_ble_eq_true rfl) ?_
  refine jd_iconst (v := 0) zd_A_join_0 (by decide) ?_
  refine jd_istore_n zd_A_join_1 (by decide) ?_
  exact jd_sub [(0, av_r 0), (1, av_i g), (2, av_i other), (3, av_i (nI 0))] ⟨rfl, rfl, rfl, rfl, trivial⟩ (kl_join (Qp := po_S (fa_wr S (fun u => fa_in S u other) (fun row => upd row 2 g) w.2.2.1) L) hls hN g other ⟨rfl, rfl, rfl⟩ (w.2.2.1 + 1) 0 (by omega) (by omega))
set_option maxRecDepth 100000 in
set_option maxHeartbeats 4000000 in
theorem kl_planFor {l : Launch} (hls : l.stackTraces = false) {D : va_G} {w : wd_T} {S : Nat → Nat → Int32} {L : Nat → Nat → Int64} (hN : ok_N w S) (g x : Int32) {Qp : jd_P} (hQ : Qp.1 none (fa_wr S (fun u => fa_in S u g) (fun row => upd row 3 x) w.2.2.1) L) : ∀ (k u : Nat), u ≤ w.2.2.1 → w.2.2.1 < u + k → jd_J l D w zn_A zb_A_planFor 4 (Option.none : Option Jvm.ClassFile.FieldType) [] ({ frames := 1, cells := 0, slots := 0, locals := 22 } : Room) 0 0 Qp 0 0 2 [(0, av_r 0), (1, av_i g), (2, av_i x), (3, av_i (nI u))] [] (fa_wr S (fun u => fa_in S u g) (fun row => upd row 3 x) u) L := by
  have h12 := hN.1
  intro k
  induction k with
  | zero => intro u h1 h2; omega
  | succ k ih =>
    intro u hu hk
    refine jd_iload_n zd_A_planFor_2 rfl ?_
    refine jd_aload_n zd_A_planFor_3 rfl ?_
    refine jd_get rfl rfl zl_A 6 (by decide) zi_148 rfl rfl rfl (by decide) zd_A_planFor_4 ?_
    refine jd_icmp_ge 35 zd_A_planFor_7 (by decide) (fun h_7 => ?_) (fun h_7 => ?_)
    · have e_u := nI_end (ok_N_wr hN).2.2.1 (by omega) hu h_7
      subst e_u
      exact jd_vret rfl hQ (by decide) (by decide) zd_A_planFor_35
    · have hu2 := nI_on (ok_N_wr hN).2.2.1 (by omega) hu h_7
      refine jd_aload_n zd_A_planFor_10 rfl ?_
      refine jd_iload_n zd_A_planFor_11 rfl ?_
      refine jd_iload_n zd_A_planFor_12 rfl ?_
      refine jd_callV (n := 2) (kc_isIn hls h12 hu2 g) rfl rfl rfl rfl (by decide) zi_188 zi_190 zi_1 zi_41 zi_191 (by decide +kernel) rfl rfl rfl (by decide) (by decide) (by decide) zd_A_planFor_13 (fun _ _ _ h => h.elim) (fun v S2 L2 hq => ?_)
      obtain ⟨rfl, rfl, rfl⟩ := hq
      rw [fa_in_wr]
      refine jd_if_eq 29 zd_A_planFor_16 (by decide) (fun h_16 => ?_) (fun h_16 => ?_)
      · refine jd_iinc (v := nI (u + 1)) zd_A_planFor_29 rfl (nI_inc u) (by decide) ?_
        refine jd_goto 2 zd_A_planFor_32 (by decide) ?_
        refine jd_eqS (S' := (fa_wr S (fun u => fa_in S u g) (fun row => upd row 3 x) (u + 1))) (by cases hg : fa_in S u g <;> simp_all [fa_wr, bi_of, fa_wr_at]) ?_
        exact jd_sub [(0, av_r 0), (1, av_i g), (2, av_i x), (3, av_i (nI (u + 1)))] ⟨rfl, rfl, rfl, rfl, trivial⟩ (ih (u + 1) (by omega) (by omega))
      · refine jd_aload_n zd_A_planFor_19 rfl ?_
        refine jd_get rfl rfl zl_A 0 (by decide) zi_142 rfl rfl rfl (by decide) zd_A_planFor_20 ?_
        refine jd_iload_n zd_A_planFor_23 rfl ?_
        refine jd_unit rfl hu2 h12 zd_A_planFor_24 ?_
        refine jd_iload_n zd_A_planFor_25 rfl ?_
        refine jd_put (ac_U (by omega)) rfl zl_U zp_U zm_U 3 (by decide) zi_343 rfl rfl rfl rfl rfl (Nat.le_of_ble_eq_true rfl) (ac_U (by omega)) (rl_U (by omega)) (by omega) zd_A_planFor_26 ?_
        refine jd_iinc (v := nI (u + 1)) zd_A_planFor_29 rfl (nI_inc u) (by decide) ?_
        refine jd_goto 2 zd_A_planFor_32 (by decide) ?_
        refine jd_eqS (S' := (fa_wr S (fun u => fa_in S u g) (fun row => upd row 3 x) (u + 1))) (by cases hg : fa_in S u g <;> simp_all [fa_wr, bi_of, fa_wr_at]) ?_
        exact jd_sub [(0, av_r 0), (1, av_i g), (2, av_i x), (3, av_i (nI (u + 1)))] ⟨rfl, rfl, rfl, rfl, trivial⟩ (ih (u + 1) (by omega) (by omega))
set_option maxRecDepth 100000 in
set_option maxHeartbeats 4000000 in
theorem kc_planFor {l : Launch} (hls : l.stackTraces = false) {D : va_G} {w : wd_T} {S : Nat → Nat → Int32} {L : Nat → Nat → Int64} (hN : ok_N w S) (g x : Int32) : ct_M l D w zy_A_planFor (Cond.code zy_A_planFor zb_A_planFor 4 (Option.none : Option Jvm.ClassFile.FieldType)) ({ frames := 1, cells := 0, slots := 0, locals := 22 } : Room) [av_r 0, av_i g, av_i x] S L (po_S (fa_wr S (fun u => fa_in S u g) (fun row => upd row 3 x) w.2.2.1) L) 0 0 := by
  refine ct_intro hls (own := zn_A) (by decide) rfl (Nat.le_of_ble_eq_true rfl) ?_
  refine jd_iconst (v := 0) zd_A_planFor_0 (by decide) ?_
  refine jd_istore_n zd_A_planFor_1 (by decide) ?_
  exact jd_sub [(0, av_r 0), (1, av_i g), (2, av_i x), (3, av_i (nI 0))] ⟨rfl, rfl, rfl, rfl, trivial⟩ (kl_planFor (Qp := po_S (fa_wr S (fun u => fa_in S u g) (fun row => upd row 3 x) w.2.2.1) L) hls hN g x ⟨rfl, rfl, rfl⟩ (w.2.2.1 + 1) 0 (by omega) (by omega))
set_option maxRecDepth 100000 in
set_option maxHeartbeats 4000000 in
theorem kl_finish {l : Launch} (hls : l.stackTraces = false) {D : va_G} {w : wd_T} {S : Nat → Nat → Int32} {L : Nat → Nat → Int64} (hN : ok_N w S) (g : Int32) {Qp : jd_P} (hQ : Qp.1 none (fa_wr S (fun u => fa_in S u g) (fun row => upd row 5 1) w.2.2.1) L) : ∀ (k u : Nat), u ≤ w.2.2.1 → w.2.2.1 < u + k → jd_J l D w zn_A zb_A_finish 3 (Option.none : Option Jvm.ClassFile.FieldType) [] ({ frames := 1, cells := 0, slots := 0, locals := 22 } : Room) 0 0 Qp 0 0 2 [(0, av_r 0), (1, av_i g), (2, av_i (nI u))] [] (fa_wr S (fun u => fa_in S u g) (fun row => upd row 5 1) u) L := by
  have h12 := hN.1
  intro k
  induction k with
  | zero => intro u h1 h2; omega
  | succ k ih =>
    intro u hu hk
    refine jd_iload_n zd_A_finish_2 rfl ?_
    refine jd_aload_n zd_A_finish_3 rfl ?_
    refine jd_get rfl rfl zl_A 6 (by decide) zi_148 rfl rfl rfl (by decide) zd_A_finish_4 ?_
    refine jd_icmp_ge 35 zd_A_finish_7 (by decide) (fun h_7 => ?_) (fun h_7 => ?_)
    · have e_u := nI_end (ok_N_wr hN).2.2.1 (by omega) hu h_7
      subst e_u
      exact jd_vret rfl hQ (by decide) (by decide) zd_A_finish_35
    · have hu2 := nI_on (ok_N_wr hN).2.2.1 (by omega) hu h_7
      refine jd_aload_n zd_A_finish_10 rfl ?_
      refine jd_iload_n zd_A_finish_11 rfl ?_
      refine jd_iload_n zd_A_finish_12 rfl ?_
      refine jd_callV (n := 2) (kc_isIn hls h12 hu2 g) rfl rfl rfl rfl (by decide) zi_188 zi_190 zi_1 zi_41 zi_191 (by decide +kernel) rfl rfl rfl (by decide) (by decide) (by decide) zd_A_finish_13 (fun _ _ _ h => h.elim) (fun v S2 L2 hq => ?_)
      obtain ⟨rfl, rfl, rfl⟩ := hq
      rw [fa_in_wr]
      refine jd_if_eq 29 zd_A_finish_16 (by decide) (fun h_16 => ?_) (fun h_16 => ?_)
      · refine jd_iinc (v := nI (u + 1)) zd_A_finish_29 rfl (nI_inc u) (by decide) ?_
        refine jd_goto 2 zd_A_finish_32 (by decide) ?_
        refine jd_eqS (S' := (fa_wr S (fun u => fa_in S u g) (fun row => upd row 5 1) (u + 1))) (by cases hg : fa_in S u g <;> simp_all [fa_wr, bi_of, fa_wr_at]) ?_
        exact jd_sub [(0, av_r 0), (1, av_i g), (2, av_i (nI (u + 1)))] ⟨rfl, rfl, rfl, trivial⟩ (ih (u + 1) (by omega) (by omega))
      · refine jd_aload_n zd_A_finish_19 rfl ?_
        refine jd_get rfl rfl zl_A 0 (by decide) zi_142 rfl rfl rfl (by decide) zd_A_finish_20 ?_
        refine jd_iload_n zd_A_finish_23 rfl ?_
        refine jd_unit rfl hu2 h12 zd_A_finish_24 ?_
        refine jd_iconst (v := 1) zd_A_finish_25 (by decide) ?_
        refine jd_put (ac_U (by omega)) rfl zl_U zp_U zm_U 5 (by decide) zi_347 rfl rfl rfl (by first | rfl | decide | assumption) (by first | rfl | decide | assumption) (Nat.le_of_ble_eq_true rfl) (ac_U (by omega)) (rl_U (by omega)) (by omega) zd_A_finish_26 ?_
        refine jd_iinc (v := nI (u + 1)) zd_A_finish_29 rfl (nI_inc u) (by decide) ?_
        refine jd_goto 2 zd_A_finish_32 (by decide) ?_
        refine jd_eqS (S' := (fa_wr S (fun u => fa_in S u g) (fun row => upd row 5 1) (u + 1))) (by cases hg : fa_in S u g <;> simp_all [fa_wr, bi_of, fa_wr_at]) ?_
        exact jd_sub [(0, av_r 0), (1, av_i g), (2, av_i (nI (u + 1)))] ⟨rfl, rfl, rfl, trivial⟩ (ih (u + 1) (by omega) (by omega))
set_option maxRecDepth 100000 in
set_option maxHeartbeats 4000000 in
theorem kc_finish {l : Launch} (hls : l.stackTraces = false) {D : va_G} {w : wd_T} {S : Nat → Nat → Int32} {L : Nat → Nat → Int64} (hN : ok_N w S) (g : Int32) : ct_M l D w zy_A_finish (Cond.code zy_A_finish zb_A_finish 3 (Option.none : Option Jvm.ClassFile.FieldType)) ({ frames := 1, cells := 0, slots := 0, locals := 22 } : Room) [av_r 0, av_i g] S L (po_S (fa_wr S (fun u => fa_in S u g) (fun row => upd row 5 1) w.2.2.1) L) 0 0 := by
  refine ct_intro hls (own := zn_A) (by decide) rfl (Nat.le_of_ble_eq_true rfl) ?_
  refine jd_iconst (v := 0) zd_A_finish_0 (by decide) ?_
  refine jd_istore_n zd_A_finish_1 (by decide) ?_
  exact jd_sub [(0, av_r 0), (1, av_i g), (2, av_i (nI 0))] ⟨rfl, rfl, rfl, trivial⟩ (kl_finish (Qp := po_S (fa_wr S (fun u => fa_in S u g) (fun row => upd row 5 1) w.2.2.1) L) hls hN g ⟨rfl, rfl, rfl⟩ (w.2.2.1 + 1) 0 (by omega) (by omega))
set_option maxRecDepth 100000 in
set_option maxHeartbeats 4000000 in
theorem kc_clear {l : Launch} (hls : l.stackTraces = false) {D : va_G} {w : wd_T} {S : Nat → Nat → Int32} {L : Nat → Nat → Int64} (n : Int32) : ct_M l D w zy_G_clear (Cond.code zy_G_clear zb_G_clear 2 (Option.none : Option Jvm.ClassFile.FieldType)) ({ frames := 0, cells := 0, slots := 0, locals := 0 } : Room) [av_r 4, av_i n] S L (po_S (va_up S 4 (fa_g0 n)) L) 0 0 := by
  refine ct_intro hls (own := zn_G) (by decide) rfl (Nat.le_of_ble_eq_true rfl) ?_
  refine jd_aload_n zd_G_clear_0 rfl ?_
  refine jd_iload_n zd_G_clear_1 rfl ?_
  refine jd_put rfl rfl zl_G zp_G zm_G 0 (by decide) zi_74 rfl rfl rfl rfl rfl (Nat.le_of_ble_eq_true rfl) rfl rfl (by decide) zd_G_clear_2 ?_
  try simp only [up_44, bx_uu, up_4u]
  refine jd_aload_n zd_G_clear_5 rfl ?_
  refine jd_iconst (v := 0) zd_G_clear_6 (by decide) ?_
  refine jd_put rfl rfl zl_G zp_G zm_G 1 (by decide) zi_76 rfl rfl rfl rfl rfl (Nat.le_of_ble_eq_true rfl) rfl rfl (by decide) zd_G_clear_7 ?_
  try simp only [up_44, bx_uu, up_4u]
  refine jd_aload_n zd_G_clear_10 rfl ?_
  refine jd_iconst (v := 0) zd_G_clear_11 (by decide) ?_
  refine jd_put rfl rfl zl_G zp_G zm_G 2 (by decide) zi_78 rfl rfl rfl rfl rfl (Nat.le_of_ble_eq_true rfl) rfl rfl (by decide) zd_G_clear_12 ?_
  try simp only [up_44, bx_uu, up_4u]
  refine jd_aload_n zd_G_clear_15 rfl ?_
  refine jd_iconst (v := 0) zd_G_clear_16 (by decide) ?_
  refine jd_put rfl rfl zl_G zp_G zm_G 3 (by decide) zi_80 rfl rfl rfl rfl rfl (Nat.le_of_ble_eq_true rfl) rfl rfl (by decide) zd_G_clear_17 ?_
  try simp only [up_44, bx_uu, up_4u]
  refine jd_aload_n zd_G_clear_20 rfl ?_
  refine jd_iconst (v := 0) zd_G_clear_21 (by decide) ?_
  refine jd_put rfl rfl zl_G zp_G zm_G 4 (by decide) zi_82 rfl rfl rfl rfl rfl (Nat.le_of_ble_eq_true rfl) rfl rfl (by decide) zd_G_clear_22 ?_
  try simp only [up_44, bx_uu, up_4u]
  refine jd_aload_n zd_G_clear_25 rfl ?_
  refine jd_iconst (v := 0) zd_G_clear_26 (by decide) ?_
  refine jd_put rfl rfl zl_G zp_G zm_G 5 (by decide) zi_84 rfl rfl rfl rfl rfl (Nat.le_of_ble_eq_true rfl) rfl rfl (by decide) zd_G_clear_27 ?_
  try simp only [up_44, bx_uu, up_4u]
  refine jd_aload_n zd_G_clear_30 rfl ?_
  refine jd_iconst (v := (-1)) zd_G_clear_31 (by decide) ?_
  refine jd_put rfl rfl zl_G zp_G zm_G 6 (by decide) zi_86 rfl rfl rfl rfl rfl (Nat.le_of_ble_eq_true rfl) rfl rfl (by decide) zd_G_clear_32 ?_
  try simp only [up_44, bx_uu, up_4u]
  refine jd_same (S' := va_up S 4 (fa_g0 n)) (L' := L) (wd_same4 (fun k hk => by rcases (show k = 0 ∨ k = 1 ∨ k = 2 ∨ k = 3 ∨ k = 4 ∨ k = 5 ∨ k = 6 by omega) with rfl | rfl | rfl | rfl | rfl | rfl | rfl <;> simp_all [upd, fa_g0, fa_tk, up_44])) ?_
  exact jd_vret rfl ⟨rfl, rfl, rfl⟩ (by decide) (by decide) zd_G_clear_35
set_option maxRecDepth 100000 in
set_option maxHeartbeats 4000000 in
theorem kc_take {l : Launch} (hls : l.stackTraces = false) {D : va_G} {w : wd_T} {S : Nat → Nat → Int32} {L : Nat → Nat → Int64} (h12 : w.2.2.1 ≤ 12) {u : Nat} (hu : u < w.2.2.1) (wt : Int32) : ct_M l D w zy_G_take (Cond.code zy_G_take zb_G_take 3 (Option.none : Option Jvm.ClassFile.FieldType)) ({ frames := 1, cells := 0, slots := 0, locals := 21 } : Room) [av_r 4, av_r (100 + u), av_i wt] S L (po_S (va_up S 4 (fa_tk (S 4) (S (100 + u)) wt)) L) 0 0 := by
  refine ct_intro hls (own := zn_G) (by decide) rfl (Nat.le_of_ble_eq_true rfl) ?_
  refine jd_aload_n zd_G_take_0 rfl ?_
  refine jd_dup zd_G_take_1 rfl ?_
  refine jd_get rfl rfl zl_G 1 (by decide) zi_76 rfl rfl rfl (by decide) zd_G_take_2 ?_
  refine jd_iconst (v := 1) zd_G_take_5 (by decide) ?_
  refine jd_iadd zd_G_take_6 ?_
  refine jd_put rfl rfl zl_G zp_G zm_G 1 (by decide) zi_76 rfl rfl rfl rfl rfl (Nat.le_of_ble_eq_true rfl) rfl rfl (by decide) zd_G_take_7 ?_
  try simp only [up_44, bx_uu, up_4u]
  refine jd_aload_n zd_G_take_10 rfl ?_
  refine jd_dup zd_G_take_11 rfl ?_
  refine jd_get rfl rfl zl_G 2 (by decide) zi_78 rfl rfl rfl (by decide) zd_G_take_12 ?_
  refine jd_aload_n zd_G_take_15 rfl ?_
  refine jd_get (ac_U (by omega)) rfl zl_U 1 (by decide) zi_338 rfl rfl (rl_U (by omega)) (by omega) zd_G_take_16 ?_
  try simp only [up_44, bx_uu, up_4u]
  refine jd_iadd zd_G_take_19 ?_
  refine jd_put rfl rfl zl_G zp_G zm_G 2 (by decide) zi_78 rfl rfl rfl rfl rfl (Nat.le_of_ble_eq_true rfl) rfl rfl (by decide) zd_G_take_20 ?_
  try simp only [up_44, bx_uu, up_4u]
  refine jd_aload_n zd_G_take_23 rfl ?_
  refine jd_aload_n zd_G_take_24 rfl ?_
  refine jd_get rfl rfl zl_G 3 (by decide) zi_80 rfl rfl rfl (by decide) zd_G_take_25 ?_
  refine jd_iload_n zd_G_take_28 rfl ?_
  refine jd_max zi_204 zi_205 zi_54 zi_206 (by decide) (by decide) (by decide) (by decide) zd_G_take_29 ?_
  refine jd_put rfl rfl zl_G zp_G zm_G 3 (by decide) zi_80 rfl rfl rfl rfl rfl (Nat.le_of_ble_eq_true rfl) rfl rfl (by decide) zd_G_take_32 ?_
  try simp only [up_44, bx_uu, up_4u]
  refine jd_aload_n zd_G_take_35 rfl ?_
  refine jd_dup zd_G_take_36 rfl ?_
  refine jd_get rfl rfl zl_G 4 (by decide) zi_82 rfl rfl rfl (by decide) zd_G_take_37 ?_
  refine jd_iconst (v := 1) zd_G_take_40 (by decide) ?_
  refine jd_aload_n zd_G_take_41 rfl ?_
  refine jd_get (ac_U (by omega)) rfl zl_U 0 (by decide) zi_335 rfl rfl (rl_U (by omega)) (by omega) zd_G_take_42 ?_
  try simp only [up_44, bx_uu, up_4u]
  refine jd_ishl zd_G_take_45 ?_
  refine jd_ior zd_G_take_46 ?_
  refine jd_put rfl rfl zl_G zp_G zm_G 4 (by decide) zi_82 rfl rfl rfl rfl rfl (Nat.le_of_ble_eq_true rfl) rfl rfl (by decide) zd_G_take_47 ?_
  try simp only [up_44, bx_uu, up_4u]
  refine jd_aload_n zd_G_take_50 rfl ?_
  refine jd_dup zd_G_take_51 rfl ?_
  refine jd_get rfl rfl zl_G 5 (by decide) zi_84 rfl rfl rfl (by decide) zd_G_take_52 ?_
  refine jd_aload_n zd_G_take_55 rfl ?_
  refine jd_get (ac_U (by omega)) rfl zl_U 6 (by decide) zi_348 rfl rfl (rl_U (by omega)) (by omega) zd_G_take_56 ?_
  try simp only [up_44, bx_uu, up_4u]
  refine jd_ior zd_G_take_59 ?_
  refine jd_put rfl rfl zl_G zp_G zm_G 5 (by decide) zi_84 rfl rfl rfl rfl rfl (Nat.le_of_ble_eq_true rfl) rfl rfl (by decide) zd_G_take_60 ?_
  try simp only [up_44, bx_uu, up_4u]
  refine jd_aload_n zd_G_take_63 rfl ?_
  refine jd_get (ac_U (by omega)) rfl zl_U 4 (by decide) zi_345 rfl rfl (rl_U (by omega)) (by omega) zd_G_take_64 ?_
  try simp only [up_44, bx_uu, up_4u]
  refine jd_iconst (v := (-1)) zd_G_take_67 (by decide) ?_
  refine jd_icmp_eq 103 zd_G_take_68 (by decide) (fun h_68 => ?_) (fun h_68 => ?_)
  · refine jd_same (S' := va_up S 4 (fa_tk (S 4) (S (100 + u)) wt)) (L' := L) (wd_same4 (fun k hk => by rcases (show k = 0 ∨ k = 1 ∨ k = 2 ∨ k = 3 ∨ k = 4 ∨ k = 5 ∨ k = 6 by omega) with rfl | rfl | rfl | rfl | rfl | rfl | rfl <;> simp_all [upd, fa_g0, fa_tk, up_44])) ?_
    exact jd_vret rfl ⟨rfl, rfl, rfl⟩ (by decide) (by decide) zd_G_take_103
  · refine jd_aload_n zd_G_take_71 rfl ?_
    refine jd_aload_n zd_G_take_72 rfl ?_
    refine jd_get rfl rfl zl_G 6 (by decide) zi_86 rfl rfl rfl (by decide) zd_G_take_73 ?_
    refine jd_iconst (v := (-1)) zd_G_take_76 (by decide) ?_
    refine jd_icmp_eq 91 zd_G_take_77 (by decide) (fun h_77 => ?_) (fun h_77 => ?_)
    · refine jd_aload_n zd_G_take_91 rfl ?_
      refine jd_get (ac_U (by omega)) rfl zl_U 4 (by decide) zi_345 rfl rfl (rl_U (by omega)) (by omega) zd_G_take_92 ?_
      try simp only [up_44, bx_uu, up_4u]
      refine jd_goto 100 zd_G_take_95 (by decide) ?_
      refine jd_put rfl rfl zl_G zp_G zm_G 6 (by decide) zi_86 rfl rfl rfl rfl rfl (Nat.le_of_ble_eq_true rfl) rfl rfl (by decide) zd_G_take_100 ?_
      try simp only [up_44, bx_uu, up_4u]
      refine jd_same (S' := va_up S 4 (fa_tk (S 4) (S (100 + u)) wt)) (L' := L) (wd_same4 (fun k hk => by rcases (show k = 0 ∨ k = 1 ∨ k = 2 ∨ k = 3 ∨ k = 4 ∨ k = 5 ∨ k = 6 by omega) with rfl | rfl | rfl | rfl | rfl | rfl | rfl <;> simp_all [upd, fa_g0, fa_tk, up_44])) ?_
      exact jd_vret rfl ⟨rfl, rfl, rfl⟩ (by decide) (by decide) zd_G_take_103
    · refine jd_aload_n zd_G_take_80 rfl ?_
      refine jd_get rfl rfl zl_G 6 (by decide) zi_86 rfl rfl rfl (by decide) zd_G_take_81 ?_
      refine jd_aload_n zd_G_take_84 rfl ?_
      refine jd_get (ac_U (by omega)) rfl zl_U 4 (by decide) zi_345 rfl rfl (rl_U (by omega)) (by omega) zd_G_take_85 ?_
      try simp only [up_44, bx_uu, up_4u]
      refine jd_icmp_ne 98 zd_G_take_88 (by decide) (fun h_88 => ?_) (fun h_88 => ?_)
      · refine jd_bipush (v := (-2)) zd_G_take_98 (by decide) ?_
        refine jd_put rfl rfl zl_G zp_G zm_G 6 (by decide) zi_86 rfl rfl rfl rfl rfl (Nat.le_of_ble_eq_true rfl) rfl rfl (by decide) zd_G_take_100 ?_
        try simp only [up_44, bx_uu, up_4u]
        refine jd_same (S' := va_up S 4 (fa_tk (S 4) (S (100 + u)) wt)) (L' := L) (wd_same4 (fun k hk => by rcases (show k = 0 ∨ k = 1 ∨ k = 2 ∨ k = 3 ∨ k = 4 ∨ k = 5 ∨ k = 6 by omega) with rfl | rfl | rfl | rfl | rfl | rfl | rfl <;> simp_all [upd, fa_g0, fa_tk, up_44])) ?_
        exact jd_vret rfl ⟨rfl, rfl, rfl⟩ (by decide) (by decide) zd_G_take_103
      · refine jd_aload_n zd_G_take_91 rfl ?_
        refine jd_get (ac_U (by omega)) rfl zl_U 4 (by decide) zi_345 rfl rfl (rl_U (by omega)) (by omega) zd_G_take_92 ?_
        try simp only [up_44, bx_uu, up_4u]
        refine jd_goto 100 zd_G_take_95 (by decide) ?_
        refine jd_put rfl rfl zl_G zp_G zm_G 6 (by decide) zi_86 rfl rfl rfl rfl rfl (Nat.le_of_ble_eq_true rfl) rfl rfl (by decide) zd_G_take_100 ?_
        try simp only [up_44, bx_uu, up_4u]
        refine jd_same (S' := va_up S 4 (fa_tk (S 4) (S (100 + u)) wt)) (L' := L) (wd_same4 (fun k hk => by rcases (show k = 0 ∨ k = 1 ∨ k = 2 ∨ k = 3 ∨ k = 4 ∨ k = 5 ∨ k = 6 by omega) with rfl | rfl | rfl | rfl | rfl | rfl | rfl <;> simp_all [upd, fa_g0, fa_tk, up_44])) ?_
        exact jd_vret rfl ⟨rfl, rfl, rfl⟩ (by decide) (by decide) zd_G_take_103
end
section
/-! WHAT THE CLASS'S OWN SCRATCH (roles 4 to 22) DOESN'T TOUCH, and the plans one by one. -/
def sw_S (S T : Nat → Nat → Int32) : Prop := ∀ r, (r < 4 ∨ 23 ≤ r) → T r = S r
def sw_L (L M : Nat → Nat → Int64) : Prop := ∀ r, 23 ≤ r → M r = L r
theorem sw_refl (S : Nat → Nat → Int32) : sw_S S S := fun _ _ => rfl
theorem sw_reflL (L : Nat → Nat → Int64) : sw_L L L := fun _ _ => rfl
theorem sw_S.up {S T : Nat → Nat → Int32} (h : sw_S S T) {r : Nat} (h1 : 4 ≤ r) (h2 : r < 23) (row : Nat → Int32) : sw_S S (va_up T r row) := fun q hq => by rw [va_up_ne _ _ (by omega)]; exact h q hq
theorem sw_L.up {L M : Nat → Nat → Int64} (h : sw_L L M) {r : Nat} (h2 : r < 23) (row : Nat → Int64) : sw_L L (va_up M r row) := fun q hq => by rw [va_up_ne _ _ (by omega)]; exact h q hq
theorem sw_S.tr {S T U : Nat → Nat → Int32} (h : sw_S S T) (h2 : sw_S T U) : sw_S S U := fun q hq => (h2 q hq).trans (h q hq)
theorem sw_L.tr {S T U : Nat → Nat → Int64} (h : sw_L S T) (h2 : sw_L T U) : sw_L S U := fun q hq => (h2 q hq).trans (h q hq)
theorem sw_S.sy {S T : Nat → Nat → Int32} (h : sw_S S T) : sw_S T S := fun q hq => (h q hq).symm
theorem sw_S.u {S T : Nat → Nat → Int32} (h : sw_S S T) (u : Nat) : T (100 + u) = S (100 + u) := h _ (by omega)
theorem sw_S.c {S T : Nat → Nat → Int32} (h : sw_S S T) (u : Nat) : T (100 + u + 100) = S (100 + u + 100) := h _ (by omega)
theorem sw_S.p {S T : Nat → Nat → Int32} (h : sw_S S T) (u : Nat) : T (300 + u) = S (300 + u) := h _ (by omega)
theorem sw_S.z {S T : Nat → Nat → Int32} (h : sw_S S T) : T 0 = S 0 := h _ (by omega)
theorem sw_S.wt {S T : Nat → Nat → Int32} (h : sw_S S T) : T 3 = S 3 := h _ (by omega)
theorem fa_in_sw {S T : Nat → Nat → Int32} (h : sw_S S T) (u : Nat) (g : Int32) : fa_in T u g = fa_in S u g := by
  unfold fa_in; rw [h.u]
theorem fa_gr_sw {S T : Nat → Nat → Int32} (h : sw_S S T) (u : Nat) : fa_gr T u = fa_gr S u := fa_in_sw h u _
theorem fa_pl_sw {S T : Nat → Nat → Int32} (h : sw_S S T) (u : Nat) : fa_pl T u = fa_pl S u := by
  unfold fa_pl; rw [h.u]
theorem fa_ga_sw {S T : Nat → Nat → Int32} (h : sw_S S T) (g : Int32) : ∀ n, fa_ga T g n = fa_ga S g n
  | 0 => rfl
  | n + 1 => by simp only [fa_ga]; rw [fa_in_sw h, fa_ga_sw h g n, h.u, h.wt]
theorem fa_co_sw {S T : Nat → Nat → Int32} (h : sw_S S T) (g : Nat → Int32) (gn p : Nat) : fa_co T g gn p = fa_co S g gn p := by
  unfold fa_co; rw [h.c, h.p]
theorem fa_ch_sw {S T : Nat → Nat → Int32} (h : sw_S S T) (g : Nat → Int32) (gn : Nat) (t : Int32) : ∀ n, fa_ch T g gn t n = fa_ch S g gn t n
  | 0 => rfl
  | n + 1 => by simp only [fa_ch]; rw [fa_ch_sw h g gn t n, fa_co_sw h, h.p]
theorem fa_cnt_sw {S T : Nat → Nat → Int32} (h : sw_S S T) : ∀ n, fa_cnt T n = fa_cnt S n
  | 0 => rfl
  | n + 1 => by simp only [fa_cnt]; rw [fa_cnt_sw h n, fa_gr_sw h]
theorem ok_N_sw {w : wd_T} {S T : Nat → Nat → Int32} (h : sw_S S T) (hN : ok_N w S) : ok_N w T := by
  unfold ok_N; rw [h.z]; exact hN
theorem ok_U_sw {w : wd_T} {S T : Nat → Nat → Int32} (h : sw_S S T) (hN : ok_U w S) : ok_U w T := by
  intro u hu; rw [h.u]; exact hN u hu
theorem fa_ga_0 (S : Nat → Nat → Int32) (g : Int32) : ∀ n, fa_ga S g n 0 = g
  | 0 => rfl
  | n + 1 => by
    simp only [fa_ga]
    split
    · show fa_ga S g n 0 = g; exact fa_ga_0 S g n
    · exact fa_ga_0 S g n
theorem fa_ch_in (S : Nat → Nat → Int32) (g : Nat → Int32) (gn : Nat) (t : Int32) : ∀ n, (fa_ch S g gn t n).1 = -1 ∨ ∃ p, p < n ∧ (fa_ch S g gn t n).1 = nI p
  | 0 => Or.inl rfl
  | n + 1 => by
    simp only [fa_ch]
    split
    · exact Or.inr ⟨n, by omega, rfl⟩
    · rcases fa_ch_in S g gn t n with e | ⟨p, hp, e⟩
      · exact Or.inl e
      · exact Or.inr ⟨p, by omega, e⟩
/-- ends with an answer, the scratch apart -/
def po_w (v : Int32) (S : Nat → Nat → Int32) (L : Nat → Nat → Int64) : jd_P := (fun v' S' L' => v' = some (av_i v) ∧ sw_S S S' ∧ sw_L L L', fun _ _ _ => False)
def po_wv (S : Nat → Nat → Int32) (L : Nat → Nat → Int64) : jd_P := (fun v' S' L' => v' = none ∧ sw_S S S' ∧ sw_L L L', fun _ _ _ => False)
def po_wd (v : Int32) (P : (Nat → Int32) → Prop) (S : Nat → Nat → Int32) (L : Nat → Nat → Int64) : jd_P := (fun v' S' L' => v' = some (av_i v) ∧ P (S' 6) ∧ sw_S S S' ∧ sw_L L L', fun _ _ _ => False)
def fa_bd (S : Nat → Nat → Int32) (nU nP : Nat) : Nat → Nat → Int32 → Int32
  | 0, _, c => c
  | k + 1, u, c => if fa_gr S u = true then (if (fa_ch S (fa_ga S (nI u) nU) u 0 nP).1 = -1 then -1 else fa_bd S nU nP k (u + 1) (c + fa_co S (fa_ga S (nI u) nU) u (fa_ch S (fa_ga S (nI u) nU) u 0 nP).1.toNatClampNeg)) else fa_bd S nU nP k (u + 1) c
def fa_pc (S : Nat → Nat → Int32) (nU : Nat) : Nat → Int32
  | 0 => 0
  | u + 1 => if fa_gr S u = true ∧ fa_pl S u = true then fa_pc S nU u + fa_co S (fa_ga S (nI u) nU) u (S (100 + u) 3).toNatClampNeg else fa_pc S nU u
/-- one by one: taken, sum, draft -/
def fa_d1 (S : Nat → Nat → Int32) (nU nP : Nat) : Nat → Int32 × Int32 × (Nat → Int32)
  | 0 => (0, 0, fun _ => 0)
  | u + 1 => if fa_gr S u = true then (if (fa_ch S (fa_ga S (nI u) nU) u (fa_d1 S nU nP u).1 nP).1 = -1 then ((fa_d1 S nU nP u).1, (fa_d1 S nU nP u).2.1, upd (fa_d1 S nU nP u).2.2 u (-1))
      else ((fa_d1 S nU nP u).1 ||| ((1 : Int32) <<< ((fa_ch S (fa_ga S (nI u) nU) u (fa_d1 S nU nP u).1 nP).1 &&& 31)), (fa_d1 S nU nP u).2.1 + fa_co S (fa_ga S (nI u) nU) u (fa_ch S (fa_ga S (nI u) nU) u (fa_d1 S nU nP u).1 nP).1.toNatClampNeg, upd (fa_d1 S nU nP u).2.2 u (fa_ch S (fa_ga S (nI u) nU) u (fa_d1 S nU nP u).1 nP).1)) else fa_d1 S nU nP u
/-- the draft is taken -/
def fa_td (S : Nat → Nat → Int32) (n : Nat) : Nat → Nat → Nat → Int32
  | 0 => S
  | u + 1 => if fa_gr (fa_td S n u) u = true then fa_wr (fa_td S n u) (fun v => fa_in (fa_td S n u) v (nI u)) (fun row => upd row 3 (fa_td S n u 6 u)) n else fa_td S n u
theorem fa_td_out {S : Nat → Nat → Int32} {n r : Nat} (h : r < 100 ∨ 100 + n ≤ r) : ∀ k, fa_td S n k r = S r
  | 0 => rfl
  | k + 1 => by
    simp only [fa_td]
    split
    · rw [fa_wr_out n h]; exact fa_td_out h k
    · exact fa_td_out h k
theorem ok_N_td {w : wd_T} {S : Nat → Nat → Int32} {n k : Nat} (h : ok_N w S) : ok_N w (fa_td S n k) := by
  unfold ok_N; rw [fa_td_out (Or.inl (by omega))]; exact h
section D1
variable {S : Nat → Nat → Int32} {a b u : Nat}
theorem sw_d1n (hg : ¬ fa_gr S u = true) : fa_d1 S a b (u + 1) = fa_d1 S a b u := by
  simp only [fa_d1]; rw [if_neg hg]
theorem sw_d1a (hg : fa_gr S u = true) (h : ¬ (fa_ch S (fa_ga S (nI u) a) u (fa_d1 S a b u).1 b).1 = -1) : upd (fa_d1 S a b u).2.2 u (fa_ch S (fa_ga S (nI u) a) u (fa_d1 S a b u).1 b).1 = (fa_d1 S a b (u + 1)).2.2 := by
  conv => rhs; unfold fa_d1
  rw [if_pos hg]
  show _ = (if (fa_ch S (fa_ga S (nI u) a) u (fa_d1 S a b u).1 b).1 = -1 then _ else _ : Int32 × Int32 × (Nat → Int32)).2.2
  rw [if_neg h]
theorem sw_d1b (hg : fa_gr S u = true) (h : ¬ (fa_ch S (fa_ga S (nI u) a) u (fa_d1 S a b u).1 b).1 = -1) : (fa_d1 S a b (u + 1)).1 = (fa_d1 S a b u).1 ||| ((1 : Int32) <<< ((fa_ch S (fa_ga S (nI u) a) u (fa_d1 S a b u).1 b).1 &&& 31)) := by
  conv => lhs; unfold fa_d1
  rw [if_pos hg]
  show (if (fa_ch S (fa_ga S (nI u) a) u (fa_d1 S a b u).1 b).1 = -1 then _ else _ : Int32 × Int32 × (Nat → Int32)).1 = _
  rw [if_neg h]
theorem sw_d1c (hg : fa_gr S u = true) (h : ¬ (fa_ch S (fa_ga S (nI u) a) u (fa_d1 S a b u).1 b).1 = -1) : (fa_d1 S a b (u + 1)).2.1 = (fa_d1 S a b u).2.1 + fa_co S (fa_ga S (nI u) a) u (fa_ch S (fa_ga S (nI u) a) u (fa_d1 S a b u).1 b).1.toNatClampNeg := by
  conv => lhs; unfold fa_d1
  rw [if_pos hg]
  show (if (fa_ch S (fa_ga S (nI u) a) u (fa_d1 S a b u).1 b).1 = -1 then _ else _ : Int32 × Int32 × (Nat → Int32)).2.1 = _
  rw [if_neg h]
theorem sw_d1d (hg : fa_gr S u = true) (h : (fa_ch S (fa_ga S (nI u) a) u (fa_d1 S a b u).1 b).1 = -1) : upd (fa_d1 S a b u).2.2 u (fa_ch S (fa_ga S (nI u) a) u (fa_d1 S a b u).1 b).1 = (fa_d1 S a b (u + 1)).2.2 := by
  conv => rhs; unfold fa_d1
  rw [if_pos hg]
  show _ = (if (fa_ch S (fa_ga S (nI u) a) u (fa_d1 S a b u).1 b).1 = -1 then _ else _ : Int32 × Int32 × (Nat → Int32)).2.2
  rw [if_pos h, h]
theorem sw_d1e (hg : fa_gr S u = true) (h : (fa_ch S (fa_ga S (nI u) a) u (fa_d1 S a b u).1 b).1 = -1) : (fa_d1 S a b (u + 1)).1 = (fa_d1 S a b u).1 := by
  conv => lhs; unfold fa_d1
  rw [if_pos hg]
  show (if (fa_ch S (fa_ga S (nI u) a) u (fa_d1 S a b u).1 b).1 = -1 then _ else _ : Int32 × Int32 × (Nat → Int32)).1 = _
  rw [if_pos h]
theorem sw_d1f (hg : fa_gr S u = true) (h : (fa_ch S (fa_ga S (nI u) a) u (fa_d1 S a b u).1 b).1 = -1) : (fa_d1 S a b (u + 1)).2.1 = (fa_d1 S a b u).2.1 := by
  conv => lhs; unfold fa_d1
  rw [if_pos hg]
  show (if (fa_ch S (fa_ga S (nI u) a) u (fa_d1 S a b u).1 b).1 = -1 then _ else _ : Int32 × Int32 × (Nat → Int32)).2.1 = _
  rw [if_pos h]
theorem sw_dr {P : Nat → Prop} {d e : Nat → Int32} {n : Nat} {c : Int32} {T : Nat → Nat → Int32} {q : Nat} (h : ∀ v, v < n → P v → d v = e v) : ∀ v, v < n + 1 → P v → va_up T q (upd d n c) q v = upd e n c v := by
  intro v hv hp
  rw [va_up_self]
  by_cases hn : v = n
  · subst hn; simp [upd]
  · have := h v (by omega) hp; simp [upd, hn, this]
end D1
end
section
/-! THE CLASS: groups gathered, rules, costs, plans one by one (rows by wip/whole/gen/a4.py) -/
set_option maxRecDepth 100000 in
set_option maxHeartbeats 4000000 in
theorem kl_gather {l : Launch} (hls : l.stackTraces = false) {D : va_G} {w : wd_T} {S : Nat → Nat → Int32} {L : Nat → Nat → Int64} (hN : ok_N w S) (hU : ok_U w S) (g : Int32) {Qp : jd_P} (hQ : Qp.1 (some (av_r 4)) (va_up S 4 (fa_ga S g w.2.2.1)) L) : ∀ (k u : Nat), u ≤ w.2.2.1 → w.2.2.1 < u + k → jd_J l D w zn_A zb_A_gather 3 (Option.some (Jvm.ClassFile.FieldType.object "PutAwayAssign$Group")) [] ({ frames := 2, cells := 0, slots := 0, locals := 43 } : Room) 0 0 Qp 0 0 10 [(0, av_r 0), (1, av_i g), (2, av_i (nI u))] [] (va_up S 4 (fa_ga S g u)) L := by
  have h12 := hN.1
  intro k
  induction k with
  | zero => intro u h1 h2; omega
  | succ k ih =>
    intro u hu hk
    refine jd_iload_n zd_A_gather_10 rfl ?_
    refine jd_aload_n zd_A_gather_11 rfl ?_
    refine jd_get rfl rfl zl_A 6 (by decide) zi_148 rfl rfl rfl (by decide) zd_A_gather_12 ?_
    refine jd_icmp_ge 60 zd_A_gather_15 (by decide) (fun h_15 => ?_) (fun h_15 => ?_)
    · have e_u := nI_end (ok_N_4 hN).2.2.1 (by omega) hu h_15
      subst e_u
      refine jd_aload_n zd_A_gather_60 rfl ?_
      refine jd_get rfl rfl zl_A 3 (by decide) zi_145 rfl rfl rfl (by decide) zd_A_gather_61 ?_
      exact jd_aret rfl hQ (by decide) (by decide) zd_A_gather_64
    · have hu2 := nI_on (ok_N_4 hN).2.2.1 (by omega) hu h_15
      obtain ⟨kd, hkd, ekd⟩ := (hU u hu2).1
      refine jd_aload_n zd_A_gather_18 rfl ?_
      refine jd_iload_n zd_A_gather_19 rfl ?_
      refine jd_iload_n zd_A_gather_20 rfl ?_
      refine jd_callV (n := 2) (kc_isIn hls h12 hu2 g) rfl rfl rfl rfl (by decide) zi_188 zi_190 zi_1 zi_41 zi_191 (by decide +kernel) rfl rfl rfl (by decide) (Nat.le_of_ble_eq_true rfl) (by decide) zd_A_gather_21 (fun _ _ _ h => h.elim) (fun v S2 L2 hq => ?_)
      obtain ⟨rfl, rfl, rfl⟩ := hq
      rw [fa_in_4]
      refine jd_if_eq 54 zd_A_gather_24 (by decide) (fun h_24 => ?_) (fun h_24 => ?_)
      · refine jd_iinc (v := nI (u + 1)) zd_A_gather_54 rfl (nI_inc u) (by decide) ?_
        refine jd_goto 10 zd_A_gather_57 (by decide) ?_
        refine jd_eqS (S' := va_up S 4 (fa_ga S g (u + 1))) (by cases hg : fa_in S u g <;> simp_all [fa_ga, bi_of]) ?_
        exact jd_sub [(0, av_r 0), (1, av_i g), (2, av_i (nI (u + 1)))] ⟨rfl, rfl, rfl, trivial⟩ (ih (u + 1) (by omega) (by omega))
      · refine jd_aload_n zd_A_gather_27 rfl ?_
        refine jd_get rfl rfl zl_A 3 (by decide) zi_145 rfl rfl rfl (by decide) zd_A_gather_28 ?_
        refine jd_aload_n zd_A_gather_31 rfl ?_
        refine jd_get rfl rfl zl_A 0 (by decide) zi_142 rfl rfl rfl (by decide) zd_A_gather_32 ?_
        refine jd_iload_n zd_A_gather_35 rfl ?_
        refine jd_unit rfl hu2 h12 zd_A_gather_36 ?_
        refine jd_aload_n zd_A_gather_37 rfl ?_
        refine jd_get rfl rfl zl_A 2 (by decide) zi_144 rfl rfl rfl (by decide) zd_A_gather_38 ?_
        refine jd_aload_n zd_A_gather_41 rfl ?_
        refine jd_get rfl rfl zl_A 0 (by decide) zi_142 rfl rfl rfl (by decide) zd_A_gather_42 ?_
        refine jd_iload_n zd_A_gather_45 rfl ?_
        refine jd_unit rfl hu2 h12 zd_A_gather_46 ?_
        refine jd_get (ac_U (by omega)) rfl zl_U 0 (by decide) zi_336 rfl rfl (rl_U (by omega)) (by omega) zd_A_gather_47 ?_
        rw [up_4u]
        refine jd_iald (r := 3) rfl (by rw [ekd]; exact vp_in_nI hkd (by decide)) rfl (by decide) zd_A_gather_50 ?_
        rw [up_43]
        refine jd_callV (n := 2) (kc_take hls h12 hu2 (S 3 (S (100 + u) 0).toNatClampNeg)) rfl rfl rfl rfl (by decide) zi_200 zi_201 zi_202 zi_42 zi_203 (by decide +kernel) rfl rfl rfl (by decide) (Nat.le_of_ble_eq_true rfl) (by decide) zd_A_gather_51 (fun _ _ _ h => h.elim) (fun v S2 L2 hq => ?_)
        obtain ⟨rfl, rfl, rfl⟩ := hq
        simp only [up_44, up_4u, bx_uu]
        refine jd_iinc (v := nI (u + 1)) zd_A_gather_54 rfl (nI_inc u) (by decide) ?_
        refine jd_goto 10 zd_A_gather_57 (by decide) ?_
        refine jd_eqS (S' := va_up S 4 (fa_ga S g (u + 1))) (by cases hg : fa_in S u g <;> simp_all [fa_ga, bi_of]) ?_
        exact jd_sub [(0, av_r 0), (1, av_i g), (2, av_i (nI (u + 1)))] ⟨rfl, rfl, rfl, trivial⟩ (ih (u + 1) (by omega) (by omega))
set_option maxRecDepth 100000 in
set_option maxHeartbeats 4000000 in
theorem kc_gather {l : Launch} (hls : l.stackTraces = false) {D : va_G} {w : wd_T} {S : Nat → Nat → Int32} {L : Nat → Nat → Int64} (hN : ok_N w S) (hU : ok_U w S) (g : Int32) : ct_M l D w zy_A_gather (Cond.code zy_A_gather zb_A_gather 3 (Option.some (Jvm.ClassFile.FieldType.object "PutAwayAssign$Group"))) ({ frames := 2, cells := 0, slots := 0, locals := 43 } : Room) [av_r 0, av_i g] S L (po_rS 4 (va_up S 4 (fa_ga S g w.2.2.1)) L) 0 0 := by
  refine ct_intro hls (own := zn_A) (by decide) rfl (Nat.le_of_ble_eq_true rfl) ?_
  refine jd_aload_n zd_A_gather_0 rfl ?_
  refine jd_get rfl rfl zl_A 3 (by decide) zi_145 rfl rfl rfl (by decide) zd_A_gather_1 ?_
  refine jd_iload_n zd_A_gather_4 rfl ?_
  refine jd_callV (n := 1) (kc_clear hls g) rfl rfl rfl rfl (by decide) zi_196 zi_197 zi_198 zi_42 zi_199 (by decide +kernel) rfl rfl rfl (by decide) (Nat.le_of_ble_eq_true rfl) (by decide) zd_A_gather_5 (fun _ _ _ h => h.elim) (fun v S2 L2 hq => ?_)
  obtain ⟨rfl, rfl, rfl⟩ := hq
  refine jd_iconst (v := 0) zd_A_gather_8 (by decide) ?_
  refine jd_istore_n zd_A_gather_9 (by decide) ?_
  exact jd_sub [(0, av_r 0), (1, av_i g), (2, av_i (nI 0))] ⟨rfl, rfl, rfl, trivial⟩ (kl_gather (S := S) (Qp := po_rS 4 (va_up S 4 (fa_ga S g w.2.2.1)) L) hls hN hU g ⟨rfl, rfl, rfl⟩ (w.2.2.1 + 1) 0 (by omega) (by omega))
set_option maxRecDepth 100000 in
set_option maxHeartbeats 4000000 in
theorem kc_broken {l : Launch} (hls : l.stackTraces = false) {D : va_G} {w : wd_T} {S : Nat → Nat → Int32} {L : Nat → Nat → Int64} (h13 : w.2.2.2 ≤ 12) {p : Nat} (hp : p < w.2.2.2) {i : Int32} (hi : i = nI p) : ct_M l D w zy_A_brokenRule (Cond.code zy_A_brokenRule zb_A_brokenRule 4 (Option.some Jvm.ClassFile.FieldType.int)) ({ frames := 0, cells := 0, slots := 0, locals := 0 } : Room) [av_r 0, av_r 4, av_i i] S L (po_i (fa_br (S 4) (S (300 + p)) i) S L) 0 0 := by
  subst hi
  refine ct_intro hls (own := zn_A) (by decide) rfl (Nat.le_of_ble_eq_true rfl) ?_
  refine jd_aload_n zd_A_brokenRule_0 rfl ?_
  refine jd_get rfl rfl zl_A 1 (by decide) zi_143 rfl rfl rfl (by decide) zd_A_brokenRule_1 ?_
  refine jd_iload_n zd_A_brokenRule_4 rfl ?_
  refine jd_plc rfl hp h13 zd_A_brokenRule_5 ?_
  refine jd_astore_n zd_A_brokenRule_6 (by decide) ?_
  refine jd_aload_n zd_A_brokenRule_7 rfl ?_
  refine jd_get (ac_P (by omega)) rfl zl_P 4 (by decide) zi_392 rfl rfl (rl_P (by omega)) (by omega) zd_A_brokenRule_8 ?_
  refine jd_if_eq 16 zd_A_brokenRule_11 (by decide) (fun h_11 => ?_) (fun h_11 => ?_)
  · refine jd_aload_n zd_A_brokenRule_16 rfl ?_
    refine jd_get rfl rfl zl_G 4 (by decide) zi_83 rfl rfl rfl (by decide) zd_A_brokenRule_17 ?_
    refine jd_aload_n zd_A_brokenRule_20 rfl ?_
    refine jd_get (ac_P (by omega)) rfl zl_P 0 (by decide) zi_385 rfl rfl (rl_P (by omega)) (by omega) zd_A_brokenRule_21 ?_
    refine jd_iconst (v := (-1)) zd_A_brokenRule_24 (by decide) ?_
    refine jd_ixor zd_A_brokenRule_25 ?_
    refine jd_iand zd_A_brokenRule_26 ?_
    refine jd_if_eq 32 zd_A_brokenRule_27 (by decide) (fun h_27 => ?_) (fun h_27 => ?_)
    · refine jd_aload_n zd_A_brokenRule_32 rfl ?_
      refine jd_get rfl rfl zl_G 5 (by decide) zi_85 rfl rfl rfl (by decide) zd_A_brokenRule_33 ?_
      refine jd_iload_n zd_A_brokenRule_36 rfl ?_
      refine jd_ishr zd_A_brokenRule_37 ?_
      refine jd_iconst (v := 1) zd_A_brokenRule_38 (by decide) ?_
      refine jd_iand zd_A_brokenRule_39 ?_
      refine jd_if_eq 45 zd_A_brokenRule_40 (by decide) (fun h_40 => ?_) (fun h_40 => ?_)
      · refine jd_aload_n zd_A_brokenRule_45 rfl ?_
        refine jd_get rfl rfl zl_G 2 (by decide) zi_79 rfl rfl rfl (by decide) zd_A_brokenRule_46 ?_
        refine jd_aload_n zd_A_brokenRule_49 rfl ?_
        refine jd_get (ac_P (by omega)) rfl zl_P 3 (by decide) zi_391 rfl rfl (rl_P (by omega)) (by omega) zd_A_brokenRule_50 ?_
        refine jd_icmp_le 58 zd_A_brokenRule_53 (by decide) (fun h_53 => ?_) (fun h_53 => ?_)
        · refine jd_aload_n zd_A_brokenRule_58 rfl ?_
          refine jd_get rfl rfl zl_G 6 (by decide) zi_87 rfl rfl rfl (by decide) zd_A_brokenRule_59 ?_
          refine jd_iconst (v := (-1)) zd_A_brokenRule_62 (by decide) ?_
          refine jd_icmp_eq 76 zd_A_brokenRule_63 (by decide) (fun h_63 => ?_) (fun h_63 => ?_)
          · refine jd_iconst (v := 0) zd_A_brokenRule_76 (by decide) ?_
            exact jd_iret rfl ⟨by simp_all [fa_br], rfl, rfl⟩ (by decide) (by decide) zd_A_brokenRule_77
          · refine jd_aload_n zd_A_brokenRule_66 rfl ?_
            refine jd_get rfl rfl zl_G 6 (by decide) zi_87 rfl rfl rfl (by decide) zd_A_brokenRule_67 ?_
            refine jd_iload_n zd_A_brokenRule_70 rfl ?_
            refine jd_icmp_eq 76 zd_A_brokenRule_71 (by decide) (fun h_71 => ?_) (fun h_71 => ?_)
            · refine jd_iconst (v := 0) zd_A_brokenRule_76 (by decide) ?_
              exact jd_iret rfl ⟨by simp_all [fa_br], rfl, rfl⟩ (by decide) (by decide) zd_A_brokenRule_77
            · refine jd_iconst (v := 5) zd_A_brokenRule_74 (by decide) ?_
              exact jd_iret rfl ⟨by simp_all [fa_br], rfl, rfl⟩ (by decide) (by decide) zd_A_brokenRule_75
        · refine jd_iconst (v := 4) zd_A_brokenRule_56 (by decide) ?_
          exact jd_iret rfl ⟨by simp_all [fa_br], rfl, rfl⟩ (by decide) (by decide) zd_A_brokenRule_57
      · refine jd_iconst (v := 3) zd_A_brokenRule_43 (by decide) ?_
        exact jd_iret rfl ⟨by simp_all [fa_br], rfl, rfl⟩ (by decide) (by decide) zd_A_brokenRule_44
    · refine jd_iconst (v := 2) zd_A_brokenRule_30 (by decide) ?_
      exact jd_iret rfl ⟨by simp_all [fa_br], rfl, rfl⟩ (by decide) (by decide) zd_A_brokenRule_31
  · refine jd_iconst (v := 1) zd_A_brokenRule_14 (by decide) ?_
    exact jd_iret rfl ⟨by simp_all [fa_br], rfl, rfl⟩ (by decide) (by decide) zd_A_brokenRule_15
set_option maxRecDepth 100000 in
set_option maxHeartbeats 4000000 in
theorem kc_costAt {l : Launch} (hls : l.stackTraces = false) {D : va_G} {w : wd_T} {S : Nat → Nat → Int32} {L : Nat → Nat → Int64} (h12 : w.2.2.1 ≤ 12) (h13 : w.2.2.2 ≤ 12) {gn : Nat} (hgn : gn < w.2.2.1) (hg : S 4 0 = nI gn) {p : Nat} (hp : p < w.2.2.2) {i : Int32} (hi : i = nI p) : ct_M l D w zy_A_costAt (Cond.code zy_A_costAt zb_A_costAt 4 (Option.some Jvm.ClassFile.FieldType.int)) ({ frames := 0, cells := 0, slots := 0, locals := 0 } : Room) [av_r 0, av_r 4, av_i i] S L (po_i (fa_co S (S 4) gn p) S L) 0 0 := by
  subst hi
  refine ct_intro hls (own := zn_A) (by decide) rfl (Nat.le_of_ble_eq_true rfl) ?_
  refine jd_aload_n zd_A_costAt_0 rfl ?_
  refine jd_get rfl rfl zl_A 0 (by decide) zi_142 rfl rfl rfl (by decide) zd_A_costAt_1 ?_
  refine jd_aload_n zd_A_costAt_4 rfl ?_
  refine jd_get rfl rfl zl_G 0 (by decide) zi_75 rfl rfl rfl (by decide) zd_A_costAt_5 ?_
  refine jd_unit hg hgn h12 zd_A_costAt_8 ?_
  refine jd_get (ac_U (by omega)) rfl zl_U 7 (by decide) zi_351 rfl rfl (rl_U (by omega)) (by omega) zd_A_costAt_9 ?_
  refine jd_iload_n zd_A_costAt_12 rfl ?_
  refine jd_iald (ac_C (by omega)) (vp_in_nI (show p < 12 by omega) (by decide)) (rl_C hgn) (by omega) zd_A_costAt_13 ?_
  rw [nI_clamp (show p < 2 ^ 31 by omega)]
  refine jd_istore_n zd_A_costAt_14 (by decide) ?_
  refine jd_iload_n zd_A_costAt_15 rfl ?_
  refine jd_iconst (v := (-1)) zd_A_costAt_16 (by decide) ?_
  refine jd_icmp_eq 22 zd_A_costAt_17 (by decide) (fun h_17 => ?_) (fun h_17 => ?_)
  · refine jd_aload_n zd_A_costAt_22 rfl ?_
    refine jd_get rfl rfl zl_A 1 (by decide) zi_143 rfl rfl rfl (by decide) zd_A_costAt_23 ?_
    refine jd_iload_n zd_A_costAt_26 rfl ?_
    refine jd_plc rfl hp h13 zd_A_costAt_27 ?_
    refine jd_get (ac_P (by omega)) rfl zl_P 2 (by decide) zi_389 rfl rfl (rl_P (by omega)) (by omega) zd_A_costAt_28 ?_
    refine jd_aload_n zd_A_costAt_31 rfl ?_
    refine jd_get rfl rfl zl_G 3 (by decide) zi_81 rfl rfl rfl (by decide) zd_A_costAt_32 ?_
    refine jd_imul zd_A_costAt_35 ?_
    refine jd_aload_n zd_A_costAt_36 rfl ?_
    refine jd_get rfl rfl zl_A 1 (by decide) zi_143 rfl rfl rfl (by decide) zd_A_costAt_37 ?_
    refine jd_iload_n zd_A_costAt_40 rfl ?_
    refine jd_plc rfl hp h13 zd_A_costAt_41 ?_
    refine jd_get (ac_P (by omega)) rfl zl_P 3 (by decide) zi_391 rfl rfl (rl_P (by omega)) (by omega) zd_A_costAt_42 ?_
    refine jd_iadd zd_A_costAt_45 ?_
    refine jd_aload_n zd_A_costAt_46 rfl ?_
    refine jd_get rfl rfl zl_G 2 (by decide) zi_79 rfl rfl rfl (by decide) zd_A_costAt_47 ?_
    refine jd_isub zd_A_costAt_50 ?_
    exact jd_iret rfl ⟨by simp_all [fa_co], rfl, rfl⟩ (by decide) (by decide) zd_A_costAt_51
  · refine jd_iload_n zd_A_costAt_20 rfl ?_
    exact jd_iret rfl ⟨by simp_all [fa_co], rfl, rfl⟩ (by decide) (by decide) zd_A_costAt_21
set_option maxRecDepth 100000 in
set_option maxHeartbeats 4000000 in
theorem kl_cheapest {l : Launch} (hls : l.stackTraces = false) {D : va_G} {w : wd_T} {S : Nat → Nat → Int32} {L : Nat → Nat → Int64} (hN : ok_N w S) {gn : Nat} (hgn : gn < w.2.2.1) (hg : S 4 0 = nI gn) (t : Int32) {Qp : jd_P} (hQ : Qp.1 (some (av_i (fa_ch S (S 4) gn t w.2.2.2).1)) S L) : ∀ (k u : Nat), u ≤ w.2.2.2 → w.2.2.2 < u + k → jd_J l D w zn_A zb_A_cheapestPlace 7 (Option.some Jvm.ClassFile.FieldType.int) [] ({ frames := 1, cells := 0, slots := 0, locals := 23 } : Room) 0 0 Qp 0 0 8 [(0, av_r 0), (1, av_r 4), (2, av_i t), (3, av_i (fa_ch S (S 4) gn t u).1), (4, av_i (fa_ch S (S 4) gn t u).2), (5, av_i (nI u))] [] S L := by
  have h12 := hN.1
  have h13 := hN.2.1
  intro k
  induction k with
  | zero => intro u h1 h2; omega
  | succ k ih =>
    intro u hu hk
    refine jd_iload zd_A_cheapestPlace_8 rfl ?_
    refine jd_aload_n zd_A_cheapestPlace_10 rfl ?_
    refine jd_get rfl rfl zl_A 7 (by decide) zi_149 rfl rfl rfl (by decide) zd_A_cheapestPlace_11 ?_
    refine jd_icmp_ge 70 zd_A_cheapestPlace_14 (by decide) (fun h_14 => ?_) (fun h_14 => ?_)
    · have e_u := nI_end hN.2.2.2 (by omega) hu h_14
      subst e_u
      refine jd_iload_n zd_A_cheapestPlace_70 rfl ?_
      exact jd_iret rfl hQ (by decide) (by decide) zd_A_cheapestPlace_71
    · have hu2 := nI_on hN.2.2.2 (by omega) hu h_14
      refine jd_iload_n zd_A_cheapestPlace_17 rfl ?_
      refine jd_iload zd_A_cheapestPlace_18 rfl ?_
      refine jd_ishr zd_A_cheapestPlace_20 ?_
      refine jd_iconst (v := 1) zd_A_cheapestPlace_21 (by decide) ?_
      refine jd_iand zd_A_cheapestPlace_22 ?_
      refine jd_if_ne 64 zd_A_cheapestPlace_23 (by decide) (fun h_23 => ?_) (fun h_23 => ?_)
      · refine jd_iinc (v := nI (u + 1)) zd_A_cheapestPlace_64 rfl (nI_inc u) (by decide) ?_
        refine jd_goto 8 zd_A_cheapestPlace_67 (by decide) ?_
        have e_c : fa_ch S (S 4) gn t (u + 1) = fa_ch S (S 4) gn t u := by first | simp_all [fa_ch]; done | (simp only [fa_ch]; rw [if_neg (by rintro ⟨q1, q2, q | q⟩; exact h_47 q; exact absurd q (Int32.not_lt.mpr h_54))])
        exact jd_sub [(0, av_r 0), (1, av_r 4), (2, av_i t), (3, av_i (fa_ch S (S 4) gn t (u + 1)).1), (4, av_i (fa_ch S (S 4) gn t (u + 1)).2), (5, av_i (nI (u + 1)))] ⟨rfl, rfl, rfl, by rw [e_c]; rfl, by rw [e_c]; rfl, rfl, trivial⟩ (ih (u + 1) (by omega) (by omega))
      · refine jd_aload_n zd_A_cheapestPlace_26 rfl ?_
        refine jd_aload_n zd_A_cheapestPlace_27 rfl ?_
        refine jd_iload zd_A_cheapestPlace_28 rfl ?_
        refine jd_callV (n := 2) (kc_broken hls h13 hu2 rfl) rfl rfl rfl rfl (by decide) zi_211 zi_213 zi_4 zi_41 zi_214 (by decide +kernel) rfl rfl rfl (by decide) (Nat.le_of_ble_eq_true rfl) (by decide) zd_A_cheapestPlace_30 (fun _ _ _ h => h.elim) (fun v S2 L2 hq => ?_)
        obtain ⟨rfl, rfl, rfl⟩ := hq
        refine jd_if_ne 64 zd_A_cheapestPlace_33 (by decide) (fun h_33 => ?_) (fun h_33 => ?_)
        · refine jd_iinc (v := nI (u + 1)) zd_A_cheapestPlace_64 rfl (nI_inc u) (by decide) ?_
          refine jd_goto 8 zd_A_cheapestPlace_67 (by decide) ?_
          have e_c : fa_ch S (S 4) gn t (u + 1) = fa_ch S (S 4) gn t u := by first | simp_all [fa_ch]; done | (simp only [fa_ch]; rw [if_neg (by rintro ⟨q1, q2, q | q⟩; exact h_47 q; exact absurd q (Int32.not_lt.mpr h_54))])
          exact jd_sub [(0, av_r 0), (1, av_r 4), (2, av_i t), (3, av_i (fa_ch S (S 4) gn t (u + 1)).1), (4, av_i (fa_ch S (S 4) gn t (u + 1)).2), (5, av_i (nI (u + 1)))] ⟨rfl, rfl, rfl, by rw [e_c]; rfl, by rw [e_c]; rfl, rfl, trivial⟩ (ih (u + 1) (by omega) (by omega))
        · refine jd_aload_n zd_A_cheapestPlace_36 rfl ?_
          refine jd_aload_n zd_A_cheapestPlace_37 rfl ?_
          refine jd_iload zd_A_cheapestPlace_38 rfl ?_
          refine jd_callV (n := 2) (kc_costAt hls h12 h13 hgn hg hu2 rfl) rfl rfl rfl rfl (by decide) zi_215 zi_217 zi_5 zi_41 zi_218 (by decide +kernel) rfl rfl rfl (by decide) (Nat.le_of_ble_eq_true rfl) (by decide) zd_A_cheapestPlace_40 (fun _ _ _ h => h.elim) (fun v S2 L2 hq => ?_)
          obtain ⟨rfl, rfl, rfl⟩ := hq
          refine jd_istore zd_A_cheapestPlace_43 (by decide) ?_
          refine jd_iload_n zd_A_cheapestPlace_45 rfl ?_
          refine jd_iconst (v := (-1)) zd_A_cheapestPlace_46 (by decide) ?_
          refine jd_icmp_eq 57 zd_A_cheapestPlace_47 (by decide) (fun h_47 => ?_) (fun h_47 => ?_)
          · refine jd_iload zd_A_cheapestPlace_57 rfl ?_
            refine jd_istore_n zd_A_cheapestPlace_59 (by decide) ?_
            refine jd_iload zd_A_cheapestPlace_60 rfl ?_
            refine jd_istore zd_A_cheapestPlace_62 (by decide) ?_
            refine jd_iinc (v := nI (u + 1)) zd_A_cheapestPlace_64 rfl (nI_inc u) (by decide) ?_
            refine jd_goto 8 zd_A_cheapestPlace_67 (by decide) ?_
            have e_c : fa_ch S (S 4) gn t (u + 1) = (nI u, fa_co S (S 4) gn u) := by first | simp_all [fa_ch]; done | (simp only [fa_ch]; rw [if_neg (by rintro ⟨q1, q2, q | q⟩; exact h_47 q; exact absurd q (Int32.not_lt.mpr h_54))])
            exact jd_sub [(0, av_r 0), (1, av_r 4), (2, av_i t), (3, av_i (fa_ch S (S 4) gn t (u + 1)).1), (4, av_i (fa_ch S (S 4) gn t (u + 1)).2), (5, av_i (nI (u + 1)))] ⟨rfl, rfl, rfl, by rw [e_c]; rfl, by rw [e_c]; rfl, rfl, trivial⟩ (ih (u + 1) (by omega) (by omega))
          · refine jd_iload zd_A_cheapestPlace_50 rfl ?_
            refine jd_iload zd_A_cheapestPlace_52 rfl ?_
            refine jd_icmp_ge 64 zd_A_cheapestPlace_54 (by decide) (fun h_54 => ?_) (fun h_54 => ?_)
            · refine jd_iinc (v := nI (u + 1)) zd_A_cheapestPlace_64 rfl (nI_inc u) (by decide) ?_
              refine jd_goto 8 zd_A_cheapestPlace_67 (by decide) ?_
              have e_c : fa_ch S (S 4) gn t (u + 1) = fa_ch S (S 4) gn t u := by first | simp_all [fa_ch]; done | (simp only [fa_ch]; rw [if_neg (by rintro ⟨q1, q2, q | q⟩; exact h_47 q; exact absurd q (Int32.not_lt.mpr h_54))])
              exact jd_sub [(0, av_r 0), (1, av_r 4), (2, av_i t), (3, av_i (fa_ch S (S 4) gn t (u + 1)).1), (4, av_i (fa_ch S (S 4) gn t (u + 1)).2), (5, av_i (nI (u + 1)))] ⟨rfl, rfl, rfl, by rw [e_c]; rfl, by rw [e_c]; rfl, rfl, trivial⟩ (ih (u + 1) (by omega) (by omega))
            · refine jd_iload zd_A_cheapestPlace_57 rfl ?_
              refine jd_istore_n zd_A_cheapestPlace_59 (by decide) ?_
              refine jd_iload zd_A_cheapestPlace_60 rfl ?_
              refine jd_istore zd_A_cheapestPlace_62 (by decide) ?_
              refine jd_iinc (v := nI (u + 1)) zd_A_cheapestPlace_64 rfl (nI_inc u) (by decide) ?_
              refine jd_goto 8 zd_A_cheapestPlace_67 (by decide) ?_
              have e_c : fa_ch S (S 4) gn t (u + 1) = (nI u, fa_co S (S 4) gn u) := by first | simp_all [fa_ch]; done | (simp only [fa_ch]; rw [if_neg (by rintro ⟨q1, q2, q | q⟩; exact h_47 q; exact absurd q (Int32.not_lt.mpr h_54))])
              exact jd_sub [(0, av_r 0), (1, av_r 4), (2, av_i t), (3, av_i (fa_ch S (S 4) gn t (u + 1)).1), (4, av_i (fa_ch S (S 4) gn t (u + 1)).2), (5, av_i (nI (u + 1)))] ⟨rfl, rfl, rfl, by rw [e_c]; rfl, by rw [e_c]; rfl, rfl, trivial⟩ (ih (u + 1) (by omega) (by omega))
set_option maxRecDepth 100000 in
set_option maxHeartbeats 4000000 in
theorem kc_cheapest {l : Launch} (hls : l.stackTraces = false) {D : va_G} {w : wd_T} {S : Nat → Nat → Int32} {L : Nat → Nat → Int64} (hN : ok_N w S) {gn : Nat} (hgn : gn < w.2.2.1) (hg : S 4 0 = nI gn) (t : Int32) : ct_M l D w zy_A_cheapestPlace (Cond.code zy_A_cheapestPlace zb_A_cheapestPlace 7 (Option.some Jvm.ClassFile.FieldType.int)) ({ frames := 1, cells := 0, slots := 0, locals := 23 } : Room) [av_r 0, av_r 4, av_i t] S L (po_i (fa_ch S (S 4) gn t w.2.2.2).1 S L) 0 0 := by
  refine ct_intro hls (own := zn_A) (by decide) rfl (Nat.le_of_ble_eq_true rfl) ?_
  refine jd_iconst (v := (-1)) zd_A_cheapestPlace_0 (by decide) ?_
  refine jd_istore_n zd_A_cheapestPlace_1 (by decide) ?_
  refine jd_iconst (v := 0) zd_A_cheapestPlace_2 (by decide) ?_
  refine jd_istore zd_A_cheapestPlace_3 (by decide) ?_
  refine jd_iconst (v := 0) zd_A_cheapestPlace_5 (by decide) ?_
  refine jd_istore zd_A_cheapestPlace_6 (by decide) ?_
  exact jd_sub [(0, av_r 0), (1, av_r 4), (2, av_i t), (3, av_i (fa_ch S (S 4) gn t 0).1), (4, av_i (fa_ch S (S 4) gn t 0).2), (5, av_i (nI 0))] ⟨rfl, rfl, rfl, rfl, rfl, rfl, trivial⟩ (kl_cheapest (Qp := po_i (fa_ch S (S 4) gn t w.2.2.2).1 S L) hls hN hgn hg t ⟨rfl, rfl, rfl⟩ (w.2.2.2 + 1) 0 (by omega) (by omega))
set_option maxRecDepth 100000 in
set_option maxHeartbeats 4000000 in
theorem kl_bound {l : Launch} (hls : l.stackTraces = false) {D : va_G} {w : wd_T} {S : Nat → Nat → Int32} {L : Nat → Nat → Int64} (hN : ok_N w S) (hU : ok_U w S) {Qp : jd_P}  : ∀ (k u : Nat), u ≤ w.2.2.1 → w.2.2.1 < u + k → ∀ (c : Int32) (T : Nat → Nat → Int32), sw_S S T → (∀ T2, sw_S S T2 → Qp.1 (some (av_i (fa_bd S w.2.2.1 w.2.2.2 (w.2.2.1 - u) u c))) T2 L) → jd_J l D w zn_A zb_A_bound 5 (Option.some Jvm.ClassFile.FieldType.int) [] ({ frames := 3, cells := 0, slots := 0, locals := 65 } : Room) 0 0 Qp 0 0 4 [(0, av_r 0), (1, av_i c), (2, av_i (nI u))] [] T L := by
  have h12 := hN.1
  have h13 := hN.2.1
  intro k
  induction k with
  | zero => intro u h1 h2; omega
  | succ k ih =>
    intro u hu hk c T hT hQ
    refine jd_iload_n zd_A_bound_4 rfl ?_
    refine jd_aload_n zd_A_bound_5 rfl ?_
    refine jd_get rfl rfl zl_A 6 (by decide) zi_148 rfl rfl rfl (by decide) zd_A_bound_6 ?_
    refine jd_icmp_ge 58 zd_A_bound_9 (by decide) (fun h_9 => ?_) (fun h_9 => ?_)
    · have e_u := nI_end (ok_N_sw hT hN).2.2.1 (by omega) hu h_9
      subst e_u
      rw [Nat.sub_self] at hQ
      simp only [fa_bd] at hQ
      refine jd_iload_n zd_A_bound_58 rfl ?_
      exact jd_iret rfl (hQ T hT) (by decide) (by decide) zd_A_bound_59
    · have hu2 := nI_on (ok_N_sw hT hN).2.2.1 (by omega) hu h_9
      have e_k : w.2.2.1 - u = (w.2.2.1 - (u + 1)) + 1 := by omega
      rw [e_k] at hQ
      simp only [fa_bd] at hQ
      refine jd_aload_n zd_A_bound_12 rfl ?_
      refine jd_iload_n zd_A_bound_13 rfl ?_
      refine jd_callV (n := 1) (kc_isGroup hls h12 hu2) rfl rfl rfl rfl (by decide) zi_184 zi_186 zi_0 zi_41 zi_187 (by decide +kernel) rfl rfl rfl (by decide) (Nat.le_of_ble_eq_true rfl) (by decide) zd_A_bound_14 (fun _ _ _ h => h.elim) (fun v S2 L2 hq => ?_)
      obtain ⟨rfl, rfl, rfl⟩ := hq
      rw [fa_gr_sw hT]
      refine jd_if_eq 52 zd_A_bound_17 (by decide) (fun h_17 => ?_) (fun h_17 => ?_)
      · rw [if_neg (by cases hg : fa_gr S u <;> simp_all [bi_of])] at hQ
        refine jd_iinc (v := nI (u + 1)) zd_A_bound_52 rfl (nI_inc u) (by decide) ?_
        refine jd_goto 4 zd_A_bound_55 (by decide) ?_
        exact jd_sub [(0, av_r 0), (1, av_i _), (2, av_i (nI (u + 1)))] ⟨rfl, rfl, rfl, trivial⟩ (ih (u + 1) (by omega) (by omega) _ _ hT hQ)
      · rw [if_pos (by cases hg : fa_gr S u <;> simp_all [bi_of])] at hQ
        refine jd_aload_n zd_A_bound_20 rfl ?_
        refine jd_iload_n zd_A_bound_21 rfl ?_
        refine jd_callV (n := 1) (kc_gather hls (ok_N_sw hT hN) (ok_U_sw hT hU) (nI u)) rfl rfl rfl rfl (by decide) zi_192 zi_194 zi_2 zi_41 zi_195 (by decide +kernel) rfl rfl rfl (by decide) (Nat.le_of_ble_eq_true rfl) (by decide) zd_A_bound_22 (fun _ _ _ h => h.elim) (fun v S2 L2 hq => ?_)
        obtain ⟨rfl, rfl, rfl⟩ := hq
        rw [fa_ga_sw hT]
        have hT2 : sw_S S (va_up T 4 (fa_ga S (nI u) w.2.2.1)) := hT.up (by decide) (by decide) _
        refine jd_astore_n zd_A_bound_25 (by decide) ?_
        refine jd_aload_n zd_A_bound_26 rfl ?_
        refine jd_aload_n zd_A_bound_27 rfl ?_
        refine jd_iconst (v := 0) zd_A_bound_28 (by decide) ?_
        refine jd_callV (n := 2) (kc_cheapest hls (ok_N_sw hT2 hN) hu2 (by rw [up_44]; exact fa_ga_0 _ _ _) 0) rfl rfl rfl rfl (by decide) zi_207 zi_209 zi_3 zi_41 zi_210 (by decide +kernel) rfl rfl rfl (by decide) (Nat.le_of_ble_eq_true rfl) (by decide) zd_A_bound_29 (fun _ _ _ h => h.elim) (fun v S2 L2 hq => ?_)
        obtain ⟨rfl, rfl, rfl⟩ := hq
        rw [up_44, fa_ch_sw hT2]
        refine jd_istore zd_A_bound_32 (by decide) ?_
        refine jd_iload zd_A_bound_34 rfl ?_
        refine jd_iconst (v := (-1)) zd_A_bound_36 (by decide) ?_
        refine jd_icmp_ne 42 zd_A_bound_37 (by decide) (fun h_37 => ?_) (fun h_37 => ?_)
        · rw [if_neg h_37] at hQ
          obtain ⟨p, hp, ep⟩ : ∃ p, p < w.2.2.2 ∧ (fa_ch S (fa_ga S (nI u) w.2.2.1) u 0 w.2.2.2).1 = nI p := (fa_ch_in _ _ _ _ _).resolve_left h_37
          refine jd_iload_n zd_A_bound_42 rfl ?_
          refine jd_aload_n zd_A_bound_43 rfl ?_
          refine jd_aload_n zd_A_bound_44 rfl ?_
          refine jd_iload zd_A_bound_45 rfl ?_
          refine jd_callV (n := 2) (kc_costAt hls h12 h13 hu2 (by rw [up_44]; exact fa_ga_0 _ _ _) hp ep) rfl rfl rfl rfl (by decide) zi_215 zi_217 zi_5 zi_41 zi_218 (by decide +kernel) rfl rfl rfl (by decide) (Nat.le_of_ble_eq_true rfl) (by decide) zd_A_bound_47 (fun _ _ _ h => h.elim) (fun v S2 L2 hq => ?_)
          obtain ⟨rfl, rfl, rfl⟩ := hq
          rw [up_44, fa_co_sw hT2]
          rw [ep, nI_clamp (show p < 2 ^ 31 by omega)] at hQ
          refine jd_iadd zd_A_bound_50 ?_
          refine jd_istore_n zd_A_bound_51 (by decide) ?_
          refine jd_iinc (v := nI (u + 1)) zd_A_bound_52 rfl (nI_inc u) (by decide) ?_
          refine jd_goto 4 zd_A_bound_55 (by decide) ?_
          exact jd_sub [(0, av_r 0), (1, av_i _), (2, av_i (nI (u + 1)))] ⟨rfl, rfl, rfl, trivial⟩ (ih (u + 1) (by omega) (by omega) _ _ hT2 hQ)
        · rw [if_pos h_37] at hQ
          refine jd_iconst (v := (-1)) zd_A_bound_40 (by decide) ?_
          exact jd_iret rfl (hQ _ hT2) (by decide) (by decide) zd_A_bound_41
set_option maxRecDepth 100000 in
set_option maxHeartbeats 4000000 in
theorem kc_bound {l : Launch} (hls : l.stackTraces = false) {D : va_G} {w : wd_T} {S : Nat → Nat → Int32} {L : Nat → Nat → Int64} (hN : ok_N w S) (hU : ok_U w S) : ct_M l D w zy_A_bound (Cond.code zy_A_bound zb_A_bound 5 (Option.some Jvm.ClassFile.FieldType.int)) ({ frames := 3, cells := 0, slots := 0, locals := 65 } : Room) [av_r 0] S L (po_w (fa_bd S w.2.2.1 w.2.2.2 w.2.2.1 0 0) S L) 0 0 := by
  refine ct_intro hls (own := zn_A) (by decide) rfl (Nat.le_of_ble_eq_true rfl) ?_
  refine jd_iconst (v := 0) zd_A_bound_0 (by decide) ?_
  refine jd_istore_n zd_A_bound_1 (by decide) ?_
  refine jd_iconst (v := 0) zd_A_bound_2 (by decide) ?_
  refine jd_istore_n zd_A_bound_3 (by decide) ?_
  exact jd_sub [(0, av_r 0), (1, av_i 0), (2, av_i (nI 0))] ⟨rfl, rfl, rfl, trivial⟩ (kl_bound (S := S) (Qp := po_w (fa_bd S w.2.2.1 w.2.2.2 w.2.2.1 0 0) S L) hls hN hU (w.2.2.1 + 1) 0 (by omega) (by omega) 0 S (sw_refl S) (fun T2 h => ⟨rfl, h, sw_reflL L⟩))
set_option maxRecDepth 100000 in
set_option maxHeartbeats 4000000 in
theorem kl_plannedCosts {l : Launch} (hls : l.stackTraces = false) {D : va_G} {w : wd_T} {S : Nat → Nat → Int32} {L : Nat → Nat → Int64} (hN : ok_N w S) (hU : ok_U w S) {Qp : jd_P} (hQ : ∀ T2, sw_S S T2 → Qp.1 (some (av_i (fa_pc S w.2.2.1 w.2.2.1))) T2 L) : ∀ (k u : Nat), u ≤ w.2.2.1 → w.2.2.1 < u + k → ∀ (c : Int32) (T : Nat → Nat → Int32), sw_S S T → c = fa_pc S w.2.2.1 u → jd_J l D w zn_A zb_A_plannedCosts 3 (Option.some Jvm.ClassFile.FieldType.int) [] ({ frames := 3, cells := 0, slots := 0, locals := 65 } : Room) 0 0 Qp 0 0 4 [(0, av_r 0), (1, av_i c), (2, av_i (nI u))] [] T L := by
  have h12 := hN.1
  have h13 := hN.2.1
  intro k
  induction k with
  | zero => intro u h1 h2; omega
  | succ k ih =>
    intro u hu hk c T hT hc
    refine jd_iload_n zd_A_plannedCosts_4 rfl ?_
    refine jd_aload_n zd_A_plannedCosts_5 rfl ?_
    refine jd_get rfl rfl zl_A 6 (by decide) zi_148 rfl rfl rfl (by decide) zd_A_plannedCosts_6 ?_
    refine jd_icmp_ge 59 zd_A_plannedCosts_9 (by decide) (fun h_9 => ?_) (fun h_9 => ?_)
    · have e_u := nI_end (ok_N_sw hT hN).2.2.1 (by omega) hu h_9
      subst e_u
      subst hc
      refine jd_iload_n zd_A_plannedCosts_59 rfl ?_
      exact jd_iret rfl (hQ T hT) (by decide) (by decide) zd_A_plannedCosts_60
    · have hu2 := nI_on (ok_N_sw hT hN).2.2.1 (by omega) hu h_9
      refine jd_aload_n zd_A_plannedCosts_12 rfl ?_
      refine jd_iload_n zd_A_plannedCosts_13 rfl ?_
      refine jd_callV (n := 1) (kc_isGroup hls h12 hu2) rfl rfl rfl rfl (by decide) zi_184 zi_186 zi_0 zi_41 zi_187 (by decide +kernel) rfl rfl rfl (by decide) (Nat.le_of_ble_eq_true rfl) (by decide) zd_A_plannedCosts_14 (fun _ _ _ h => h.elim) (fun v S2 L2 hq => ?_)
      obtain ⟨rfl, rfl, rfl⟩ := hq
      rw [fa_gr_sw hT]
      refine jd_if_eq 53 zd_A_plannedCosts_17 (by decide) (fun h_17 => ?_) (fun h_17 => ?_)
      · refine jd_iinc (v := nI (u + 1)) zd_A_plannedCosts_53 rfl (nI_inc u) (by decide) ?_
        refine jd_goto 4 zd_A_plannedCosts_56 (by decide) ?_
        exact jd_sub [(0, av_r 0), (1, av_i _), (2, av_i (nI (u + 1)))] ⟨rfl, rfl, rfl, trivial⟩ (ih (u + 1) (by omega) (by omega) _ _ hT (by cases hg : fa_gr S u <;> cases hg2 : fa_pl S u <;> simp_all [bi_of, fa_pc]))
      · refine jd_aload_n zd_A_plannedCosts_20 rfl ?_
        refine jd_get rfl rfl zl_A 0 (by decide) zi_142 rfl rfl rfl (by decide) zd_A_plannedCosts_21 ?_
        refine jd_iload_n zd_A_plannedCosts_24 rfl ?_
        refine jd_unit rfl hu2 h12 zd_A_plannedCosts_25 ?_
        refine jd_callS (n := 1) (kc_isPlanned hls hu2 h12) rfl zi_594 zi_595 zi_41 zi_596 (by decide +kernel) rfl rfl rfl (by decide) (Nat.le_of_ble_eq_true rfl) (by decide) zd_A_plannedCosts_26 (fun _ _ _ h => h.elim) (fun v S2 L2 hq => ?_)
        obtain ⟨rfl, rfl, rfl⟩ := hq
        rw [fa_pl_sw hT]
        refine jd_if_eq 53 zd_A_plannedCosts_29 (by decide) (fun h_29 => ?_) (fun h_29 => ?_)
        · refine jd_iinc (v := nI (u + 1)) zd_A_plannedCosts_53 rfl (nI_inc u) (by decide) ?_
          refine jd_goto 4 zd_A_plannedCosts_56 (by decide) ?_
          exact jd_sub [(0, av_r 0), (1, av_i _), (2, av_i (nI (u + 1)))] ⟨rfl, rfl, rfl, trivial⟩ (ih (u + 1) (by omega) (by omega) _ _ hT (by cases hg : fa_gr S u <;> cases hg2 : fa_pl S u <;> simp_all [bi_of, fa_pc]))
        · have hg : fa_pl S u = true := by cases hg : fa_pl S u <;> simp_all [bi_of]
          obtain ⟨p, hp, ep⟩ : ∃ p, p < w.2.2.2 ∧ S (100 + u) 3 = nI p := by
            rcases (hU u hu2).2.2.1 with e | e
            · simp [fa_pl, e] at hg
            · exact e
          refine jd_iload_n zd_A_plannedCosts_32 rfl ?_
          refine jd_aload_n zd_A_plannedCosts_33 rfl ?_
          refine jd_aload_n zd_A_plannedCosts_34 rfl ?_
          refine jd_iload_n zd_A_plannedCosts_35 rfl ?_
          refine jd_callV (n := 1) (kc_gather hls (ok_N_sw hT hN) (ok_U_sw hT hU) (nI u)) rfl rfl rfl rfl (by decide) zi_192 zi_194 zi_2 zi_41 zi_195 (by decide +kernel) rfl rfl rfl (by decide) (Nat.le_of_ble_eq_true rfl) (by decide) zd_A_plannedCosts_36 (fun _ _ _ h => h.elim) (fun v S2 L2 hq => ?_)
          obtain ⟨rfl, rfl, rfl⟩ := hq
          rw [fa_ga_sw hT]
          have hT2 : sw_S S (va_up T 4 (fa_ga S (nI u) w.2.2.1)) := hT.up (by decide) (by decide) _
          refine jd_aload_n zd_A_plannedCosts_39 rfl ?_
          refine jd_get rfl rfl zl_A 0 (by decide) zi_142 rfl rfl rfl (by decide) zd_A_plannedCosts_40 ?_
          refine jd_iload_n zd_A_plannedCosts_43 rfl ?_
          refine jd_unit rfl hu2 h12 zd_A_plannedCosts_44 ?_
          refine jd_get (ac_U (by omega)) rfl zl_U 3 (by decide) zi_343 rfl rfl (rl_U (by omega)) (by omega) zd_A_plannedCosts_45 ?_
          rw [hT2.u]
          refine jd_callV (n := 2) (kc_costAt hls h12 h13 hu2 (by rw [up_44]; exact fa_ga_0 _ _ _) hp ep) rfl rfl rfl rfl (by decide) zi_215 zi_217 zi_5 zi_41 zi_218 (by decide +kernel) rfl rfl rfl (by decide) (Nat.le_of_ble_eq_true rfl) (by decide) zd_A_plannedCosts_48 (fun _ _ _ h => h.elim) (fun v S2 L2 hq => ?_)
          obtain ⟨rfl, rfl, rfl⟩ := hq
          rw [up_44, fa_co_sw hT2]
          have ecl : (S (100 + u) 3).toNatClampNeg = p := by rw [ep]; exact nI_clamp (show p < 2 ^ 31 by omega)
          refine jd_iadd zd_A_plannedCosts_51 ?_
          refine jd_istore_n zd_A_plannedCosts_52 (by decide) ?_
          refine jd_iinc (v := nI (u + 1)) zd_A_plannedCosts_53 rfl (nI_inc u) (by decide) ?_
          refine jd_goto 4 zd_A_plannedCosts_56 (by decide) ?_
          exact jd_sub [(0, av_r 0), (1, av_i _), (2, av_i (nI (u + 1)))] ⟨rfl, rfl, rfl, trivial⟩ (ih (u + 1) (by omega) (by omega) _ _ hT2 (by cases hg : fa_gr S u <;> cases hg2 : fa_pl S u <;> simp_all [bi_of, fa_pc]))
set_option maxRecDepth 100000 in
set_option maxHeartbeats 4000000 in
theorem kc_plannedCosts {l : Launch} (hls : l.stackTraces = false) {D : va_G} {w : wd_T} {S : Nat → Nat → Int32} {L : Nat → Nat → Int64} (hN : ok_N w S) (hU : ok_U w S) : ct_M l D w zy_A_plannedCosts (Cond.code zy_A_plannedCosts zb_A_plannedCosts 3 (Option.some Jvm.ClassFile.FieldType.int)) ({ frames := 3, cells := 0, slots := 0, locals := 65 } : Room) [av_r 0] S L (po_w (fa_pc S w.2.2.1 w.2.2.1) S L) 0 0 := by
  refine ct_intro hls (own := zn_A) (by decide) rfl (Nat.le_of_ble_eq_true rfl) ?_
  refine jd_iconst (v := 0) zd_A_plannedCosts_0 (by decide) ?_
  refine jd_istore_n zd_A_plannedCosts_1 (by decide) ?_
  refine jd_iconst (v := 0) zd_A_plannedCosts_2 (by decide) ?_
  refine jd_istore_n zd_A_plannedCosts_3 (by decide) ?_
  exact jd_sub [(0, av_r 0), (1, av_i 0), (2, av_i (nI 0))] ⟨rfl, rfl, rfl, trivial⟩ (kl_plannedCosts (S := S) (Qp := po_w (fa_pc S w.2.2.1 w.2.2.1) S L) hls hN hU (fun T2 h => ⟨rfl, h, sw_reflL L⟩) (w.2.2.1 + 1) 0 (by omega) (by omega) 0 S (sw_refl S) rfl)
set_option maxRecDepth 100000 in
set_option maxHeartbeats 4000000 in
theorem kl_takeDraft {l : Launch} (hls : l.stackTraces = false) {D : va_G} {w : wd_T} {S : Nat → Nat → Int32} {L : Nat → Nat → Int64} (hN : ok_N w S) {Qp : jd_P} (hQ : Qp.1 none (fa_td S w.2.2.1 w.2.2.1) L) : ∀ (k u : Nat), u ≤ w.2.2.1 → w.2.2.1 < u + k → jd_J l D w zn_A zb_A_takeDraft 2 (Option.none : Option Jvm.ClassFile.FieldType) [] ({ frames := 2, cells := 0, slots := 0, locals := 45 } : Room) 0 0 Qp 0 0 2 [(0, av_r 0), (1, av_i (nI u))] [] (fa_td S w.2.2.1 u) L := by
  have h12 := hN.1
  intro k
  induction k with
  | zero => intro u h1 h2; omega
  | succ k ih =>
    intro u hu hk
    refine jd_iload_n zd_A_takeDraft_2 rfl ?_
    refine jd_aload_n zd_A_takeDraft_3 rfl ?_
    refine jd_get rfl rfl zl_A 6 (by decide) zi_148 rfl rfl rfl (by decide) zd_A_takeDraft_4 ?_
    refine jd_icmp_ge 35 zd_A_takeDraft_7 (by decide) (fun h_7 => ?_) (fun h_7 => ?_)
    · have e_u := nI_end (ok_N_td hN).2.2.1 (by omega) hu h_7
      subst e_u
      exact jd_vret rfl hQ (by decide) (by decide) zd_A_takeDraft_35
    · have hu2 := nI_on (ok_N_td hN).2.2.1 (by omega) hu h_7
      refine jd_aload_n zd_A_takeDraft_10 rfl ?_
      refine jd_iload_n zd_A_takeDraft_11 rfl ?_
      refine jd_callV (n := 1) (kc_isGroup hls h12 hu2) rfl rfl rfl rfl (by decide) zi_184 zi_186 zi_0 zi_41 zi_187 (by decide +kernel) rfl rfl rfl (by decide) (Nat.le_of_ble_eq_true rfl) (by decide) zd_A_takeDraft_12 (fun _ _ _ h => h.elim) (fun v S2 L2 hq => ?_)
      obtain ⟨rfl, rfl, rfl⟩ := hq
      refine jd_if_eq 29 zd_A_takeDraft_15 (by decide) (fun h_15 => ?_) (fun h_15 => ?_)
      · refine jd_iinc (v := nI (u + 1)) zd_A_takeDraft_29 rfl (nI_inc u) (by decide) ?_
        refine jd_goto 2 zd_A_takeDraft_32 (by decide) ?_
        refine jd_eqS (S' := fa_td S w.2.2.1 (u + 1)) (by cases hg : fa_gr (fa_td S w.2.2.1 u) u <;> simp_all [fa_td, bi_of]) ?_
        exact jd_sub [(0, av_r 0), (1, av_i (nI (u + 1)))] ⟨rfl, rfl, trivial⟩ (ih (u + 1) (by omega) (by omega))
      · refine jd_aload_n zd_A_takeDraft_18 rfl ?_
        refine jd_iload_n zd_A_takeDraft_19 rfl ?_
        refine jd_aload_n zd_A_takeDraft_20 rfl ?_
        refine jd_get rfl rfl zl_A 5 (by decide) zi_147 rfl rfl rfl (by decide) zd_A_takeDraft_21 ?_
        refine jd_iload_n zd_A_takeDraft_24 rfl ?_
        refine jd_iald (r := 6) rfl (vp_in_nI (show u < 12 by omega) (by decide)) rfl (by decide) zd_A_takeDraft_25 ?_
        rw [nI_clamp (show u < 2 ^ 31 by omega)]
        refine jd_callV (n := 2) (kc_planFor hls (ok_N_td hN) (nI u) (fa_td S w.2.2.1 u 6 u)) rfl rfl rfl rfl (by decide) zi_487 zi_489 zi_12 zi_41 zi_490 (by decide +kernel) rfl rfl rfl (by decide) (Nat.le_of_ble_eq_true rfl) (by decide) zd_A_takeDraft_26 (fun _ _ _ h => h.elim) (fun v S2 L2 hq => ?_)
        obtain ⟨rfl, rfl, rfl⟩ := hq
        refine jd_iinc (v := nI (u + 1)) zd_A_takeDraft_29 rfl (nI_inc u) (by decide) ?_
        refine jd_goto 2 zd_A_takeDraft_32 (by decide) ?_
        refine jd_eqS (S' := fa_td S w.2.2.1 (u + 1)) (by cases hg : fa_gr (fa_td S w.2.2.1 u) u <;> simp_all [fa_td, bi_of]) ?_
        exact jd_sub [(0, av_r 0), (1, av_i (nI (u + 1)))] ⟨rfl, rfl, trivial⟩ (ih (u + 1) (by omega) (by omega))
set_option maxRecDepth 100000 in
set_option maxHeartbeats 4000000 in
theorem kc_takeDraft {l : Launch} (hls : l.stackTraces = false) {D : va_G} {w : wd_T} {S : Nat → Nat → Int32} {L : Nat → Nat → Int64} (hN : ok_N w S) : ct_M l D w zy_A_takeDraft (Cond.code zy_A_takeDraft zb_A_takeDraft 2 (Option.none : Option Jvm.ClassFile.FieldType)) ({ frames := 2, cells := 0, slots := 0, locals := 45 } : Room) [av_r 0] S L (po_S (fa_td S w.2.2.1 w.2.2.1) L) 0 0 := by
  refine ct_intro hls (own := zn_A) (by decide) rfl (Nat.le_of_ble_eq_true rfl) ?_
  refine jd_iconst (v := 0) zd_A_takeDraft_0 (by decide) ?_
  refine jd_istore_n zd_A_takeDraft_1 (by decide) ?_
  exact jd_sub [(0, av_r 0), (1, av_i (nI 0))] ⟨rfl, rfl, trivial⟩ (kl_takeDraft (Qp := po_S (fa_td S w.2.2.1 w.2.2.1) L) hls hN ⟨rfl, rfl, rfl⟩ (w.2.2.1 + 1) 0 (by omega) (by omega))
set_option maxRecDepth 100000 in
set_option maxHeartbeats 4000000 in
theorem kl_oneByOne {l : Launch} (hls : l.stackTraces = false) {D : va_G} {w : wd_T} {S : Nat → Nat → Int32} {L : Nat → Nat → Int64} (hN : ok_N w S) (hU : ok_U w S) {Qp : jd_P} (hQ : ∀ T2, sw_S S T2 → (∀ v, v < w.2.2.1 → fa_gr S v = true → T2 6 v = (fa_d1 S w.2.2.1 w.2.2.2 w.2.2.1).2.2 v) → Qp.1 (some (av_i (fa_d1 S w.2.2.1 w.2.2.2 w.2.2.1).2.1)) T2 L) : ∀ (k u : Nat), u ≤ w.2.2.1 → w.2.2.1 < u + k → ∀ (T : Nat → Nat → Int32), sw_S S T → (∀ v, v < u → fa_gr S v = true → T 6 v = (fa_d1 S w.2.2.1 w.2.2.2 u).2.2 v) → jd_J l D w zn_A zb_A_draftOneByOne 6 (Option.some Jvm.ClassFile.FieldType.int) [] ({ frames := 3, cells := 0, slots := 0, locals := 65 } : Room) 0 0 Qp 0 0 6 [(0, av_r 0), (1, av_i (fa_d1 S w.2.2.1 w.2.2.2 u).1), (2, av_i (fa_d1 S w.2.2.1 w.2.2.2 u).2.1), (3, av_i (nI u))] [] T L := by
  have h12 := hN.1
  have h13 := hN.2.1
  intro k
  induction k with
  | zero => intro u h1 h2; omega
  | succ k ih =>
    intro u hu hk T hT hd
    refine jd_iload_n zd_A_draftOneByOne_6 rfl ?_
    refine jd_aload_n zd_A_draftOneByOne_7 rfl ?_
    refine jd_get rfl rfl zl_A 6 (by decide) zi_148 rfl rfl rfl (by decide) zd_A_draftOneByOne_8 ?_
    refine jd_icmp_ge 76 zd_A_draftOneByOne_11 (by decide) (fun h_11 => ?_) (fun h_11 => ?_)
    · have e_u := nI_end (ok_N_sw hT hN).2.2.1 (by omega) hu h_11
      subst e_u
      refine jd_iload_n zd_A_draftOneByOne_76 rfl ?_
      exact jd_iret rfl (hQ T hT hd) (by decide) (by decide) zd_A_draftOneByOne_77
    · have hu2 := nI_on (ok_N_sw hT hN).2.2.1 (by omega) hu h_11
      refine jd_aload_n zd_A_draftOneByOne_14 rfl ?_
      refine jd_iload_n zd_A_draftOneByOne_15 rfl ?_
      refine jd_callV (n := 1) (kc_isGroup hls h12 hu2) rfl rfl rfl rfl (by decide) zi_184 zi_186 zi_0 zi_41 zi_187 (by decide +kernel) rfl rfl rfl (by decide) (Nat.le_of_ble_eq_true rfl) (by decide) zd_A_draftOneByOne_16 (fun _ _ _ h => h.elim) (fun v S2 L2 hq => ?_)
      obtain ⟨rfl, rfl, rfl⟩ := hq
      rw [fa_gr_sw hT]
      refine jd_if_eq 70 zd_A_draftOneByOne_19 (by decide) (fun h_19 => ?_) (fun h_19 => ?_)
      · have hgr : ¬ fa_gr S u = true := by cases hg : fa_gr S u <;> simp_all [bi_of]
        refine jd_iinc (v := nI (u + 1)) zd_A_draftOneByOne_70 rfl (nI_inc u) (by decide) ?_
        refine jd_goto 6 zd_A_draftOneByOne_73 (by decide) ?_
        exact jd_sub [(0, av_r 0), (1, av_i (fa_d1 S w.2.2.1 w.2.2.2 (u + 1)).1), (2, av_i (fa_d1 S w.2.2.1 w.2.2.2 (u + 1)).2.1), (3, av_i (nI (u + 1)))] ⟨rfl, by rw [sw_d1n hgr]; rfl, by rw [sw_d1n hgr]; rfl, rfl, trivial⟩ (ih (u + 1) (by omega) (by omega) _ hT (fun v hv hg => by rw [sw_d1n hgr]; exact hd v (Nat.lt_of_le_of_ne (Nat.le_of_lt_succ hv) (fun e => hgr (e ▸ hg))) hg))
      · have hgr : fa_gr S u = true := by cases hg : fa_gr S u <;> simp_all [bi_of]
        refine jd_aload_n zd_A_draftOneByOne_22 rfl ?_
        refine jd_iload_n zd_A_draftOneByOne_23 rfl ?_
        refine jd_callV (n := 1) (kc_gather hls (ok_N_sw hT hN) (ok_U_sw hT hU) (nI u)) rfl rfl rfl rfl (by decide) zi_192 zi_194 zi_2 zi_41 zi_195 (by decide +kernel) rfl rfl rfl (by decide) (Nat.le_of_ble_eq_true rfl) (by decide) zd_A_draftOneByOne_24 (fun _ _ _ h => h.elim) (fun v S2 L2 hq => ?_)
        obtain ⟨rfl, rfl, rfl⟩ := hq
        rw [fa_ga_sw hT]
        have hT2 : sw_S S (va_up T 4 (fa_ga S (nI u) w.2.2.1)) := hT.up (by decide) (by decide) _
        refine jd_astore zd_A_draftOneByOne_27 (by decide) ?_
        refine jd_aload_n zd_A_draftOneByOne_29 rfl ?_
        refine jd_aload zd_A_draftOneByOne_30 rfl ?_
        refine jd_iload_n zd_A_draftOneByOne_32 rfl ?_
        refine jd_callV (n := 2) (kc_cheapest hls (ok_N_sw hT2 hN) hu2 (by rw [up_44]; exact fa_ga_0 _ _ _) (fa_d1 S w.2.2.1 w.2.2.2 u).1) rfl rfl rfl rfl (by decide) zi_207 zi_209 zi_3 zi_41 zi_210 (by decide +kernel) rfl rfl rfl (by decide) (Nat.le_of_ble_eq_true rfl) (by decide) zd_A_draftOneByOne_33 (fun _ _ _ h => h.elim) (fun v S2 L2 hq => ?_)
        obtain ⟨rfl, rfl, rfl⟩ := hq
        rw [up_44, fa_ch_sw hT2]
        refine jd_istore zd_A_draftOneByOne_36 (by decide) ?_
        refine jd_aload_n zd_A_draftOneByOne_38 rfl ?_
        refine jd_get rfl rfl zl_A 5 (by decide) zi_147 rfl rfl rfl (by decide) zd_A_draftOneByOne_39 ?_
        refine jd_iload_n zd_A_draftOneByOne_42 rfl ?_
        refine jd_iload zd_A_draftOneByOne_43 rfl ?_
        refine jd_iast (r := 6) (fun _ => rfl) (vp_in_nI (show u < 12 by omega) (by decide)) rfl (by decide) zd_A_draftOneByOne_45 ?_
        rw [nI_clamp (show u < 2 ^ 31 by omega), va_up_ne _ _ (show (6 : Nat) ≠ 4 by decide)]
        have hT3 := hT2.up (r := 6) (by decide) (by decide) (upd (T 6) u (fa_ch S (fa_ga S (nI u) w.2.2.1) u (fa_d1 S w.2.2.1 w.2.2.2 u).1 w.2.2.2).1)
        have hd2 := sw_dr (T := va_up T 4 (fa_ga S (nI u) w.2.2.1)) (q := 6) (n := u) (c := (fa_ch S (fa_ga S (nI u) w.2.2.1) u (fa_d1 S w.2.2.1 w.2.2.2 u).1 w.2.2.2).1) hd
        refine jd_iload zd_A_draftOneByOne_46 rfl ?_
        refine jd_iconst (v := (-1)) zd_A_draftOneByOne_48 (by decide) ?_
        refine jd_icmp_eq 70 zd_A_draftOneByOne_49 (by decide) (fun h_49 => ?_) (fun h_49 => ?_)
        · refine jd_iinc (v := nI (u + 1)) zd_A_draftOneByOne_70 rfl (nI_inc u) (by decide) ?_
          refine jd_goto 6 zd_A_draftOneByOne_73 (by decide) ?_
          rw [sw_d1d hgr h_49] at hd2
          exact jd_sub [(0, av_r 0), (1, av_i (fa_d1 S w.2.2.1 w.2.2.2 (u + 1)).1), (2, av_i (fa_d1 S w.2.2.1 w.2.2.2 (u + 1)).2.1), (3, av_i (nI (u + 1)))] ⟨rfl, by rw [sw_d1e hgr h_49]; rfl, by rw [sw_d1f hgr h_49]; rfl, rfl, trivial⟩ (ih (u + 1) (by omega) (by omega) _ hT3 hd2)
        · obtain ⟨p, hp, ep⟩ : ∃ p, p < w.2.2.2 ∧ (fa_ch S (fa_ga S (nI u) w.2.2.1) u (fa_d1 S w.2.2.1 w.2.2.2 u).1 w.2.2.2).1 = nI p := (fa_ch_in _ _ _ _ _).resolve_left h_49
          have ecl : (fa_ch S (fa_ga S (nI u) w.2.2.1) u (fa_d1 S w.2.2.1 w.2.2.2 u).1 w.2.2.2).1.toNatClampNeg = p := by rw [ep]; exact nI_clamp (show p < 2 ^ 31 by omega)
          refine jd_iload_n zd_A_draftOneByOne_52 rfl ?_
          refine jd_iconst (v := 1) zd_A_draftOneByOne_53 (by decide) ?_
          refine jd_iload zd_A_draftOneByOne_54 rfl ?_
          refine jd_ishl zd_A_draftOneByOne_56 ?_
          refine jd_ior zd_A_draftOneByOne_57 ?_
          refine jd_istore_n zd_A_draftOneByOne_58 (by decide) ?_
          refine jd_iload_n zd_A_draftOneByOne_59 rfl ?_
          refine jd_aload_n zd_A_draftOneByOne_60 rfl ?_
          refine jd_aload zd_A_draftOneByOne_61 rfl ?_
          refine jd_iload zd_A_draftOneByOne_63 rfl ?_
          refine jd_callV (n := 2) (kc_costAt hls h12 h13 hu2 (by rw [va_up_ne _ _ (show (4 : Nat) ≠ 6 by decide), up_44]; exact fa_ga_0 _ _ _) hp ep) rfl rfl rfl rfl (by decide) zi_215 zi_217 zi_5 zi_41 zi_218 (by decide +kernel) rfl rfl rfl (by decide) (Nat.le_of_ble_eq_true rfl) (by decide) zd_A_draftOneByOne_65 (fun _ _ _ h => h.elim) (fun v S2 L2 hq => ?_)
          obtain ⟨rfl, rfl, rfl⟩ := hq
          rw [va_up_ne _ _ (show (4 : Nat) ≠ 6 by decide), up_44, fa_co_sw hT3]
          refine jd_iadd zd_A_draftOneByOne_68 ?_
          refine jd_istore_n zd_A_draftOneByOne_69 (by decide) ?_
          refine jd_iinc (v := nI (u + 1)) zd_A_draftOneByOne_70 rfl (nI_inc u) (by decide) ?_
          refine jd_goto 6 zd_A_draftOneByOne_73 (by decide) ?_
          rw [sw_d1a hgr h_49] at hd2
          exact jd_sub [(0, av_r 0), (1, av_i (fa_d1 S w.2.2.1 w.2.2.2 (u + 1)).1), (2, av_i (fa_d1 S w.2.2.1 w.2.2.2 (u + 1)).2.1), (3, av_i (nI (u + 1)))] ⟨rfl, by rw [sw_d1b hgr h_49]; rfl, by rw [sw_d1c hgr h_49, ecl]; rfl, rfl, trivial⟩ (ih (u + 1) (by omega) (by omega) _ hT3 hd2)
set_option maxRecDepth 100000 in
set_option maxHeartbeats 4000000 in
theorem kc_oneByOne {l : Launch} (hls : l.stackTraces = false) {D : va_G} {w : wd_T} {S : Nat → Nat → Int32} {L : Nat → Nat → Int64} (hN : ok_N w S) (hU : ok_U w S) : ct_M l D w zy_A_draftOneByOne (Cond.code zy_A_draftOneByOne zb_A_draftOneByOne 6 (Option.some Jvm.ClassFile.FieldType.int)) ({ frames := 3, cells := 0, slots := 0, locals := 65 } : Room) [av_r 0] S L (po_wd (fa_d1 S w.2.2.1 w.2.2.2 w.2.2.1).2.1 (fun d => ∀ v, v < w.2.2.1 → fa_gr S v = true → d v = (fa_d1 S w.2.2.1 w.2.2.2 w.2.2.1).2.2 v) S L) 0 0 := by
  refine ct_intro hls (own := zn_A) (by decide) rfl (Nat.le_of_ble_eq_true rfl) ?_
  refine jd_iconst (v := 0) zd_A_draftOneByOne_0 (by decide) ?_
  refine jd_istore_n zd_A_draftOneByOne_1 (by decide) ?_
  refine jd_iconst (v := 0) zd_A_draftOneByOne_2 (by decide) ?_
  refine jd_istore_n zd_A_draftOneByOne_3 (by decide) ?_
  refine jd_iconst (v := 0) zd_A_draftOneByOne_4 (by decide) ?_
  refine jd_istore_n zd_A_draftOneByOne_5 (by decide) ?_
  exact jd_sub [(0, av_r 0), (1, av_i (fa_d1 S w.2.2.1 w.2.2.2 0).1), (2, av_i (fa_d1 S w.2.2.1 w.2.2.2 0).2.1), (3, av_i (nI 0))] ⟨rfl, rfl, rfl, rfl, trivial⟩ (kl_oneByOne (S := S) (Qp := po_wd (fa_d1 S w.2.2.1 w.2.2.2 w.2.2.1).2.1 (fun d => ∀ v, v < w.2.2.1 → fa_gr S v = true → d v = (fa_d1 S w.2.2.1 w.2.2.2 w.2.2.1).2.2 v) S L) hls hN hU (fun T2 h hd => ⟨rfl, hd, h, sw_reflL L⟩) (w.2.2.1 + 1) 0 (by omega) (by omega) S (sw_refl S) (fun v hv => by omega))
end
section
/-! THE BEST PLAN AS FUNCTIONS of its numbers: S 5 7 rows, L 5 8 the digit's worth, L (14 + row) prices, L 8 and L 9 the shifts, S 10 rowWith, S 11 columnBefore, L 12 distance, S 13 reached. -/
theorem ac_R {nU nP i : Nat} {row : Nat → Int32} {lr : Nat → Int64} (h : i < 9) : ac_of nU nP (14 + i) row lr = .inl (1, 21, .inl 1) := by
  rcases (show i = 0 ∨ i = 1 ∨ i = 2 ∨ i = 3 ∨ i = 4 ∨ i = 5 ∨ i = 6 ∨ i = 7 ∨ i = 8 by omega) with rfl | rfl | rfl | rfl | rfl | rfl | rfl | rfl | rfl <;> rfl
theorem rl_R {nU nP i : Nat} (h : i < 9) : rl_in nU nP (14 + i) = true := by
  unfold rl_in
  simp
  omega
section JDB
variable {l : Launch} {D : va_G} {w : wd_T} {own : String} {cc : ByteArray} {nL : Nat} {ret : Option FieldType} {tab : List ExceptionTableEntry} {R : Room} {mc ms : Nat} {Qp : jd_P} {kc ks : Nat} {pc : Nat} {lo : jl_T} {st : List av_T} {S : Nat → Nat → Int32} {L : Nat → Nat → Int64}
theorem jd_row {u : Nat} {i : Int32} (hi : i = nI u) (hu : u < 9) (hdg : decode cc pc = .ok (.aaload, 1)) (k : jd_J l D w own cc nL ret tab R mc ms Qp kc ks (pc + 1) lo (av_r (14 + u) :: st) S L) : jd_J l D w own cc nL ret tab R mc ms Qp kc ks pc lo (av_i i :: av_r 7 :: st) S L := by
  subst hi
  exact jd_aald (k0 := 5) rfl rfl rfl (vp_in_nI (show u < 9 by omega) (by omega)) (r2 := 14 + u) (by rw [nI_clamp (by omega)]; exact if_pos hu) rfl (by decide) hdg k
/-- a long array at a natural number -/
theorem jd_lldN {r n c : Nat} {i : Int32} (hc : ac_of w.2.2.1 w.2.2.2 r (S r) (L r) = .inl (1, n, .inl 1)) (hi : i = nI c) (hin : c < n) (hn : n < 5000) (hr : rl_in w.2.2.1 w.2.2.2 r = true) (hr2 : r < 501) (hdg : decode cc pc = .ok (.laload, 1)) (k : jd_J l D w own cc nL ret tab R mc ms Qp kc ks (pc + 1) lo (av_l (L r c) :: st) S L) : jd_J l D w own cc nL ret tab R mc ms Qp kc ks pc lo (av_i i :: av_r r :: st) S L := by
  subst hi
  refine jd_lald hc (vp_in_nI hin (by omega)) hr hr2 hdg ?_
  rw [nI_clamp (by omega)]; exact k
theorem jd_ildN {r n c : Nat} {i : Int32} (hc : ac_of w.2.2.1 w.2.2.2 r (S r) (L r) = .inl (0, n, .inl 0)) (hi : i = nI c) (hin : c < n) (hn : n < 5000) (hr : rl_in w.2.2.1 w.2.2.2 r = true) (hr2 : r < 501) (hdg : decode cc pc = .ok (.iaload, 1)) (k : jd_J l D w own cc nL ret tab R mc ms Qp kc ks (pc + 1) lo (av_i (S r c) :: st) S L) : jd_J l D w own cc nL ret tab R mc ms Qp kc ks pc lo (av_i i :: av_r r :: st) S L := by
  subst hi
  refine jd_iald hc (vp_in_nI hin (by omega)) hr hr2 hdg ?_
  rw [nI_clamp (by omega)]; exact k
theorem jd_zldN {r n c : Nat} {i : Int32} (hc : ac_of w.2.2.1 w.2.2.2 r (S r) (L r) = .inl (2, n, .inl 0)) (hi : i = nI c) (hin : c < n) (hn : n < 5000) (hr : rl_in w.2.2.1 w.2.2.2 r = true) (hr2 : r < 501) (hdg : decode cc pc = .ok (.baload, 1)) (k : jd_J l D w own cc nL ret tab R mc ms Qp kc ks (pc + 1) lo (av_i (S r c) :: st) S L) : jd_J l D w own cc nL ret tab R mc ms Qp kc ks pc lo (av_i i :: av_r r :: st) S L := by
  subst hi
  refine jd_zald hc (vp_in_nI hin (by omega)) hr hr2 hdg ?_
  rw [nI_clamp (by omega)]; exact k
theorem jd_lstN {r n c : Nat} {i : Int32} {x : Int64} (hc : ∀ f : Nat → Int64, ac_of w.2.2.1 w.2.2.2 r (S r) f = .inl (1, n, .inl 1)) (hi : i = nI c) (hin : c < n) (hn : n < 5000) (hr : rl_in w.2.2.1 w.2.2.2 r = true) (hr2 : r < 501) (hdg : decode cc pc = .ok (.lastore, 1)) (k : jd_J l D w own cc nL ret tab R mc ms Qp kc ks (pc + 1) lo st S (va_up L r (vp_updL (L r) c x))) : jd_J l D w own cc nL ret tab R mc ms Qp kc ks pc lo (av_l x :: av_i i :: av_r r :: st) S L := by
  subst hi
  refine jd_last hc (vp_in_nI hin (by omega)) hr hr2 hdg ?_
  rw [nI_clamp (by omega)]; exact k
theorem jd_istN {r n c : Nat} {i x : Int32} (hc : ∀ f : Nat → Int32, ac_of w.2.2.1 w.2.2.2 r f (L r) = .inl (0, n, .inl 0)) (hi : i = nI c) (hin : c < n) (hn : n < 5000) (hr : rl_in w.2.2.1 w.2.2.2 r = true) (hr2 : r < 501) (hdg : decode cc pc = .ok (.iastore, 1)) (k : jd_J l D w own cc nL ret tab R mc ms Qp kc ks (pc + 1) lo st (va_up S r (upd (S r) c x)) L) : jd_J l D w own cc nL ret tab R mc ms Qp kc ks pc lo (av_i x :: av_i i :: av_r r :: st) S L := by
  subst hi
  refine jd_iast hc (vp_in_nI hin (by omega)) hr hr2 hdg ?_
  rw [nI_clamp (by omega)]; exact k
theorem jd_zstN {r n c : Nat} {i x : Int32} (hc : ∀ f : Nat → Int32, ac_of w.2.2.1 w.2.2.2 r f (L r) = .inl (2, n, .inl 0)) (hx : vp_nar .boolean x = x) (hi : i = nI c) (hin : c < n) (hn : n < 5000) (hr : rl_in w.2.2.1 w.2.2.2 r = true) (hr2 : r < 501) (hdg : decode cc pc = .ok (.bastore, 1)) (k : jd_J l D w own cc nL ret tab R mc ms Qp kc ks (pc + 1) lo st (va_up S r (upd (S r) c x)) L) : jd_J l D w own cc nL ret tab R mc ms Qp kc ks pc lo (av_i x :: av_i i :: av_r r :: st) S L := by
  subst hi
  refine jd_zast hc hx (vp_in_nI hin (by omega)) hr hr2 hdg ?_
  rw [nI_clamp (by omega)]; exact k
end JDB
theorem cb_end {n c : Nat} (hn : n < 5000) (hc : c ≤ n + 1) (h : nI n < nI c) : c = n + 1 := by
  rw [nI_ltI (by omega) (by omega)] at h; omega
theorem cb_on {n c : Nat} (hn : n < 5000) (hc : c ≤ n + 1) (h : ¬ nI n < nI c) : c ≤ n := by
  rw [nI_ltI (by omega) (by omega)] at h; omega
theorem ul_up {M : Nat → Nat → Int64} {r c : Nat} {x : Int64} {P : Nat → Int64 → Prop} (h : ∀ i, i < c → P i (M r i)) (hx : P c x) : ∀ i, i < c + 1 → P i (va_up M r (vp_updL (M r) c x) r i) := by
  intro i hi
  rw [va_up_self]
  by_cases e : i = c
  · subst e; rw [pk_uLs]; exact hx
  · rw [pk_uLn e]; exact h i (by omega)
theorem us_up {M : Nat → Nat → Int32} {r c : Nat} {x : Int32} {P : Nat → Int32 → Prop} (h : ∀ i, i < c → P i (M r i)) (hx : P c x) : ∀ i, i < c + 1 → P i (va_up M r (upd (M r) c x) r i) := by
  intro i hi
  rw [va_up_self]
  by_cases e : i = c
  · subst e; simp only [upd, if_true]; exact hx
  · simp only [upd, if_neg e]; exact h i (by omega)
/-- how far column c is from the row -/
def bp_far (L : Nat → Nat → Int64) (row c : Nat) : Int64 := L (14 + row) c - L 8 row - L 9 c
def bp_u (S : Nat → Nat → Int32) (L : Nat → Nat → Int64) (row n c : Nat) : Bool := decide (1 ≤ c) && decide (c < n) && decide (S 13 c = 0) && decide (bp_far L row c < L 12 c)
def bp_d (S : Nat → Nat → Int32) (L : Nat → Nat → Int64) (row n : Nat) : Nat → Int64 := fun c => if bp_u S L row n c = true then bp_far L row c else L 12 c
def bp_w (S : Nat → Nat → Int32) (L : Nat → Nat → Int64) (row f n : Nat) : Nat → Int32 := fun c => if bp_u S L row n c = true then nI f else S 11 c
theorem bp_u_ne {S : Nat → Nat → Int32} {L : Nat → Nat → Int64} {row n c : Nat} (h : c ≠ n) : bp_u S L row (n + 1) c = bp_u S L row n c := by
  unfold bp_u
  rw [show decide (c < n + 1) = decide (c < n) from decide_eq_decide.mpr (by omega)]
theorem bp_u_no {S : Nat → Nat → Int32} {L : Nat → Nat → Int64} {row n : Nat} : bp_u S L row n n = false := by simp [bp_u]
theorem bp_u_at {S : Nat → Nat → Int32} {L : Nat → Nat → Int64} {row n : Nat} (h : 1 ≤ n) : bp_u S L row (n + 1) n = (decide (S 13 n = 0) && decide (bp_far L row n < L 12 n)) := by simp [bp_u, h]
theorem bp_d_at {S : Nat → Nat → Int32} {L : Nat → Nat → Int64} {row n : Nat} : bp_d S L row n n = L 12 n := by simp [bp_d, bp_u_no]
theorem bp_dY {S : Nat → Nat → Int32} {L : Nat → Nat → Int64} {row n : Nat} (h : 1 ≤ n) (h1 : S 13 n = 0) (h2 : bp_far L row n < L 12 n) : vp_updL (bp_d S L row n) n (bp_far L row n) = bp_d S L row (n + 1) := by
  funext c
  by_cases e : c = n
  · subst e; rw [pk_uLs]; simp [bp_d, bp_u_at h, h1, h2]
  · rw [pk_uLn e]; simp only [bp_d, bp_u_ne e]
theorem bp_wY {S : Nat → Nat → Int32} {L : Nat → Nat → Int64} {row f n : Nat} (h : 1 ≤ n) (h1 : S 13 n = 0) (h2 : bp_far L row n < L 12 n) : upd (bp_w S L row f n) n (nI f) = bp_w S L row f (n + 1) := by
  funext c
  by_cases e : c = n
  · subst e; simp [upd, bp_w, bp_u_at h, h1, h2]
  · simp only [upd, if_neg e, bp_w, bp_u_ne e]
theorem bp_dN {S : Nat → Nat → Int32} {L : Nat → Nat → Int64} {row n : Nat} (h : 1 ≤ n) (h1 : ¬ (S 13 n = 0 ∧ bp_far L row n < L 12 n)) : bp_d S L row n = bp_d S L row (n + 1) := by
  funext c
  by_cases e : c = n
  · subst e
    rw [bp_d_at]
    simp only [bp_d]
    rw [if_neg (by rw [bp_u_at h]; simp only [Bool.and_eq_true, decide_eq_true_eq]; exact h1)]
  · simp only [bp_d, bp_u_ne e]
theorem bp_wN {S : Nat → Nat → Int32} {L : Nat → Nat → Int64} {row f n : Nat} (h : 1 ≤ n) (h1 : ¬ (S 13 n = 0 ∧ bp_far L row n < L 12 n)) : bp_w S L row f n = bp_w S L row f (n + 1) := by
  funext c
  by_cases e : c = n
  · subst e
    simp only [bp_w]
    rw [if_neg (by rw [bp_u_no]; decide), if_neg (by rw [bp_u_at h]; simp only [Bool.and_eq_true, decide_eq_true_eq]; exact h1)]
  · simp only [bp_w, bp_u_ne e]
/-- the nearest of the columns below n that aren't reached -/
def bp_n (S : Nat → Nat → Int32) (L : Nat → Nat → Int64) : Nat → Nat
  | 0 => 0
  | c + 1 => if 1 ≤ c ∧ S 13 c = 0 ∧ (bp_n S L c = 0 ∨ L 12 c < L 12 (bp_n S L c)) then c else bp_n S L c
theorem bp_n_le {S : Nat → Nat → Int32} {L : Nat → Nat → Int64} : ∀ n, bp_n S L n ≤ n
  | 0 => Nat.le_refl 0
  | n + 1 => by
    simp only [bp_n]
    split
    · omega
    · have := bp_n_le (S := S) (L := L) n; omega
/-- the shifts after the columns below n -/
def bp_s (S : Nat → Nat → Int32) (L : Nat → Nat → Int64) (x : Int64) : Nat → Nat → Nat → Int64
  | 0 => L
  | c + 1 => if S 13 c = 0 then va_up (bp_s S L x c) 12 (vp_updL (bp_s S L x c 12) c (bp_s S L x c 12 c - x))
    else va_up (va_up (bp_s S L x c) 8 (vp_updL (bp_s S L x c 8) (S 10 c).toNatClampNeg (bp_s S L x c 8 (S 10 c).toNatClampNeg + x))) 9 (vp_updL (bp_s S L x c 9) c (bp_s S L x c 9 c - x))
/-- prices of a new row before places are offered -/
def bp_ag (f : Nat → Int64) (dw : Int64) (n : Nat) : Nat → Int64 := fun c => if 1 ≤ c ∧ c < n then (if c ≤ 12 then 6525847399461442 else 6525846583730721 + 12 * dw) else f c
theorem bp_ag_at {f : Nat → Int64} {dw x : Int64} {n : Nat} (h : 1 ≤ n) (hx : x = if n ≤ 12 then 6525847399461442 else 6525846583730721 + 12 * dw) : vp_updL (bp_ag f dw n) n x = bp_ag f dw (n + 1) := by
  funext c
  by_cases e : c = n
  · subst e
    rw [pk_uLs, hx]
    simp only [bp_ag]
    rw [if_pos (show 1 ≤ c ∧ c < c + 1 from ⟨h, by omega⟩)]
  · rw [pk_uLn e]
    simp only [bp_ag]
    by_cases q : 1 ≤ c ∧ c < n
    · rw [if_pos q, if_pos (show 1 ≤ c ∧ c < n + 1 from ⟨q.1, by omega⟩)]
    · rw [if_neg q, if_neg (show ¬ (1 ≤ c ∧ c < n + 1) from fun z => q ⟨z.1, by omega⟩)]
theorem bp_ag_1 {f : Nat → Int64} {dw : Int64} : bp_ag f dw 1 = f := by
  funext c
  simp only [bp_ag]
  rw [if_neg (by omega)]
def bp_pg (S : Nat → Nat → Int32) (r : Int32) : Nat → Nat → Int32
  | 0, _ => -1
  | k + 1, c => if S 10 c = r then nI c - 1 else bp_pg S r k (c + 1)
/-- what the clearing leaves -/
def bp_cl (S S' : Nat → Nat → Int32) (L L' : Nat → Nat → Int64) : Prop := sw_S S S' ∧ sw_L L L' ∧ S' 5 7 = 0 ∧ L' 5 8 = 815730721 ∧ (∀ i, i < 9 → L' 8 i = 0) ∧ (∀ c, c < 21 → L' 9 c = 0) ∧ (∀ c, c < 21 → S' 10 c = 0)
end
section
/-! THE BEST PLAN: its methods (rows by wip/whole/gen/b1.py) -/
set_option maxRecDepth 100000 in
set_option maxHeartbeats 4000000 in
theorem kl_clear1 {l : Launch} (hls : l.stackTraces = false) {D : va_G} {w : wd_T} {S : Nat → Nat → Int32} {L0 : Nat → Nat → Int64} {Qp : jd_P} (hnext : ∀ M, sw_L L0 M → M 5 8 = 815730721 → (∀ i, i < 9 → M 8 i = 0) → jd_J l D w zn_B zb_B_clear 2 (Option.none : Option Jvm.ClassFile.FieldType) [] ({ frames := 0, cells := 0, slots := 0, locals := 0 } : Room) 0 0 Qp 0 0 33 [(0, av_r 5), (1, av_i (nI 9))] [] S M) : ∀ (k c : Nat), c ≤ 9 → 9 < c + k → ∀ M, sw_L L0 M → M 5 8 = 815730721 → (∀ i, i < c → M 8 i = 0) → jd_J l D w zn_B zb_B_clear 2 (Option.none : Option Jvm.ClassFile.FieldType) [] ({ frames := 0, cells := 0, slots := 0, locals := 0 } : Room) 0 0 Qp 0 0 14 [(0, av_r 5), (1, av_i (nI c))] [] S M := by
  intro k
  induction k with
  | zero => intro c h1 h2; omega
  | succ k ih =>
    intro c hc hk M hM h58 hz
    refine jd_iload_n zd_B_clear_14 rfl ?_
    refine jd_bipush (v := nI 8) zd_B_clear_15 (by decide) ?_
    refine jd_icmp_gt 33 zd_B_clear_17 (by decide) (fun h_17 => ?_) (fun h_17 => ?_)
    · have e_c := cb_end (by decide) hc h_17
      subst e_c
      exact jd_sub [(0, av_r 5), (1, av_i (nI 9))] ⟨rfl, rfl, trivial⟩ (hnext M hM h58 hz)
    · have hc2 := cb_on (by decide) hc h_17
      refine jd_aload_n zd_B_clear_20 rfl ?_
      refine jd_get rfl rfl zl_B 1 (by decide) zi_113 rfl rfl rfl (by decide) zd_B_clear_21 ?_
      refine jd_iload_n zd_B_clear_24 rfl ?_
      refine jd_lconst (v := 0) zd_B_clear_25 (by decide) ?_
      refine jd_lstN (r := 8) (c := c) (fun _ => rfl) rfl (by omega) (n := 9) (by decide) rfl (by decide) zd_B_clear_26 ?_
      refine jd_iinc (v := nI (c + 1)) zd_B_clear_27 rfl (nI_inc c) (by decide) ?_
      refine jd_goto 14 zd_B_clear_30 (by decide) ?_
      exact jd_sub [(0, av_r 5), (1, av_i (nI (c + 1)))] ⟨rfl, rfl, trivial⟩ (ih (c + 1) (by omega) (by omega) _ (hM.up (by decide) _) (by rw [va_up_ne _ _ (by decide)]; exact h58) (ul_up (P := fun _ x => x = 0) hz rfl))
set_option maxRecDepth 100000 in
set_option maxHeartbeats 4000000 in
theorem kl_clear2 {l : Launch} (hls : l.stackTraces = false) {D : va_G} {w : wd_T} {S0 : Nat → Nat → Int32} {L0 : Nat → Nat → Int64} {Qp : jd_P} (hQ : ∀ T M, (sw_S S0 T ∧ T 5 7 = 0 ∧ ∀ i, i < 21 → T 10 i = 0) → (sw_L L0 M ∧ M 5 8 = 815730721 ∧ (∀ i, i < 9 → M 8 i = 0) ∧ ∀ i, i < 21 → M 9 i = 0) → Qp.1 none T M) : ∀ (k c : Nat), c ≤ 21 → 21 < c + k → ∀ T M, (sw_S S0 T ∧ T 5 7 = 0 ∧ ∀ i, i < c → T 10 i = 0) → (sw_L L0 M ∧ M 5 8 = 815730721 ∧ (∀ i, i < 9 → M 8 i = 0) ∧ ∀ i, i < c → M 9 i = 0) → jd_J l D w zn_B zb_B_clear 2 (Option.none : Option Jvm.ClassFile.FieldType) [] ({ frames := 0, cells := 0, slots := 0, locals := 0 } : Room) 0 0 Qp 0 0 35 [(0, av_r 5), (1, av_i (nI c))] [] T M := by
  intro k
  induction k with
  | zero => intro c h1 h2; omega
  | succ k ih =>
    intro c hc hk T M hT hM
    refine jd_iload_n zd_B_clear_35 rfl ?_
    refine jd_bipush (v := nI 20) zd_B_clear_36 (by decide) ?_
    refine jd_icmp_gt 61 zd_B_clear_38 (by decide) (fun h_38 => ?_) (fun h_38 => ?_)
    · have e_c := cb_end (by decide) hc h_38
      subst e_c
      exact jd_vret rfl (hQ T M hT hM) (by decide) (by decide) zd_B_clear_61
    · have hc2 := cb_on (by decide) hc h_38
      obtain ⟨t1, t2, t3⟩ := hT
      obtain ⟨m1, m2, m3, m4⟩ := hM
      refine jd_aload_n zd_B_clear_41 rfl ?_
      refine jd_get rfl rfl zl_B 2 (by decide) zi_114 rfl rfl rfl (by decide) zd_B_clear_42 ?_
      refine jd_iload_n zd_B_clear_45 rfl ?_
      refine jd_lconst (v := 0) zd_B_clear_46 (by decide) ?_
      refine jd_lstN (r := 9) (c := c) (fun _ => rfl) rfl (by omega) (n := 21) (by decide) rfl (by decide) zd_B_clear_47 ?_
      refine jd_aload_n zd_B_clear_48 rfl ?_
      refine jd_get rfl rfl zl_B 3 (by decide) zi_115 rfl rfl rfl (by decide) zd_B_clear_49 ?_
      refine jd_iload_n zd_B_clear_52 rfl ?_
      refine jd_iconst (v := 0) zd_B_clear_53 (by decide) ?_
      refine jd_istN (r := 10) (c := c) (fun _ => rfl) rfl (by omega) (n := 21) (by decide) rfl (by decide) zd_B_clear_54 ?_
      refine jd_iinc (v := nI (c + 1)) zd_B_clear_55 rfl (nI_inc c) (by decide) ?_
      refine jd_goto 35 zd_B_clear_58 (by decide) ?_
      exact jd_sub [(0, av_r 5), (1, av_i (nI (c + 1)))] ⟨rfl, rfl, trivial⟩ (ih (c + 1) (by omega) (by omega) _ _ ⟨t1.up (by decide) (by decide) _, by rw [va_up_ne _ _ (by decide)]; exact t2, us_up (P := fun _ x => x = 0) t3 rfl⟩ ⟨m1.up (by decide) _, by rw [va_up_ne _ _ (by decide)]; exact m2, by rw [va_up_ne _ _ (by decide)]; exact m3, ul_up (P := fun _ x => x = 0) m4 rfl⟩)
def po_cl (S : Nat → Nat → Int32) (L : Nat → Nat → Int64) : jd_P := (fun v S' L' => v = none ∧ bp_cl S S' L L', fun _ _ _ => False)
set_option maxRecDepth 100000 in
set_option maxHeartbeats 4000000 in
theorem kc_Bclear {l : Launch} (hls : l.stackTraces = false) {D : va_G} {w : wd_T} {S : Nat → Nat → Int32} {L : Nat → Nat → Int64}  : ct_M l D w zy_B_clear (Cond.code zy_B_clear zb_B_clear 2 (Option.none : Option Jvm.ClassFile.FieldType)) ({ frames := 0, cells := 0, slots := 0, locals := 0 } : Room) [av_r 5] S L (po_cl S L) 0 0 := by
  refine ct_intro hls (own := zn_B) (by decide) rfl (Nat.le_of_ble_eq_true rfl) ?_
  refine jd_aload_n zd_B_clear_0 rfl ?_
  refine jd_iconst (v := 0) zd_B_clear_1 (by decide) ?_
  refine jd_put rfl rfl zl_B zp_B zm_B 7 (by decide) zi_119 rfl rfl rfl rfl rfl (Nat.le_of_ble_eq_true rfl) rfl rfl (by decide) zd_B_clear_2 ?_
  refine jd_aload_n zd_B_clear_5 rfl ?_
  refine jd_ldc2 zi_523 zd_B_clear_6 ?_
  refine jd_putL rfl rfl zl_B zp_B zm_B 8 (by decide) zi_120 rfl rfl rfl rfl rfl (Nat.le_of_ble_eq_true rfl) rfl rfl (by decide) zd_B_clear_9 ?_
  refine jd_iconst (v := 0) zd_B_clear_12 (by decide) ?_
  refine jd_istore_n zd_B_clear_13 (by decide) ?_
  refine jd_sub [(0, av_r 5), (1, av_i (nI 0))] ⟨rfl, rfl, trivial⟩ (kl_clear1 (L0 := L) hls (fun M hM h58 hz => ?_) 10 0 (by omega) (by omega) _ ((sw_reflL L).up (by decide) _) (by rw [va_up_self]; exact pk_uLs) (fun i hi => by omega))
  refine jd_iconst (v := 0) zd_B_clear_33 (by decide) ?_
  refine jd_istore_n zd_B_clear_34 (by decide) ?_
  exact jd_sub [(0, av_r 5), (1, av_i (nI 0))] ⟨rfl, rfl, trivial⟩ (kl_clear2 (S0 := S) (L0 := L) (Qp := po_cl S L) hls (fun T M hT hM => ⟨rfl, hT.1, hM.1, hT.2.1, hM.2.1, hM.2.2.1, hM.2.2.2, hT.2.2⟩) 22 0 (by omega) (by omega) _ _ ⟨(sw_refl S).up (by decide) (by decide) _, by rw [va_up_self]; rfl, fun i hi => by omega⟩ ⟨hM, h58, hz, fun i hi => by omega⟩)
set_option maxRecDepth 100000 in
set_option maxHeartbeats 4000000 in
theorem kl_addGroup {l : Launch} (hls : l.stackTraces = false) {D : va_G} {w : wd_T} {S : Nat → Nat → Int32} {L : Nat → Nat → Int64} {r : Nat} (hr : r < 8) {Qp : jd_P} (hQ : Qp.1 none (va_up S 5 (upd (S 5) 7 (nI (r + 1)))) (va_up (va_up L 5 (vp_updL (L 5) 8 (L 5 8 / 13))) (14 + (r + 1)) (bp_ag (L (14 + (r + 1))) (L 5 8 / 13) 21))) : ∀ (k c : Nat), c ≤ 21 → 21 < c + k → 1 ≤ c → jd_J l D w zn_B zb_B_addGroup 2 (Option.none : Option Jvm.ClassFile.FieldType) [] ({ frames := 0, cells := 0, slots := 0, locals := 0 } : Room) 0 0 Qp 0 0 34 [(0, av_r 5), (1, av_i (nI c))] [] (va_up S 5 (upd (S 5) 7 (nI (r + 1)))) (va_up (va_up L 5 (vp_updL (L 5) 8 (L 5 8 / 13))) (14 + (r + 1)) (bp_ag (L (14 + (r + 1))) (L 5 8 / 13) c)) := by
  intro k
  induction k with
  | zero => intro c h1 h2; omega
  | succ k ih =>
    intro c hc hk h1c
    refine jd_iload_n zd_B_addGroup_34 rfl ?_
    refine jd_bipush (v := nI 20) zd_B_addGroup_35 (by decide) ?_
    refine jd_icmp_gt 81 zd_B_addGroup_37 (by decide) (fun h_37 => ?_) (fun h_37 => ?_)
    · have e_c := cb_end (by decide) hc h_37
      subst e_c
      exact jd_vret rfl hQ (by decide) (by decide) zd_B_addGroup_81
    · have hc2 := cb_on (by decide) hc h_37
      refine jd_aload_n zd_B_addGroup_40 rfl ?_
      refine jd_get rfl rfl zl_B 0 (by decide) zi_112 rfl rfl rfl (by decide) zd_B_addGroup_41 ?_
      refine jd_aload_n zd_B_addGroup_44 rfl ?_
      refine jd_get rfl rfl zl_B 7 (by decide) zi_119 rfl rfl rfl (by decide) zd_B_addGroup_45 ?_
      rw [va_up_self]
      simp only [upd, if_true]
      refine jd_row rfl (show r + 1 < 9 by omega) zd_B_addGroup_48 ?_
      refine jd_iload_n zd_B_addGroup_49 rfl ?_
      refine jd_iload_n zd_B_addGroup_50 rfl ?_
      refine jd_bipush (v := nI 12) zd_B_addGroup_51 (by decide) ?_
      refine jd_icmp_gt 62 zd_B_addGroup_53 (by decide) (fun h_53 => ?_) (fun h_53 => ?_)
      · refine jd_ldc2 zi_534 zd_B_addGroup_62 ?_
        refine jd_ldc2 zi_535 zd_B_addGroup_65 ?_
        refine jd_aload_n zd_B_addGroup_68 rfl ?_
        refine jd_get rfl rfl zl_B 8 (by decide) zi_120 rfl rfl rfl (by decide) zd_B_addGroup_69 ?_
        rw [va_up_ne _ _ (show (5 : Nat) ≠ 14 + (r + 1) by omega), va_up_self, pk_uLs]
        refine jd_lmul zd_B_addGroup_72 ?_
        refine jd_ladd zd_B_addGroup_73 ?_
        refine jd_lstN (c := c) (fun _ => ac_R (by omega)) rfl (by omega) (by decide) (rl_R (by omega)) (by omega) zd_B_addGroup_74 ?_
        rw [va_up_self, bx_uu, bp_ag_at h1c (by rw [if_neg (by rw [nI_ltI (by omega) (by omega)] at h_53; omega)])]
        refine jd_iinc (v := nI (c + 1)) zd_B_addGroup_75 rfl (nI_inc c) (by decide) ?_
        refine jd_goto 34 zd_B_addGroup_78 (by decide) ?_
        exact jd_sub [(0, av_r 5), (1, av_i (nI (c + 1)))] ⟨rfl, rfl, trivial⟩ (ih (c + 1) (by omega) (by omega) (by omega))
      · refine jd_ldc2 zi_533 zd_B_addGroup_56 ?_
        refine jd_goto 74 zd_B_addGroup_59 (by decide) ?_
        refine jd_lstN (c := c) (fun _ => ac_R (by omega)) rfl (by omega) (by decide) (rl_R (by omega)) (by omega) zd_B_addGroup_74 ?_
        rw [va_up_self, bx_uu, bp_ag_at h1c (by rw [if_pos (by rw [nI_ltI (by omega) (by omega)] at h_53; omega)])]
        refine jd_iinc (v := nI (c + 1)) zd_B_addGroup_75 rfl (nI_inc c) (by decide) ?_
        refine jd_goto 34 zd_B_addGroup_78 (by decide) ?_
        exact jd_sub [(0, av_r 5), (1, av_i (nI (c + 1)))] ⟨rfl, rfl, trivial⟩ (ih (c + 1) (by omega) (by omega) (by omega))
def po_SL (S : Nat → Nat → Int32) (L : Nat → Nat → Int64) : jd_P := (fun v S' L' => v = none ∧ S = S' ∧ L = L', fun _ _ _ => False)
theorem va_up_ne_self {L : Nat → Nat → Int64} {r : Nat} {row : Nat → Int64} : va_up (va_up L 5 row) (14 + (r + 1)) (L (14 + (r + 1))) = va_up L 5 row := by
  funext q
  by_cases e : q = 14 + (r + 1)
  · subst e; rw [va_up_self, va_up_ne _ _ (by omega)]
  · rw [va_up_ne _ _ e]
set_option maxRecDepth 100000 in
set_option maxHeartbeats 4000000 in
theorem kc_addGroup {l : Launch} (hls : l.stackTraces = false) {D : va_G} {w : wd_T} {S : Nat → Nat → Int32} {L : Nat → Nat → Int64} {r : Nat} (hr : r < 8) (h57 : S 5 7 = nI r) : ct_M l D w zy_B_addGroup (Cond.code zy_B_addGroup zb_B_addGroup 2 (Option.none : Option Jvm.ClassFile.FieldType)) ({ frames := 0, cells := 0, slots := 0, locals := 0 } : Room) [av_r 5] S L (po_SL (va_up S 5 (upd (S 5) 7 (nI (r + 1)))) (va_up (va_up L 5 (vp_updL (L 5) 8 (L 5 8 / 13))) (14 + (r + 1)) (bp_ag (L (14 + (r + 1))) (L 5 8 / 13) 21))) 0 0 := by
  refine ct_intro hls (own := zn_B) (by decide) rfl (Nat.le_of_ble_eq_true rfl) ?_
  refine jd_aload_n zd_B_addGroup_0 rfl ?_
  refine jd_get rfl rfl zl_B 7 (by decide) zi_119 rfl rfl rfl (by decide) zd_B_addGroup_1 ?_
  rw [h57]
  refine jd_bipush (v := nI 8) zd_B_addGroup_4 (by decide) ?_
  refine jd_icmp_lt 10 zd_B_addGroup_6 (by decide) (fun h_6 => ?_) (fun h_6 => ?_)
  · refine jd_aload_n zd_B_addGroup_10 rfl ?_
    refine jd_dup zd_B_addGroup_11 rfl ?_
    refine jd_get rfl rfl zl_B 7 (by decide) zi_119 rfl rfl rfl (by decide) zd_B_addGroup_12 ?_
    rw [h57]
    refine jd_iconst (v := 1) zd_B_addGroup_15 (by decide) ?_
    refine jd_iadd zd_B_addGroup_16 ?_
    rw [nI_1]
    refine jd_put rfl rfl zl_B zp_B zm_B 7 (by decide) zi_119 rfl rfl rfl rfl rfl (Nat.le_of_ble_eq_true rfl) rfl rfl (by decide) zd_B_addGroup_17 ?_
    refine jd_aload_n zd_B_addGroup_20 rfl ?_
    refine jd_dup zd_B_addGroup_21 rfl ?_
    refine jd_get rfl rfl zl_B 8 (by decide) zi_120 rfl rfl rfl (by decide) zd_B_addGroup_22 ?_
    refine jd_ldc2 zi_532 zd_B_addGroup_25 ?_
    refine jd_ldiv zd_B_addGroup_28 (by decide) ?_
    refine jd_putL rfl rfl zl_B zp_B zm_B 8 (by decide) zi_120 rfl rfl rfl rfl rfl (Nat.le_of_ble_eq_true rfl) rfl rfl (by decide) zd_B_addGroup_29 ?_
    refine jd_iconst (v := 1) zd_B_addGroup_32 (by decide) ?_
    refine jd_istore_n zd_B_addGroup_33 (by decide) ?_
    refine jd_eqL (L' := (va_up (va_up L 5 (vp_updL (L 5) 8 (L 5 8 / 13))) (14 + (r + 1)) (bp_ag (L (14 + (r + 1))) (L 5 8 / 13) 1))) (by rw [bp_ag_1]; exact (va_up_ne_self).symm) ?_
    exact jd_sub [(0, av_r 5), (1, av_i (nI 1))] ⟨rfl, rfl, trivial⟩ (kl_addGroup (Qp := po_SL (va_up S 5 (upd (S 5) 7 (nI (r + 1)))) (va_up (va_up L 5 (vp_updL (L 5) 8 (L 5 8 / 13))) (14 + (r + 1)) (bp_ag (L (14 + (r + 1))) (L 5 8 / 13) 21))) hls hr ⟨rfl, rfl, rfl⟩ 22 1 (by omega) (by omega) (by omega))
  · exact absurd (nI_lt hr (by decide)) h_6
set_option maxRecDepth 100000 in
set_option maxHeartbeats 4000000 in
theorem kc_offer {l : Launch} (hls : l.stackTraces = false) {D : va_G} {w : wd_T} {S : Nat → Nat → Int32} {L : Nat → Nat → Int64} {r : Nat} (hr : r < 9) (h57 : S 5 7 = nI r) {p : Nat} (hp : p < 12) (x : Int32) : ct_M l D w zy_B_offer (Cond.code zy_B_offer zb_B_offer 3 (Option.none : Option Jvm.ClassFile.FieldType)) ({ frames := 0, cells := 0, slots := 0, locals := 0 } : Room) [av_r 5, av_i (nI p), av_i x] S L (po_SL S (va_up L (14 + r) (vp_updL (L (14 + r)) (p + 1) (x.toInt64 * 815730721 + (nI p).toInt64 * L 5 8)))) 0 0 := by
  refine ct_intro hls (own := zn_B) (by decide) rfl (Nat.le_of_ble_eq_true rfl) ?_
  refine jd_aload_n zd_B_offer_0 rfl ?_
  refine jd_get rfl rfl zl_B 0 (by decide) zi_112 rfl rfl rfl (by decide) zd_B_offer_1 ?_
  refine jd_aload_n zd_B_offer_4 rfl ?_
  refine jd_get rfl rfl zl_B 7 (by decide) zi_119 rfl rfl rfl (by decide) zd_B_offer_5 ?_
  rw [h57]
  refine jd_row rfl hr zd_B_offer_8 ?_
  refine jd_iload_n zd_B_offer_9 rfl ?_
  refine jd_iconst (v := 1) zd_B_offer_10 (by decide) ?_
  refine jd_iadd zd_B_offer_11 ?_
  rw [nI_1]
  refine jd_iload_n zd_B_offer_12 rfl ?_
  refine jd_i2l zd_B_offer_13 ?_
  refine jd_ldc2 zi_523 zd_B_offer_14 ?_
  refine jd_lmul zd_B_offer_17 ?_
  refine jd_iload_n zd_B_offer_18 rfl ?_
  refine jd_i2l zd_B_offer_19 ?_
  refine jd_aload_n zd_B_offer_20 rfl ?_
  refine jd_get rfl rfl zl_B 8 (by decide) zi_120 rfl rfl rfl (by decide) zd_B_offer_21 ?_
  refine jd_lmul zd_B_offer_24 ?_
  refine jd_ladd zd_B_offer_25 ?_
  refine jd_lstN (c := p + 1) (fun _ => ac_R hr) rfl (by omega) (by decide) (rl_R hr) (by omega) zd_B_offer_26 ?_
  exact jd_vret rfl ⟨rfl, rfl, rfl⟩ (by decide) (by decide) zd_B_offer_27
set_option maxRecDepth 100000 in
set_option maxHeartbeats 4000000 in
theorem kl_placeGiven {l : Launch} (hls : l.stackTraces = false) {D : va_G} {w : wd_T} {S : Nat → Nat → Int32} {L : Nat → Nat → Int64} (r : Int32) {Qp : jd_P}  : ∀ (k c : Nat), c ≤ 13 → 13 < c + k → 1 ≤ c → Qp.1 (some (av_i (bp_pg S r (13 - c) c))) S L → jd_J l D w zn_B zb_B_placeGiven 3 (Option.some Jvm.ClassFile.FieldType.int) [] ({ frames := 0, cells := 0, slots := 0, locals := 0 } : Room) 0 0 Qp 0 0 2 [(0, av_r 5), (1, av_i r), (2, av_i (nI c))] [] S L := by
  intro k
  induction k with
  | zero => intro c h1 h2; omega
  | succ k ih =>
    intro c hc hk h1c hQ
    refine jd_iload_n zd_B_placeGiven_2 rfl ?_
    refine jd_bipush (v := nI 12) zd_B_placeGiven_3 (by decide) ?_
    refine jd_icmp_gt 28 zd_B_placeGiven_5 (by decide) (fun h_5 => ?_) (fun h_5 => ?_)
    · have e_c := cb_end (by decide) hc h_5
      subst e_c
      refine jd_iconst (v := (-1)) zd_B_placeGiven_28 (by decide) ?_
      exact jd_iret rfl hQ (by decide) (by decide) zd_B_placeGiven_29
    · have hc2 := cb_on (by decide) hc h_5
      have e_k : 13 - c = (13 - (c + 1)) + 1 := by omega
      rw [e_k] at hQ
      simp only [bp_pg] at hQ
      refine jd_aload_n zd_B_placeGiven_8 rfl ?_
      refine jd_get rfl rfl zl_B 3 (by decide) zi_115 rfl rfl rfl (by decide) zd_B_placeGiven_9 ?_
      refine jd_iload_n zd_B_placeGiven_12 rfl ?_
      refine jd_ildN (r := 10) (c := c) rfl rfl (by omega) (n := 21) (by decide) rfl (by decide) zd_B_placeGiven_13 ?_
      refine jd_iload_n zd_B_placeGiven_14 rfl ?_
      refine jd_icmp_ne 22 zd_B_placeGiven_15 (by decide) (fun h_15 => ?_) (fun h_15 => ?_)
      · rw [if_neg h_15] at hQ
        refine jd_iinc (v := nI (c + 1)) zd_B_placeGiven_22 rfl (nI_inc c) (by decide) ?_
        refine jd_goto 2 zd_B_placeGiven_25 (by decide) ?_
        exact jd_sub [(0, av_r 5), (1, av_i r), (2, av_i (nI (c + 1)))] ⟨rfl, rfl, rfl, trivial⟩ (ih (c + 1) (by omega) (by omega) (by omega) hQ)
      · rw [if_pos h_15] at hQ
        refine jd_iload_n zd_B_placeGiven_18 rfl ?_
        refine jd_iconst (v := 1) zd_B_placeGiven_19 (by decide) ?_
        refine jd_isub zd_B_placeGiven_20 ?_
        exact jd_iret rfl hQ (by decide) (by decide) zd_B_placeGiven_21
set_option maxRecDepth 100000 in
set_option maxHeartbeats 4000000 in
theorem kc_placeGiven {l : Launch} (hls : l.stackTraces = false) {D : va_G} {w : wd_T} {S : Nat → Nat → Int32} {L : Nat → Nat → Int64} (r : Int32) : ct_M l D w zy_B_placeGiven (Cond.code zy_B_placeGiven zb_B_placeGiven 3 (Option.some Jvm.ClassFile.FieldType.int)) ({ frames := 0, cells := 0, slots := 0, locals := 0 } : Room) [av_r 5, av_i r] S L (po_i (bp_pg S r 12 1) S L) 0 0 := by
  refine ct_intro hls (own := zn_B) (by decide) rfl (Nat.le_of_ble_eq_true rfl) ?_
  refine jd_iconst (v := 1) zd_B_placeGiven_0 (by decide) ?_
  refine jd_istore_n zd_B_placeGiven_1 (by decide) ?_
  exact jd_sub [(0, av_r 5), (1, av_i r), (2, av_i (nI 1))] ⟨rfl, rfl, rfl, trivial⟩ (kl_placeGiven (Qp := po_i (bp_pg S r 12 1) S L) hls r 14 1 (by omega) (by omega) (by omega) ⟨rfl, rfl, rfl⟩)
set_option maxRecDepth 100000 in
set_option maxHeartbeats 4000000 in
theorem kl_measure {l : Launch} (hls : l.stackTraces = false) {D : va_G} {w : wd_T} {S : Nat → Nat → Int32} {L : Nat → Nat → Int64} {row : Nat} (hrow : row ≤ 8) (f : Nat) (hr12 : 14 + row ≠ 12) {Qp : jd_P} (hQ : Qp.1 none (va_up S 11 (bp_w S L row f 21)) (va_up L 12 (bp_d S L row 21))) : ∀ (k c : Nat), c ≤ 21 → 21 < c + k → 1 ≤ c → jd_J l D w zn_B zb_B_measureFrom 6 (Option.none : Option Jvm.ClassFile.FieldType) [] ({ frames := 0, cells := 0, slots := 0, locals := 0 } : Room) 0 0 Qp 0 0 9 [(0, av_r 5), (1, av_i (nI f)), (2, av_i (nI row)), (3, av_i (nI c))] [] (va_up S 11 (bp_w S L row f c)) (va_up L 12 (bp_d S L row c)) := by
  intro k
  induction k with
  | zero => intro c h1 h2; omega
  | succ k ih =>
    intro c hc hk h1c
    refine jd_iload_n zd_B_measureFrom_9 rfl ?_
    refine jd_bipush (v := nI 20) zd_B_measureFrom_10 (by decide) ?_
    refine jd_icmp_gt 81 zd_B_measureFrom_12 (by decide) (fun h_12 => ?_) (fun h_12 => ?_)
    · have e_c := cb_end (by decide) hc h_12
      subst e_c
      exact jd_vret rfl hQ (by decide) (by decide) zd_B_measureFrom_81
    · have hc2 := cb_on (by decide) hc h_12
      refine jd_aload_n zd_B_measureFrom_15 rfl ?_
      refine jd_get rfl rfl zl_B 6 (by decide) zi_118 rfl rfl rfl (by decide) zd_B_measureFrom_16 ?_
      refine jd_iload_n zd_B_measureFrom_19 rfl ?_
      refine jd_zldN (r := 13) (c := c) rfl rfl (by omega) (n := 21) (by decide) rfl (by decide) zd_B_measureFrom_20 ?_
      rw [va_up_ne _ _ (show (13 : Nat) ≠ 11 by decide)]
      refine jd_if_ne 75 zd_B_measureFrom_21 (by decide) (fun h_21 => ?_) (fun h_21 => ?_)
      · refine jd_iinc (v := nI (c + 1)) zd_B_measureFrom_75 rfl (nI_inc c) (by decide) ?_
        refine jd_goto 9 zd_B_measureFrom_78 (by decide) ?_
        rw [bp_wN (f := f) h1c (fun q => h_21 q.1), bp_dN h1c (fun q => h_21 q.1)]
        exact jd_sub [(0, av_r 5), (1, av_i (nI f)), (2, av_i (nI row)), (3, av_i (nI (c + 1)))] ⟨rfl, rfl, rfl, rfl, trivial⟩ (ih (c + 1) (by omega) (by omega) (by omega))
      · refine jd_aload_n zd_B_measureFrom_24 rfl ?_
        refine jd_get rfl rfl zl_B 0 (by decide) zi_112 rfl rfl rfl (by decide) zd_B_measureFrom_25 ?_
        refine jd_iload_n zd_B_measureFrom_28 rfl ?_
        refine jd_row rfl (show row < 9 by omega) zd_B_measureFrom_29 ?_
        refine jd_iload_n zd_B_measureFrom_30 rfl ?_
        refine jd_lldN (c := c) (ac_R (by omega)) rfl (by omega) (by decide) (rl_R (by omega)) (by omega) zd_B_measureFrom_31 ?_
        rw [va_up_ne _ _ hr12]
        refine jd_aload_n zd_B_measureFrom_32 rfl ?_
        refine jd_get rfl rfl zl_B 1 (by decide) zi_113 rfl rfl rfl (by decide) zd_B_measureFrom_33 ?_
        refine jd_iload_n zd_B_measureFrom_36 rfl ?_
        refine jd_lldN (r := 8) (c := row) rfl rfl (by omega) (n := 9) (by decide) rfl (by decide) zd_B_measureFrom_37 ?_
        rw [va_up_ne _ _ (show (8 : Nat) ≠ 12 by decide)]
        refine jd_lsub zd_B_measureFrom_38 ?_
        refine jd_aload_n zd_B_measureFrom_39 rfl ?_
        refine jd_get rfl rfl zl_B 2 (by decide) zi_114 rfl rfl rfl (by decide) zd_B_measureFrom_40 ?_
        refine jd_iload_n zd_B_measureFrom_43 rfl ?_
        refine jd_lldN (r := 9) (c := c) rfl rfl (by omega) (n := 21) (by decide) rfl (by decide) zd_B_measureFrom_44 ?_
        rw [va_up_ne _ _ (show (9 : Nat) ≠ 12 by decide)]
        refine jd_lsub zd_B_measureFrom_45 ?_
        rw [show L (14 + row) c - L 8 row - L 9 c = bp_far L row c from rfl]
        refine jd_lstore zd_B_measureFrom_46 (by decide) ?_
        refine jd_lload zd_B_measureFrom_48 rfl ?_
        refine jd_aload_n zd_B_measureFrom_50 rfl ?_
        refine jd_get rfl rfl zl_B 5 (by decide) zi_117 rfl rfl rfl (by decide) zd_B_measureFrom_51 ?_
        refine jd_iload_n zd_B_measureFrom_54 rfl ?_
        refine jd_lldN (r := 12) (c := c) rfl rfl (by omega) (n := 21) (by decide) rfl (by decide) zd_B_measureFrom_55 ?_
        rw [va_up_self, bp_d_at]
        refine jd_lcmp zd_B_measureFrom_56 ?_
        refine jd_if_ge 75 zd_B_measureFrom_57 (by decide) (fun h_57 => ?_) (fun h_57 => ?_)
        · refine jd_iinc (v := nI (c + 1)) zd_B_measureFrom_75 rfl (nI_inc c) (by decide) ?_
          refine jd_goto 9 zd_B_measureFrom_78 (by decide) ?_
          rw [bp_wN (f := f) h1c (fun q => absurd q.2 (Int64.not_lt.mpr ((lg_cmp_ge _ _).mp h_57))), bp_dN h1c (fun q => absurd q.2 (Int64.not_lt.mpr ((lg_cmp_ge _ _).mp h_57)))]
          exact jd_sub [(0, av_r 5), (1, av_i (nI f)), (2, av_i (nI row)), (3, av_i (nI (c + 1)))] ⟨rfl, rfl, rfl, rfl, trivial⟩ (ih (c + 1) (by omega) (by omega) (by omega))
        · have h_f := Int64.not_le.mp (fun q => h_57 ((lg_cmp_ge _ _).mpr q))
          refine jd_aload_n zd_B_measureFrom_60 rfl ?_
          refine jd_get rfl rfl zl_B 5 (by decide) zi_117 rfl rfl rfl (by decide) zd_B_measureFrom_61 ?_
          refine jd_iload_n zd_B_measureFrom_64 rfl ?_
          refine jd_lload zd_B_measureFrom_65 rfl ?_
          refine jd_lstN (r := 12) (c := c) (fun _ => rfl) rfl (by omega) (n := 21) (by decide) rfl (by decide) zd_B_measureFrom_67 ?_
          rw [va_up_self, bx_uu, bp_dY h1c h_21 h_f]
          refine jd_aload_n zd_B_measureFrom_68 rfl ?_
          refine jd_get rfl rfl zl_B 4 (by decide) zi_116 rfl rfl rfl (by decide) zd_B_measureFrom_69 ?_
          refine jd_iload_n zd_B_measureFrom_72 rfl ?_
          refine jd_iload_n zd_B_measureFrom_73 rfl ?_
          refine jd_istN (r := 11) (c := c) (fun _ => rfl) rfl (by omega) (n := 21) (by decide) rfl (by decide) zd_B_measureFrom_74 ?_
          rw [va_up_self, bx_uu, bp_wY h1c h_21 h_f]
          refine jd_iinc (v := nI (c + 1)) zd_B_measureFrom_75 rfl (nI_inc c) (by decide) ?_
          refine jd_goto 9 zd_B_measureFrom_78 (by decide) ?_
          exact jd_sub [(0, av_r 5), (1, av_i (nI f)), (2, av_i (nI row)), (3, av_i (nI (c + 1)))] ⟨rfl, rfl, rfl, rfl, trivial⟩ (ih (c + 1) (by omega) (by omega) (by omega))
theorem bp_w1 {S : Nat → Nat → Int32} {L : Nat → Nat → Int64} {row f : Nat} : va_up S 11 (bp_w S L row f 1) = S := by
  have e : bp_w S L row f 1 = S 11 := by funext c; simp only [bp_w]; rw [if_neg (by simp only [bp_u, Bool.and_eq_true, decide_eq_true_eq]; omega)]
  rw [e]; funext q; by_cases h : q = 11
  · subst h; rw [va_up_self]
  · rw [va_up_ne _ _ h]
theorem bp_d1 {S : Nat → Nat → Int32} {L : Nat → Nat → Int64} {row : Nat} : va_up L 12 (bp_d S L row 1) = L := by
  have e : bp_d S L row 1 = L 12 := by funext c; simp only [bp_d]; rw [if_neg (by simp only [bp_u, Bool.and_eq_true, decide_eq_true_eq]; omega)]
  rw [e]; funext q; by_cases h : q = 12
  · subst h; rw [va_up_self]
  · rw [va_up_ne _ _ h]
set_option maxRecDepth 100000 in
set_option maxHeartbeats 4000000 in
theorem kc_measure {l : Launch} (hls : l.stackTraces = false) {D : va_G} {w : wd_T} {S : Nat → Nat → Int32} {L : Nat → Nat → Int64} {f row : Nat} (hf : f ≤ 20) (hp : S 10 f = nI row) (hrow : row ≤ 8) : ct_M l D w zy_B_measureFrom (Cond.code zy_B_measureFrom zb_B_measureFrom 6 (Option.none : Option Jvm.ClassFile.FieldType)) ({ frames := 0, cells := 0, slots := 0, locals := 0 } : Room) [av_r 5, av_i (nI f)] S L (po_SL (va_up S 11 (bp_w S L row f 21)) (va_up L 12 (bp_d S L row 21))) 0 0 := by
  refine ct_intro hls (own := zn_B) (by decide) rfl (Nat.le_of_ble_eq_true rfl) ?_
  refine jd_aload_n zd_B_measureFrom_0 rfl ?_
  refine jd_get rfl rfl zl_B 3 (by decide) zi_115 rfl rfl rfl (by decide) zd_B_measureFrom_1 ?_
  refine jd_iload_n zd_B_measureFrom_4 rfl ?_
  refine jd_ildN (r := 10) (c := f) rfl rfl (by omega) (n := 21) (by decide) rfl (by decide) zd_B_measureFrom_5 ?_
  rw [hp]
  refine jd_istore_n zd_B_measureFrom_6 (by decide) ?_
  refine jd_iconst (v := 1) zd_B_measureFrom_7 (by decide) ?_
  refine jd_istore_n zd_B_measureFrom_8 (by decide) ?_
  refine jd_eqS (S' := (va_up S 11 (bp_w S L row f 1))) bp_w1.symm ?_
  refine jd_eqL (L' := (va_up L 12 (bp_d S L row 1))) bp_d1.symm ?_
  exact jd_sub [(0, av_r 5), (1, av_i (nI f)), (2, av_i (nI row)), (3, av_i (nI 1))] ⟨rfl, rfl, rfl, rfl, trivial⟩ (kl_measure (Qp := po_SL (va_up S 11 (bp_w S L row f 21)) (va_up L 12 (bp_d S L row 21))) hls hrow f (by omega) ⟨rfl, rfl, rfl⟩ 22 1 (by omega) (by omega) (by omega))
set_option maxRecDepth 100000 in
set_option maxHeartbeats 4000000 in
theorem kl_nearest {l : Launch} (hls : l.stackTraces = false) {D : va_G} {w : wd_T} {S : Nat → Nat → Int32} {L : Nat → Nat → Int64}  {Qp : jd_P} (hQ : Qp.1 (some (av_i (nI (bp_n S L 21)))) S L) : ∀ (k c : Nat), c ≤ 21 → 21 < c + k → 1 ≤ c → jd_J l D w zn_B zb_B_nearestColumn 3 (Option.some Jvm.ClassFile.FieldType.int) [] ({ frames := 0, cells := 0, slots := 0, locals := 0 } : Room) 0 0 Qp 0 0 4 [(0, av_r 5), (1, av_i (nI (bp_n S L c))), (2, av_i (nI c))] [] S L := by
  intro k
  induction k with
  | zero => intro c h1 h2; omega
  | succ k ih =>
    intro c hc hk h1c
    refine jd_iload_n zd_B_nearestColumn_4 rfl ?_
    refine jd_bipush (v := nI 20) zd_B_nearestColumn_5 (by decide) ?_
    refine jd_icmp_gt 47 zd_B_nearestColumn_7 (by decide) (fun h_7 => ?_) (fun h_7 => ?_)
    · have e_c := cb_end (by decide) hc h_7
      subst e_c
      refine jd_iload_n zd_B_nearestColumn_47 rfl ?_
      exact jd_iret rfl hQ (by decide) (by decide) zd_B_nearestColumn_48
    · have hc2 := cb_on (by decide) hc h_7
      have hbn := bp_n_le (S := S) (L := L) c
      refine jd_aload_n zd_B_nearestColumn_10 rfl ?_
      refine jd_get rfl rfl zl_B 6 (by decide) zi_118 rfl rfl rfl (by decide) zd_B_nearestColumn_11 ?_
      refine jd_iload_n zd_B_nearestColumn_14 rfl ?_
      refine jd_zldN (r := 13) (c := c) rfl rfl (by omega) (n := 21) (by decide) rfl (by decide) zd_B_nearestColumn_15 ?_
      refine jd_if_ne 41 zd_B_nearestColumn_16 (by decide) (fun h_16 => ?_) (fun h_16 => ?_)
      · refine jd_iinc (v := nI (c + 1)) zd_B_nearestColumn_41 rfl (nI_inc c) (by decide) ?_
        refine jd_goto 4 zd_B_nearestColumn_44 (by decide) ?_
        have e_c : bp_n S L (c + 1) = bp_n S L c := by simp only [bp_n]; rw [if_neg (fun q => h_16 q.2.1)]
        exact jd_sub [(0, av_r 5), (1, av_i (nI (bp_n S L (c + 1)))), (2, av_i (nI (c + 1)))] ⟨rfl, by rw [e_c]; rfl, rfl, trivial⟩ (ih (c + 1) (by omega) (by omega) (by omega))
      · refine jd_iload_n zd_B_nearestColumn_19 rfl ?_
        refine jd_if_eq 39 zd_B_nearestColumn_20 (by decide) (fun h_20 => ?_) (fun h_20 => ?_)
        · have h_z : bp_n S L c = 0 := by rcases Nat.eq_zero_or_pos (bp_n S L c) with q | q; exact q; exact absurd h_20 (nI_ne0 q (by omega))
          refine jd_iload_n zd_B_nearestColumn_39 rfl ?_
          refine jd_istore_n zd_B_nearestColumn_40 (by decide) ?_
          refine jd_iinc (v := nI (c + 1)) zd_B_nearestColumn_41 rfl (nI_inc c) (by decide) ?_
          refine jd_goto 4 zd_B_nearestColumn_44 (by decide) ?_
          have e_c : bp_n S L (c + 1) = c := by simp only [bp_n]; rw [if_pos ⟨h1c, h_16, Or.inl h_z⟩]
          exact jd_sub [(0, av_r 5), (1, av_i (nI (bp_n S L (c + 1)))), (2, av_i (nI (c + 1)))] ⟨rfl, by rw [e_c]; rfl, rfl, trivial⟩ (ih (c + 1) (by omega) (by omega) (by omega))
        · have h_z : ¬ bp_n S L c = 0 := fun q => h_20 (by rw [q]; rfl)
          refine jd_aload_n zd_B_nearestColumn_23 rfl ?_
          refine jd_get rfl rfl zl_B 5 (by decide) zi_117 rfl rfl rfl (by decide) zd_B_nearestColumn_24 ?_
          refine jd_iload_n zd_B_nearestColumn_27 rfl ?_
          refine jd_lldN (r := 12) (c := c) rfl rfl (by omega) (n := 21) (by decide) rfl (by decide) zd_B_nearestColumn_28 ?_
          refine jd_aload_n zd_B_nearestColumn_29 rfl ?_
          refine jd_get rfl rfl zl_B 5 (by decide) zi_117 rfl rfl rfl (by decide) zd_B_nearestColumn_30 ?_
          refine jd_iload_n zd_B_nearestColumn_33 rfl ?_
          refine jd_lldN (r := 12) (c := (bp_n S L c)) rfl rfl (by omega) (n := 21) (by decide) rfl (by decide) zd_B_nearestColumn_34 ?_
          refine jd_lcmp zd_B_nearestColumn_35 ?_
          refine jd_if_ge 41 zd_B_nearestColumn_36 (by decide) (fun h_36 => ?_) (fun h_36 => ?_)
          · refine jd_iinc (v := nI (c + 1)) zd_B_nearestColumn_41 rfl (nI_inc c) (by decide) ?_
            refine jd_goto 4 zd_B_nearestColumn_44 (by decide) ?_
            have e_c : bp_n S L (c + 1) = bp_n S L c := by simp only [bp_n]; rw [if_neg (fun q => by rcases q.2.2 with q2 | q2; exact h_z q2; exact absurd q2 (Int64.not_lt.mpr ((lg_cmp_ge _ _).mp h_36)))]
            exact jd_sub [(0, av_r 5), (1, av_i (nI (bp_n S L (c + 1)))), (2, av_i (nI (c + 1)))] ⟨rfl, by rw [e_c]; rfl, rfl, trivial⟩ (ih (c + 1) (by omega) (by omega) (by omega))
          · refine jd_iload_n zd_B_nearestColumn_39 rfl ?_
            refine jd_istore_n zd_B_nearestColumn_40 (by decide) ?_
            refine jd_iinc (v := nI (c + 1)) zd_B_nearestColumn_41 rfl (nI_inc c) (by decide) ?_
            refine jd_goto 4 zd_B_nearestColumn_44 (by decide) ?_
            have e_c : bp_n S L (c + 1) = c := by simp only [bp_n]; rw [if_pos ⟨h1c, h_16, Or.inr ((Int64.not_le.mp (fun q => h_36 ((lg_cmp_ge _ _).mpr q))))⟩]
            exact jd_sub [(0, av_r 5), (1, av_i (nI (bp_n S L (c + 1)))), (2, av_i (nI (c + 1)))] ⟨rfl, by rw [e_c]; rfl, rfl, trivial⟩ (ih (c + 1) (by omega) (by omega) (by omega))
set_option maxRecDepth 100000 in
set_option maxHeartbeats 4000000 in
theorem kc_nearest {l : Launch} (hls : l.stackTraces = false) {D : va_G} {w : wd_T} {S : Nat → Nat → Int32} {L : Nat → Nat → Int64}  : ct_M l D w zy_B_nearestColumn (Cond.code zy_B_nearestColumn zb_B_nearestColumn 3 (Option.some Jvm.ClassFile.FieldType.int)) ({ frames := 0, cells := 0, slots := 0, locals := 0 } : Room) [av_r 5] S L (po_i (nI (bp_n S L 21)) S L) 0 0 := by
  refine ct_intro hls (own := zn_B) (by decide) rfl (Nat.le_of_ble_eq_true rfl) ?_
  refine jd_iconst (v := 0) zd_B_nearestColumn_0 (by decide) ?_
  refine jd_istore_n zd_B_nearestColumn_1 (by decide) ?_
  refine jd_iconst (v := 1) zd_B_nearestColumn_2 (by decide) ?_
  refine jd_istore_n zd_B_nearestColumn_3 (by decide) ?_
  exact jd_sub [(0, av_r 5), (1, av_i (nI (bp_n S L 1))), (2, av_i (nI 1))] ⟨rfl, rfl, rfl, trivial⟩ (kl_nearest (Qp := po_i (nI (bp_n S L 21)) S L) hls ⟨rfl, rfl, rfl⟩ 22 1 (by omega) (by omega) (by omega))
set_option maxRecDepth 100000 in
set_option maxHeartbeats 4000000 in
theorem kl_shiftBy {l : Launch} (hls : l.stackTraces = false) {D : va_G} {w : wd_T} {S : Nat → Nat → Int32} {L : Nat → Nat → Int64} (x : Int64) (hrw : ∀ c, c ≤ 20 → ¬ S 13 c = 0 → ∃ r, r < 9 ∧ S 10 c = nI r) {Qp : jd_P} (hQ : Qp.1 none S (bp_s S L x 21)) : ∀ (k c : Nat), c ≤ 21 → 21 < c + k → jd_J l D w zn_B zb_B_shiftBy 4 (Option.none : Option Jvm.ClassFile.FieldType) [] ({ frames := 0, cells := 0, slots := 0, locals := 0 } : Room) 0 0 Qp 0 0 2 [(0, av_r 5), (1, av_l x), (3, av_i (nI c))] [] S (bp_s S L x c) := by
  intro k
  induction k with
  | zero => intro c h1 h2; omega
  | succ k ih =>
    intro c hc hk
    refine jd_iload_n zd_B_shiftBy_2 rfl ?_
    refine jd_bipush (v := nI 20) zd_B_shiftBy_3 (by decide) ?_
    refine jd_icmp_gt 61 zd_B_shiftBy_5 (by decide) (fun h_5 => ?_) (fun h_5 => ?_)
    · have e_c := cb_end (by decide) hc h_5
      subst e_c
      exact jd_vret rfl hQ (by decide) (by decide) zd_B_shiftBy_61
    · have hc2 := cb_on (by decide) hc h_5
      refine jd_aload_n zd_B_shiftBy_8 rfl ?_
      refine jd_get rfl rfl zl_B 6 (by decide) zi_118 rfl rfl rfl (by decide) zd_B_shiftBy_9 ?_
      refine jd_iload_n zd_B_shiftBy_12 rfl ?_
      refine jd_zldN (r := 13) (c := c) rfl rfl (by omega) (n := 21) (by decide) rfl (by decide) zd_B_shiftBy_13 ?_
      refine jd_if_eq 45 zd_B_shiftBy_14 (by decide) (fun h_14 => ?_) (fun h_14 => ?_)
      · refine jd_aload_n zd_B_shiftBy_45 rfl ?_
        refine jd_get rfl rfl zl_B 5 (by decide) zi_117 rfl rfl rfl (by decide) zd_B_shiftBy_46 ?_
        refine jd_iload_n zd_B_shiftBy_49 rfl ?_
        refine jd_dup2 zd_B_shiftBy_50 rfl rfl ?_
        refine jd_lldN (r := 12) (c := c) rfl rfl (by omega) (n := 21) (by decide) rfl (by decide) zd_B_shiftBy_51 ?_
        refine jd_lload_n zd_B_shiftBy_52 rfl ?_
        refine jd_lsub zd_B_shiftBy_53 ?_
        refine jd_lstN (r := 12) (c := c) (fun _ => rfl) rfl (by omega) (n := 21) (by decide) rfl (by decide) zd_B_shiftBy_54 ?_
        refine jd_eqL (L' := bp_s S L x (c + 1)) (by simp only [bp_s]; rw [if_pos h_14]) ?_
        refine jd_iinc (v := nI (c + 1)) zd_B_shiftBy_55 rfl (nI_inc c) (by decide) ?_
        refine jd_goto 2 zd_B_shiftBy_58 (by decide) ?_
        exact jd_sub [(0, av_r 5), (1, av_l x), (3, av_i (nI (c + 1)))] ⟨rfl, rfl, rfl, trivial⟩ (ih (c + 1) (by omega) (by omega))
      · obtain ⟨r, hr9, er⟩ := hrw c hc2 h_14
        refine jd_aload_n zd_B_shiftBy_17 rfl ?_
        refine jd_get rfl rfl zl_B 1 (by decide) zi_113 rfl rfl rfl (by decide) zd_B_shiftBy_18 ?_
        refine jd_aload_n zd_B_shiftBy_21 rfl ?_
        refine jd_get rfl rfl zl_B 3 (by decide) zi_115 rfl rfl rfl (by decide) zd_B_shiftBy_22 ?_
        refine jd_iload_n zd_B_shiftBy_25 rfl ?_
        refine jd_ildN (r := 10) (c := c) rfl rfl (by omega) (n := 21) (by decide) rfl (by decide) zd_B_shiftBy_26 ?_
        refine jd_dup2 zd_B_shiftBy_27 rfl rfl ?_
        refine jd_lldN (r := 8) (c := r) rfl er (by omega) (n := 9) (by decide) rfl (by decide) zd_B_shiftBy_28 ?_
        refine jd_lload_n zd_B_shiftBy_29 rfl ?_
        refine jd_ladd zd_B_shiftBy_30 ?_
        refine jd_lstN (r := 8) (c := r) (fun _ => rfl) er (by omega) (n := 9) (by decide) rfl (by decide) zd_B_shiftBy_31 ?_
        refine jd_aload_n zd_B_shiftBy_32 rfl ?_
        refine jd_get rfl rfl zl_B 2 (by decide) zi_114 rfl rfl rfl (by decide) zd_B_shiftBy_33 ?_
        refine jd_iload_n zd_B_shiftBy_36 rfl ?_
        refine jd_dup2 zd_B_shiftBy_37 rfl rfl ?_
        refine jd_lldN (r := 9) (c := c) rfl rfl (by omega) (n := 21) (by decide) rfl (by decide) zd_B_shiftBy_38 ?_
        refine jd_lload_n zd_B_shiftBy_39 rfl ?_
        refine jd_lsub zd_B_shiftBy_40 ?_
        refine jd_lstN (r := 9) (c := c) (fun _ => rfl) rfl (by omega) (n := 21) (by decide) rfl (by decide) zd_B_shiftBy_41 ?_
        rw [va_up_ne _ _ (show (9 : Nat) ≠ 8 by decide)]
        refine jd_eqL (L' := bp_s S L x (c + 1)) (by simp only [bp_s]; rw [if_neg h_14, er, nI_clamp (by omega)]) ?_
        refine jd_goto 55 zd_B_shiftBy_42 (by decide) ?_
        refine jd_iinc (v := nI (c + 1)) zd_B_shiftBy_55 rfl (nI_inc c) (by decide) ?_
        refine jd_goto 2 zd_B_shiftBy_58 (by decide) ?_
        exact jd_sub [(0, av_r 5), (1, av_l x), (3, av_i (nI (c + 1)))] ⟨rfl, rfl, rfl, trivial⟩ (ih (c + 1) (by omega) (by omega))
set_option maxRecDepth 100000 in
set_option maxHeartbeats 4000000 in
theorem kc_shiftBy {l : Launch} (hls : l.stackTraces = false) {D : va_G} {w : wd_T} {S : Nat → Nat → Int32} {L : Nat → Nat → Int64} (x : Int64) (hrw : ∀ c, c ≤ 20 → ¬ S 13 c = 0 → ∃ r, r < 9 ∧ S 10 c = nI r) : ct_M l D w zy_B_shiftBy (Cond.code zy_B_shiftBy zb_B_shiftBy 4 (Option.none : Option Jvm.ClassFile.FieldType)) ({ frames := 0, cells := 0, slots := 0, locals := 0 } : Room) [av_r 5, av_l x] S L (po_SL S (bp_s S L x 21)) 0 0 := by
  refine ct_intro hls (own := zn_B) (by decide) rfl (Nat.le_of_ble_eq_true rfl) ?_
  refine jd_iconst (v := 0) zd_B_shiftBy_0 (by decide) ?_
  refine jd_istore_n zd_B_shiftBy_1 (by decide) ?_
  exact jd_sub [(0, av_r 5), (1, av_l x), (3, av_i (nI 0))] ⟨rfl, rfl, rfl, trivial⟩ (kl_shiftBy (Qp := po_SL S (bp_s S L x 21)) hls x hrw ⟨rfl, rfl, rfl⟩ 22 0 (by omega) (by omega))
end
section
/-! ONE STEP OF THE SEARCH, from the machine's longs to whole numbers. -/
theorem l_sub {x y : Int64} (h1 : -9223372036854775808 ≤ x.toInt - y.toInt) (h2 : x.toInt - y.toInt < 9223372036854775808) : (x - y).toInt = x.toInt - y.toInt := by
  rw [Int64.toInt_sub]
  exact Int.bmod_eq_of_le (by omega) (by omega)
theorem l_add {x y : Int64} (h1 : -9223372036854775808 ≤ x.toInt + y.toInt) (h2 : x.toInt + y.toInt < 9223372036854775808) : (x + y).toInt = x.toInt + y.toInt := by
  rw [Int64.toInt_add]
  exact Int.bmod_eq_of_le (by omega) (by omega)
theorem bp_n_spec {S : Nat → Nat → Int32} {L : Nat → Nat → Int64} : ∀ n, (bp_n S L n = 0 → ∀ c, 1 ≤ c → c < n → ¬ S 13 c = 0) ∧ (bp_n S L n ≠ 0 → bp_n S L n < n ∧ S 13 (bp_n S L n) = 0 ∧ ∀ c, 1 ≤ c → c < n → S 13 c = 0 → (L 12 (bp_n S L n)).toInt ≤ (L 12 c).toInt) := by
  intro n
  induction n with
  | zero => exact ⟨fun _ c h1 h2 => by omega, fun h => absurd rfl h⟩
  | succ n ih =>
    obtain ⟨i1, i2⟩ := ih
    by_cases h : 1 ≤ n ∧ S 13 n = 0 ∧ (bp_n S L n = 0 ∨ L 12 n < L 12 (bp_n S L n))
    · have e : bp_n S L (n + 1) = n := by simp only [bp_n]; rw [if_pos h]
      rw [e]
      refine ⟨fun q => by omega, fun _ => ⟨by omega, h.2.1, fun c c1 c2 hc => ?_⟩⟩
      rcases Nat.lt_or_ge c n with q | q
      · rcases h.2.2 with x | x
        · exact absurd hc (i1 x c c1 q)
        · by_cases y : bp_n S L n = 0
          · exact absurd hc (i1 y c c1 q)
          · have h3 := (i2 y).2.2 c c1 q hc
            have h4 := Int64.lt_iff_toInt_lt.mp x
            omega
      · have : c = n := by omega
        subst this
        exact Int.le_refl _
    · have e : bp_n S L (n + 1) = bp_n S L n := by simp only [bp_n]; rw [if_neg h]
      rw [e]
      refine ⟨fun q c c1 c2 hc => ?_, fun q => ⟨by have := (i2 q).1; omega, (i2 q).2.1, fun c c1 c2 hc => ?_⟩⟩
      · rcases Nat.lt_or_ge c n with x | x
        · exact i1 q c c1 x hc
        · have : c = n := by omega
          subst this
          exact h ⟨c1, hc, Or.inl q⟩
      · rcases Nat.lt_or_ge c n with x | x
        · exact (i2 q).2.2 c c1 x hc
        · have : c = n := by omega
          subst this
          have h5 : ¬ L 12 c < L 12 (bp_n S L c) := fun y => h ⟨c1, hc, Or.inr y⟩
          rw [Int64.lt_iff_toInt_lt] at h5
          omega
theorem bp_s_out {S : Nat → Nat → Int32} {L : Nat → Nat → Int64} {x : Int64} {r : Nat} (h8 : r ≠ 8) (h9 : r ≠ 9) (h12 : r ≠ 12) : ∀ n, bp_s S L x n r = L r
  | 0 => rfl
  | n + 1 => by
    simp only [bp_s]
    split
    · rw [va_up_ne _ _ h12]; exact bp_s_out h8 h9 h12 n
    · rw [va_up_ne _ _ h9, va_up_ne _ _ h8]; exact bp_s_out h8 h9 h12 n
theorem bp_s8_no {S : Nat → Nat → Int32} {L : Nat → Nat → Int64} {x : Int64} {r : Nat} : ∀ n, (∀ c, c < n → ¬ S 13 c = 0 → (S 10 c).toNatClampNeg ≠ r) → bp_s S L x n 8 r = L 8 r
  | 0, _ => rfl
  | n + 1, h => by
    have ih := bp_s8_no (x := x) (L := L) n (fun c hc => h c (by omega))
    simp only [bp_s]
    split
    · rw [va_up_ne _ _ (by decide)]; exact ih
    · rename_i q
      rw [va_up_ne _ _ (by decide), va_up_self, pk_uLn (fun e => h n (by omega) q e.symm)]; exact ih
theorem bp_s8_yes {S : Nat → Nat → Int32} {L : Nat → Nat → Int64} {x : Int64} {r c0 : Nat} (hc0 : ¬ S 13 c0 = 0) (er : (S 10 c0).toNatClampNeg = r) : ∀ n, c0 < n → (∀ c, c < n → ¬ S 13 c = 0 → (S 10 c).toNatClampNeg = r → c = c0) → bp_s S L x n 8 r = L 8 r + x
  | 0, h, _ => by omega
  | n + 1, h, hu => by
    by_cases e : c0 = n
    · subst e
      have ih := bp_s8_no (S := S) (L := L) (x := x) (r := r) c0 (fun c hc hn e => by have := hu c (by omega) hn e; omega)
      simp only [bp_s]
      rw [if_neg hc0, va_up_ne _ _ (by decide), va_up_self, er, pk_uLs, ih]
    · have ih := bp_s8_yes (L := L) (x := x) hc0 er n (by omega) (fun c hc => hu c (by omega))
      simp only [bp_s]
      split
      · rw [va_up_ne _ _ (by decide)]; exact ih
      · rename_i q
        rw [va_up_ne _ _ (by decide), va_up_self, pk_uLn (fun z => e (hu n (by omega) q z.symm).symm)]; exact ih
theorem bp_s9 {S : Nat → Nat → Int32} {L : Nat → Nat → Int64} {x : Int64} {c : Nat} : ∀ n, bp_s S L x n 9 c = if c < n ∧ ¬ S 13 c = 0 then L 9 c - x else L 9 c
  | 0 => by rw [if_neg (by omega)]; rfl
  | n + 1 => by
    have ih := bp_s9 (S := S) (L := L) (x := x) (c := c) n
    simp only [bp_s]
    by_cases q : S 13 n = 0
    · rw [if_pos q, va_up_ne _ _ (by decide), ih]
      by_cases e : c = n
      · subst e; rw [if_neg (fun z => z.2 q), if_neg (fun z => z.2 q)]
      · by_cases z : c < n ∧ ¬ S 13 c = 0
        · rw [if_pos z, if_pos ⟨by omega, z.2⟩]
        · rw [if_neg z, if_neg (fun y => z ⟨by omega, y.2⟩)]
    · rw [if_neg q, va_up_self]
      by_cases e : c = n
      · subst e; rw [pk_uLs, ih, if_neg (fun z => absurd z.1 (by omega)), if_pos ⟨by omega, q⟩]
      · rw [pk_uLn e, ih]
        by_cases z : c < n ∧ ¬ S 13 c = 0
        · rw [if_pos z, if_pos ⟨by omega, z.2⟩]
        · rw [if_neg z, if_neg (fun y => z ⟨by omega, y.2⟩)]
theorem bp_s12 {S : Nat → Nat → Int32} {L : Nat → Nat → Int64} {x : Int64} {c : Nat} : ∀ n, bp_s S L x n 12 c = if c < n ∧ S 13 c = 0 then L 12 c - x else L 12 c
  | 0 => by rw [if_neg (by omega)]; rfl
  | n + 1 => by
    have ih := bp_s12 (S := S) (L := L) (x := x) (c := c) n
    simp only [bp_s]
    by_cases q : S 13 n = 0
    · rw [if_pos q, va_up_self]
      by_cases e : c = n
      · subst e; rw [pk_uLs, ih, if_neg (fun z => absurd z.1 (by omega)), if_pos ⟨by omega, q⟩]
      · rw [pk_uLn e, ih]
        by_cases z : c < n ∧ S 13 c = 0
        · rw [if_pos z, if_pos ⟨by omega, z.2⟩]
        · rw [if_neg z, if_neg (fun y => z ⟨by omega, y.2⟩)]
    · rw [if_neg q, va_up_ne _ _ (by decide), va_up_ne _ _ (by decide), ih]
      by_cases e : c = n
      · subst e; rw [if_neg (fun z => q z.2), if_neg (fun z => q z.2)]
      · by_cases z : c < n ∧ S 13 c = 0
        · rw [if_pos z, if_pos ⟨by omega, z.2⟩]
        · rw [if_neg z, if_neg (fun y => z ⟨by omega, y.2⟩)]
/-- the machine's numbers are the whole numbers a, u, v, p -/
def bp_R (S : Nat → Nat → Int32) (L : Nat → Nat → Int64) (n : Nat) (a : Nat → Nat → Int) (u v : Nat → Int) (p : Nat → Nat) : Prop :=
  (∀ i c, 1 ≤ i → i ≤ n → 1 ≤ c → c ≤ 20 → (L (14 + i) c).toInt = a i c) ∧ (∀ i, 1 ≤ i → i ≤ 8 → (L 8 i).toInt = u i) ∧ (∀ c, 1 ≤ c → c ≤ 20 → (L 9 c).toInt = v c) ∧ (∀ c, c ≤ 20 → S 10 c = nI (p c) ∧ p c ≤ 8)
def bp_I (n k : Nat) (a : Nat → Nat → Int) (S : Nat → Nat → Int32) (L : Nat → Nat → Int64) (step : Nat) (u v d : Nat → Int) (p way z : Nat → Nat) : Prop :=
  hu_M 20 k a u v p ∧ hu_Z 20 step a u v p way z ∧ hu_D 20 step a u v p way z d ∧ 0 ≤ u k ∧ bp_R S L n a u v p ∧ (0 < step → ∀ c, 1 ≤ c → c ≤ 20 → S 11 c = nI (way c)) ∧
  (step = 0 → ∀ c, 1 ≤ c → c ≤ 20 → d c = 9223372036854775807) ∧ (∀ c, 1 ≤ c → c ≤ 20 → (∀ i, i < step → z i ≠ c) → (L 12 c).toInt = d c) ∧ (∀ c, c ≤ 20 → (S 13 c = 0 ↔ ∀ i, i < step → z i ≠ c))
theorem bp_step {n k step : Nat} {a : Nat → Nat → Int} {u v d : Nat → Int} {p way z : Nat → Nat} {S S1 S2 : Nat → Nat → Int32} {L L2 L3 : Nat → Nat → Int64} {j : Nat} (hn : n ≤ 8) (hk : k ≤ n)
    (ha : ∀ i c, 1 ≤ i → i ≤ n → 1 ≤ c → c ≤ 20 → 0 ≤ a i c ∧ a i c ≤ 6525847399461442) (hI : bp_I n k a S L step u v d p way z) (hp : p (z step) ≠ 0)
    (e1 : S1 = va_up S 13 (upd (S 13) (z step) 1)) (e2 : S2 = va_up S1 11 (bp_w S1 L (p (z step)) (z step) 21)) (e3 : L2 = va_up L 12 (bp_d S1 L (p (z step)) 21)) (e4 : j = bp_n S2 L2 21) (e5 : L3 = bp_s S2 L2 (L2 12 j) 21) :
    1 ≤ j ∧ j ≤ 20 ∧ (∀ c, c ≤ 20 → ¬ S2 13 c = 0 → ∃ r, r < 9 ∧ S2 10 c = nI r) ∧ ∃ (u' v' d' : Nat → Int) (way' : Nat → Nat), bp_I n k a S2 L3 (step + 1) u' v' d' p way' (fun i => if i = step + 1 then j else z i) := by
  obtain ⟨hM, hZ, hD, huk, ⟨ra, ru, rv, rp⟩, hway, hd0, hd, hr⟩ := hI
  have hrow := fun t ht => hu_row hM hZ hp (t := t) ht
  have hrw := hrow step (Nat.le_refl _)
  have hzN := hZ.2.1
  obtain ⟨bu, bv⟩ := hu_small hM (show k ≤ 20 by omega) (fun i c i1 ik c1 cN => ha i c i1 (by omega) c1 cN) huk
  have s13 : ∀ c, c ≤ 20 → (S2 13 c = 0 ↔ ∀ i, i < step + 1 → z i ≠ c) := by
    intro c hc
    have e : S2 13 c = upd (S 13) (z step) 1 c := by rw [e2, va_up_ne _ _ (by decide), e1, va_up_self]
    rw [e]
    by_cases q : c = z step
    · subst q
      simp only [upd, if_true]
      exact ⟨fun h => absurd h (by decide), fun h => absurd rfl (h step (by omega))⟩
    · simp only [upd, if_neg q]
      rw [hr c hc]
      refine ⟨fun h i hi => ?_, fun h i hi => h i (by omega)⟩
      rcases Nat.lt_or_ge i step with x | x
      · exact h i x
      · have : i = step := by omega
        subst this
        exact fun y => q y.symm
  have s10 : S2 10 = S 10 := by rw [e2, va_up_ne _ _ (by decide), e1, va_up_ne _ _ (by decide)]
  have far : ∀ i c, 1 ≤ i → i ≤ k → 1 ≤ c → c ≤ 20 → -6525847399461442 ≤ a i c - u i - v c ∧ a i c - u i - v c ≤ 13051694798922884 := by
    intro i c i1 ik c1 cN
    have y1 := ha i c i1 (by omega) c1 cN
    have y2 := bu i i1 ik
    have y3 := bv c c1 cN
    omega
  have hfar : ∀ c, 1 ≤ c → c ≤ 20 → (bp_far L (p (z step)) c).toInt = a (p (z step)) c - u (p (z step)) - v c := by
    intro c c1 cN
    have x1 := ra _ c hrw.1 (by omega) c1 cN
    have x2 := ru _ hrw.1 (by omega)
    have x3 := rv c c1 cN
    have y1 := ha _ c hrw.1 (by omega) c1 cN
    have y2 := bu _ hrw.1 hrw.2
    have y3 := bv c c1 cN
    unfold bp_far
    have z1 : (L (14 + p (z step)) c - L 8 (p (z step))).toInt = a (p (z step)) c - u (p (z step)) := by rw [l_sub (by omega) (by omega), x1, x2]
    rw [l_sub (by omega) (by omega), z1, x3]
  have s1e : S1 13 = S2 13 := by rw [e2, va_up_ne _ _ (by decide)]
  have hU : ∀ c, 1 ≤ c → c ≤ 20 → (bp_u S1 L (p (z step)) 21 c = true ↔ (∀ i, i < step + 1 → z i ≠ c) ∧ a (p (z step)) c - u (p (z step)) - v c < d c) := by
    intro c c1 cN
    simp only [bp_u, Bool.and_eq_true, decide_eq_true_eq, s1e, s13 c cN, Int64.lt_iff_toInt_lt, hfar c c1 cN]
    constructor
    · rintro ⟨⟨-, q1⟩, q2⟩
      exact ⟨q1, by rw [hd c c1 cN (fun i hi => q1 i (by omega))] at q2; exact q2⟩
    · rintro ⟨q1, q2⟩
      exact ⟨⟨⟨c1, by omega⟩, q1⟩, by rw [hd c c1 cN (fun i hi => q1 i (by omega))]; exact q2⟩
  have hU0 : bp_u S1 L (p (z step)) 21 0 = false := by simp [bp_u]
  have hZ0 := hZ.1
  obtain ⟨hZ1, hD1⟩ := hu_measure (d1 := fun c => if bp_u S1 L (p (z step)) 21 c = true then a (p (z step)) c - u (p (z step)) - v c else d c) (way1 := fun c => if bp_u S1 L (p (z step)) 21 c = true then z step else way c) hZ hD
    (fun s0 c c1 cN => by have := hd0 s0 c c1 cN; have := far _ c hrw.1 hrw.2 c1 cN; omega)
    (fun c c1 cN hc hf => by
      have q := (hU c c1 cN).mpr ⟨fun i hi => hc i (by omega), hf⟩
      simp only [if_pos q]; exact ⟨trivial, trivial⟩)
    (fun c c1 cN hc hf => by
      have q : ¬ bp_u S1 L (p (z step)) 21 c = true := fun q => hf ((hU c c1 cN).mp q).2
      simp only [if_neg q]; exact ⟨trivial, trivial⟩)
    (fun i hi => by
      rcases Nat.eq_zero_or_pos (z i) with q | q
      · show (if bp_u S1 L (p (z step)) 21 (z i) = true then z step else way (z i)) = way (z i)
        rw [if_neg (by rw [q, hU0]; decide)]
      · show (if bp_u S1 L (p (z step)) 21 (z i) = true then z step else way (z i)) = way (z i)
        rw [if_neg (fun x => ((hU (z i) q (hzN i hi)).mp x).1 i (by omega) rfl)])
  have hL2 : ∀ c, 1 ≤ c → c ≤ 20 → (∀ i, i < step + 1 → z i ≠ c) → (L2 12 c).toInt = (fun c => if bp_u S1 L (p (z step)) 21 c = true then a (p (z step)) c - u (p (z step)) - v c else d c) c := by
    intro c c1 cN hc
    show (L2 12 c).toInt = (if bp_u S1 L (p (z step)) 21 c = true then a (p (z step)) c - u (p (z step)) - v c else d c)
    rw [e3, va_up_self]
    by_cases q : bp_u S1 L (p (z step)) 21 c = true
    · simp only [bp_d, if_pos q]; exact hfar c c1 cN
    · simp only [bp_d, if_neg q]; exact hd c c1 cN (fun i hi => hc i (by omega))
  have hW2 : ∀ c, 1 ≤ c → c ≤ 20 → S2 11 c = nI ((fun c => if bp_u S1 L (p (z step)) 21 c = true then z step else way c) c) := by
    intro c c1 cN
    show S2 11 c = nI (if bp_u S1 L (p (z step)) 21 c = true then z step else way c)
    rw [e2, va_up_self]
    by_cases q : bp_u S1 L (p (z step)) 21 c = true
    · simp only [bp_w, if_pos q]
    · simp only [bp_w, if_neg q]
      rw [e1, va_up_ne _ _ (by decide)]
      rcases Nat.eq_zero_or_pos step with s0 | s0
      · exfalso
        apply q
        rw [hU c c1 cN]
        refine ⟨fun i hi => ?_, ?_⟩
        · have : i = 0 := by omega
          rw [this, hZ0]; omega
        · have := hd0 s0 c c1 cN
          have := far _ c hrw.1 hrw.2 c1 cN
          omega
      · exact hway s0 c c1 cN
  generalize (fun c => if bp_u S1 L (p (z step)) 21 c = true then a (p (z step)) c - u (p (z step)) - v c else d c) = d1 at hD1 hL2
  generalize (fun c => if bp_u S1 L (p (z step)) 21 c = true then z step else way c) = way1 at hZ1 hD1 hW2
  have hd1 : ∀ c, 1 ≤ c → c ≤ 20 → (∀ i, i < step + 1 → z i ≠ c) → -6525847399461442 ≤ d1 c ∧ d1 c ≤ 13051694798922884 := by
    intro c c1 cN hc
    obtain ⟨jt, jt1, -, jt3⟩ := (hD1 c c1 cN hc).2 (by omega)
    have h1 := hrow jt (by omega)
    have h2 := far (p (z jt)) c h1.1 h1.2 c1 cN
    omega
  obtain ⟨c0, c01, c0N, hc0⟩ := hu_bare hM (show k ≤ 20 by omega)
  have hc0z : ∀ i, i < step + 1 → z i ≠ c0 := fun i hi e => by have := hrow i (by omega); rw [e] at this; omega
  have hspec := bp_n_spec (S := S2) (L := L2) 21
  rw [← e4] at hspec
  have hj0 : j ≠ 0 := fun q => hspec.1 q c0 c01 (by omega) ((s13 c0 c0N).mpr hc0z)
  obtain ⟨hj1, hj2, hj3⟩ := hspec.2 hj0
  have hjz : ∀ i, i < step + 1 → z i ≠ j := (s13 j (by omega)).mp hj2
  have hxw : (L2 12 j).toInt = d1 j := hL2 j (by omega) (by omega) hjz
  have hwb := hd1 j (by omega) (by omega) hjz
  have l28 : L2 8 = L 8 := by rw [e3, va_up_ne _ _ (by decide)]
  have l29 : L2 9 = L 9 := by rw [e3, va_up_ne _ _ (by decide)]
  have hcl : ∀ c, c ≤ 20 → (S2 10 c).toNatClampNeg = p c := by
    intro c hc
    rw [s10, (rp c hc).1]
    exact nI_clamp (by have := (rp c hc).2; omega)
  have hreach : ∀ c, c ≤ 20 → ¬ S2 13 c = 0 → ∃ t, t < step + 1 ∧ z t = c := by
    intro c hc hn
    rw [s13 c hc] at hn
    by_cases q : ∃ t, t < step + 1 ∧ z t = c
    · exact q
    · exact absurd (fun i hi e => q ⟨i, hi, e⟩) hn
  have hnr : ∀ t, t ≤ step → ¬ S2 13 (z t) = 0 := fun t ht q => (s13 (z t) (hzN t ht)).mp q t (by omega) rfl
  have l38y : ∀ t, t ≤ step → (L3 8 (p (z t))).toInt = u (p (z t)) + d1 j := by
    intro t ht
    have h1 := hrow t ht
    rw [e5, bp_s8_yes (c0 := z t) (hnr t ht) (hcl _ (hzN t ht)) 21 (by have := hzN t ht; omega) (fun c hc hn e => by
      rw [hcl c (by omega)] at e
      exact hM.2.2.2.1 c (z t) (by omega) (hzN t ht) e (by omega)), l28]
    have h2 := bu _ h1.1 h1.2
    have h3 := ru _ h1.1 (by omega)
    rw [l_add (by omega) (by omega), h3, hxw]
  have l38n : ∀ i, (∀ t, t ≤ step → p (z t) ≠ i) → L3 8 i = L 8 i := by
    intro i hi
    rw [e5, bp_s8_no 21 (fun c hc hn e => by
      obtain ⟨t, ht, rfl⟩ := hreach c (by omega) hn
      rw [hcl _ (by omega)] at e
      exact hi t (by omega) e), l28]
  have l39y : ∀ t, t ≤ step → 1 ≤ z t → (L3 9 (z t)).toInt = v (z t) - d1 j := by
    intro t ht h1
    have hN := hzN t ht
    rw [e5, bp_s9, if_pos ⟨by omega, hnr t ht⟩, l29]
    have h2 := bv _ h1 hN
    have h3 := rv _ h1 hN
    rw [l_sub (by omega) (by omega), h3, hxw]
  have l39n : ∀ c, c ≤ 20 → (∀ t, t ≤ step → z t ≠ c) → L3 9 c = L 9 c := by
    intro c cN hc
    rw [e5, bp_s9, if_neg (fun q => q.2 ((s13 c cN).mpr (fun i hi => hc i (by omega)))), l29]
  have l312 : ∀ c, 1 ≤ c → c ≤ 20 → (∀ t, t ≤ step → z t ≠ c) → (L3 12 c).toInt = d1 c - d1 j := by
    intro c c1 cN hc
    have hc' : ∀ i, i < step + 1 → z i ≠ c := fun i hi => hc i (by omega)
    rw [e5, bp_s12, if_pos ⟨by omega, (s13 c cN).mpr hc'⟩]
    have h2 := hd1 c c1 cN hc'
    have h3 := hL2 c c1 cN hc'
    rw [l_sub (by omega) (by omega), h3, hxw]
  have hsh := hu_shift (u' := fun i => if 1 ≤ i ∧ i ≤ 8 then (L3 8 i).toInt else u i) (v' := fun c => if 1 ≤ c ∧ c ≤ 20 then (L3 9 c).toInt else if c = 0 then v 0 - d1 j else v c) (d' := fun c => (L3 12 c).toInt) hM hZ1 hp hD1 (by omega) (by omega) (fun i hi => hjz i (by omega)) rfl
    (fun c c1 cN hc => by
      have h1 := hj3 c c1 (by omega) ((s13 c cN).mpr (fun i hi => hc i (by omega)))
      rw [hxw, hL2 c c1 cN (fun i hi => hc i (by omega))] at h1
      exact h1)
    (fun t ht => by
      have h1 := hrow t ht
      show (if 1 ≤ p (z t) ∧ p (z t) ≤ 8 then (L3 8 (p (z t))).toInt else u (p (z t))) = _
      rw [if_pos ⟨h1.1, by omega⟩]; exact l38y t ht)
    (fun i hi => by
      show (if 1 ≤ i ∧ i ≤ 8 then (L3 8 i).toInt else u i) = u i
      by_cases q : 1 ≤ i ∧ i ≤ 8
      · rw [if_pos q, l38n i hi]; exact ru i q.1 q.2
      · rw [if_neg q])
    (fun t ht => by
      show (if 1 ≤ z t ∧ z t ≤ 20 then (L3 9 (z t)).toInt else if z t = 0 then v 0 - d1 j else v (z t)) = _
      rcases Nat.eq_zero_or_pos (z t) with q | q
      · rw [if_neg (by omega), if_pos q, q]
      · rw [if_pos ⟨q, hzN t ht⟩]; exact l39y t ht q)
    (fun c cN hc => by
      show (if 1 ≤ c ∧ c ≤ 20 then (L3 9 c).toInt else if c = 0 then v 0 - d1 j else v c) = v c
      rcases Nat.eq_zero_or_pos c with q | q
      · exact absurd (by rw [hZ0, q]) (hc 0 (by omega))
      · rw [if_pos ⟨q, cN⟩, l39n c cN hc]; exact rv c q cN)
    (fun c c1 cN hc => l312 c c1 cN hc)
  obtain ⟨hw0, hM', hZ', hD'⟩ := hsh
  have hz' : ∀ i, i < step + 1 → (if i = step + 1 then j else z i) = z i := fun i hi => if_neg (by omega)
  refine ⟨by omega, by omega, fun c hc hn => ⟨p c, by have := (rp c hc).2; omega, by rw [s10]; exact (rp c hc).1⟩, _, _, _, way1, hM', hZ', hD', ?_, ⟨?_, ?_, ?_, ?_⟩, fun _ => hW2, fun q => by omega, fun c c1 cN hc => rfl, fun c hc => ?_⟩
  · show 0 ≤ (if 1 ≤ k ∧ k ≤ 8 then (L3 8 k).toInt else u k)
    have hk1 := hM.2.1
    rw [if_pos ⟨hk1, by omega⟩]
    have h0 := l38y 0 (by omega)
    rw [hZ0, hM.1] at h0
    omega
  · intro i c i1 ik c1 cN
    rw [e5, bp_s_out (by omega) (by omega) (by omega), e3, va_up_ne _ _ (by omega)]
    exact ra i c i1 ik c1 cN
  · intro i i1 i8
    show _ = (if 1 ≤ i ∧ i ≤ 8 then (L3 8 i).toInt else u i)
    rw [if_pos ⟨i1, i8⟩]
  · intro c c1 cN
    show _ = (if 1 ≤ c ∧ c ≤ 20 then (L3 9 c).toInt else if c = 0 then v 0 - d1 j else v c)
    rw [if_pos ⟨c1, cN⟩]
  · intro c hc
    rw [s10]; exact rp c hc
  · rw [s13 c hc]
    refine ⟨fun h i hi => ?_, fun h i hi => ?_⟩
    · show (if i = step + 1 then j else z i) ≠ c
      rw [hz' i hi]; exact h i hi
    · have h9 : (if i = step + 1 then j else z i) ≠ c := h i hi
      rw [hz' i hi] at h9; exact h9
def bp_fS (S T : Nat → Nat → Int32) : Prop := ∀ r, r ≠ 10 → r ≠ 11 → r ≠ 13 → T r = S r
def bp_fL (L M : Nat → Nat → Int64) : Prop := ∀ r, r ≠ 8 → r ≠ 9 → r ≠ 12 → M r = L r
theorem bp_fS.up {S T : Nat → Nat → Int32} (h : bp_fS S T) {r : Nat} (hr : r = 10 ∨ r = 11 ∨ r = 13) (row : Nat → Int32) : bp_fS S (va_up T r row) := fun q h1 h2 h3 => by rw [va_up_ne _ _ (by omega)]; exact h q h1 h2 h3
theorem bp_fL.up {L M : Nat → Nat → Int64} (h : bp_fL L M) {r : Nat} (hr : r = 8 ∨ r = 9 ∨ r = 12) (row : Nat → Int64) : bp_fL L (va_up M r row) := fun q h1 h2 h3 => by rw [va_up_ne _ _ (by omega)]; exact h q h1 h2 h3
theorem bp_fL.s {S : Nat → Nat → Int32} {L M : Nat → Nat → Int64} (h : bp_fL L M) (x : Int64) (n : Nat) : bp_fL L (bp_s S M x n) := fun q h1 h2 h3 => by rw [bp_s_out h1 h2 h3]; exact h q h1 h2 h3
theorem bp_fS.tr {S T U : Nat → Nat → Int32} (h : bp_fS S T) (h2 : bp_fS T U) : bp_fS S U := fun q a b c => (h2 q a b c).trans (h q a b c)
theorem bp_fL.tr {S T U : Nat → Nat → Int64} (h : bp_fL S T) (h2 : bp_fL T U) : bp_fL S U := fun q a b c => (h2 q a b c).trans (h q a b c)
/-- row k gets its column: what is there before the search -/
theorem bp_start {n k : Nat} {a : Nat → Nat → Int} {u v : Nat → Int} {p : Nat → Nat} {S T : Nat → Nat → Int32} {L M : Nat → Nat → Int64} (hn : n ≤ 8) (hk : k + 1 ≤ n) (ha : ∀ i c, 1 ≤ i → i ≤ n → 1 ≤ c → c ≤ 20 → 0 ≤ a i c ∧ a i c ≤ 6525847399461442)
    (hR : bp_R S L n a u v p) (hG : hu_G 20 k a u v p) (hT : ∀ r, r ≠ 13 → T r = S r) (hT13 : ∀ c, c < 21 → T 13 c = 0) (hM : ∀ r, r ≠ 12 → M r = L r) (hM12 : ∀ c, c < 21 → M 12 c = 9223372036854775807) :
    bp_I n (k + 1) a (va_up T 10 (upd (T 10) 0 (nI (k + 1)))) M 0 u v (fun _ => 9223372036854775807) (fun c => if c = 0 then k + 1 else p c) (fun _ => 0) (fun _ => 0) := by
  obtain ⟨ra, ru, rv, rp⟩ := hR
  refine ⟨hu_G_next hG (fun c c1 cN => (ha (k + 1) c (by omega) (by omega) c1 cN).1) rfl (fun c c1 cN => by show (if c = 0 then k + 1 else p c) = p c; rw [if_neg (by omega)]), ⟨rfl, fun i _ => Nat.zero_le _, fun i j hi hj _ => by omega, fun i hi => by omega, fun i h1 h2 => by omega⟩, fun c c1 cN _ => ⟨fun i hi => by omega, fun h => by omega⟩, ?_, ⟨?_, ?_, ?_, ?_⟩, fun h => by omega, fun _ c _ _ => rfl, fun c c1 cN _ => ?_, fun c hc => ?_⟩
  · rw [hG.2.2.2.2.2.2.2 (k + 1) (by omega)]; exact Int.le_refl 0
  · intro i c i1 ik c1 cN
    rw [hM _ (by omega)]; exact ra i c i1 ik c1 cN
  · intro i i1 i8
    rw [hM _ (by omega)]; exact ru i i1 i8
  · intro c c1 cN
    rw [hM _ (by omega)]; exact rv c c1 cN
  · intro c hc
    rw [va_up_self]
    by_cases e : c = 0
    · subst e; simp only [upd, if_true]; exact ⟨trivial, by omega⟩
    · simp only [upd, if_neg e]; rw [hT _ (by omega)]; exact rp c hc
  · rw [hM12 c (by omega)]; exact (show Int64.toInt 9223372036854775807 = 9223372036854775807 by decide)
  · rw [va_up_ne _ _ (by decide), hT13 c (by omega)]
    exact ⟨fun _ i hi => by omega, fun _ => rfl⟩
end
section
/-! THE BEST PLAN: rows get their columns (rows by wip/whole/gen/b2.py) -/
def po_gc (n r : Nat) (a : Nat → Nat → Int) (S : Nat → Nat → Int32) (L : Nat → Nat → Int64) : jd_P := (fun v S' L' => v = none ∧ bp_fS S S' ∧ bp_fL L L' ∧ ∃ (u9 v9 : Nat → Int) (q : Nat → Nat), bp_R S' L' n a u9 v9 q ∧ hu_G 20 r a u9 v9 q, fun _ _ _ => False)
set_option maxRecDepth 100000 in
set_option maxHeartbeats 4000000 in
theorem kl_chain {l : Launch} (hls : l.stackTraces = false) {D : va_G} {w : wd_T} {S : Nat → Nat → Int32} {M : Nat → Nat → Int64} {n r step : Nat} {a : Nat → Nat → Int} {u v : Nat → Int} {p way z : Nat → Nat} (hr : r ≤ 8) (hs : step ≤ r) (hM : hu_M 20 r a u v p) (hZ : hu_Z 20 step a u v p way z) {Qp : jd_P} (hQ : ∀ T q, bp_fS S T → (∀ c, c ≤ 20 → T 10 c = nI (q c) ∧ q c ≤ 8) → hu_G 20 r a u v q → Qp.1 none T M) : ∀ (k st i : Nat), 9 < st + k → i ≤ step → st + i ≤ step → ∀ (T : Nat → Nat → Int32) (q : Nat → Nat), bp_fS S T → (∀ c, 1 ≤ c → c ≤ 20 → 1 ≤ i → T 11 c = nI (way c)) → (∀ c, c ≤ 20 → T 10 c = nI (q c) ∧ q c ≤ 8) → hu_A 20 r i a u v p q z → jd_J l D w zn_B zb_B_giveColumn 5 (Option.none : Option Jvm.ClassFile.FieldType) [] ({ frames := 1, cells := 0, slots := 0, locals := 25 } : Room) 0 0 Qp 0 0 91 [(0, av_r 5), (2, av_i (nI (z i))), (3, av_i (nI st))] [] T M := by
  intro k
  induction k with
  | zero => intro st i h1 h2 h3; omega
  | succ k ih =>
    intro st i hk hi hst T q hT hw9 hq hA
    refine jd_iload_n zd_B_giveColumn_91 rfl ?_
    refine jd_bipush (v := nI 20) zd_B_giveColumn_92 (by decide) ?_
    refine jd_icmp_gt 131 zd_B_giveColumn_94 (by decide) (fun h_94 => ?_) (fun h_94 => ?_)
    · rw [nI_ltI (by decide) (by omega)] at h_94; omega
    refine jd_iload_n zd_B_giveColumn_97 rfl ?_
    have hzi := hZ.2.1 i hi
    refine jd_if_eq 131 zd_B_giveColumn_98 (by decide) (fun h_98 => ?_) (fun h_98 => ?_)
    · have hz0 : z i = 0 := by rcases Nat.eq_zero_or_pos (z i) with x | x; exact x; exact absurd h_98 (nI_ne0 x (by omega))
      have hi0 : i = 0 := hZ.2.2.1 i 0 hi (by omega) (hz0.trans hZ.1.symm)
      subst hi0
      exact jd_vret rfl (hQ T q hT hq (hu_A_end hM hZ hA)) (by decide) (by decide) zd_B_giveColumn_131
    have hz0 : z i ≠ 0 := fun x => h_98 (by rw [x]; rfl)
    have hi1 : 1 ≤ i := by rcases Nat.eq_zero_or_pos i with x | x; exact absurd (x ▸ hZ.1) hz0; exact x
    obtain ⟨j, hj, ej, hA2⟩ := hu_A_step (q' := fun c => if c = z i then q (way (z i)) else q c) hZ hi hA hz0 (if_pos rfl) (fun c hc => if_neg hc)
    have hzj := hZ.2.1 j (by omega)
    refine jd_aload_n zd_B_giveColumn_101 rfl ?_
    refine jd_get rfl rfl zl_B 4 (by decide) zi_116 rfl rfl rfl (by decide) zd_B_giveColumn_102 ?_
    refine jd_iload_n zd_B_giveColumn_105 rfl ?_
    refine jd_ildN (r := 11) (c := (z i)) rfl rfl (by omega) (n := 21) (by decide) rfl (by decide) zd_B_giveColumn_106 ?_
    rw [hw9 (z i) (by omega) hzi hi1, ej]
    refine jd_istore zd_B_giveColumn_107 (by decide) ?_
    refine jd_aload_n zd_B_giveColumn_109 rfl ?_
    refine jd_get rfl rfl zl_B 3 (by decide) zi_115 rfl rfl rfl (by decide) zd_B_giveColumn_110 ?_
    refine jd_iload_n zd_B_giveColumn_113 rfl ?_
    refine jd_aload_n zd_B_giveColumn_114 rfl ?_
    refine jd_get rfl rfl zl_B 3 (by decide) zi_115 rfl rfl rfl (by decide) zd_B_giveColumn_115 ?_
    refine jd_iload zd_B_giveColumn_118 rfl ?_
    refine jd_ildN (r := 10) (c := (z j)) rfl rfl (by omega) (n := 21) (by decide) rfl (by decide) zd_B_giveColumn_120 ?_
    rw [(hq (z j) hzj).1]
    refine jd_istN (r := 10) (c := (z i)) (fun _ => rfl) rfl (by omega) (n := 21) (by decide) rfl (by decide) zd_B_giveColumn_121 ?_
    refine jd_iload zd_B_giveColumn_122 rfl ?_
    refine jd_istore_n zd_B_giveColumn_124 (by decide) ?_
    refine jd_iinc (v := nI (st + 1)) zd_B_giveColumn_125 rfl (nI_inc st) (by decide) ?_
    refine jd_goto 91 zd_B_giveColumn_128 (by decide) ?_
    exact jd_sub [(0, av_r 5), (2, av_i (nI (z j))), (3, av_i (nI (st + 1)))] ⟨rfl, rfl, rfl, trivial⟩ (ih (st + 1) j (by omega) (by omega) (by omega) _ _ (hT.up (Or.inl rfl) _) (fun c c1 cN _ => by rw [va_up_ne _ _ (by decide)]; exact hw9 c c1 cN hi1) (fun c hc => by
          rw [va_up_self]
          by_cases e : c = z i
          · subst e; simp only [upd, if_true]; rw [ej]; exact ⟨rfl, (hq (z j) hzj).2⟩
          · simp only [upd, if_neg e]; exact hq c hc) hA2)
set_option maxRecDepth 100000 in
set_option maxHeartbeats 4000000 in
theorem kl_search {l : Launch} (hls : l.stackTraces = false) {D : va_G} {w : wd_T} {S : Nat → Nat → Int32} {L : Nat → Nat → Int64} {n r : Nat} {a : Nat → Nat → Int} {p : Nat → Nat} (hn : n ≤ 8) (hr : r ≤ n) (ha : ∀ i c, 1 ≤ i → i ≤ n → 1 ≤ c → c ≤ 20 → 0 ≤ a i c ∧ a i c ≤ 6525847399461442) {Qp : jd_P} (hQ : ∀ T M, bp_fS S T → bp_fL L M → (∃ (u9 v9 : Nat → Int) (q : Nat → Nat), bp_R T M n a u9 v9 q ∧ hu_G 20 r a u9 v9 q) → Qp.1 none T M) : ∀ (k step : Nat), 9 < step + k → step ≤ r → ∀ (T : Nat → Nat → Int32) (M : Nat → Nat → Int64) (u v d : Nat → Int) (way z : Nat → Nat), bp_fS S T → bp_fL L M → bp_I n r a T M step u v d p way z → jd_J l D w zn_B zb_B_giveColumn 5 (Option.none : Option Jvm.ClassFile.FieldType) [] ({ frames := 1, cells := 0, slots := 0, locals := 25 } : Room) 0 0 Qp 0 0 41 [(0, av_r 5), (1, av_i (nI r)), (2, av_i (nI (z step))), (3, av_i (nI step))] [] T M := by
  intro k
  induction k with
  | zero => intro step h1 h2; omega
  | succ k ih =>
    intro step hk hs T M u v d way z hT hM9 hI
    refine jd_iload_n zd_B_giveColumn_41 rfl ?_
    refine jd_bipush (v := nI 20) zd_B_giveColumn_42 (by decide) ?_
    refine jd_icmp_gt 89 zd_B_giveColumn_44 (by decide) (fun h_44 => ?_) (fun h_44 => ?_)
    · rw [nI_ltI (by decide) (by omega)] at h_44; omega
    have hzs := hI.2.1.2.1 step (Nat.le_refl _)
    have hpz := hI.2.2.2.2.1.2.2.2 (z step) hzs
    refine jd_aload_n zd_B_giveColumn_47 rfl ?_
    refine jd_get rfl rfl zl_B 3 (by decide) zi_115 rfl rfl rfl (by decide) zd_B_giveColumn_48 ?_
    refine jd_iload_n zd_B_giveColumn_51 rfl ?_
    refine jd_ildN (r := 10) (c := (z step)) rfl rfl (by omega) (n := 21) (by decide) rfl (by decide) zd_B_giveColumn_52 ?_
    rw [hpz.1]
    refine jd_if_eq 89 zd_B_giveColumn_53 (by decide) (fun h_53 => ?_) (fun h_53 => ?_)
    · have hp0 : p (z step) = 0 := by rcases Nat.eq_zero_or_pos (p (z step)) with x | x; exact x; exact absurd h_53 (nI_ne0 x (by omega))
      obtain ⟨iM, iZ, iD, iu, ⟨r1, r2, r3, r4⟩, iw, i0, id9, ir⟩ := hI
      refine jd_iconst (v := 0) zd_B_giveColumn_89 (by decide) ?_
      refine jd_istore_n zd_B_giveColumn_90 (by decide) ?_
      exact jd_sub [(0, av_r 5), (2, av_i (nI (z step))), (3, av_i (nI 0))] ⟨rfl, rfl, rfl, trivial⟩ (kl_chain (S := S) hls (n := n) (way := way) (by omega) hs iM iZ (fun T2 q h1 h2 h3 => hQ T2 M h1 hM9 ⟨u, v, q, ⟨r1, r2, r3, h2⟩, h3⟩) 10 0 step (by omega) (Nat.le_refl _) (by omega) T p hT (fun c c1 cN s1 => iw s1 c c1 cN) r4 (hu_A_start iM hp0))
    · have hp0 : p (z step) ≠ 0 := fun x => h_53 (by rw [x]; rfl)
      have hstep := hu_steps hI.1 hI.2.1 hp0
      obtain ⟨hj1, hj2, hrw, u2, v2, d2, way2, hI2⟩ := bp_step hn hr ha hI hp0 rfl rfl rfl rfl rfl
      refine jd_aload_n zd_B_giveColumn_56 rfl ?_
      refine jd_get rfl rfl zl_B 6 (by decide) zi_118 rfl rfl rfl (by decide) zd_B_giveColumn_57 ?_
      refine jd_iload_n zd_B_giveColumn_60 rfl ?_
      refine jd_iconst (v := 1) zd_B_giveColumn_61 (by decide) ?_
      refine jd_zstN (r := 13) (c := (z step)) (fun _ => rfl) (by decide) rfl (by omega) (n := 21) (by decide) rfl (by decide) zd_B_giveColumn_62 ?_
      refine jd_aload_n zd_B_giveColumn_63 rfl ?_
      refine jd_iload_n zd_B_giveColumn_64 rfl ?_
      refine jd_callV (n := 1) (kc_measure hls (f := z step) (row := p (z step)) hzs (by rw [va_up_ne _ _ (by decide)]; exact hpz.1) hpz.2) rfl rfl rfl rfl (by decide) zi_549 zi_551 zi_16 zi_43 zi_552 (by decide +kernel) rfl rfl rfl (by decide) (Nat.le_of_ble_eq_true rfl) (by decide) zd_B_giveColumn_65 (fun _ _ _ h => h.elim) (fun v S2 L2 hq => ?_)
      obtain ⟨rfl, rfl, rfl⟩ := hq
      refine jd_aload_n zd_B_giveColumn_68 rfl ?_
      refine jd_callV (n := 0) (kc_nearest hls) rfl rfl rfl rfl (by decide) zi_553 zi_555 zi_17 zi_43 zi_556 (by decide +kernel) rfl rfl rfl (by decide) (Nat.le_of_ble_eq_true rfl) (by decide) zd_B_giveColumn_69 (fun _ _ _ h => h.elim) (fun v S2 L2 hq => ?_)
      obtain ⟨rfl, rfl, rfl⟩ := hq
      refine jd_istore_n zd_B_giveColumn_72 (by decide) ?_
      refine jd_aload_n zd_B_giveColumn_73 rfl ?_
      refine jd_aload_n zd_B_giveColumn_74 rfl ?_
      refine jd_get rfl rfl zl_B 5 (by decide) zi_117 rfl rfl rfl (by decide) zd_B_giveColumn_75 ?_
      refine jd_iload_n zd_B_giveColumn_78 rfl ?_
      refine jd_lldN (r := 12) (c := bp_n _ _ 21) rfl rfl (by omega) (n := 21) (by decide) rfl (by decide) zd_B_giveColumn_79 ?_
      refine jd_callV (n := 1) (kc_shiftBy hls _ hrw) rfl rfl rfl rfl (by decide) zi_557 zi_559 zi_18 zi_43 zi_560 (by decide +kernel) rfl rfl rfl (by decide) (Nat.le_of_ble_eq_true rfl) (by decide) zd_B_giveColumn_80 (fun _ _ _ h => h.elim) (fun v S2 L2 hq => ?_)
      obtain ⟨rfl, rfl, rfl⟩ := hq
      refine jd_iinc (v := nI (step + 1)) zd_B_giveColumn_83 rfl (nI_inc step) (by decide) ?_
      refine jd_goto 41 zd_B_giveColumn_86 (by decide) ?_
      exact jd_sub [(0, av_r 5), (1, av_i (nI r)), (2, av_i (nI ((fun i => if i = step + 1 then bp_n _ _ 21 else z i) (step + 1)))), (3, av_i (nI (step + 1)))] ⟨rfl, rfl, by simp only [if_true]; rfl, rfl, trivial⟩ (ih (step + 1) (by omega) (by omega) _ _ u2 v2 d2 way2 _ ((hT.up (Or.inr (Or.inr rfl)) _).up (Or.inr (Or.inl rfl)) _) ((hM9.up (Or.inr (Or.inr rfl)) _).s _ _) hI2)
set_option maxRecDepth 100000 in
set_option maxHeartbeats 4000000 in
theorem kl_give0 {l : Launch} (hls : l.stackTraces = false) {D : va_G} {w : wd_T} {S : Nat → Nat → Int32} {L : Nat → Nat → Int64} (x : Int32) {Qp : jd_P} (hnext : ∀ T M, (∀ r, r ≠ 13 → T r = S r) → (∀ c, c < 21 → T 13 c = 0) → (∀ r, r ≠ 12 → M r = L r) → (∀ c, c < 21 → M 12 c = 9223372036854775807) → jd_J l D w zn_B zb_B_giveColumn 5 (Option.none : Option Jvm.ClassFile.FieldType) [] ({ frames := 1, cells := 0, slots := 0, locals := 25 } : Room) 0 0 Qp 0 0 30 [(0, av_r 5), (1, av_i x)] [] T M) : ∀ (k c : Nat), c ≤ 21 → 21 < c + k → ∀ (T : Nat → Nat → Int32) (M : Nat → Nat → Int64), (∀ r, r ≠ 13 → T r = S r) → (∀ i, i < c → T 13 i = 0) → (∀ r, r ≠ 12 → M r = L r) → (∀ i, i < c → M 12 i = 9223372036854775807) → jd_J l D w zn_B zb_B_giveColumn 5 (Option.none : Option Jvm.ClassFile.FieldType) [] ({ frames := 1, cells := 0, slots := 0, locals := 25 } : Room) 0 0 Qp 0 0 2 [(0, av_r 5), (1, av_i x), (2, av_i (nI c))] [] T M := by
  intro k
  induction k with
  | zero => intro c h1 h2; omega
  | succ k ih =>
    intro c hc hk T M hT hT13 hM hM12
    refine jd_iload_n zd_B_giveColumn_2 rfl ?_
    refine jd_bipush (v := nI 20) zd_B_giveColumn_3 (by decide) ?_
    refine jd_icmp_gt 30 zd_B_giveColumn_5 (by decide) (fun h_5 => ?_) (fun h_5 => ?_)
    · have e_c := cb_end (by decide) hc h_5
      subst e_c
      exact jd_sub [(0, av_r 5), (1, av_i x)] ⟨rfl, rfl, trivial⟩ (hnext T M hT hT13 hM hM12)
    · have hc2 := cb_on (by decide) hc h_5
      refine jd_aload_n zd_B_giveColumn_8 rfl ?_
      refine jd_get rfl rfl zl_B 5 (by decide) zi_117 rfl rfl rfl (by decide) zd_B_giveColumn_9 ?_
      refine jd_iload_n zd_B_giveColumn_12 rfl ?_
      refine jd_ldc2 zi_548 zd_B_giveColumn_13 ?_
      refine jd_lstN (r := 12) (c := c) (fun _ => rfl) rfl (by omega) (n := 21) (by decide) rfl (by decide) zd_B_giveColumn_16 ?_
      refine jd_aload_n zd_B_giveColumn_17 rfl ?_
      refine jd_get rfl rfl zl_B 6 (by decide) zi_118 rfl rfl rfl (by decide) zd_B_giveColumn_18 ?_
      refine jd_iload_n zd_B_giveColumn_21 rfl ?_
      refine jd_iconst (v := 0) zd_B_giveColumn_22 (by decide) ?_
      refine jd_zstN (r := 13) (c := c) (fun _ => rfl) (by decide) rfl (by omega) (n := 21) (by decide) rfl (by decide) zd_B_giveColumn_23 ?_
      refine jd_iinc (v := nI (c + 1)) zd_B_giveColumn_24 rfl (nI_inc c) (by decide) ?_
      refine jd_goto 2 zd_B_giveColumn_27 (by decide) ?_
      exact jd_sub [(0, av_r 5), (1, av_i x), (2, av_i (nI (c + 1)))] ⟨rfl, rfl, rfl, trivial⟩ (ih (c + 1) (by omega) (by omega) _ _ (fun q hq => by rw [va_up_ne _ _ hq]; exact hT q hq) (us_up (P := fun _ x => x = 0) hT13 rfl) (fun q hq => by rw [va_up_ne _ _ hq]; exact hM q hq) (ul_up (P := fun _ x => x = 9223372036854775807) hM12 rfl))
set_option maxRecDepth 100000 in
set_option maxHeartbeats 4000000 in
theorem kc_give {l : Launch} (hls : l.stackTraces = false) {D : va_G} {w : wd_T} {S : Nat → Nat → Int32} {L : Nat → Nat → Int64} {n r : Nat} {a : Nat → Nat → Int} {u v : Nat → Int} {p : Nat → Nat} (hn : n ≤ 8) (hr : r + 1 ≤ n) (ha : ∀ i c, 1 ≤ i → i ≤ n → 1 ≤ c → c ≤ 20 → 0 ≤ a i c ∧ a i c ≤ 6525847399461442) (hR : bp_R S L n a u v p) (hG : hu_G 20 r a u v p) : ct_M l D w zy_B_giveColumn (Cond.code zy_B_giveColumn zb_B_giveColumn 5 (Option.none : Option Jvm.ClassFile.FieldType)) ({ frames := 1, cells := 0, slots := 0, locals := 25 } : Room) [av_r 5, av_i (nI (r + 1))] S L (po_gc n (r + 1) a S L) 0 0 := by
  refine ct_intro hls (own := zn_B) (by decide) rfl (Nat.le_of_ble_eq_true rfl) ?_
  refine jd_iconst (v := 0) zd_B_giveColumn_0 (by decide) ?_
  refine jd_istore_n zd_B_giveColumn_1 (by decide) ?_
  refine jd_sub [(0, av_r 5), (1, av_i (nI (r + 1))), (2, av_i (nI 0))] ⟨rfl, rfl, rfl, trivial⟩ (kl_give0 (S := S) (L := L) hls (nI (r + 1)) (fun T M hT hT13 hM hM12 => ?_) 22 0 (by omega) (by omega) S L (fun _ _ => rfl) (fun i hi => by omega) (fun _ _ => rfl) (fun i hi => by omega))
  have hI := bp_start hn hr ha hR hG hT hT13 hM hM12
  refine jd_aload_n zd_B_giveColumn_30 rfl ?_
  refine jd_get rfl rfl zl_B 3 (by decide) zi_115 rfl rfl rfl (by decide) zd_B_giveColumn_31 ?_
  refine jd_iconst (v := 0) zd_B_giveColumn_34 (by decide) ?_
  refine jd_iload_n zd_B_giveColumn_35 rfl ?_
  refine jd_istN (r := 10) (c := 0) (fun _ => rfl) rfl (by omega) (n := 21) (by decide) rfl (by decide) zd_B_giveColumn_36 ?_
  refine jd_iconst (v := 0) zd_B_giveColumn_37 (by decide) ?_
  refine jd_istore_n zd_B_giveColumn_38 (by decide) ?_
  refine jd_iconst (v := 0) zd_B_giveColumn_39 (by decide) ?_
  refine jd_istore_n zd_B_giveColumn_40 (by decide) ?_
  exact jd_sub [(0, av_r 5), (1, av_i (nI (r + 1))), (2, av_i (nI ((fun _ => 0) 0))), (3, av_i (nI 0))] ⟨rfl, rfl, rfl, rfl, trivial⟩ (kl_search (S := S) (L := L) (Qp := po_gc n (r + 1) a S L) hls hn hr ha (fun T2 M2 h1 h2 h3 => ⟨rfl, h1, h2, h3⟩) 10 0 (by omega) (by omega) _ M u v _ _ _ (fun q h1 h2 h3 => by rw [va_up_ne _ _ h1]; exact hT q h3) (fun q h1 h2 h3 => hM q h3) hI)
set_option maxRecDepth 100000 in
set_option maxHeartbeats 4000000 in
theorem kl_solve {l : Launch} (hls : l.stackTraces = false) {D : va_G} {w : wd_T} {S : Nat → Nat → Int32} {L : Nat → Nat → Int64} {n : Nat} {a : Nat → Nat → Int} (hn : n ≤ 8) (h57 : S 5 7 = nI n) (ha : ∀ i c, 1 ≤ i → i ≤ n → 1 ≤ c → c ≤ 20 → 0 ≤ a i c ∧ a i c ≤ 6525847399461442) {Qp : jd_P} (hQ : ∀ T M, bp_fS S T → bp_fL L M → (∃ (u9 v9 : Nat → Int) (q : Nat → Nat), bp_R T M n a u9 v9 q ∧ hu_G 20 n a u9 v9 q) → Qp.1 none T M) : ∀ (k r : Nat), r ≤ n → n < r + k → ∀ (T : Nat → Nat → Int32) (M : Nat → Nat → Int64) (u v : Nat → Int) (p : Nat → Nat), bp_fS S T → bp_fL L M → bp_R T M n a u v p → hu_G 20 r a u v p → jd_J l D w zn_B zb_B_solve 2 (Option.none : Option Jvm.ClassFile.FieldType) [] ({ frames := 2, cells := 0, slots := 0, locals := 49 } : Room) 0 0 Qp 0 0 2 [(0, av_r 5), (1, av_i (nI (r + 1)))] [] T M := by
  intro k
  induction k with
  | zero => intro r h1 h2; omega
  | succ k ih =>
    intro r hr hk T M u v p hT hM hR hG
    refine jd_iload_n zd_B_solve_2 rfl ?_
    refine jd_aload_n zd_B_solve_3 rfl ?_
    refine jd_get rfl rfl zl_B 7 (by decide) zi_119 rfl rfl rfl (by decide) zd_B_solve_4 ?_
    rw [hT 5 (by decide) (by decide) (by decide), h57]
    refine jd_icmp_gt 21 zd_B_solve_7 (by decide) (fun h_7 => ?_) (fun h_7 => ?_)
    · rw [nI_ltI (by omega) (by omega)] at h_7
      have e_r : r = n := by omega
      subst e_r
      exact jd_vret rfl (hQ T M hT hM ⟨u, v, p, hR, hG⟩) (by decide) (by decide) zd_B_solve_21
    · rw [nI_ltI (by omega) (by omega)] at h_7
      refine jd_aload_n zd_B_solve_10 rfl ?_
      refine jd_iload_n zd_B_solve_11 rfl ?_
      refine jd_callV (n := 1) (kc_give hls hn (show r + 1 ≤ n by omega) ha hR hG) rfl rfl rfl rfl (by decide) zi_544 zi_546 zi_15 zi_43 zi_547 (by decide +kernel) rfl rfl rfl (by decide) (Nat.le_of_ble_eq_true rfl) (by decide) zd_B_solve_12 (fun _ _ _ h => h.elim) (fun v S2 L2 hq => ?_)
      obtain ⟨rfl, g1, g2, u2, v2, q2, hR2, hG2⟩ := hq
      refine jd_iinc (v := nI ((r + 1) + 1)) zd_B_solve_15 rfl (nI_inc (r + 1)) (by decide) ?_
      refine jd_goto 2 zd_B_solve_18 (by decide) ?_
      exact jd_sub [(0, av_r 5), (1, av_i (nI (r + 1 + 1)))] ⟨rfl, rfl, trivial⟩ (ih (r + 1) (by omega) (by omega) _ _ u2 v2 q2 (hT.tr g1) (hM.tr g2) hR2 hG2)
set_option maxRecDepth 100000 in
set_option maxHeartbeats 4000000 in
theorem kc_solve {l : Launch} (hls : l.stackTraces = false) {D : va_G} {w : wd_T} {S : Nat → Nat → Int32} {L : Nat → Nat → Int64} {n : Nat} {a : Nat → Nat → Int} {u v : Nat → Int} {p : Nat → Nat} (hn : n ≤ 8) (h57 : S 5 7 = nI n) (ha : ∀ i c, 1 ≤ i → i ≤ n → 1 ≤ c → c ≤ 20 → 0 ≤ a i c ∧ a i c ≤ 6525847399461442) (hR : bp_R S L n a u v p) (hG : hu_G 20 0 a u v p) : ct_M l D w zy_B_solve (Cond.code zy_B_solve zb_B_solve 2 (Option.none : Option Jvm.ClassFile.FieldType)) ({ frames := 2, cells := 0, slots := 0, locals := 49 } : Room) [av_r 5] S L (po_gc n n a S L) 0 0 := by
  refine ct_intro hls (own := zn_B) (by decide) rfl (Nat.le_of_ble_eq_true rfl) ?_
  refine jd_iconst (v := 1) zd_B_solve_0 (by decide) ?_
  refine jd_istore_n zd_B_solve_1 (by decide) ?_
  exact jd_sub [(0, av_r 5), (1, av_i (nI (0 + 1)))] ⟨rfl, rfl, trivial⟩ (kl_solve (S := S) (L := L) (Qp := po_gc n n a S L) hls hn h57 ha (fun T2 M2 h1 h2 h3 => ⟨rfl, h1, h2, h3⟩) (n + 1) 0 (by omega) (by omega) S L u v p (fun _ _ _ _ => rfl) (fun _ _ _ _ => rfl) hR hG)
end
section
/-! FROM THE PRICES ON THE MACHINE TO PLANS: groups by their places in the row of groups. -/
def fa_cN (S : Nat → Nat → Int32) : Nat → Nat
  | 0 => 0
  | u + 1 => if fa_gr S u = true then fa_cN S u + 1 else fa_cN S u
/-- the unit whose number is that of the group at place r -/
def fa_le (S : Nat → Nat → Int32) : Nat → Nat → Nat
  | 0, _ => 0
  | n + 1, r => if fa_gr S n = true ∧ fa_cN S n = r then n else fa_le S n r
theorem fa_cN_le (S : Nat → Nat → Int32) : ∀ n, fa_cN S n ≤ n
  | 0 => Nat.le_refl 0
  | n + 1 => by
    have := fa_cN_le S n
    simp only [fa_cN]
    split <;> omega
theorem fa_cN_mono (S : Nat → Nat → Int32) (u : Nat) : ∀ n, u ≤ n → fa_cN S u ≤ fa_cN S n
  | 0, h => by have : u = 0 := by omega
               subst this; exact Nat.le_refl _
  | n + 1, h => by
    rcases Nat.lt_or_ge u (n + 1) with q | q
    · have := fa_cN_mono S u n (by omega)
      simp only [fa_cN]
      split <;> omega
    · have : u = n + 1 := by omega
      subst this; exact Nat.le_refl _
theorem fa_cN_lt {S : Nat → Nat → Int32} {u n : Nat} (h : u < n) (hg : fa_gr S u = true) : fa_cN S u < fa_cN S n := by
  have := fa_cN_mono S (u + 1) n (by omega)
  simp only [fa_cN, if_pos hg] at this
  omega
theorem fa_cnt_cN (S : Nat → Nat → Int32) : ∀ n, fa_cnt S n = nI (fa_cN S n)
  | 0 => rfl
  | n + 1 => by
    simp only [fa_cnt, fa_cN]
    rw [fa_cnt_cN S n]
    split
    · exact nI_1 _
    · rfl
theorem fa_le_at {S : Nat → Nat → Int32} {u : Nat} (hg : fa_gr S u = true) : ∀ n, u < n → fa_le S n (fa_cN S u) = u
  | 0, h => by omega
  | n + 1, h => by
    simp only [fa_le]
    by_cases e : u = n
    · subst e; rw [if_pos ⟨hg, rfl⟩]
    · rw [if_neg (fun q => by have := fa_cN_lt (n := n) (by omega) hg; omega)]
      exact fa_le_at hg n (by omega)
theorem fa_le_in {S : Nat → Nat → Int32} {r : Nat} : ∀ n, r < fa_cN S n → fa_le S n r < n ∧ fa_gr S (fa_le S n r) = true ∧ fa_cN S (fa_le S n r) = r
  | 0, h => by simp only [fa_cN] at h; omega
  | n + 1, h => by
    simp only [fa_le]
    by_cases q : fa_gr S n = true ∧ fa_cN S n = r
    · rw [if_pos q]; exact ⟨by omega, q.1, q.2⟩
    · rw [if_neg q]
      have h2 : r < fa_cN S n := by
        simp only [fa_cN] at h
        by_cases g : fa_gr S n = true
        · rw [if_pos g] at h
          have : fa_cN S n ≠ r := fun e => q ⟨g, e⟩
          omega
        · rw [if_neg g] at h; exact h
      obtain ⟨a, b, c⟩ := fa_le_in n h2
      exact ⟨by omega, b, c⟩
/-- what a group costs at a place, and whether rules allow it there -/
def fa_cost (S : Nat → Nat → Int32) (nU : Nat) (r p : Nat) : Int := (fa_co S (fa_ga S (nI (fa_le S nU r)) nU) (fa_le S nU r) p).toInt
abbrev fa_al (S : Nat → Nat → Int32) (nU nP : Nat) (r p : Nat) : Prop := p < nP ∧ fa_br (fa_ga S (nI (fa_le S nU r)) nU) (S (300 + p)) (nI p) = 0
/-- the row's prices after the places below n were offered -/
def bp_of (S : Nat → Nat → Int32) (g : Nat → Int32) (gn : Nat) (f : Nat → Int64) (dw : Int64) (n : Nat) : Nat → Int64 := fun c =>
  if 1 ≤ c ∧ c ≤ n ∧ fa_br g (S (300 + (c - 1))) (nI (c - 1)) = 0 then (fa_co S g gn (c - 1)).toInt64 * 815730721 + (nI (c - 1)).toInt64 * dw else f c
theorem bp_of_0 {S : Nat → Nat → Int32} {g : Nat → Int32} {gn : Nat} {f : Nat → Int64} {dw : Int64} : bp_of S g gn f dw 0 = f := by
  funext c
  simp only [bp_of]
  rw [if_neg (by omega)]
theorem bp_ofY {S : Nat → Nat → Int32} {g : Nat → Int32} {gn n : Nat} {f : Nat → Int64} {dw : Int64} (h : fa_br g (S (300 + n)) (nI n) = 0) : vp_updL (bp_of S g gn f dw n) (n + 1) ((fa_co S g gn n).toInt64 * 815730721 + (nI n).toInt64 * dw) = bp_of S g gn f dw (n + 1) := by
  funext c
  by_cases e : c = n + 1
  · subst e
    rw [pk_uLs]
    simp only [bp_of]
    rw [if_pos (by refine ⟨by omega, by omega, ?_⟩; exact h)]
    rfl
  · rw [pk_uLn e]
    simp only [bp_of]
    by_cases q : 1 ≤ c ∧ c ≤ n ∧ fa_br g (S (300 + (c - 1))) (nI (c - 1)) = 0
    · rw [if_pos q, if_pos ⟨q.1, by omega, q.2.2⟩]
    · rw [if_neg q, if_neg (fun z => q ⟨z.1, by omega, z.2.2⟩)]
theorem bp_ofN {S : Nat → Nat → Int32} {g : Nat → Int32} {gn n : Nat} {f : Nat → Int64} {dw : Int64} (h : ¬ fa_br g (S (300 + n)) (nI n) = 0) : bp_of S g gn f dw n = bp_of S g gn f dw (n + 1) := by
  funext c
  simp only [bp_of]
  by_cases e : c = n + 1
  · subst e
    rw [if_neg (by omega), if_neg (fun z => h z.2.2)]
  · by_cases q : 1 ≤ c ∧ c ≤ n ∧ fa_br g (S (300 + (c - 1))) (nI (c - 1)) = 0
    · rw [if_pos q, if_pos ⟨q.1, by omega, q.2.2⟩]
    · rw [if_neg q, if_neg (fun z => q ⟨z.1, by omega, z.2.2⟩)]
theorem l_mul {x y : Int64} (h1 : -9223372036854775808 ≤ x.toInt * y.toInt) (h2 : x.toInt * y.toInt < 9223372036854775808) : (x * y).toInt = x.toInt * y.toInt := by
  rw [Int64.toInt_mul]
  exact Int.bmod_eq_of_le (by omega) (by omega)
theorem dw_step : ∀ r, r < 8 → lN (13 ^ (8 - r)) / 13 = lN (13 ^ (7 - r)) := by decide +kernel
theorem dw_int : ∀ r, r < 8 → (lN (13 ^ (7 - r))).toInt = (13 : Int) ^ (7 - r) := by decide +kernel
theorem dw_max : ∀ r, r < 8 → (1 : Int) ≤ (13 : Int) ^ (7 - r) ∧ (13 : Int) ^ (7 - r) ≤ 62748517 := by decide +kernel
/-- the row's prices are the table's -/
theorem bp_tab {S : Nat → Nat → Int32} {nU nP r : Nat} {f : Nat → Int64} (hr : r < 8) (hP : nP ≤ 12) (hC : ∀ p, fa_al S nU nP r p → 0 ≤ fa_cost S nU r p ∧ fa_cost S nU r p ≤ 1000000) {c : Nat} (c1 : 1 ≤ c) (cN : c ≤ 20) :
    (bp_of S (fa_ga S (nI (fa_le S nU r)) nU) (fa_le S nU r) (bp_ag f (lN (13 ^ (7 - r))) 21) (lN (13 ^ (7 - r))) nP c).toInt = pl_tab (fa_cost S nU) (fa_al S nU nP) r (c - 1) := by
  have hd := dw_int r hr
  have hm := dw_max r hr
  simp only [bp_of, pl_tab]
  by_cases q : 1 ≤ c ∧ c ≤ nP ∧ fa_br (fa_ga S (nI (fa_le S nU r)) nU) (S (300 + (c - 1))) (nI (c - 1)) = 0
  · have hal : fa_al S nU nP r (c - 1) := ⟨by omega, q.2.2⟩
    rw [if_pos q, if_pos (show c - 1 < 12 by omega), if_pos hal]
    have hc := hC _ hal
    have e1 : (fa_co S (fa_ga S (nI (fa_le S nU r)) nU) (fa_le S nU r) (c - 1)).toInt64.toInt = fa_cost S nU r (c - 1) := by rw [Int32.toInt_toInt64]; rfl
    have e2 : (nI (c - 1)).toInt64.toInt = ((c - 1 : Nat) : Int) := by rw [Int32.toInt_toInt64, nI_toInt (by omega)]
    have e3 : (815730721 : Int64).toInt = 815730721 := by decide
    have m1 : ((c - 1 : Nat) : Int) * (13 : Int) ^ (7 - r) ≤ 12 * 62748517 := Int.mul_le_mul (by omega) hm.2 (by omega) (by decide)
    have m0 : 0 ≤ ((c - 1 : Nat) : Int) * (13 : Int) ^ (7 - r) := Int.mul_nonneg (by omega) (by omega)
    have h1 : ((fa_co S (fa_ga S (nI (fa_le S nU r)) nU) (fa_le S nU r) (c - 1)).toInt64 * 815730721).toInt = fa_cost S nU r (c - 1) * 815730721 := by
      rw [l_mul (by rw [e1, e3]; omega) (by rw [e1, e3]; omega), e1, e3]
    have h2 : ((nI (c - 1)).toInt64 * lN (13 ^ (7 - r))).toInt = ((c - 1 : Nat) : Int) * (13 : Int) ^ (7 - r) := by
      rw [l_mul (by rw [e2, hd]; omega) (by rw [e2, hd]; omega), e2, hd]
    rw [l_add (by rw [h1, h2]; omega) (by rw [h1, h2]; omega), h1, h2]
    simp only [pl_pr, pl_P]
    rw [if_neg (show ¬ c - 1 = 12 by omega)]
  · rw [if_neg q]
    simp only [bp_ag]
    rw [if_pos (show 1 ≤ c ∧ c < 21 from ⟨c1, by omega⟩)]
    by_cases h12 : c ≤ 12
    · rw [if_pos h12, if_pos (show c - 1 < 12 by omega), if_neg (show ¬ fa_al S nU nP r (c - 1) from fun z => q ⟨c1, by have := z.1; omega, z.2⟩)]
      decide
    · rw [if_neg h12, if_neg (show ¬ c - 1 < 12 by omega)]
      have e3 : (12 : Int64).toInt = 12 := by decide
      have e4 : (6525846583730721 : Int64).toInt = 6525846583730721 := by decide
      have h2 : ((12 : Int64) * lN (13 ^ (7 - r))).toInt = 12 * (13 : Int) ^ (7 - r) := by
        rw [l_mul (by rw [e3, hd]; omega) (by rw [e3, hd]; omega), e3, hd]
      rw [l_add (by rw [h2, e4]; omega) (by rw [h2, e4]; omega), h2, e4]
      simp only [pl_pr, pl_P, pl_W, if_true]
      omega
theorem pl_tab_in {S : Nat → Nat → Int32} {nU nP n : Nat} (hn : n ≤ 8) (hC : ∀ r p, r < n → fa_al S nU nP r p → 0 ≤ fa_cost S nU r p ∧ fa_cost S nU r p ≤ 1000000) : ∀ i c, 1 ≤ i → i ≤ n → 1 ≤ c → c ≤ 20 → 0 ≤ pl_tab (fa_cost S nU) (fa_al S nU nP) (i - 1) (c - 1) ∧ pl_tab (fa_cost S nU) (fa_al S nU nP) (i - 1) (c - 1) ≤ 6525847399461442 := by
  intro i c i1 iN c1 cN
  have hm := dw_max (i - 1) (by omega)
  simp only [pl_tab]
  by_cases h12 : c - 1 < 12
  · rw [if_pos h12]
    by_cases h : fa_al S nU nP (i - 1) (c - 1)
    · rw [if_pos h]
      have hc := hC _ _ (by omega) h
      have m1 : ((c - 1 : Nat) : Int) * (13 : Int) ^ (7 - (i - 1)) ≤ 12 * 62748517 := Int.mul_le_mul (by omega) hm.2 (by omega) (by decide)
      have m0 : 0 ≤ ((c - 1 : Nat) : Int) * (13 : Int) ^ (7 - (i - 1)) := Int.mul_nonneg (by omega) (by omega)
      simp only [pl_pr, pl_P]
      rw [if_neg (show ¬ c - 1 = 12 by omega)]
      omega
    · rw [if_neg h]; decide
  · rw [if_neg h12]
    simp only [pl_pr, pl_P, pl_W, if_true]
    omega
/-- a number of a plan as the class writes it -/
def pl_i (x : Nat) : Int32 := if x = 12 then -1 else nI x
/-- the plan at the least price -/
def pl_min (n : Nat) (cost : Nat → Nat → Int) (al : Nat → Nat → Prop) (f : Nat → Nat) : Prop := pl_ok n al f ∧ ∀ g, pl_ok n al g → pl_tot n cost f ≤ pl_tot n cost g
/-- from the rows' columns to the plan -/
theorem bp_plan {n : Nat} {cost : Nat → Nat → Int} {al : Nat → Nat → Prop} [∀ i c, Decidable (al i c)] {u v : Nat → Int} {q : Nat → Nat} (hn : n ≤ 8) (hG : hu_G 20 n (fun i c => pl_tab cost al (i - 1) (c - 1)) u v q) :
    ∃ f, pl_min n cost al f ∧ (∀ i, i < n → f i < 12 → q (f i + 1) = i + 1) ∧ (∀ i, i < n → ¬ f i < 12 → f i = 12 ∧ ∀ c, 1 ≤ c → c ≤ 12 → q c ≠ i + 1) := by
  have hpick : ∃ m : Nat → Nat, ∀ i, i < n → m i < 20 ∧ q (m i + 1) = i + 1 := by
    refine ⟨fun i => if h : i < n then (hG.2.2.1 (i + 1) (by omega) (by omega)).choose - 1 else 0, fun i hi => ?_⟩
    simp only [dif_pos hi]
    obtain ⟨c1, cN, e⟩ := (hG.2.2.1 (i + 1) (by omega) (by omega)).choose_spec
    refine ⟨by omega, ?_⟩
    rw [Nat.sub_add_cancel c1]; exact e
  obtain ⟨m, hm⟩ := hpick
  have hmi : hu_inj m n 20 := ⟨fun i hi => (hm i hi).1, fun i j hi hj e => by
    have h1 := (hm i hi).2
    have h2 := (hm j hj).2
    rw [e] at h1
    omega⟩
  have hb := pl_best (cost := cost) (al := al) hn hmi (fun s hs => hu_G_best hG (m := m) (s := s) hm hs)
  refine ⟨fun i => if m i < 12 then m i else 12, hb, fun i hi h => ?_, fun i hi h => ?_⟩
  · have h : (if m i < 12 then m i else 12) < 12 := h
    show q ((if m i < 12 then m i else 12) + 1) = i + 1
    by_cases z : m i < 12
    · rw [if_pos z]; exact (hm i hi).2
    · rw [if_neg z] at h; omega
  · have h : ¬ (if m i < 12 then m i else 12) < 12 := h
    by_cases z : m i < 12
    · rw [if_pos z] at h; exact absurd z h
    · refine ⟨if_neg z, fun c c1 c12 e => ?_⟩
      have h2 := hm i hi
      have := hG.2.1 c (m i + 1) c1 (by omega) (by omega) (by omega) (by rw [e, h2.2]) (by omega)
      omega
theorem bp_pg_spec {S : Nat → Nat → Int32} {r : Int32} : ∀ k c, (∀ d, c ≤ d → d < c + k → S 10 d ≠ r) → bp_pg S r k c = -1
  | 0, _, _ => rfl
  | k + 1, c, h => by
    simp only [bp_pg]
    rw [if_neg (h c (Nat.le_refl c) (by omega))]
    exact bp_pg_spec k (c + 1) (fun d h1 h2 => h d (by omega) (by omega))
theorem bp_pg_at {S : Nat → Nat → Int32} {r : Int32} {d : Nat} (hd : S 10 d = r) : ∀ k c, c ≤ d → d < c + k → (∀ e, c ≤ e → e < d → S 10 e ≠ r) → bp_pg S r k c = nI d - 1
  | 0, c, h1, h2, _ => by omega
  | k + 1, c, h1, h2, h => by
    simp only [bp_pg]
    by_cases e : c = d
    · subst e; rw [if_pos hd]
    · rw [if_neg (h c (Nat.le_refl c) (by omega))]
      exact bp_pg_at hd k (c + 1) (by omega) (by omega) (fun e h1 h2 => h e (by omega) h2)
/-- placeGiven gives the plan -/
theorem bp_given {n : Nat} {cost : Nat → Nat → Int} {al : Nat → Nat → Prop} [∀ i c, Decidable (al i c)] {u v : Nat → Int} {q : Nat → Nat} {S : Nat → Nat → Int32} {f : Nat → Nat} (hn : n ≤ 8) (hG : hu_G 20 n (fun i c => pl_tab cost al (i - 1) (c - 1)) u v q) (hq : ∀ c, c ≤ 20 → S 10 c = nI (q c) ∧ q c ≤ 8)
    (h1 : ∀ i, i < n → f i < 12 → q (f i + 1) = i + 1) (h2 : ∀ i, i < n → ¬ f i < 12 → f i = 12 ∧ ∀ c, 1 ≤ c → c ≤ 12 → q c ≠ i + 1) {i : Nat} (hi : i < n) : bp_pg S (nI (i + 1)) 12 1 = pl_i (f i) := by
  by_cases h : f i < 12
  · have e := h1 i hi h
    unfold pl_i
    rw [if_neg (by omega), bp_pg_at (d := f i + 1) (by rw [(hq _ (by omega)).1, e]) 12 1 (by omega) (by omega) (fun c c1 c2 x => by
      have hqc := hq c (by omega)
      rw [hqc.1, nI_eq (by omega) (by omega)] at x
      have := hG.2.1 c (f i + 1) c1 (by omega) (by omega) (by omega) (by rw [x, e]) (by omega)
      omega)]
    exact nI_pred _
  · obtain ⟨e, hc⟩ := h2 i hi h
    unfold pl_i
    rw [if_pos e]
    exact bp_pg_spec 12 1 (fun d d1 d2 x => by
      have hqc := hq d (by omega)
      rw [hqc.1, nI_eq (by omega) (by omega)] at x
      exact hc d d1 (by omega) x)
/-- the sum of a draft -/
def fa_sm (S : Nat → Nat → Int32) (nU : Nat) (d : Nat → Int32) : Nat → Int32
  | 0 => 0
  | u + 1 => if fa_gr S u = true ∧ ¬ d u = -1 then fa_sm S nU d u + fa_co S (fa_ga S (nI u) nU) u (d u).toNatClampNeg else fa_sm S nU d u
end
