section
-- ===== PART A: goes FIRST, ahead of the names: the tables' words, and 'selects' of the private methods out of them =====
/-- a private method of a class that the tables say can be made, by its rows of tables_1 -/
def lw_okq (q : MethodName × Nat) : Prop := (q.1.cls ≠ "java/lang/invoke/MethodHandle" ∧ q.1.cls ≠ "java/lang/invoke/VarHandle") ∧ Cond.instantiable q.1.cls q.2 ∈ tables_1 ∧ Cond.privateMethod q.1 ∈ tables_1 ∧ Cond.instanceMethod q.1 ∈ tables_1
theorem lw_p0 : lw_okq (⟨"java/lang/Throwable", "fillInStackTrace", "(I)Ljava/lang/Throwable;"⟩, 6) := ⟨⟨by decide +kernel, by decide +kernel⟩, List.mem_of_getElem? (i := 199) (by decide +kernel), List.mem_of_getElem? (i := 197) (by decide +kernel), List.mem_of_getElem? (i := 198) (by decide +kernel)⟩
theorem lw_p1 : lw_okq (⟨"OwnerRings", "requireOwnersToJoin", "(I)V"⟩, 5) := ⟨⟨by decide +kernel, by decide +kernel⟩, List.mem_of_getElem? (i := 15) (by decide +kernel), List.mem_of_getElem? (i := 285) (by decide +kernel), List.mem_of_getElem? (i := 286) (by decide +kernel)⟩
theorem lw_p2 : lw_okq (⟨"OwnerRings", "requireCurrentOwner", "(I)I"⟩, 5) := ⟨⟨by decide +kernel, by decide +kernel⟩, List.mem_of_getElem? (i := 15) (by decide +kernel), List.mem_of_getElem? (i := 293) (by decide +kernel), List.mem_of_getElem? (i := 294) (by decide +kernel)⟩
theorem lw_p3 : lw_okq (⟨"OwnerRings", "currentOwner", "(I)I"⟩, 5) := ⟨⟨by decide +kernel, by decide +kernel⟩, List.mem_of_getElem? (i := 15) (by decide +kernel), List.mem_of_getElem? (i := 297) (by decide +kernel), List.mem_of_getElem? (i := 298) (by decide +kernel)⟩
theorem lw_p4 : lw_okq (⟨"OwnerRings", "requireNoRefusalToJoin", "(II)V"⟩, 5) := ⟨⟨by decide +kernel, by decide +kernel⟩, List.mem_of_getElem? (i := 15) (by decide +kernel), List.mem_of_getElem? (i := 326) (by decide +kernel), List.mem_of_getElem? (i := 327) (by decide +kernel)⟩
theorem lw_p5 : lw_okq (⟨"OwnerRings", "requireNoRefusal", "(III)V"⟩, 5) := ⟨⟨by decide +kernel, by decide +kernel⟩, List.mem_of_getElem? (i := 15) (by decide +kernel), List.mem_of_getElem? (i := 330) (by decide +kernel), List.mem_of_getElem? (i := 331) (by decide +kernel)⟩
theorem lw_p6 : lw_okq (⟨"OwnerRings", "requireNoEqual", "(IIII)V"⟩, 5) := ⟨⟨by decide +kernel, by decide +kernel⟩, List.mem_of_getElem? (i := 15) (by decide +kernel), List.mem_of_getElem? (i := 342) (by decide +kernel), List.mem_of_getElem? (i := 343) (by decide +kernel)⟩
theorem lw_p7 : lw_okq (⟨"OwnerRings", "join", "(III)V"⟩, 5) := ⟨⟨by decide +kernel, by decide +kernel⟩, List.mem_of_getElem? (i := 15) (by decide +kernel), List.mem_of_getElem? (i := 355) (by decide +kernel), List.mem_of_getElem? (i := 356) (by decide +kernel)⟩
theorem lw_p8 : lw_okq (⟨"OwnerRings", "positionByOrder", "(III)I"⟩, 5) := ⟨⟨by decide +kernel, by decide +kernel⟩, List.mem_of_getElem? (i := 15) (by decide +kernel), List.mem_of_getElem? (i := 359) (by decide +kernel), List.mem_of_getElem? (i := 360) (by decide +kernel)⟩
theorem lw_p9 : lw_okq (⟨"OwnerRings", "positionByValue", "(III)I"⟩, 5) := ⟨⟨by decide +kernel, by decide +kernel⟩, List.mem_of_getElem? (i := 15) (by decide +kernel), List.mem_of_getElem? (i := 367) (by decide +kernel), List.mem_of_getElem? (i := 368) (by decide +kernel)⟩
theorem lw_p10 : lw_okq (⟨"OwnerRings", "comeTo", "(II)V"⟩, 5) := ⟨⟨by decide +kernel, by decide +kernel⟩, List.mem_of_getElem? (i := 15) (by decide +kernel), List.mem_of_getElem? (i := 379) (by decide +kernel), List.mem_of_getElem? (i := 380) (by decide +kernel)⟩
theorem lw_p11 : lw_okq (⟨"OwnerRings", "requireRecord", "(I)I"⟩, 5) := ⟨⟨by decide +kernel, by decide +kernel⟩, List.mem_of_getElem? (i := 15) (by decide +kernel), List.mem_of_getElem? (i := 397) (by decide +kernel), List.mem_of_getElem? (i := 398) (by decide +kernel)⟩
theorem lw_p12 : lw_okq (⟨"OwnerRings", "comeToExisting", "(I)I"⟩, 5) := ⟨⟨by decide +kernel, by decide +kernel⟩, List.mem_of_getElem? (i := 15) (by decide +kernel), List.mem_of_getElem? (i := 419) (by decide +kernel), List.mem_of_getElem? (i := 420) (by decide +kernel)⟩
theorem lw_p13 : lw_okq (⟨"OwnerRings", "requireSet", "(I)V"⟩, 5) := ⟨⟨by decide +kernel, by decide +kernel⟩, List.mem_of_getElem? (i := 15) (by decide +kernel), List.mem_of_getElem? (i := 431) (by decide +kernel), List.mem_of_getElem? (i := 432) (by decide +kernel)⟩
theorem lw_p14 : lw_okq (⟨"OwnerRings", "placeToMoveTo", "(II)I"⟩, 5) := ⟨⟨by decide +kernel, by decide +kernel⟩, List.mem_of_getElem? (i := 15) (by decide +kernel), List.mem_of_getElem? (i := 441) (by decide +kernel), List.mem_of_getElem? (i := 442) (by decide +kernel)⟩
theorem lw_p15 : lw_okq (⟨"OwnerRings", "requireRunRecord", "()I"⟩, 5) := ⟨⟨by decide +kernel, by decide +kernel⟩, List.mem_of_getElem? (i := 15) (by decide +kernel), List.mem_of_getElem? (i := 482) (by decide +kernel), List.mem_of_getElem? (i := 483) (by decide +kernel)⟩
def lw_privs_1 : List (MethodName × Nat) := [(⟨"java/lang/Throwable", "fillInStackTrace", "(I)Ljava/lang/Throwable;"⟩, 6), (⟨"OwnerRings", "requireOwnersToJoin", "(I)V"⟩, 5), (⟨"OwnerRings", "requireCurrentOwner", "(I)I"⟩, 5), (⟨"OwnerRings", "currentOwner", "(I)I"⟩, 5), (⟨"OwnerRings", "requireNoRefusalToJoin", "(II)V"⟩, 5), (⟨"OwnerRings", "requireNoRefusal", "(III)V"⟩, 5), (⟨"OwnerRings", "requireNoEqual", "(IIII)V"⟩, 5), (⟨"OwnerRings", "join", "(III)V"⟩, 5), (⟨"OwnerRings", "positionByOrder", "(III)I"⟩, 5), (⟨"OwnerRings", "positionByValue", "(III)I"⟩, 5), (⟨"OwnerRings", "comeTo", "(II)V"⟩, 5), (⟨"OwnerRings", "requireRecord", "(I)I"⟩, 5), (⟨"OwnerRings", "comeToExisting", "(I)I"⟩, 5), (⟨"OwnerRings", "requireSet", "(I)V"⟩, 5), (⟨"OwnerRings", "placeToMoveTo", "(II)I"⟩, 5), (⟨"OwnerRings", "requireRunRecord", "()I"⟩, 5)]
theorem lw_r1 : ∀ q ∈ lw_privs_1, lw_okq q := List.forall_mem_cons.mpr ⟨lw_p0, List.forall_mem_cons.mpr ⟨lw_p1, List.forall_mem_cons.mpr ⟨lw_p2, List.forall_mem_cons.mpr ⟨lw_p3, List.forall_mem_cons.mpr ⟨lw_p4, List.forall_mem_cons.mpr ⟨lw_p5, List.forall_mem_cons.mpr ⟨lw_p6, List.forall_mem_cons.mpr ⟨lw_p7, List.forall_mem_cons.mpr ⟨lw_p8, List.forall_mem_cons.mpr ⟨lw_p9, List.forall_mem_cons.mpr ⟨lw_p10, List.forall_mem_cons.mpr ⟨lw_p11, List.forall_mem_cons.mpr ⟨lw_p12, List.forall_mem_cons.mpr ⟨lw_p13, List.forall_mem_cons.mpr ⟨lw_p14, List.forall_mem_cons.mpr ⟨lw_p15, fun _ h => absurd h List.not_mem_nil⟩⟩⟩⟩⟩⟩⟩⟩⟩⟩⟩⟩⟩⟩⟩⟩
theorem lw_p16 : lw_okq (⟨"OwnerRings", "requireFieldOf", "(II)V"⟩, 5) := ⟨⟨by decide +kernel, by decide +kernel⟩, List.mem_of_getElem? (i := 15) (by decide +kernel), List.mem_of_getElem? (i := 487) (by decide +kernel), List.mem_of_getElem? (i := 488) (by decide +kernel)⟩
theorem lw_p17 : lw_okq (⟨"OwnerRings", "requireNoRefusalToSort", "(III)V"⟩, 5) := ⟨⟨by decide +kernel, by decide +kernel⟩, List.mem_of_getElem? (i := 15) (by decide +kernel), List.mem_of_getElem? (i := 498) (by decide +kernel), List.mem_of_getElem? (i := 499) (by decide +kernel)⟩
theorem lw_p18 : lw_okq (⟨"OwnerRings", "sortAgain", "(II)V"⟩, 5) := ⟨⟨by decide +kernel, by decide +kernel⟩, List.mem_of_getElem? (i := 15) (by decide +kernel), List.mem_of_getElem? (i := 508) (by decide +kernel), List.mem_of_getElem? (i := 509) (by decide +kernel)⟩
theorem lw_p19 : lw_okq (⟨"OwnerRings", "stepBack", "(II)V"⟩, 5) := ⟨⟨by decide +kernel, by decide +kernel⟩, List.mem_of_getElem? (i := 15) (by decide +kernel), List.mem_of_getElem? (i := 536) (by decide +kernel), List.mem_of_getElem? (i := 537) (by decide +kernel)⟩
theorem lw_p20 : lw_okq (⟨"OwnerRings", "allThatGo", "(II)I"⟩, 5) := ⟨⟨by decide +kernel, by decide +kernel⟩, List.mem_of_getElem? (i := 15) (by decide +kernel), List.mem_of_getElem? (i := 556) (by decide +kernel), List.mem_of_getElem? (i := 557) (by decide +kernel)⟩
theorem lw_p21 : lw_okq (⟨"OwnerRings", "ownsMembers", "(I)Z"⟩, 5) := ⟨⟨by decide +kernel, by decide +kernel⟩, List.mem_of_getElem? (i := 15) (by decide +kernel), List.mem_of_getElem? (i := 570) (by decide +kernel), List.mem_of_getElem? (i := 571) (by decide +kernel)⟩
theorem lw_p22 : lw_okq (⟨"OwnerRings", "boundOneWouldStay", "(I)Z"⟩, 5) := ⟨⟨by decide +kernel, by decide +kernel⟩, List.mem_of_getElem? (i := 15) (by decide +kernel), List.mem_of_getElem? (i := 575) (by decide +kernel), List.mem_of_getElem? (i := 576) (by decide +kernel)⟩
theorem lw_p23 : lw_okq (⟨"OwnerRings", "standWithout", "(I)V"⟩, 5) := ⟨⟨by decide +kernel, by decide +kernel⟩, List.mem_of_getElem? (i := 15) (by decide +kernel), List.mem_of_getElem? (i := 580) (by decide +kernel), List.mem_of_getElem? (i := 581) (by decide +kernel)⟩
theorem lw_p24 : lw_okq (⟨"OwnerRings", "removeAll", "(I)V"⟩, 5) := ⟨⟨by decide +kernel, by decide +kernel⟩, List.mem_of_getElem? (i := 15) (by decide +kernel), List.mem_of_getElem? (i := 584) (by decide +kernel), List.mem_of_getElem? (i := 585) (by decide +kernel)⟩
theorem lw_p25 : lw_okq (⟨"OwnerRingsModel", "forget", "()V"⟩, 27) := ⟨⟨by decide +kernel, by decide +kernel⟩, List.mem_of_getElem? (i := 612) (by decide +kernel), List.mem_of_getElem? (i := 618) (by decide +kernel), List.mem_of_getElem? (i := 619) (by decide +kernel)⟩
theorem lw_p26 : lw_okq (⟨"OwnerRingsModel", "isType", "(I)Z"⟩, 27) := ⟨⟨by decide +kernel, by decide +kernel⟩, List.mem_of_getElem? (i := 612) (by decide +kernel), List.mem_of_getElem? (i := 717) (by decide +kernel), List.mem_of_getElem? (i := 718) (by decide +kernel)⟩
theorem lw_p27 : lw_okq (⟨"OwnerRingsModel", "objection", "(II)I"⟩, 27) := ⟨⟨by decide +kernel, by decide +kernel⟩, List.mem_of_getElem? (i := 612) (by decide +kernel), List.mem_of_getElem? (i := 728) (by decide +kernel), List.mem_of_getElem? (i := 729) (by decide +kernel)⟩
theorem lw_p28 : lw_okq (⟨"OwnerRingsModel", "currentOwner", "(I)I"⟩, 27) := ⟨⟨by decide +kernel, by decide +kernel⟩, List.mem_of_getElem? (i := 612) (by decide +kernel), List.mem_of_getElem? (i := 732) (by decide +kernel), List.mem_of_getElem? (i := 733) (by decide +kernel)⟩
theorem lw_p29 : lw_okq (⟨"OwnerRingsModel", "isRefused", "(IIII)Z"⟩, 27) := ⟨⟨by decide +kernel, by decide +kernel⟩, List.mem_of_getElem? (i := 612) (by decide +kernel), List.mem_of_getElem? (i := 736) (by decide +kernel), List.mem_of_getElem? (i := 737) (by decide +kernel)⟩
theorem lw_p30 : lw_okq (⟨"OwnerRingsModel", "join", "(III)V"⟩, 27) := ⟨⟨by decide +kernel, by decide +kernel⟩, List.mem_of_getElem? (i := 612) (by decide +kernel), List.mem_of_getElem? (i := 740) (by decide +kernel), List.mem_of_getElem? (i := 741) (by decide +kernel)⟩
theorem lw_p31 : lw_okq (⟨"OwnerRingsModel", "placeFor", "(III)I"⟩, 27) := ⟨⟨by decide +kernel, by decide +kernel⟩, List.mem_of_getElem? (i := 612) (by decide +kernel), List.mem_of_getElem? (i := 744) (by decide +kernel), List.mem_of_getElem? (i := 745) (by decide +kernel)⟩
def lw_privs_2 : List (MethodName × Nat) := [(⟨"OwnerRings", "requireFieldOf", "(II)V"⟩, 5), (⟨"OwnerRings", "requireNoRefusalToSort", "(III)V"⟩, 5), (⟨"OwnerRings", "sortAgain", "(II)V"⟩, 5), (⟨"OwnerRings", "stepBack", "(II)V"⟩, 5), (⟨"OwnerRings", "allThatGo", "(II)I"⟩, 5), (⟨"OwnerRings", "ownsMembers", "(I)Z"⟩, 5), (⟨"OwnerRings", "boundOneWouldStay", "(I)Z"⟩, 5), (⟨"OwnerRings", "standWithout", "(I)V"⟩, 5), (⟨"OwnerRings", "removeAll", "(I)V"⟩, 5), (⟨"OwnerRingsModel", "forget", "()V"⟩, 27), (⟨"OwnerRingsModel", "isType", "(I)Z"⟩, 27), (⟨"OwnerRingsModel", "objection", "(II)I"⟩, 27), (⟨"OwnerRingsModel", "currentOwner", "(I)I"⟩, 27), (⟨"OwnerRingsModel", "isRefused", "(IIII)Z"⟩, 27), (⟨"OwnerRingsModel", "join", "(III)V"⟩, 27), (⟨"OwnerRingsModel", "placeFor", "(III)I"⟩, 27)]
theorem lw_r2 : ∀ q ∈ lw_privs_2, lw_okq q := List.forall_mem_cons.mpr ⟨lw_p16, List.forall_mem_cons.mpr ⟨lw_p17, List.forall_mem_cons.mpr ⟨lw_p18, List.forall_mem_cons.mpr ⟨lw_p19, List.forall_mem_cons.mpr ⟨lw_p20, List.forall_mem_cons.mpr ⟨lw_p21, List.forall_mem_cons.mpr ⟨lw_p22, List.forall_mem_cons.mpr ⟨lw_p23, List.forall_mem_cons.mpr ⟨lw_p24, List.forall_mem_cons.mpr ⟨lw_p25, List.forall_mem_cons.mpr ⟨lw_p26, List.forall_mem_cons.mpr ⟨lw_p27, List.forall_mem_cons.mpr ⟨lw_p28, List.forall_mem_cons.mpr ⟨lw_p29, List.forall_mem_cons.mpr ⟨lw_p30, List.forall_mem_cons.mpr ⟨lw_p31, fun _ h => absurd h List.not_mem_nil⟩⟩⟩⟩⟩⟩⟩⟩⟩⟩⟩⟩⟩⟩⟩⟩
theorem lw_p32 : lw_okq (⟨"OwnerRingsModel", "placeOf", "(II)I"⟩, 27) := ⟨⟨by decide +kernel, by decide +kernel⟩, List.mem_of_getElem? (i := 612) (by decide +kernel), List.mem_of_getElem? (i := 748) (by decide +kernel), List.mem_of_getElem? (i := 749) (by decide +kernel)⟩
theorem lw_p33 : lw_okq (⟨"OwnerRingsModel", "firstOf", "(II)I"⟩, 27) := ⟨⟨by decide +kernel, by decide +kernel⟩, List.mem_of_getElem? (i := 612) (by decide +kernel), List.mem_of_getElem? (i := 752) (by decide +kernel), List.mem_of_getElem? (i := 753) (by decide +kernel)⟩
theorem lw_p34 : lw_okq (⟨"OwnerRingsModel", "nextIn", "(IIII)I"⟩, 27) := ⟨⟨by decide +kernel, by decide +kernel⟩, List.mem_of_getElem? (i := 612) (by decide +kernel), List.mem_of_getElem? (i := 756) (by decide +kernel), List.mem_of_getElem? (i := 757) (by decide +kernel)⟩
theorem lw_p35 : lw_okq (⟨"OwnerRingsModel", "come", "(II)V"⟩, 27) := ⟨⟨by decide +kernel, by decide +kernel⟩, List.mem_of_getElem? (i := 612) (by decide +kernel), List.mem_of_getElem? (i := 760) (by decide +kernel), List.mem_of_getElem? (i := 761) (by decide +kernel)⟩
theorem lw_p36 : lw_okq (⟨"OwnerRingsModel", "recordWith", "(I)I"⟩, 27) := ⟨⟨by decide +kernel, by decide +kernel⟩, List.mem_of_getElem? (i := 612) (by decide +kernel), List.mem_of_getElem? (i := 768) (by decide +kernel), List.mem_of_getElem? (i := 769) (by decide +kernel)⟩
theorem lw_p37 : lw_okq (⟨"OwnerRingsModel", "comeTo", "(II)I"⟩, 27) := ⟨⟨by decide +kernel, by decide +kernel⟩, List.mem_of_getElem? (i := 612) (by decide +kernel), List.mem_of_getElem? (i := 776) (by decide +kernel), List.mem_of_getElem? (i := 777) (by decide +kernel)⟩
theorem lw_p38 : lw_okq (⟨"OwnerRingsModel", "isSet", "(I)Z"⟩, 27) := ⟨⟨by decide +kernel, by decide +kernel⟩, List.mem_of_getElem? (i := 612) (by decide +kernel), List.mem_of_getElem? (i := 784) (by decide +kernel), List.mem_of_getElem? (i := 785) (by decide +kernel)⟩
theorem lw_p39 : lw_okq (⟨"OwnerRingsModel", "lastOf", "(II)I"⟩, 27) := ⟨⟨by decide +kernel, by decide +kernel⟩, List.mem_of_getElem? (i := 612) (by decide +kernel), List.mem_of_getElem? (i := 788) (by decide +kernel), List.mem_of_getElem? (i := 789) (by decide +kernel)⟩
theorem lw_p40 : lw_okq (⟨"OwnerRingsModel", "beside", "(II)I"⟩, 27) := ⟨⟨by decide +kernel, by decide +kernel⟩, List.mem_of_getElem? (i := 612) (by decide +kernel), List.mem_of_getElem? (i := 792) (by decide +kernel), List.mem_of_getElem? (i := 793) (by decide +kernel)⟩
theorem lw_p41 : lw_okq (⟨"OwnerRingsModel", "isSortedBy", "(II)Z"⟩, 27) := ⟨⟨by decide +kernel, by decide +kernel⟩, List.mem_of_getElem? (i := 612) (by decide +kernel), List.mem_of_getElem? (i := 812) (by decide +kernel), List.mem_of_getElem? (i := 813) (by decide +kernel)⟩
theorem lw_p42 : lw_okq (⟨"OwnerRingsModel", "leave", "(II)V"⟩, 27) := ⟨⟨by decide +kernel, by decide +kernel⟩, List.mem_of_getElem? (i := 612) (by decide +kernel), List.mem_of_getElem? (i := 816) (by decide +kernel), List.mem_of_getElem? (i := 817) (by decide +kernel)⟩
theorem lw_p43 : lw_okq (⟨"OwnerRingsModel", "valueIn", "(II)I"⟩, 27) := ⟨⟨by decide +kernel, by decide +kernel⟩, List.mem_of_getElem? (i := 612) (by decide +kernel), List.mem_of_getElem? (i := 824) (by decide +kernel), List.mem_of_getElem? (i := 825) (by decide +kernel)⟩
theorem lw_p44 : lw_okq (⟨"OwnerRingsModel", "ownedMembers", "(I)I"⟩, 27) := ⟨⟨by decide +kernel, by decide +kernel⟩, List.mem_of_getElem? (i := 612) (by decide +kernel), List.mem_of_getElem? (i := 840) (by decide +kernel), List.mem_of_getElem? (i := 841) (by decide +kernel)⟩
theorem lw_p45 : lw_okq (⟨"OwnerRingsModel", "spread", "(I)V"⟩, 27) := ⟨⟨by decide +kernel, by decide +kernel⟩, List.mem_of_getElem? (i := 612) (by decide +kernel), List.mem_of_getElem? (i := 844) (by decide +kernel), List.mem_of_getElem? (i := 845) (by decide +kernel)⟩
theorem lw_p46 : lw_okq (⟨"OwnerRingsModel", "takes", "(II)Z"⟩, 27) := ⟨⟨by decide +kernel, by decide +kernel⟩, List.mem_of_getElem? (i := 612) (by decide +kernel), List.mem_of_getElem? (i := 848) (by decide +kernel), List.mem_of_getElem? (i := 849) (by decide +kernel)⟩
theorem lw_p47 : lw_okq (⟨"OwnerRingsModel", "strands", "()Z"⟩, 27) := ⟨⟨by decide +kernel, by decide +kernel⟩, List.mem_of_getElem? (i := 612) (by decide +kernel), List.mem_of_getElem? (i := 852) (by decide +kernel), List.mem_of_getElem? (i := 853) (by decide +kernel)⟩
def lw_privs_3 : List (MethodName × Nat) := [(⟨"OwnerRingsModel", "placeOf", "(II)I"⟩, 27), (⟨"OwnerRingsModel", "firstOf", "(II)I"⟩, 27), (⟨"OwnerRingsModel", "nextIn", "(IIII)I"⟩, 27), (⟨"OwnerRingsModel", "come", "(II)V"⟩, 27), (⟨"OwnerRingsModel", "recordWith", "(I)I"⟩, 27), (⟨"OwnerRingsModel", "comeTo", "(II)I"⟩, 27), (⟨"OwnerRingsModel", "isSet", "(I)Z"⟩, 27), (⟨"OwnerRingsModel", "lastOf", "(II)I"⟩, 27), (⟨"OwnerRingsModel", "beside", "(II)I"⟩, 27), (⟨"OwnerRingsModel", "isSortedBy", "(II)Z"⟩, 27), (⟨"OwnerRingsModel", "leave", "(II)V"⟩, 27), (⟨"OwnerRingsModel", "valueIn", "(II)I"⟩, 27), (⟨"OwnerRingsModel", "ownedMembers", "(I)I"⟩, 27), (⟨"OwnerRingsModel", "spread", "(I)V"⟩, 27), (⟨"OwnerRingsModel", "takes", "(II)Z"⟩, 27), (⟨"OwnerRingsModel", "strands", "()Z"⟩, 27)]
theorem lw_r3 : ∀ q ∈ lw_privs_3, lw_okq q := List.forall_mem_cons.mpr ⟨lw_p32, List.forall_mem_cons.mpr ⟨lw_p33, List.forall_mem_cons.mpr ⟨lw_p34, List.forall_mem_cons.mpr ⟨lw_p35, List.forall_mem_cons.mpr ⟨lw_p36, List.forall_mem_cons.mpr ⟨lw_p37, List.forall_mem_cons.mpr ⟨lw_p38, List.forall_mem_cons.mpr ⟨lw_p39, List.forall_mem_cons.mpr ⟨lw_p40, List.forall_mem_cons.mpr ⟨lw_p41, List.forall_mem_cons.mpr ⟨lw_p42, List.forall_mem_cons.mpr ⟨lw_p43, List.forall_mem_cons.mpr ⟨lw_p44, List.forall_mem_cons.mpr ⟨lw_p45, List.forall_mem_cons.mpr ⟨lw_p46, List.forall_mem_cons.mpr ⟨lw_p47, fun _ h => absurd h List.not_mem_nil⟩⟩⟩⟩⟩⟩⟩⟩⟩⟩⟩⟩⟩⟩⟩⟩
theorem lw_p48 : lw_okq (⟨"OwnerRingsModel", "heir", "(I)I"⟩, 27) := ⟨⟨by decide +kernel, by decide +kernel⟩, List.mem_of_getElem? (i := 612) (by decide +kernel), List.mem_of_getElem? (i := 856) (by decide +kernel), List.mem_of_getElem? (i := 857) (by decide +kernel)⟩
theorem lw_p49 : lw_okq (⟨"OwnerRingsModel", "sweep", "()I"⟩, 27) := ⟨⟨by decide +kernel, by decide +kernel⟩, List.mem_of_getElem? (i := 612) (by decide +kernel), List.mem_of_getElem? (i := 860) (by decide +kernel), List.mem_of_getElem? (i := 861) (by decide +kernel)⟩
theorem lw_p50 : lw_okq (⟨"OwnerRingsModel", "records", "()I"⟩, 27) := ⟨⟨by decide +kernel, by decide +kernel⟩, List.mem_of_getElem? (i := 612) (by decide +kernel), List.mem_of_getElem? (i := 876) (by decide +kernel), List.mem_of_getElem? (i := 877) (by decide +kernel)⟩
def lw_privs_4 : List (MethodName × Nat) := [(⟨"OwnerRingsModel", "heir", "(I)I"⟩, 27), (⟨"OwnerRingsModel", "sweep", "()I"⟩, 27), (⟨"OwnerRingsModel", "records", "()I"⟩, 27)]
theorem lw_r4 : ∀ q ∈ lw_privs_4, lw_okq q := List.forall_mem_cons.mpr ⟨lw_p48, List.forall_mem_cons.mpr ⟨lw_p49, List.forall_mem_cons.mpr ⟨lw_p50, fun _ h => absurd h List.not_mem_nil⟩⟩⟩
def lw_privs : List (MethodName × Nat) := lw_privs_1 ++ (lw_privs_2 ++ (lw_privs_3 ++ (lw_privs_4)))
def lw_tbl : List Cond := k2_sels lw_privs ++ tables_1
theorem lw_privs_ok : ∀ q ∈ lw_privs, lw_okq q := by
  show ∀ q ∈ lw_privs_1 ++ (lw_privs_2 ++ (lw_privs_3 ++ (lw_privs_4))), lw_okq q
  exact List.forall_mem_append.mpr ⟨lw_r1, List.forall_mem_append.mpr ⟨lw_r2, List.forall_mem_append.mpr ⟨lw_r3, lw_r4⟩⟩⟩
-- ===== end of PART A; then your names; then what follows =====
/-! ===== BEGIN words of one list among another's, by their places ===== -/
theorem goodIn_r {big : List Cond} (ws : List Cond) (ps : List Nat) (hp : ws = ps.filterMap (fun i => big[i]?)) (h : ws.all goodWord = true) : GoodIn big ws := by
  intro w hw
  have h1 := List.all_eq_true.mp h w hw
  rw [hp] at hw
  obtain ⟨i, -, hi⟩ := List.mem_filterMap.mp hw
  have hm : w ∈ big := by first | exact List.mem_of_getElem? hi | exact List.getElem?_mem hi
  exact ⟨hm, good_of_word h1⟩
theorem goodIn_app {big a b : List Cond} (ha : GoodIn big a) (hb : GoodIn big b) : GoodIn big (a ++ b) := fun w h => (List.mem_append.mp h).elim (ha w) (hb w)
theorem goodIn_ca {big a b : List Cond} {c : Cond} (ha : GoodIn big (c :: a)) (hb : GoodIn big b) : GoodIn big (c :: (a ++ b)) := fun w h => (List.mem_cons.mp h).elim (fun e => ha w (List.mem_cons.mpr (Or.inl e))) (fun h => (List.mem_append.mp h).elim (fun h => ha w (List.mem_cons.mpr (Or.inr h))) (hb w))
theorem goodIn_sub {big ws : List Cond} (hm : ∀ w ∈ ws, w ∈ big) (h : ws.all goodWord = true) : GoodIn big ws := fun w hw => ⟨hm w hw, good_of_word (List.all_eq_true.mp h w hw)⟩
/-! ===== END ===== -/

/-! ===== BEGIN new T[n][m]: the outer array a place, the inner ones among the pooled ===== -/
/-- f, but v at every address of l -/
def vr_up {α : Type} (f : Nat → α) (l : List Nat) (v : α) : Nat → α := fun a => if a ∈ l then v else f a
theorem vr_up_in {α : Type} {f : Nat → α} {l : List Nat} {v : α} {a : Nat} (h : a ∈ l) : vr_up f l v a = v := if_pos h
theorem vr_up_ne {α : Type} {f : Nat → α} {l : List Nat} {v : α} {a : Nat} (h : a ∉ l) : vr_up f l v a = f a := if_neg h
theorem vr_rows {L l : List Nat} {f : Nat → va_E} {e : va_E} (h : ∀ a, a ∈ l → a ∉ L) : va_pl L f ++ l.map (fun a => (a, e)) = va_pl (L ++ l) (vr_up f l e) := by
  unfold va_pl
  rw [List.map_append]
  congr 1
  · apply List.map_congr_left
    intro a ha
    rw [vr_up_ne (fun q => h a q ha)]
  · apply List.map_congr_left
    intro a ha
    rw [vr_up_in ha]
theorem vr_lay {X rows : va_W} {x : Nat × va_E} {pl : va_W} {D : va_G} {cl : List vw_C} {H : Heap} (hP : va_P D cl (((X ++ pl) ++ [x]) ++ rows) H) : va_P D cl ((X ++ [x]) ++ (pl ++ rows)) H := by
  rw [List.append_assoc (X ++ pl)] at hP
  have h := va_P.swap hP
  rw [← List.append_assoc X] at h
  have h2 := va_P.swap h
  rw [List.append_assoc (X ++ [x])] at h2
  exact h2
theorem vr_layD {X rows : va_W} {x : Nat × va_E} {pl : va_W} {A : Nat → Prop} (hD : va_D A (((X ++ pl) ++ [x]) ++ rows)) : va_D A ((X ++ [x]) ++ (pl ++ rows)) := by
  rw [List.append_assoc (X ++ pl)] at hD
  have h := va_D.swap hD
  rw [← List.append_assoc X] at h
  have h2 := va_D.swap h
  rw [List.append_assoc (X ++ [x])] at h2
  exact h2
theorem vr_outer (c : ClassId) (N h0 : Nat) : ∀ i : Nat, Jvm.Free.Multi.outerC c N h0 i = arrV c N (fun j => va_rf (if j < i then some (h0 + 1 + j) else none))
  | 0 => by
    show ({ cls := c, slots := Array.replicate N .null, vm := .none } : Cell) = _
    rw [arrV_new]
    refine congrArg (arrV c N) (funext fun j => ?_)
    simp [va_rf]
  | i + 1 => by
    show (Jvm.Free.Multi.outerC c N h0 i).setSlot i (.ref (h0 + 1 + i)) = _
    rw [vr_outer c N h0 i, arrV_store]
    refine congrArg (arrV c N) (funext fun j => ?_)
    by_cases e : j = i
    · subst e
      simp [updV, va_rf]
    · by_cases h : j < i
      · simp [updV, e, h, Nat.lt_succ_of_lt h]
      · simp [updV, e, h, show ¬ j < i + 1 by omega]
section VGM
variable {p : Program} {l : Launch} {e : Env} {R : Room} {s : State} {m : MethodId} {args : Array Value} {below : List Frame} {meth : Method} {c : Code} {H : Heap} {locs : List Loc} {cells slots : Nat} {Q : State → Prop}
variable {cc : ByteArray} {pc : Nat} {ls : Array Slot} {rest : List Value} {D : va_G} {cl : List vw_C} {A : Nat → Prop} {a : Nat} {tys : List (ClassId × FieldType)} {ws : va_W} {H0 : Heap}
def va_AOA (t : FieldType) (U : State) : Prop := (Cond.arrayOver (.array t)).before #[] U = true
theorem va_AOA.of {t : FieldType} {A : Array Value} {U : State} (h : (Cond.arrayOver (.array t)).before A U = true) : va_AOA t U := h
theorem va_AOA.use {t : FieldType} {A : Array Value} {U : State} (h : va_AOA t U) : (Cond.arrayOver (.array t)).before A U = true := h
theorem va_mna {X : va_W} {L : List Nat} {f : Nat → va_E} {cc : ByteArray} (hexec : p.tables.exec = Jvm.exec) (hb : c.code = cc) {own : String} {index : Nat} {ty : FieldType} {cy : ClassId} (hown : s.vm.findClass own = some m.cls) (hclink : (Cond.classLink own index ("[" ++ (FieldType.array ty).toString)).before args s = true) (hover : va_AOA ty s) (harr : (Cond.arrayClass ty).before args s = true) (hcy : s.vm.findClass (FieldType.array ty).toString = some cy)
    (hK : va_K D cl tys s) (hP : va_P D cl (X ++ va_pl L f) H) (hD : va_D A (X ++ va_pl L f)) (hS : va_S A H0 H locs) (hA : ∀ q, H0.size ≤ q → A q) {n k : Int32} {N' K' : Nat} {z : vp_A} (hn : ¬ n < 0) (hk : ¬ k < 0) (hN : n.toNatClampNeg = N') (hM : k.toNatClampNeg = K')
    (hb1 : N' * 4 ≤ 536870912) (hb2 : K' * componentBytes ty ≤ 536870912) (hb3 : K' ≤ 536870912) (hdf : fits ty (defaultValue ty) = true) (hdd : (defaultValue ty).isDefault = true) (hcells : cells + (1 + N') ≤ R.cells) (hslots : slots + (N' + N' * K') ≤ R.slots) (hz : ∀ c : ClassId, Jvm.Free.Multi.innerC c K' (defaultValue ty) = vp_cell c z) (hdg : decode cc pc = .ok (.multianewarray index 2, 4))
    (kk : ∀ (q : Nat) (r : Nat → Nat) (cA : ClassId) (H1 : Heap), (∀ i j : Nat, i < N' → j < N' → r i = r j → i = j) → (∀ i : Nat, i < N' → r i ∉ L) → va_K D cl (tys ++ [(cA, .array ty)]) s →
      va_P D cl ((X ++ [(q, .inl (cA, N', .inr (.inr (.inr (.inr (fun i => if i < N' then some (r i) else none))))))]) ++ va_pl (L ++ (List.range N').map r) (vr_up f ((List.range N').map r) (.inl (cy, z)))) H1 → va_D A ((X ++ [(q, .inl (cA, N', .inr (.inr (.inr (.inr (fun i => if i < N' then some (r i) else none))))))]) ++ va_pl (L ++ (List.range N').map r) (vr_up f ((List.range N').map r) (.inl (cy, z)))) → va_S A H0 H1 locs →
      W p l e R s m args below meth c H1 locs (cells + 1 + N') (slots + N' + N' * K') Q (F0 m (pc + 4) ls (.ref q :: rest))) : W p l e R s m args below meth c H locs cells slots Q (F0 m pc ls (.int k :: .int n :: rest)) := by
  subst hN
  subst hM
  intro T hT Xs
  obtain ⟨vm₁, cA, comp, -, fA, fC, hO, -, X', step⟩ := Xs.multianewarray2F hexec hown hclink (va_AOA.use hover) harr (g := F0 m pc ls (.int k :: .int n :: rest)) rfl (by rw [hb]; exact hdg) rfl hn hk hb1 hb2 hb3 hdf hdd hcells hslots
  have ec : some cy = some comp := hcy.symm.trans fC
  cases ec
  generalize hF : Jvm.Free.Multi.fill (T.setVm vm₁) cA cy n.toNatClampNeg k.toNatClampNeg (defaultValue ty) n.toNatClampNeg = F at X' step
  have hTh : (T.setVm vm₁).heap = H := hT
  obtain ⟨f1, f2, -, -⟩ := Jvm.Free.Multi.fill_facts (T.setVm vm₁) cA cy n.toNatClampNeg k.toNatClampNeg (defaultValue ty) n.toNatClampNeg
  rw [hF, hTh] at f1 f2
  have hold : ∀ x : Nat, x < H.size → F.heap[x]? = H[x]? := fun x hx => by
    have := Jvm.Free.Multi.fill_old (T.setVm vm₁) cA cy n.toNatClampNeg k.toNatClampNeg (defaultValue ty) (a := x) (by rw [hTh]; exact hx) n.toNatClampNeg
    rw [hF, hTh] at this
    exact this
  have hrow : ∀ j : Nat, j < n.toNatClampNeg → F.heap[H.size + 1 + j]? = some (vp_cell cy z) := fun j hj => by
    have := Jvm.Free.Multi.fill_inner (T.setVm vm₁) cA cy n.toNatClampNeg k.toNatClampNeg (defaultValue ty) n.toNatClampNeg j hj
    rw [hF, hTh, hz] at this
    exact this
  have hout : Jvm.Free.Multi.outerC cA n.toNatClampNeg H.size n.toNatClampNeg = vp_cell cA (n.toNatClampNeg, .inr (.inr (.inr (.inr (fun i => if i < n.toNatClampNeg then some (H.size + 1 + i) else none))))) := by
    rw [vp_cell_q]
    exact vr_outer cA n.toNatClampNeg H.size n.toNatClampNeg
  rw [hout] at f2
  have hlt : ∀ a, a ∈ L → a < H.size := fun a ha => by
    obtain ⟨k9, hk9⟩ := va_pl_get (X := X) (f := f) ha
    exact (hP k9 _ hk9).lt
  have hnl : ∀ i : Nat, i < n.toNatClampNeg → H.size + 1 + i ∉ L := fun i _ h => by
    have := hlt _ h
    omega
  have hnm : ∀ a, a ∈ (List.range n.toNatClampNeg).map (fun i => H.size + 1 + i) → a ∉ L := fun a ha h => by
    obtain ⟨i, -, rfl⟩ := List.mem_map.mp ha
    have := hlt _ h
    omega
  have hP0 : va_P D cl (X ++ va_pl L f) F.heap := hP.kept (fun k9 x hx => hold x.1 ((hP k9 x hx).lt))
  have hP1 : va_P D cl ((X ++ va_pl L f) ++ [(H.size, .inl (cA, n.toNatClampNeg, .inr (.inr (.inr (.inr (fun i => if i < n.toNatClampNeg then some (H.size + 1 + i) else none))))))]) F.heap := hP0.app (fun k9 x hx => by
    have h0 : k9 < 1 := (List.getElem?_eq_some_iff.mp hx).1
    rw [show k9 = 0 by omega] at hx
    cases hx
    exact f2)
  have hP2 : va_P D cl (((X ++ va_pl L f) ++ [(H.size, .inl (cA, n.toNatClampNeg, .inr (.inr (.inr (.inr (fun i => if i < n.toNatClampNeg then some (H.size + 1 + i) else none))))))]) ++ ((List.range n.toNatClampNeg).map (fun i => H.size + 1 + i)).map (fun a => (a, .inl (cy, z)))) F.heap := hP1.app (fun k9 x hx => by
    obtain ⟨a, ha, rfl⟩ := List.mem_map.mp (List.mem_of_getElem? hx)
    obtain ⟨i, hi, rfl⟩ := List.mem_map.mp ha
    exact hrow i (List.mem_range.mp hi))
  have hD2 : va_D A (((X ++ va_pl L f) ++ [(H.size, .inl (cA, n.toNatClampNeg, .inr (.inr (.inr (.inr (fun i => if i < n.toNatClampNeg then some (H.size + 1 + i) else none))))))]) ++ ((List.range n.toNatClampNeg).map (fun i => H.size + 1 + i)).map (fun a => (a, .inl (cy, z)))) := by
    have hD1 := hD.push (e := .inl (cA, n.toNatClampNeg, .inr (.inr (.inr (.inr (fun i => if i < n.toNatClampNeg then some (H.size + 1 + i) else none)))))) hP rfl (hA _ hS.1)
    generalize hW1 : (X ++ va_pl L f) ++ [(H.size, .inl (cA, n.toNatClampNeg, .inr (.inr (.inr (.inr (fun i => if i < n.toNatClampNeg then some (H.size + 1 + i) else none))))))] = W1 at hD1 hP1 ⊢
    have hle : ∀ (k9 : Nat) (x : Nat × va_E), W1[k9]? = some x → x.1 ≤ H.size := fun k9 x hx => by
      rw [← hW1] at hx
      by_cases hl : k9 < (X ++ va_pl L f).length
      · rw [List.getElem?_append_left hl] at hx
        exact Nat.le_of_lt ((hP k9 x hx).lt)
      · rw [List.getElem?_append_right (by omega)] at hx
        have h0 : k9 - (X ++ va_pl L f).length < 1 := (List.getElem?_eq_some_iff.mp hx).1
        rw [show k9 - (X ++ va_pl L f).length = 0 by omega] at hx
        cases hx
        exact Nat.le_refl _
    have hr : ∀ (k9 : Nat) (x : Nat × va_E), (((List.range n.toNatClampNeg).map (fun i => H.size + 1 + i)).map (fun a => ((a, .inl (cy, z)) : Nat × va_E)))[k9]? = some x → x.1 = H.size + 1 + k9 := fun k9 x hx => by
      rw [List.getElem?_map, List.getElem?_map] at hx
      by_cases h9 : k9 < n.toNatClampNeg
      · rw [List.getElem?_range h9] at hx
        cases hx
        rfl
      · have hn0 : (List.range n.toNatClampNeg)[k9]? = none := List.getElem?_eq_none (by rw [List.length_range]; omega)
        rw [hn0] at hx
        cases hx
    refine ⟨fun i j x y hi hj hxy => ?_, fun k9 x hx => ?_⟩
    · by_cases h1 : i < W1.length <;> by_cases h2 : j < W1.length
      · rw [List.getElem?_append_left h1] at hi
        rw [List.getElem?_append_left h2] at hj
        exact hD1.1 i j x y hi hj hxy
      · rw [List.getElem?_append_left h1] at hi
        rw [List.getElem?_append_right (by omega)] at hj
        have := hle _ _ hi
        have := hr _ _ hj
        omega
      · rw [List.getElem?_append_right (by omega)] at hi
        rw [List.getElem?_append_left h2] at hj
        have := hle _ _ hj
        have := hr _ _ hi
        omega
      · rw [List.getElem?_append_right (by omega)] at hi hj
        have := hr _ _ hi
        have := hr _ _ hj
        omega
    · by_cases h1 : k9 < W1.length
      · rw [List.getElem?_append_left h1] at hx
        exact hD1.2 k9 x hx
      · rw [List.getElem?_append_right (by omega)] at hx
        have := hr _ _ hx
        exact hA _ (by have := hS.1; omega)
  have hAr : ArrOfT s cA (.array ty) := fun N9 z9 => by
    obtain ⟨-, k9, hk9, cm9, hkk9⟩ := (hO 0 0 0).1
    exact ⟨(fun q hq => by cases hq), k9, hk9, cm9, hkk9⟩
  have hK2 : va_K D cl (tys ++ [(cA, .array ty)]) s := ⟨hK.1, fun k9 x hx => by
    by_cases hl : k9 < tys.length
    · rw [List.getElem?_append_left hl] at hx
      exact hK.2 k9 x hx
    · rw [List.getElem?_append_right (by omega)] at hx
      have h0 : k9 - tys.length < 1 := (List.getElem?_eq_some_iff.mp hx).1
      rw [show k9 - tys.length = 0 by omega] at hx
      cases hx
      exact ⟨hAr, fA⟩⟩
  obtain ⟨t, a1, b1⟩ := kk H.size (fun i => H.size + 1 + i) cA F.heap (fun i j _ _ h => by have h9 : H.size + 1 + i = H.size + 1 + j := h; omega) hnl hK2 (by rw [← vr_rows hnm]; exact vr_lay hP2) (by rw [← vr_rows hnm]; exact vr_layD hD2) ⟨by rw [f1]; have := hS.1; omega, fun x h1 h2 => (hold x (Nat.lt_of_lt_of_le h1 hS.1)).trans (hS.2.1 x h1 h2), hS.2.2⟩ F rfl X'
  refine ⟨t, step t ?_, b1⟩
  have e : T.heap.size = H.size := by rw [hT]
  rw [e]
  exact a1
end VGM
/-! ===== END ===== -/

/-! ===== BEGIN exceptions that leave a method, and their catching by the caller (launches without stack traces) ===== -/
section VXA
/-! The laws vx_back, vx_callV, vx_callS, vx_callSW, vx_throw0, vx_throwS follow proofs of the library, with one case more: JvmDerived/Free/Laws.lean (Back.of_free), Shelf42/LK1.lean (callV, callS), Shelf/KitTraced.lean (throwNew0V, throwNewS). -/

/-- where a method has thrown q: the class by its name, the cell, what was written, the world -/
def vx_T (XC : String → State → State → Prop) (st : State) (q : Addr) (t : State) (mc ms : Nat) (free : Addr → Prop) : Prop :=
  ∃ (E : String) (ce : Cell) (L : List Loc), XC E st t ∧ t.heap[q]? = some ce ∧ ce.vm = .none ∧ st.vm.findClass E = some ce.cls ∧ st.WarmedH t.vm ∧ st.sameButNew ({ t with vm := st.vm } : State) L mc ms ∧ ∀ z ∈ L, free z.base
def vx_Q (Qc : Array Value → State → Outcome → State → Prop) (XC : String → State → State → Prop) (mc ms : Nat) (free : Addr → Prop) : Array Value → State → Outcome → State → Prop := fun a st o t =>
  (Qc a st o t ∧ ∃ L, FrameEnd st o t L mc ms ∧ ∀ q ∈ L, free q.base) ∨ ∃ q, o = .threw q ∧ vx_T XC st q t mc ms free
/-- a callee that returns or throws -/
def vx_Met (l : Launch) (y : MethodName) (ws : List Cond) (rm : Room) (Pc : Array Value → State → Prop) (Qc : Array Value → State → Outcome → State → Prop) (XC : String → State → State → Prop) (mc ms : Nat) (free : Addr → Prop) : Prop :=
  MetFree l y (headSpec ws rm) Pc (fun _ _ _ _ _ => True) (vx_Q Qc XC mc ms free)
def vx_Post (XC : String → State → State → Prop) (mc ms : Nat) (free : Addr → Prop) : Pt → Array Value → Addr → Pt → Prop := fun A a q B =>
  ∃ (g : JFrame) (mk : MethodId) (t : State) (L : List Loc) (E : String) (ce : Cell), B.U.heap = t.heap ∧ B.U.vm = t.vm ∧ XC E (A.U.calling g mk a) t ∧ t.heap[q]? = some ce ∧ ce.vm = .none ∧ A.U.vm.findClass E = some ce.cls ∧ B.locs = A.locs ++ L ∧ (∀ z ∈ L, free z.base) ∧ B.cells = A.cells + mc ∧ B.slots = A.slots + ms
def vx_Back (l : Launch) (R : Room) (p : Program) (e : Env) (below : List Frame) (s : State) (sargs : Array Value) (y : MethodName) (len W9 : Nat)
    (Pre : Pt → Array Value → Prop) (Post : Pt → Array Value → Option Value → Pt → Prop) (PostX : Pt → Array Value → Addr → Pt → Prop) : Prop :=
  ∀ (m : MethodId) (meth : Method) (c : Code) (A : Pt) (g : JFrame) (ig : Instr) (mk : MethodId) (a : Array Value),
    Stand p l e R s m sargs below meth c A.U A.locs A.cells A.slots → g.method = m → g.locals.size = c.maxLocals → decode c.code g.pc = .ok (ig, len) →
    2 * g.monitorRoom + (g.stack.map fun v => v.category).sum ≤ W9 → A.U.methodNamed? y = some mk → Pre A a →
    (∃ (v : Option Value) (B : Pt), Stand p l e R s m sargs below meth c B.U B.locs B.cells B.slots ∧ Post A a v B ∧
      Steps p.tables e below (doInvoke e (A.U.setTop g) [] mk a).1 (B.U.setTop { g with pc := g.pc + len, stack := v.toList ++ g.stack })) ∨
    (∃ (q : Addr) (B : Pt), Stand p l e R s m sargs below meth c B.U B.locs B.cells B.slots ∧ PostX A a q B ∧
      Steps p.tables e below (doInvoke e (A.U.setTop g) [] mk a).1 ((B.U.setTop g).pushFrame (.throwing q)))
section Payer
variable {l : Launch} {R : Room} {p : Program} {e : Env} {below : List Frame} {s : State} {sargs : Array Value} {y : MethodName} {len W9 : Nat}
theorem vx_back {ws : List Cond} {rm : Room} {Pc : Array Value → State → Prop} {Qc : Array Value → State → Outcome → State → Prop} {XC : String → State → State → Prop} {mc ms : Nat} {free : Addr → Prop} {bytes : ByteArray} {maxL : Nat} {ret : Option FieldType}
    (hM : vx_Met l y ws rm Pc Qc XC mc ms free) (hblind : FrameBlind Pc) (hrc : rm.cells = mc) (hrs : rm.slots = ms)
    (hframes : rm.frames + 1 ≤ R.frames) (hlocals : W9 + (maxL + 11) + rm.locals ≤ R.locals)
    (hws : ∀ w ∈ ws, ∀ a' U, s.WarmedH U.vm → w.before a' U = true) (hcode : Cond.code y bytes maxL ret ∈ ws) (hinit : ∀ a' U, s.WarmedH U.vm → (Cond.initialized y.cls).before a' U = true) :
    vx_Back l R p e below s sargs y len W9 (PreOf R mc ms Pc) (PostOf Qc mc ms free) (vx_Post XC mc ms free) := by
  intro m meth c A g ig mk a X hg hsize hdg hW hn hp
  have h1 : (headSpec ws rm).pre.before a A.U = true := atoms_intro fun w hw => hws w hw _ _ X.warmed
  have h2 : (Cond.code y bytes maxL ret).before a A.U = true := hws _ hcode _ _ X.warmed
  have h3 : (Cond.initialized y.cls).before a A.U = true := hinit _ _ X.warmed
  have h4 : A.cells + (headSpec ws rm).room.cells ≤ R.cells := by rw [show (headSpec ws rm).room.cells = mc from hrc]; exact hp.1
  have h5 : A.slots + (headSpec ws rm).room.slots ≤ R.slots := by rw [show (headSpec ws rm).room.slots = ms from hrs]; exact hp.2.1
  have hPc : Pc a (A.U.calling g mk a) := hblind _ _ _ _ hp.2.2
  obtain ⟨U, Ls, c0, s0⟩ := A
  dsimp only [Pt.U, Pt.locs, Pt.cells, Pt.slots] at h1 h2 h3 h4 h5 X hn hPc ⊢
  obtain ⟨methY, cY, hmY, hcY, -, hlY, -, -, -, -⟩ := Cond.code_spec hn h2
  obtain ⟨kY, hkY, -⟩ := className_of_methodNamed hn
  have hinitY : kY.init = .initialized := Cond.initialized_spec (findClass_of_methodNamed hn) hkY h3
  have h : At U g.method c below := by rw [hg]; exact X.here
  have hlocals9 : W9 + (maxL + 11) + (headSpec ws rm).room.locals ≤ R.locals := hlocals
  have happ : (headSpec ws rm).appliesLoose y e.platform (U.calling g mk a) = true :=
    Spec.appliesLoose_calling (g := g) h hdg hn hkY hinitY
      (X.room_calling (g := g) (R' := (headSpec ws rm).room) hsize hmY hcY hframes (by rw [hlY]; omega) h4 h5) h1
  obtain ⟨mid, hmid⟩ := h.above
  have hfr : (U.setTop g).frames = (.java g :: mid) ++ below := by rw [State.frames_setTop' g h.top, hmid]; rfl
  obtain ⟨o, s₂, hsteps, -, hend, hq⟩ := Steps.callFree hM p X.admits X.cas X.clock (acts := []) hfr happ hPc trivial
  have hq' : vx_Q Qc XC mc ms free a (U.calling g mk a) o s₂ := hq
  rw [State.frames_setTop' g h.top] at hend
  obtain ⟨g₀, hg0⟩ := Option.isSome_iff_exists.mp h.top
  obtain ⟨r, hr⟩ := State.topJava?_eq_some.mp hg0
  have hr' : (({ U with heap := s₂.heap, slotsUsed := s₂.slotsUsed } : State).setVm s₂.vm).frames = .java g₀ :: r := hr
  rcases hq' with ⟨hqc, L, hfe, hL⟩ | ⟨q, rfl, E, ce, L, hx, hce, hcv, hcl, hW₂, hsm, hL⟩
  · obtain ⟨⟨v, rfl⟩, hW₂, e2, q2, q3, q4, q5, q6⟩ := id hfe
    have e3 : s₂ = ({ (U.calling g mk a).setFrames s₂.frames with heap := s₂.heap, slotsUsed := s₂.slotsUsed } : State).setVm s₂.vm := by
      have : s₂ = ({ s₂ with vm := (U.calling g mk a).vm } : State).setVm s₂.vm := rfl
      rw [e2] at this
      exact this
    obtain ⟨c₂, i₂, len₂, hc₂, hd₂, hf₂⟩ := hend
    have hW' : U.WarmedH s₂.vm := hW₂
    have hcc : c₂ = c := by
      have h1 : s₂.code? g.method = U.code? g.method := by
        rw [State.code?_eq, State.code?_eq, hW'.alike.method?]
      exact Option.some.inj (hc₂.symm.trans (h1.trans h.code))
    subst hcc
    have hlen : len₂ = len := by rw [hdg] at hd₂; cases hd₂; rfl
    subst hlen
    have hs₂ : s₂ = (({ U with heap := s₂.heap, slotsUsed := s₂.slotsUsed } : State).setVm s₂.vm).setTop { g with pc := g.pc + len₂, stack := v.toList ++ g.stack } := by
      refine e3.trans ?_
      rw [hf₂, State.calling_eq h.top, State.setFrames_setFrames, State.setTop_of_frames _ hr', hr]
      rfl
    have hsame : U.sameButNew ({ U with heap := s₂.heap, slotsUsed := s₂.slotsUsed } : State) L mc ms := by
      refine ⟨?_, q2, q3, q4, q5, q6⟩
      obtain ⟨t, ht, -⟩ := State.frames_cons hr
      show ({ U with heap := s₂.heap, slotsUsed := s₂.slotsUsed } : State) = { U.setFrames U.frames with heap := s₂.heap, slotsUsed := s₂.slotsUsed }
      rw [State.setFrames_self ht]
    subst hg
    refine Or.inl ⟨v, ⟨(({ U with heap := s₂.heap, slotsUsed := s₂.slotsUsed } : State).setVm s₂.vm), Ls ++ L, c0 + mc, s0 + ms⟩,
      ⟨X.admits, X.cas, X.clock, X.frames, X.room, X.hears, X.method, X.code, (X.here.setHeapUsed s₂.heap s₂.slotsUsed).setVm hW'.alike, X.tail, State.WarmedH.trans X.warmed hW', X.limits, X.bytes, X.same.trans (hsame.setVm s.vm)⟩,
      ⟨g, mk, s₂, L, rfl, rfl, hqc, rfl, hL, rfl, rfl⟩, ?_⟩
    show Steps p.tables e below _ ((({ U with heap := s₂.heap, slotsUsed := s₂.slotsUsed } : State).setVm s₂.vm).setTop { g with pc := g.pc + len₂, stack := v.toList ++ g.stack })
    rw [← hs₂]
    exact hsteps
  · obtain ⟨e2, q2, q3, q4, q5, q6⟩ := id hsm
    have e3 : s₂ = ({ (U.calling g mk a).setFrames s₂.frames with heap := s₂.heap, slotsUsed := s₂.slotsUsed } : State).setVm s₂.vm := by
      have : s₂ = ({ s₂ with vm := (U.calling g mk a).vm } : State).setVm s₂.vm := rfl
      rw [e2] at this
      exact this
    have hf₂ : s₂.frames = .throwing q :: .java g :: U.frames.tail := hend
    have hW' : U.WarmedH s₂.vm := hW₂
    have hs₂ : s₂ = ((({ U with heap := s₂.heap, slotsUsed := s₂.slotsUsed } : State).setVm s₂.vm).setTop g).pushFrame (.throwing q) := by
      refine e3.trans ?_
      rw [hf₂, State.calling_eq h.top, State.setFrames_setFrames, State.pushFrame, State.frames_setTop _ hr', State.setTop_of_frames _ hr', State.setFrames_setFrames, hr]
      rfl
    have hsame : U.sameButNew ({ U with heap := s₂.heap, slotsUsed := s₂.slotsUsed } : State) L mc ms := by
      refine ⟨?_, q2, q3, q4, q5, q6⟩
      obtain ⟨t, ht, -⟩ := State.frames_cons hr
      show ({ U with heap := s₂.heap, slotsUsed := s₂.slotsUsed } : State) = { U.setFrames U.frames with heap := s₂.heap, slotsUsed := s₂.slotsUsed }
      rw [State.setFrames_self ht]
    subst hg
    refine Or.inr ⟨q, ⟨(({ U with heap := s₂.heap, slotsUsed := s₂.slotsUsed } : State).setVm s₂.vm), Ls ++ L, c0 + mc, s0 + ms⟩,
      ⟨X.admits, X.cas, X.clock, X.frames, X.room, X.hears, X.method, X.code, (X.here.setHeapUsed s₂.heap s₂.slotsUsed).setVm hW'.alike, X.tail, State.WarmedH.trans X.warmed hW', X.limits, X.bytes, X.same.trans (hsame.setVm s.vm)⟩,
      ⟨g, mk, s₂, L, E, ce, rfl, rfl, hx, hce, hcv, hcl, rfl, hL, rfl, rfl⟩, ?_⟩
    show Steps p.tables e below _ (((({ U with heap := s₂.heap, slotsUsed := s₂.slotsUsed } : State).setVm s₂.vm).setTop g).pushFrame (.throwing q))
    rw [← hs₂]
    exact hsteps
end Payer
section Calls
variable {p : Program} {l : Launch} {e : Env} {R : Room} {s : State} {m : MethodId} {args : Array Value} {below : List Frame} {meth : Method} {c : Code} {T : State} {locs : List Loc} {cells slots : Nat}
theorem vx_callV (X : Stand p l e R s m args below meth c T locs cells slots) (hexec : p.tables.exec = Jvm.exec) {own C : String} {index : Nat} {y : MethodName} {bytes : ByteArray} {maxL : Nat} {ret : Option FieldType}
    (hown : s.vm.findClass own = some m.cls) (hlink : (Cond.methodLink own index y).before args s = true) (hinst : (Cond.instanceMethod y).before args s = true) (hsel : (Cond.selects C y y).before args s = true)
    (hcode : (Cond.code y bytes maxL ret).before args s = true) (hy : y.cls ≠ "java/lang/invoke/MethodHandle" ∧ y.cls ≠ "java/lang/invoke/VarHandle")
    {W9 : Nat} {Pre : Pt → Array Value → Prop} {Post : Pt → Array Value → Option Value → Pt → Prop} {PostX : Pt → Array Value → Addr → Pt → Prop} (hK : vx_Back l R p e below s args y 3 W9 Pre Post PostX)
    {b : Addr} {cellB : Cell} (hcell : T.heap[b]? = some cellB) (hobj : cellB.vm.isStatics = false) (hcls : s.vm.findClass C = some cellB.cls)
    {g : JFrame} (hg : g.method = m) (hsize : g.locals.size = c.maxLocals) {argsL rest : List Value} (hlen : ∀ sig, parseMethodDescriptor y.desc = some sig → argsL.length = sig.parameters.length)
    (hstack : g.stack = argsL.reverse ++ .ref b :: rest) (hW : 2 * g.monitorRoom + (rest.map fun v => v.category).sum ≤ W9) (hdg : decode c.code g.pc = .ok (.invokevirtual index, 3))
    (hpre : ∀ vm₁, s.WarmedH vm₁ → Pre ⟨T.setVm vm₁, locs, cells, slots⟩ (Value.ref b :: argsL).toArray) :
    (∃ (v : Option Value) (vm₁ : Vm) (B : Pt), s.WarmedH vm₁ ∧ Stand p l e R s m args below meth c B.U B.locs B.cells B.slots ∧ Post ⟨T.setVm vm₁, locs, cells, slots⟩ (Value.ref b :: argsL).toArray v B ∧
      ∀ target, Steps p.tables e below (B.U.setTop { g with pc := g.pc + 3, stack := v.toList ++ rest }) target → Steps p.tables e below (T.setTop g) target) ∨
    (∃ (q : Addr) (vm₁ : Vm) (B : Pt), s.WarmedH vm₁ ∧ Stand p l e R s m args below meth c B.U B.locs B.cells B.slots ∧ PostX ⟨T.setVm vm₁, locs, cells, slots⟩ (Value.ref b :: argsL).toArray q B ∧
      Steps p.tables e below (T.setTop g) ((B.U.setTop { g with stack := rest }).pushFrame (.throwing q))) := by
  obtain ⟨mk, methM, hnamed, hmethM, hstM, habM⟩ := Cond.instanceMethod_spec hinst
  obtain ⟨methM', cM, hmethM', -, -, -, -, -, -, hsigM⟩ := Cond.code_spec hnamed hcode
  cases hmethM.symm.trans hmethM'
  obtain ⟨c2, r2, m2, q1, q2, q3, q4, kP, hkP, hkPi⟩ := Cond.selects_spec hsel
  cases hcls.symm.trans q1
  cases (State.methodFound?_of_named hnamed hy).symm.trans q2
  cases hnamed.symm.trans q3
  have hselP : selectMethod e.platform s.vm cellB.cls mk = .method mk := by rw [Launch.admits_selectMethod X.admits]; exact q4
  obtain ⟨vm₁, X₁, hstep₁⟩ := X.invokevirtual hexec hown hlink hnamed hmethM hstM hkP hkPi hy (a := b) (cell := cellB) hcell
    (fun z h => by rw [h] at hobj; cases hobj) hselP hmethM habM hkP hkPi (g := g) hg (argsL := argsL) (rest := rest) (hlen _ hsigM) hstack hdg
  rcases hK m meth c ⟨T.setVm vm₁, locs, cells, slots⟩ { g with stack := rest } (.invokevirtual index) mk (Value.ref b :: argsL).toArray X₁ hg hsize hdg hW (X₁.named hnamed) (hpre vm₁ X₁.warmed) with ⟨v, B, X', hpost, hsteps⟩ | ⟨q, B, X', hpost, hsteps⟩
  · exact Or.inl ⟨v, vm₁, B, X₁.warmed, X', hpost, fun target h => hstep₁ _ fun acts => by rw [doInvoke_state]; exact hsteps.trans h⟩
  · exact Or.inr ⟨q, vm₁, B, X₁.warmed, X', hpost, hstep₁ _ fun acts => by rw [doInvoke_state]; exact hsteps⟩
theorem vx_callS (X : Stand p l e R s m args below meth c T locs cells slots) (hexec : p.tables.exec = Jvm.exec) {own : String} {index : Nat} {y : MethodName} {bytes : ByteArray} {maxL : Nat} {ret : Option FieldType}
    (hown : s.vm.findClass own = some m.cls) (hlink : (Cond.methodLink own index y).before args s = true) (hstat : (Cond.static y).before args s = true) (hinit : (Cond.initialized y.cls).before args s = true)
    (hcode : (Cond.code y bytes maxL ret).before args s = true) (hy : y.cls ≠ "java/lang/invoke/MethodHandle" ∧ y.cls ≠ "java/lang/invoke/VarHandle")
    {W9 : Nat} {Pre : Pt → Array Value → Prop} {Post : Pt → Array Value → Option Value → Pt → Prop} {PostX : Pt → Array Value → Addr → Pt → Prop} (hK : vx_Back l R p e below s args y 3 W9 Pre Post PostX)
    {g : JFrame} (hg : g.method = m) (hsize : g.locals.size = c.maxLocals) {argsL rest : List Value} (hlen : ∀ sig, parseMethodDescriptor y.desc = some sig → argsL.length = sig.parameters.length)
    (hstack : g.stack = argsL.reverse ++ rest) (hW : 2 * g.monitorRoom + (rest.map fun v => v.category).sum ≤ W9) (hdg : decode c.code g.pc = .ok (.invokestatic index, 3))
    (hpre : ∀ vm₁, s.WarmedH vm₁ → Pre ⟨T.setVm vm₁, locs, cells, slots⟩ argsL.toArray) :
    (∃ (v : Option Value) (vm₁ : Vm) (B : Pt), s.WarmedH vm₁ ∧ Stand p l e R s m args below meth c B.U B.locs B.cells B.slots ∧ Post ⟨T.setVm vm₁, locs, cells, slots⟩ argsL.toArray v B ∧
      ∀ target, Steps p.tables e below (B.U.setTop { g with pc := g.pc + 3, stack := v.toList ++ rest }) target → Steps p.tables e below (T.setTop g) target) ∨
    (∃ (q : Addr) (vm₁ : Vm) (B : Pt), s.WarmedH vm₁ ∧ Stand p l e R s m args below meth c B.U B.locs B.cells B.slots ∧ PostX ⟨T.setVm vm₁, locs, cells, slots⟩ argsL.toArray q B ∧
      Steps p.tables e below (T.setTop g) ((B.U.setTop { g with stack := rest }).pushFrame (.throwing q))) := by
  obtain ⟨mk, hnamed⟩ := Cond.code_named hcode
  obtain ⟨methM, cM, hmethM, -, -, -, -, -, -, hsigM⟩ := Cond.code_spec hnamed hcode
  have hstatic : methM.isStatic = true := Cond.static_spec hnamed hmethM hstat
  obtain ⟨kP, hkP, -⟩ := className_of_methodNamed hnamed
  have hinitP : kP.init = .initialized := Cond.initialized_spec (findClass_of_methodNamed hnamed) hkP hinit
  obtain ⟨vm₁, X₁, hstep₁⟩ := X.invokestatic hexec hown hlink hnamed hmethM hstatic hkP hinitP hy (g := g) hg (argsL := argsL) (rest := rest) (hlen _ hsigM) hstack hdg
  rcases hK m meth c ⟨T.setVm vm₁, locs, cells, slots⟩ { g with stack := rest } (.invokestatic index) mk argsL.toArray X₁ hg hsize hdg hW (X₁.named hnamed) (hpre vm₁ X₁.warmed) with ⟨v, B, X', hpost, hsteps⟩ | ⟨q, B, X', hpost, hsteps⟩
  · exact Or.inl ⟨v, vm₁, B, X₁.warmed, X', hpost, fun target h => hstep₁ _ fun acts => by rw [doInvoke_state]; exact hsteps.trans h⟩
  · exact Or.inr ⟨q, vm₁, B, X₁.warmed, X', hpost, hstep₁ _ fun acts => by rw [doInvoke_state]; exact hsteps⟩
end Calls
theorem vx_cls {s : State} {T : State} {vm₁ : Vm} {E : String} {k : ClassId} (hW : s.WarmedH vm₁) (h : (T.setVm vm₁).vm.findClass E = some k) : s.vm.findClass E = some k := by
  have h1 : vm₁.findClass E = some k := h
  rw [hW.alike.findClass] at h1
  exact h1
/-- the method's frame g, with q thrown over it -/
def vx_W (p : Program) (l : Launch) (e : Env) (R : Room) (s : State) (m : MethodId) (args : Array Value) (below : List Frame) (meth : Method) (c : Code) (H : Heap) (locs : List Loc) (cells slots : Nat) (Q : State → Prop) (g : JFrame) (q : Addr) : Prop :=
  ∀ T : State, T.heap = H → Stand p l e R s m args below meth c T locs cells slots → ∃ t, Steps p.tables e below ((T.setTop g).pushFrame (.throwing q)) t ∧ Q t
def vx_Run (p : Program) (l : Launch) (e : Env) (R : Room) (s : State) (m : MethodId) (args : Array Value) (below : List Frame) (meth : Method) (c : Code) (H : Heap) (locs : List Loc) (cells slots mc ms : Nat) (g : JFrame) (rest : List Value) (Qa : State → Outcome → State → Prop) (XC : String → State → State → Prop) (free : Addr → Prop) : Prop :=
  ∀ T : State, T.heap = H → Stand p l e R s m args below meth c T locs cells slots →
    (∃ (v : Option Value) (st₀ t T' : State) (L : List Loc), st₀.heap = H ∧ Stand p l e R s m args below meth c T' (locs ++ L) (cells + mc) (slots + ms) ∧ (∀ q ∈ L, free q.base) ∧ T'.heap = t.heap ∧ T'.vm = t.vm ∧ Qa st₀ (.returned v) t ∧
      Goes p e below T g T' { g with pc := g.pc + 3, stack := v.toList ++ rest }) ∨
    (∃ (q : Addr) (st₀ t T' : State) (L : List Loc) (E : String) (ce : Cell), st₀.heap = H ∧ Stand p l e R s m args below meth c T' (locs ++ L) (cells + mc) (slots + ms) ∧ (∀ z ∈ L, free z.base) ∧ T'.heap = t.heap ∧ T'.vm = t.vm ∧ XC E st₀ t ∧ t.heap[q]? = some ce ∧ ce.vm = .none ∧ s.vm.findClass E = some ce.cls ∧
      Steps p.tables e below (T.setTop g) ((T'.setTop { g with stack := rest }).pushFrame (.throwing q)))
def vx_X {S : Type} (px : S → Prop) (B : String → S → State → Prop) (A : Nat → Prop) : String → State → State → Prop := fun E st t => ∃ u : S, px u ∧ B E u t ∧ va_F A st t
section Runs
variable {p : Program} {l : Launch} {e : Env} {R : Room} {s : State} {m : MethodId} {args : Array Value} {below : List Frame} {meth : Method} {c : Code} {H : Heap} {locs : List Loc} {cells slots : Nat}
variable {y : MethodName} {bytes cc : ByteArray} {maxL nL mc ms n index : Nat} {ret : Option FieldType} {ws : List Cond} {rm : Room} {Pc : Array Value → State → Prop} {Qc : Array Value → State → Outcome → State → Prop} {XC : String → State → State → Prop} {free : Addr → Prop} {Ts : List Cond} {own C : String} {b : Addr} {As rest : List Value} {g : JFrame}
theorem vx_callBack (cb : CallB R s args own index y bytes maxL ret ws rm mc ms n) (hM : vx_Met l y ws rm Pc Qc XC mc ms free) (hbl : FrameBlind Pc) : vx_Back l R p e below s args y 3 8 (PreOf R mc ms Pc) (PostOf Qc mc ms free) (vx_Post XC mc ms free) := by
  obtain ⟨hrc, hrs, hfr, hlo, hws, hcw, -, hini, -⟩ := cb
  exact vx_back (bytes := bytes) (maxL := maxL) (ret := ret) hM hbl hrc hrs hfr hlo hws hcw (fun a' U hW => word_at hW (Or.inl (by first | rfl | simp [Cond.onTables, Cond.keeps, Cond.steady])) hini)
theorem vx_runV (S : CallFix p m c cc nL s args Ts own) (hM : vx_Met l y ws rm Pc Qc XC mc ms free) (cw : CallW R s args own C index y bytes maxL ret ws rm mc ms n) (hp : PreV s H C b Pc As)
    (hg : g.method = m) (hn : As.length = n) (hsize : g.locals.size = nL) (hstack : g.stack = As.reverse ++ .ref b :: rest) (hW : 2 * g.monitorRoom + (rest.map fun v => v.category).sum ≤ 8) (hdg : decode cc g.pc = .ok (.invokevirtual index, 3)) (hf : cells + mc ≤ R.cells ∧ slots + ms ≤ R.slots) :
    vx_Run p l e R s m args below meth c H locs cells slots mc ms g rest (Qc (Value.ref b :: As).toArray) XC free := by
  have hK : vx_Back l R p e below s args y 3 8 (PreOf R mc ms Pc) (PostOf Qc mc ms free) (vx_Post XC mc ms free) := vx_callBack cw.1 hM hp.1
  obtain ⟨⟨-, -, -, -, -, -, hcode, -, hy, hlen, hl⟩, hin, hse⟩ := cw
  obtain ⟨hx, hb, hml, ho, -⟩ := S
  obtain ⟨-, ⟨cellB, hcB, hoB, hclB⟩, hPc⟩ := hp
  intro T hT X
  rcases vx_callV X hx (C := C) (bytes := bytes) (maxL := maxL) (ret := ret) ho hl hin hse hcode hy hK (by rw [hT]; exact hcB) hoB hclB hg (hsize.trans hml.symm) (argsL := As) (rest := rest) (fun sig h => hn.trans (hlen sig h)) hstack hW (by rw [hb]; exact hdg)
    (fun vm₁ hW₁ => ⟨hf.1, hf.2, hPc (T.setVm vm₁) hT hW₁⟩) with ⟨v, vm₁, ⟨U', l2, c2, s2⟩, hW₁, X', ⟨g', mk, t, L, e1, e2, hq, h1, hL, h2, h3⟩, st⟩ | ⟨q, vm₁, ⟨U', l2, c2, s2⟩, hW₁, X', ⟨g', mk, t, L, E, ce, e1, e2, hq, hce, hcv, hcl, h1, hL, h2, h3⟩, st⟩
  · dsimp only [Pt.U, Pt.locs, Pt.cells, Pt.slots] at X' e1 e2 h1 h2 h3 st
    subst h1; subst h2; subst h3
    exact Or.inl ⟨v, (T.setVm vm₁).calling g' mk (Value.ref b :: As).toArray, t, U', L, hT, X', hL, e1, e2, hq, st⟩
  · dsimp only [Pt.U, Pt.locs, Pt.cells, Pt.slots] at X' e1 e2 h1 h2 h3 st hcl
    subst h1; subst h2; subst h3
    exact Or.inr ⟨q, (T.setVm vm₁).calling g' mk (Value.ref b :: As).toArray, t, U', L, E, ce, hT, X', hL, e1, e2, hq, hce, hcv, vx_cls hW₁ hcl, st⟩
theorem vx_runS (S : CallFix p m c cc nL s args Ts own) (hM : vx_Met l y ws rm Pc Qc XC mc ms free) (cw : CallB R s args own index y bytes maxL ret ws rm mc ms n ∧ (Cond.static y).before args s = true) (hp : PreS s H Pc As)
    (hg : g.method = m) (hn : As.length = n) (hsize : g.locals.size = nL) (hstack : g.stack = As.reverse ++ rest) (hW : 2 * g.monitorRoom + (rest.map fun v => v.category).sum ≤ 8) (hdg : decode cc g.pc = .ok (.invokestatic index, 3)) (hf : cells + mc ≤ R.cells ∧ slots + ms ≤ R.slots) :
    vx_Run p l e R s m args below meth c H locs cells slots mc ms g rest (Qc As.toArray) XC free := by
  have hK : vx_Back l R p e below s args y 3 8 (PreOf R mc ms Pc) (PostOf Qc mc ms free) (vx_Post XC mc ms free) := vx_callBack cw.1 hM hp.1
  obtain ⟨⟨-, -, -, -, -, -, hcode, hini, hy, hlen, hl⟩, hstt⟩ := cw
  obtain ⟨hx, hb, hml, ho, -⟩ := S
  intro T hT X
  rcases vx_callS X hx (bytes := bytes) (maxL := maxL) (ret := ret) ho hl hstt hini hcode hy hK hg (hsize.trans hml.symm) (argsL := As) (rest := rest) (fun sig h => hn.trans (hlen sig h)) hstack hW (by rw [hb]; exact hdg)
    (fun vm₁ hW₁ => ⟨hf.1, hf.2, hp.2 (T.setVm vm₁) hT hW₁⟩) with ⟨v, vm₁, ⟨U', l2, c2, s2⟩, hW₁, X', ⟨g', mk, t, L, e1, e2, hq, h1, hL, h2, h3⟩, st⟩ | ⟨q, vm₁, ⟨U', l2, c2, s2⟩, hW₁, X', ⟨g', mk, t, L, E, ce, e1, e2, hq, hce, hcv, hcl, h1, hL, h2, h3⟩, st⟩
  · dsimp only [Pt.U, Pt.locs, Pt.cells, Pt.slots] at X' e1 e2 h1 h2 h3 st
    subst h1; subst h2; subst h3
    exact Or.inl ⟨v, (T.setVm vm₁).calling g' mk As.toArray, t, U', L, hT, X', hL, e1, e2, hq, st⟩
  · dsimp only [Pt.U, Pt.locs, Pt.cells, Pt.slots] at X' e1 e2 h1 h2 h3 st hcl
    subst h1; subst h2; subst h3
    exact Or.inr ⟨q, (T.setVm vm₁).calling g' mk As.toArray, t, U', L, E, ce, hT, X', hL, e1, e2, hq, hce, hcv, vx_cls hW₁ hcl, st⟩
end Runs
section Rows
variable {p : Program} {l : Launch} {e : Env} {R : Room} {s : State} {m : MethodId} {args : Array Value} {below : List Frame} {meth : Method} {c : Code} {H : Heap} {locs : List Loc} {cells slots : Nat} {Q : State → Prop}
variable {mc ms : Nat} {free : Addr → Prop} {A0 A1 : Nat → Prop} {H0 : Heap} {a : Array Value} {pc : Nat} {ls : Array Slot} {st0 rest : List Value}
theorem vx_keep {st₀ t T' : State} {L : List Loc} (h0 : st₀.heap = H) (e1 : T'.heap = t.heap) (hS : va_S A0 H0 H locs) (hA : ∀ q, q < H.size → A1 q → A0 q) (hf : ∀ q, free q → A0 q) (hL : ∀ q ∈ L, free q.base) (hF : va_F A1 st₀ t) :
    H.size ≤ T'.heap.size ∧ (∀ q : Nat, q < H.size → ¬ A1 q → T'.heap[q]? = H[q]?) ∧ va_S A0 H0 T'.heap (locs ++ L) := by
  obtain ⟨hz, hk⟩ := hF
  rw [h0] at hz hk
  exact ⟨by rw [e1]; exact hz, fun q h1 h2 => by rw [e1]; exact hk q h1 h2,
    ⟨Nat.le_trans hS.1 (by rw [e1]; exact hz), fun q h1 h2 => by rw [e1, hk q (Nat.lt_of_lt_of_le h1 hS.1) (fun z => h2 (hA q (Nat.lt_of_lt_of_le h1 hS.1) z))]; exact hS.2.1 q h1 h2, fun q hq => by
      rcases List.mem_append.mp hq with h | h
      · exact hS.2.2 q h
      · exact hf _ (hL q h)⟩⟩
theorem vx_calli {S SX : Type} {post : Int32 → S → Prop} {px : SX → Prop} {B : S → State → Prop} {BX : String → SX → State → Prop} {AX : Nat → Prop} (hr : vx_Run p l e R s m args below meth c H locs cells slots mc ms (F0 m pc ls st0) rest (va_Qi post B A1 a) (vx_X px BX AX) free) (hS : va_S A0 H0 H locs) (hA : ∀ q, q < H.size → A1 q → A0 q) (hf : ∀ q, free q → A0 q) (hAX : ∀ q, q < H.size → AX q → A0 q)
    (kx : ∀ (E : String) (ce : Cell) (q9 : Addr) (u : SX) (t : State) (H1 : Heap) (locs1 : List Loc), t.heap = H1 → s.vm.Alike t.vm → px u → BX E u t → H.size ≤ H1.size → (∀ q : Nat, q < H.size → ¬ AX q → H1[q]? = H[q]?) → va_S A0 H0 H1 locs1 → H1[q9]? = some ce → ce.vm = .none → s.vm.findClass E = some ce.cls → vx_W p l e R s m args below meth c H1 locs1 (cells + mc) (slots + ms) Q (F0 m pc ls rest) q9)
    (kk : ∀ (r : Int32) (u : S) (t : State) (H1 : Heap) (locs1 : List Loc), t.heap = H1 → s.vm.Alike t.vm → post r u → B u t → H.size ≤ H1.size → (∀ q : Nat, q < H.size → ¬ A1 q → H1[q]? = H[q]?) → va_S A0 H0 H1 locs1 → W p l e R s m args below meth c H1 locs1 (cells + mc) (slots + ms) Q (F0 m (pc + 3) ls (.int r :: rest))) : W p l e R s m args below meth c H locs cells slots Q (F0 m pc ls st0) := by
  intro T hT X
  rcases hr T hT X with ⟨v, st₀, t, T', L, h0, X', hL, e1, e2, ⟨⟨r, u, hv, hp, hb⟩, hF⟩, st⟩ | ⟨q, st₀, t, T', L, E, ce, h0, X', hL, e1, e2, ⟨u, hp, hb, hF⟩, hce, hcv, hcl, st⟩
  · cases hv
    obtain ⟨k1, k2, k3⟩ := vx_keep h0 e1 hS hA hf hL hF
    obtain ⟨t2, a1, b1⟩ := kk r u t T'.heap (locs ++ L) e1.symm (by rw [← e2]; exact X'.warmed.alike) hp hb k1 k2 k3 T' rfl X'
    exact ⟨t2, st t2 a1, b1⟩
  · obtain ⟨k1, k2, k3⟩ := vx_keep h0 e1 hS hAX hf hL hF
    obtain ⟨t2, a1, b1⟩ := kx E ce q u t T'.heap (locs ++ L) e1.symm (by rw [← e2]; exact X'.warmed.alike) hp hb k1 k2 k3 (by rw [e1]; exact hce) hcv hcl T' rfl X'
    exact ⟨t2, st.trans a1, b1⟩
theorem vx_calll {S SX : Type} {post : Int64 → S → Prop} {px : SX → Prop} {B : S → State → Prop} {BX : String → SX → State → Prop} {AX : Nat → Prop} (hr : vx_Run p l e R s m args below meth c H locs cells slots mc ms (F0 m pc ls st0) rest (va_Ql post B A1 a) (vx_X px BX AX) free) (hS : va_S A0 H0 H locs) (hA : ∀ q, q < H.size → A1 q → A0 q) (hf : ∀ q, free q → A0 q) (hAX : ∀ q, q < H.size → AX q → A0 q)
    (kx : ∀ (E : String) (ce : Cell) (q9 : Addr) (u : SX) (t : State) (H1 : Heap) (locs1 : List Loc), t.heap = H1 → s.vm.Alike t.vm → px u → BX E u t → H.size ≤ H1.size → (∀ q : Nat, q < H.size → ¬ AX q → H1[q]? = H[q]?) → va_S A0 H0 H1 locs1 → H1[q9]? = some ce → ce.vm = .none → s.vm.findClass E = some ce.cls → vx_W p l e R s m args below meth c H1 locs1 (cells + mc) (slots + ms) Q (F0 m pc ls rest) q9)
    (kk : ∀ (r : Int64) (u : S) (t : State) (H1 : Heap) (locs1 : List Loc), t.heap = H1 → s.vm.Alike t.vm → post r u → B u t → H.size ≤ H1.size → (∀ q : Nat, q < H.size → ¬ A1 q → H1[q]? = H[q]?) → va_S A0 H0 H1 locs1 → W p l e R s m args below meth c H1 locs1 (cells + mc) (slots + ms) Q (F0 m (pc + 3) ls (.long r :: rest))) : W p l e R s m args below meth c H locs cells slots Q (F0 m pc ls st0) := by
  intro T hT X
  rcases hr T hT X with ⟨v, st₀, t, T', L, h0, X', hL, e1, e2, ⟨⟨r, u, hv, hp, hb⟩, hF⟩, st⟩ | ⟨q, st₀, t, T', L, E, ce, h0, X', hL, e1, e2, ⟨u, hp, hb, hF⟩, hce, hcv, hcl, st⟩
  · cases hv
    obtain ⟨k1, k2, k3⟩ := vx_keep h0 e1 hS hA hf hL hF
    obtain ⟨t2, a1, b1⟩ := kk r u t T'.heap (locs ++ L) e1.symm (by rw [← e2]; exact X'.warmed.alike) hp hb k1 k2 k3 T' rfl X'
    exact ⟨t2, st t2 a1, b1⟩
  · obtain ⟨k1, k2, k3⟩ := vx_keep h0 e1 hS hAX hf hL hF
    obtain ⟨t2, a1, b1⟩ := kx E ce q u t T'.heap (locs ++ L) e1.symm (by rw [← e2]; exact X'.warmed.alike) hp hb k1 k2 k3 (by rw [e1]; exact hce) hcv hcl T' rfl X'
    exact ⟨t2, st.trans a1, b1⟩
theorem vx_callf {S SX : Type} {post : UInt32 → S → Prop} {px : SX → Prop} {B : S → State → Prop} {BX : String → SX → State → Prop} {AX : Nat → Prop} (hr : vx_Run p l e R s m args below meth c H locs cells slots mc ms (F0 m pc ls st0) rest (va_Qf post B A1 a) (vx_X px BX AX) free) (hS : va_S A0 H0 H locs) (hA : ∀ q, q < H.size → A1 q → A0 q) (hf : ∀ q, free q → A0 q) (hAX : ∀ q, q < H.size → AX q → A0 q)
    (kx : ∀ (E : String) (ce : Cell) (q9 : Addr) (u : SX) (t : State) (H1 : Heap) (locs1 : List Loc), t.heap = H1 → s.vm.Alike t.vm → px u → BX E u t → H.size ≤ H1.size → (∀ q : Nat, q < H.size → ¬ AX q → H1[q]? = H[q]?) → va_S A0 H0 H1 locs1 → H1[q9]? = some ce → ce.vm = .none → s.vm.findClass E = some ce.cls → vx_W p l e R s m args below meth c H1 locs1 (cells + mc) (slots + ms) Q (F0 m pc ls rest) q9)
    (kk : ∀ (r : UInt32) (u : S) (t : State) (H1 : Heap) (locs1 : List Loc), t.heap = H1 → s.vm.Alike t.vm → post r u → B u t → H.size ≤ H1.size → (∀ q : Nat, q < H.size → ¬ A1 q → H1[q]? = H[q]?) → va_S A0 H0 H1 locs1 → W p l e R s m args below meth c H1 locs1 (cells + mc) (slots + ms) Q (F0 m (pc + 3) ls (.float r :: rest))) : W p l e R s m args below meth c H locs cells slots Q (F0 m pc ls st0) := by
  intro T hT X
  rcases hr T hT X with ⟨v, st₀, t, T', L, h0, X', hL, e1, e2, ⟨⟨r, u, hv, hp, hb⟩, hF⟩, st⟩ | ⟨q, st₀, t, T', L, E, ce, h0, X', hL, e1, e2, ⟨u, hp, hb, hF⟩, hce, hcv, hcl, st⟩
  · cases hv
    obtain ⟨k1, k2, k3⟩ := vx_keep h0 e1 hS hA hf hL hF
    obtain ⟨t2, a1, b1⟩ := kk r u t T'.heap (locs ++ L) e1.symm (by rw [← e2]; exact X'.warmed.alike) hp hb k1 k2 k3 T' rfl X'
    exact ⟨t2, st t2 a1, b1⟩
  · obtain ⟨k1, k2, k3⟩ := vx_keep h0 e1 hS hAX hf hL hF
    obtain ⟨t2, a1, b1⟩ := kx E ce q u t T'.heap (locs ++ L) e1.symm (by rw [← e2]; exact X'.warmed.alike) hp hb k1 k2 k3 (by rw [e1]; exact hce) hcv hcl T' rfl X'
    exact ⟨t2, st.trans a1, b1⟩
theorem vx_calld {S SX : Type} {post : UInt64 → S → Prop} {px : SX → Prop} {B : S → State → Prop} {BX : String → SX → State → Prop} {AX : Nat → Prop} (hr : vx_Run p l e R s m args below meth c H locs cells slots mc ms (F0 m pc ls st0) rest (va_Qd post B A1 a) (vx_X px BX AX) free) (hS : va_S A0 H0 H locs) (hA : ∀ q, q < H.size → A1 q → A0 q) (hf : ∀ q, free q → A0 q) (hAX : ∀ q, q < H.size → AX q → A0 q)
    (kx : ∀ (E : String) (ce : Cell) (q9 : Addr) (u : SX) (t : State) (H1 : Heap) (locs1 : List Loc), t.heap = H1 → s.vm.Alike t.vm → px u → BX E u t → H.size ≤ H1.size → (∀ q : Nat, q < H.size → ¬ AX q → H1[q]? = H[q]?) → va_S A0 H0 H1 locs1 → H1[q9]? = some ce → ce.vm = .none → s.vm.findClass E = some ce.cls → vx_W p l e R s m args below meth c H1 locs1 (cells + mc) (slots + ms) Q (F0 m pc ls rest) q9)
    (kk : ∀ (r : UInt64) (u : S) (t : State) (H1 : Heap) (locs1 : List Loc), t.heap = H1 → s.vm.Alike t.vm → post r u → B u t → H.size ≤ H1.size → (∀ q : Nat, q < H.size → ¬ A1 q → H1[q]? = H[q]?) → va_S A0 H0 H1 locs1 → W p l e R s m args below meth c H1 locs1 (cells + mc) (slots + ms) Q (F0 m (pc + 3) ls (.double r :: rest))) : W p l e R s m args below meth c H locs cells slots Q (F0 m pc ls st0) := by
  intro T hT X
  rcases hr T hT X with ⟨v, st₀, t, T', L, h0, X', hL, e1, e2, ⟨⟨r, u, hv, hp, hb⟩, hF⟩, st⟩ | ⟨q, st₀, t, T', L, E, ce, h0, X', hL, e1, e2, ⟨u, hp, hb, hF⟩, hce, hcv, hcl, st⟩
  · cases hv
    obtain ⟨k1, k2, k3⟩ := vx_keep h0 e1 hS hA hf hL hF
    obtain ⟨t2, a1, b1⟩ := kk r u t T'.heap (locs ++ L) e1.symm (by rw [← e2]; exact X'.warmed.alike) hp hb k1 k2 k3 T' rfl X'
    exact ⟨t2, st t2 a1, b1⟩
  · obtain ⟨k1, k2, k3⟩ := vx_keep h0 e1 hS hAX hf hL hF
    obtain ⟨t2, a1, b1⟩ := kx E ce q u t T'.heap (locs ++ L) e1.symm (by rw [← e2]; exact X'.warmed.alike) hp hb k1 k2 k3 (by rw [e1]; exact hce) hcv hcl T' rfl X'
    exact ⟨t2, st.trans a1, b1⟩
theorem vx_callv {S SX : Type} {post : S → Prop} {px : SX → Prop} {B : S → State → Prop} {BX : String → SX → State → Prop} {AX : Nat → Prop} (hr : vx_Run p l e R s m args below meth c H locs cells slots mc ms (F0 m pc ls st0) rest (va_Qv post B A1 a) (vx_X px BX AX) free) (hS : va_S A0 H0 H locs) (hA : ∀ q, q < H.size → A1 q → A0 q) (hf : ∀ q, free q → A0 q) (hAX : ∀ q, q < H.size → AX q → A0 q)
    (kx : ∀ (E : String) (ce : Cell) (q9 : Addr) (u : SX) (t : State) (H1 : Heap) (locs1 : List Loc), t.heap = H1 → s.vm.Alike t.vm → px u → BX E u t → H.size ≤ H1.size → (∀ q : Nat, q < H.size → ¬ AX q → H1[q]? = H[q]?) → va_S A0 H0 H1 locs1 → H1[q9]? = some ce → ce.vm = .none → s.vm.findClass E = some ce.cls → vx_W p l e R s m args below meth c H1 locs1 (cells + mc) (slots + ms) Q (F0 m pc ls rest) q9)
    (kk : ∀ (u : S) (t : State) (H1 : Heap) (locs1 : List Loc), t.heap = H1 → s.vm.Alike t.vm → post u → B u t → H.size ≤ H1.size → (∀ q : Nat, q < H.size → ¬ A1 q → H1[q]? = H[q]?) → va_S A0 H0 H1 locs1 → W p l e R s m args below meth c H1 locs1 (cells + mc) (slots + ms) Q (F0 m (pc + 3) ls (rest))) : W p l e R s m args below meth c H locs cells slots Q (F0 m pc ls st0) := by
  intro T hT X
  rcases hr T hT X with ⟨v, st₀, t, T', L, h0, X', hL, e1, e2, ⟨⟨u, hv, hp, hb⟩, hF⟩, st⟩ | ⟨q, st₀, t, T', L, E, ce, h0, X', hL, e1, e2, ⟨u, hp, hb, hF⟩, hce, hcv, hcl, st⟩
  · cases hv
    obtain ⟨k1, k2, k3⟩ := vx_keep h0 e1 hS hA hf hL hF
    obtain ⟨t2, a1, b1⟩ := kk u t T'.heap (locs ++ L) e1.symm (by rw [← e2]; exact X'.warmed.alike) hp hb k1 k2 k3 T' rfl X'
    exact ⟨t2, st t2 a1, b1⟩
  · obtain ⟨k1, k2, k3⟩ := vx_keep h0 e1 hS hAX hf hL hF
    obtain ⟨t2, a1, b1⟩ := kx E ce q u t T'.heap (locs ++ L) e1.symm (by rw [← e2]; exact X'.warmed.alike) hp hb k1 k2 k3 (by rw [e1]; exact hce) hcv hcl T' rfl X'
    exact ⟨t2, st.trans a1, b1⟩
/-- caught by the row x of this method's table; the rows ahead don't take it -/
theorem vx_catch {own name : String} {E : String} {ce : Cell} {q : Addr} (hown : s.vm.findClass own = some m.cls) (pre : List ExceptionTableEntry) (x : ExceptionTableEntry) (suf : List ExceptionTableEntry) (hsplit : c.exceptionTable.toList = pre ++ x :: suf)
    (hpass : ∀ z ∈ pre, covers z pc = false ∨ (z.catchType ≠ 0 ∧ ∃ nm : String, (Cond.classLink own z.catchType nm).before args s = true ∧ va_Nc E nm s)) (hx : covers x pc = true) (h0 : x.catchType ≠ 0)
    (hlink : (Cond.classLink own x.catchType name).before args s = true) (hcast : (Cond.castable E name).before args s = true) (hcell : H[q]? = some ce) (hv : ce.vm = .none) (hcl : s.vm.findClass E = some ce.cls)
    (kk : W p l e R s m args below meth c H locs cells slots Q (F0 m x.handlerPc ls [.ref q])) : vx_W p l e R s m args below meth c H locs cells slots Q (F0 m pc ls rest) q := by
  intro T hT X
  have hpl : e.platform.magicAccessors = ({} : Platform).magicAccessors := by rw [X.admits.platform]
  obtain ⟨c3, c4, hc3, hc4, hasg⟩ := Cond.castable_spec hcast
  cases Option.some.inj (hc3.symm.trans hcl)
  obtain ⟨c5, hc5, hcl5⟩ := Cond.classLink_spec hown hlink e.platform hpl
  cases Option.some.inj (hc4.symm.trans hc5)
  obtain ⟨vm', X', st⟩ := X.thenCaughtThrough q (g := F0 m pc ls rest) rfl (Steps.refl _) (by rw [hT]; exact hcell) (by rw [hv]; rfl) (by obtain ⟨k9, h9, -⟩ := Vm.findClass_spec hcl; exact ⟨k9, h9⟩) pre x suf hsplit
    (fun z hz => by
      rcases hpass z hz with h | ⟨hz0, nm, hl1, hn1⟩
      · exact Or.inl h
      · obtain ⟨c6, hc6, hcl6⟩ := Cond.classLink_spec hown hl1 e.platform hpl
        obtain ⟨a8, b8, h1, h2, h3⟩ := hn1
        cases Option.some.inj (h1.symm.trans hcl)
        cases Option.some.inj (h2.symm.trans hc6)
        exact Or.inr ⟨hz0, _, hcl6, h3⟩) hx (Or.inr ⟨h0, c4, hcl5, hasg⟩)
  obtain ⟨t, a1, b1⟩ := kk (T.setVm vm') hT X'
  exact ⟨t, st.trans a1, b1⟩
end Rows
section Ends
variable {p : Program} {l : Launch} {e : Env} {R : Room} {s : State} {m : MethodId} {args : Array Value} {below : List Frame} {meth : Method} {c : Code} {H : Heap} {locs : List Loc} {cells slots : Nat} {Q : State → Prop}
variable {mc ms : Nat} {free : Addr → Prop} {A0 A1 : Nat → Prop} {H0 : Heap} {a : Array Value} {ls : Array Slot} {st0 rest : List Value}
variable {Qc : Array Value → State → Outcome → State → Prop} {XC : String → State → State → Prop}
/-- what a body that may throw owes at its end -/
def vx_MQ (below : List Frame) (Qc : Array Value → State → Outcome → State → Prop) (XC : String → State → State → Prop) (a : Array Value) (s : State) (mc ms : Nat) (free : Addr → Prop) : State → Prop := fun t =>
  ∃ o, t.status = .running ∧ Ended t below o ∧ vx_Q Qc XC mc ms free a s o t
theorem vx_ret {g : JFrame} {mc ms : Nat} (k : W p l e R s m args below meth c H locs cells slots (MQ below Qc args s mc ms free) g) : W p l e R s m args below meth c H locs cells slots (vx_MQ below Qc XC args s mc ms free) g := by
  intro T hT X
  obtain ⟨t, a1, o, b1, b2, b3, b4⟩ := k T hT X
  exact ⟨t, a1, o, b1, b2, Or.inl ⟨b3, b4⟩⟩
/-- not caught here: it goes on to the caller -/
theorem vx_widen {g : JFrame} {q : Addr} {k n : Nat} (h1 : cells ≤ k) (h2 : slots ≤ n) (kk : vx_W p l e R s m args below meth c H locs k n Q g q) : vx_W p l e R s m args below meth c H locs cells slots Q g q := fun T hT X => kk T hT (stand_widen X h1 h2)
theorem vx_out {pc : Nat} {E : String} {ce : Cell} {q : Addr} {mc ms : Nat} (hout : ∀ x ∈ c.exceptionTable.toList, covers x pc = false) (hlocks : meth.locks = false) (hcell : H[q]? = some ce) (hv : ce.vm = .none) (hcl : s.vm.findClass E = some ce.cls)
    (hx : ∀ t : State, t.heap = H → s.vm.Alike t.vm → XC E s t) (hf : ∀ z ∈ locs, free z.base) (hc : cells ≤ mc) (hs : slots ≤ ms) :
    vx_W p l e R s m args below meth c H locs cells slots (vx_MQ below Qc XC args s mc ms free) (F0 m pc ls rest) q := by
  intro T hT X
  obtain ⟨st1, hrun, hend, hW, hsm⟩ := X.leaveThrown q (g := F0 m pc ls rest) rfl rfl rfl hout hlocks
  have hcell9 : (T.setFrames (.throwing q :: below)).heap[q]? = some ce := by
    show T.heap[q]? = some ce
    rw [hT]; exact hcell
  exact ⟨_, st1, .threw q, hrun, hend, Or.inr ⟨q, rfl, E, ce, locs, hx _ hT hW.alike, hcell9, hv, hcl, hW, hsm.mono hc hs, hf⟩⟩
theorem vx_frame {U : State} {k n : Nat} (h : s.sameButNew ({ U with vm := s.vm } : State) locs k n) : s.heap.size ≤ U.heap.size ∧ ∀ q : Nat, q < s.heap.size → (∀ z ∈ locs, z.base ≠ q) → U.heap[q]? = s.heap[q]? := by
  obtain ⟨-, h2, -, -, -, h6⟩ := h
  refine ⟨h2, fun q hq hz => ?_⟩
  obtain ⟨c9, e1, e2, e3, e4⟩ := h6 q _ (Array.getElem?_eq_getElem hq)
  have hs : c9.slots = (s.heap[q]).slots := Array.ext_getElem? fun i => e4 i fun hm => hz _ hm rfl
  have h9 : c9 = s.heap[q] := by
    rw [hs] at e2
    exact e2
  have e5 : U.heap[q]? = some c9 := e1
  rw [e5, h9, Array.getElem?_eq_getElem hq]
/-- the words of a throw but the four that speak of the heap -/
def vx_no (w : Cond) : Bool := decide (w ≠ .isRef (.static Bundle.tN "UNASSIGNED_STACK" Bundle.steD)) && decide (w ≠ .isRef (.static Bundle.tN "SUPPRESSED_SENTINEL" Bundle.listD)) && decide (w ≠ .laysStatic Bundle.tN "UNASSIGNED_STACK" Bundle.steD) && decide (w ≠ .laysStatic Bundle.tN "SUPPRESSED_SENTINEL" Bundle.listD)
def vx_at0 (own : String) (ic : Nat) (X : String) (names : List String) : List Cond := (Bundle.ownAtoms0 own ic X names).filter vx_no
def vx_atS (own : String) (ic : Nat) (X : String) (names : List String) : List Cond := (Bundle.ownAtoms own ic X names).filter vx_no
/-- a word that the tables alone decide, or a good one -/
def vx_ot (w : Cond) : Bool := w.onTables || goodWord w
theorem vx_ot_at {args a' : Array Value} {s U : State} {w : Cond} (hW : s.WarmedH U.vm) (hvm : s.vm = U.vm) (hg : vx_ot w = true) (h : w.before args s = true) : w.before a' U = true := by
  simp only [vx_ot, Bool.or_eq_true] at hg
  rcases hg with hg | hg
  · exact va_tabs hg hvm h
  · exact word_at hW (good_of_word hg) h
/-- a list's words: the good ones out of the method's own list, the others by premises of their own -/
theorem vx_hat {args : Array Value} {s : State} {L B : List Cond} (h1 : ∀ w ∈ L.filter goodWord, w.before args s = true) (h2 : ∀ w ∈ L.filter (fun w => !goodWord w), w ∈ B) (h3 : ∀ w ∈ B, w.before args s = true) : ∀ w ∈ L, w.before args s = true := by
  intro w hw
  by_cases g : goodWord w = true
  · exact h1 w (List.mem_filter.mpr ⟨hw, g⟩)
  · refine h3 w (h2 w (List.mem_filter.mpr ⟨hw, ?_⟩))
    show (!goodWord w) = true
    cases hgw : goodWord w
    · rfl
    · exact absurd hgw g
theorem vx_c {args : Array Value} {s : State} {w : Cond} {B : List Cond} (h : w.before args s = true) (t : ∀ w ∈ B, w.before args s = true) : ∀ w' ∈ w :: B, w'.before args s = true := fun w' h' => (List.mem_cons.mp h').elim (fun e => by rw [e]; exact h) (t w')
theorem vx_n {args : Array Value} {s : State} : ∀ w ∈ ([] : List Cond), w.before args s = true := fun _ h => nomatch h
theorem vx_own {args : Array Value} {s : State} {L : List Cond} (h1 : ∀ w ∈ L.filter vx_no, w.before args s = true)
    (hU : (Cond.isRef (.static Bundle.tN "UNASSIGNED_STACK" Bundle.steD)).before args s = true) (hN : (Cond.isRef (.static Bundle.tN "SUPPRESSED_SENTINEL" Bundle.listD)).before args s = true)
    (lU : (Cond.laysStatic Bundle.tN "UNASSIGNED_STACK" Bundle.steD).before args s = true) (lN : (Cond.laysStatic Bundle.tN "SUPPRESSED_SENTINEL" Bundle.listD).before args s = true) : ∀ w ∈ L, w.before args s = true := by
  intro w hw
  by_cases e1 : w = .isRef (.static Bundle.tN "UNASSIGNED_STACK" Bundle.steD)
  · rw [e1]; exact hU
  · by_cases e2 : w = .isRef (.static Bundle.tN "SUPPRESSED_SENTINEL" Bundle.listD)
    · rw [e2]; exact hN
    · by_cases e3 : w = .laysStatic Bundle.tN "UNASSIGNED_STACK" Bundle.steD
      · rw [e3]; exact lU
      · by_cases e4 : w = .laysStatic Bundle.tN "SUPPRESSED_SENTINEL" Bundle.listD
        · rw [e4]; exact lN
        · exact h1 w (List.mem_filter.mpr ⟨hw, by unfold vx_no; rw [decide_eq_true e1, decide_eq_true e2, decide_eq_true e3, decide_eq_true e4]; rfl⟩)
/-- where a static field lies, its class's statics cell in H -/
def vx_L (C n d : String) (A : Nat → Prop) (U : State) (H : Heap) : Prop := ∃ (c : ClassId) (k : Class) (i : Nat) (f : Field) (a : Nat) (cell : Cell), U.vm.findClass C = some c ∧ U.fieldFound? C n d = some (c, k, i, f) ∧ f.isStatic = true ∧ k.statics = some a ∧ H[a]? = some cell ∧ cell.vm.isStatics = true ∧ cell.cls = c ∧ f.slot < cell.slots.size ∧ k.staticTypes[f.slot]? = some f.type ∧ ¬ A a
theorem vx_L.moved {C n d : String} {A : Nat → Prop} {u U : State} {H : Heap} (hvm : u.vm.Alike U.vm) (h : vx_L C n d A u H) : vx_L C n d A U H := by
  obtain ⟨c, k, i, f, a, cell, h1, h2, h3, h4, h5, h6, h7, h8, h9, h10⟩ := h
  obtain ⟨k', hi', he⟩ := State.fieldFound?_setVm hvm h2
  exact ⟨c, k', i, f, a, cell, by rw [hvm.findClass]; exact h1, hi', h3, by rw [he]; exact h4, h5, h6, h7, h8, by rw [he]; exact h9, h10⟩
theorem vx_L.kept {C n d : String} {A : Nat → Prop} {U : State} {H H1 : Heap} (h : vx_L C n d A U H) (hq : ∀ a : Nat, a < H.size → ¬ A a → H1[a]? = H[a]?) : vx_L C n d A U H1 := by
  obtain ⟨c, k, i, f, a, cell, h1, h2, h3, h4, h5, h6, h7, h8, h9, h10⟩ := h
  exact ⟨c, k, i, f, a, cell, h1, h2, h3, h4, by rw [hq a (Array.getElem?_eq_some_iff.mp h5).1 h10]; exact h5, h6, h7, h8, h9, h10⟩
theorem vx_L.narrow {C n d : String} {A B : Nat → Prop} {U : State} {H : Heap} (h : vx_L C n d A U H) (hAB : ∀ q, B q → A q) : vx_L C n d B U H := by
  obtain ⟨c, k, i, f, a, cell, h1, h2, h3, h4, h5, h6, h7, h8, h9, h10⟩ := h
  exact ⟨c, k, i, f, a, cell, h1, h2, h3, h4, h5, h6, h7, h8, h9, fun z => h10 (hAB _ z)⟩
theorem vx_L.word {C n d : String} {A : Nat → Prop} {s : State} {args : Array Value} (h : vx_L C n d A s s.heap) : (Cond.laysStatic C n d).before args s = true := by
  obtain ⟨c, k, i, f, a, cell, h1, h2, h3, h4, h5, h6, h7, h8, h9, -⟩ := h
  show (Cond.laysStatic C n d).holds args s none s [] = true
  exact Cond.laysStatic_of h1 h2 h3 h4 h5 h6 h7 h8 h9
/-- .. and what it holds: null or some reference -/
def vx_Zq (C n d : String) (A : Nat → Prop) (U : State) (H : Heap) : Prop := va_Zq C n d A U H ∧ vx_L C n d A U H
theorem vx_Zq.moved {C n d : String} {A : Nat → Prop} {u U : State} {H : Heap} (hvm : u.vm.Alike U.vm) (h : vx_Zq C n d A u H) : vx_Zq C n d A U H := ⟨va_Zq.moved hvm h.1, vx_L.moved hvm h.2⟩
theorem vx_Zq.kept {C n d : String} {A : Nat → Prop} {U : State} {H H1 : Heap} (h : vx_Zq C n d A U H) (hq : ∀ a : Nat, a < H.size → ¬ A a → H1[a]? = H[a]?) : vx_Zq C n d A U H1 := ⟨va_Zq.kept h.1 hq, vx_L.kept h.2 hq⟩
theorem vx_Zq.narrow {C n d : String} {A B : Nat → Prop} {U : State} {H : Heap} (h : vx_Zq C n d A U H) (hAB : ∀ q, B q → A q) : vx_Zq C n d B U H := ⟨va_Zq.narrow h.1 hAB, vx_L.narrow h.2 hAB⟩
theorem vx_Zqof {args : Array Value} {s : State} {C n d : String} {A : Nat → Prop} (hl : (Cond.laysStatic C n d).before args s = true) (hini : (Cond.initialized C).before args s = true) (h : (Cond.isRef (.static C n d)).before args s = true) (hA : ∀ a : Nat, a < s.heap.size → ¬ A a) : vx_Zq C n d A s s.heap := by
  refine ⟨va_Zqof hl hini h hA, ?_⟩
  obtain ⟨c, k, i, f, a, cell, h1, h2, h3, h4, h5, h6, h7, h8, h9⟩ := Cond.laysStatic_spec hl
  exact ⟨c, k, i, f, a, cell, h1, h2, h3, h4, h5, h6, h7, h8, h9, hA a (Array.getElem?_eq_some_iff.mp h5).1⟩
theorem vx_isRef {C n d : String} {v : Value} {A : Nat → Prop} {s : State} {args : Array Value} (h : va_Z C n d v A s s.heap) (hv : v.isRef = true) : (Cond.isRef (.static C n d)).before args s = true := by
  obtain ⟨cf, kf, fi, f, a, cell, h1, h2, h3, h4, h5, h6, h7, -⟩ := h
  have he : (Term.static C n d).eval args s none [] s = some v := by
    simp [Term.eval, State.fieldNamed?, h1, h2, h4, h5, h6, h7]
  simp only [Cond.before, Cond.holds, Cond.value, he]
  cases v <;> simp_all [Value.isRef]
theorem vx_isRefq {C n d : String} {A : Nat → Prop} {s : State} {args : Array Value} (h : va_Zq C n d A s s.heap) : (Cond.isRef (.static C n d)).before args s = true := by
  rcases h with h | ⟨t, h⟩
  · exact vx_isRef h rfl
  · exact vx_isRef h rfl
/-- the same frame, seen from here: as if the method were called anew in this heap -/
theorem vx_rebase {T : State} (X : Stand p l e R s m args below meth c T locs cells slots) {R' : Room} (hf : R'.frames ≤ R.frames) (hl : R'.locals ≤ R.locals) (hc : cells + R'.cells ≤ R.cells) (hs : slots + R'.slots ≤ R.slots) :
    Stand p l e R' ((T.setVm s.vm).setFrames (.invoking m args :: below)) m args below meth c T [] 0 0 := by
  have htop : (T.setVm s.vm).topJava?.isSome := X.here.top
  have hF : ((T.setVm s.vm).setFrames (.invoking m args :: below)).frames = .invoking m args :: below := State.frames_setFrames _ (State.cur_lt_of_top htop)
  obtain ⟨g₀, hg0⟩ := Option.isSome_iff_exists.mp htop
  obtain ⟨r, hr⟩ := State.topJava?_eq_some.mp hg0
  have hl9 : e.platform.stackLimits (T.setVm s.vm).me = e.platform.stackLimits s.me := X.limits
  have hb9 : (T.setVm s.vm).me.stackBytes = s.me.stackBytes := X.bytes
  refine ⟨X.admits, X.cas, X.clock, hF, ?_, X.hears, X.method, X.code, X.here, X.tail, X.warmed, ?_, ?_, ?_⟩
  · have h := X.room
    have hU : ((T.setVm s.vm).setFrames (.invoking m args :: below)).localsInUse = s.localsInUse := by
      rw [State.localsInUse_invoking hF (meth := meth) (c := c) X.method X.code, State.localsInUse_invoking X.frames X.method X.code]
    simp only [State.hasRoom, Bool.and_eq_true, decide_eq_true_eq] at h ⊢
    obtain ⟨⟨⟨⟨h1, h2, h3, h4, h5, h6⟩, h7⟩, h8⟩, h9⟩ := h
    rw [X.frames, List.length_cons] at h2 h3
    have q1 := X.heapSize
    have q2 := X.used
    simp only [hF, hU, List.length_cons, State.stackLimits_setFrames, State.stackBytes_setFrames, hl9, hb9]
    refine ⟨⟨⟨⟨by omega, by omega, by omega, by omega, by omega, h6⟩, ?_⟩, ?_⟩, X.book⟩
    · show T.heap.size + R'.cells ≤ e.platform.maxCells
      omega
    · show T.slotsUsed + R'.slots ≤ e.platform.maxSlots
      omega
  · rw [State.stackLimits_setFrames]; rfl
  · rw [State.stackBytes_setFrames]; rfl
  · refine ⟨?_, Nat.le_refl _, Nat.le_refl _, ?_, ?_, fun a c9 h9 => ⟨c9, h9, rfl, rfl, fun _ _ => rfl⟩⟩
    · obtain ⟨t, ht, -⟩ := State.frames_cons hr
      show T.setVm s.vm = { ((T.setVm s.vm).setFrames (.invoking m args :: below)).setFrames (T.setVm s.vm).frames with heap := T.heap, slotsUsed := T.slotsUsed }
      rw [State.setFrames_setFrames, State.setFrames_self ht]
      rfl
    · show T.slotsUsed = T.slotsUsed + ((T.heap.toList.drop T.heap.size).map (·.slots.size)).sum
      rw [List.drop_eq_nil_of_le (Nat.le_of_eq Array.length_toList)]
      rfl
    · show ((T.heap.toList.drop T.heap.size).map (·.slots.size)).sum ≤ 0
      rw [List.drop_eq_nil_of_le (Nat.le_of_eq Array.length_toList)]
      exact Nat.le_refl _
/-- 'throw new E()': new; dup; invokespecial; athrow -/
theorem vx_throw0 {cc : ByteArray} {pc : Nat} (hexec : p.tables.exec = Jvm.exec) (hb : c.code = cc) (hl : l.stackTraces = false) {own cls : String} {names : List String} {ik ic mc ms : Nat} {A : Nat → Prop}
    (hown : s.vm.findClass own = some m.cls) (hcls : Bundle.fit cls = true) (hnames : ∀ n ∈ names, Bundle.fit n = true)
    (hk : (Cond.classLink own ik cls).before args s = true) (hini : (Cond.initialized cls).before args s = true) (hat : ∀ w ∈ vx_at0 own ic cls names, w.before args s = true)
    (hgood : ∀ w ∈ Cond.classLink own ik cls :: Cond.initialized cls :: vx_at0 own ic cls names, vx_ot w = true)
    (hU : vx_Zq Bundle.tN "UNASSIGNED_STACK" Bundle.steD A s s.heap) (hN : vx_Zq Bundle.tN "SUPPRESSED_SENTINEL" Bundle.listD A s s.heap) (hS : va_S A s.heap H locs) (hsize : ls.size = c.maxLocals)
    (d0 : decode cc pc = .ok (.new ik, 3)) (d3 : decode cc (pc + 3) = .ok (.dup, 1)) (d4 : decode cc (pc + 4) = .ok (.invokespecial ic, 3)) (d7 : decode cc (pc + 7) = .ok (.athrow, 1))
    (hout : ∀ x ∈ c.exceptionTable.toList, covers x (pc + 7) = false)
    (hRframes : names.length + 3 < R.frames) (hRlocals : (rest.map fun v => v.category).sum + (13 * (names.length + 1) + 42) ≤ R.locals) (hRcells : cells + 1 ≤ R.cells) (hRslots : slots + 6 ≤ R.slots) (hlocks : meth.locks = false)
    (hx : ∀ t : State, s.vm.Alike t.vm → H.size ≤ t.heap.size → (∀ q : Nat, q < H.size → t.heap[q]? = H[q]?) → XC cls s t)
    (hf : ∀ z ∈ locs, free z.base) (hc : cells + 1 ≤ mc) (hs : slots + 6 ≤ ms) :
    W p l e R s m args below meth c H locs cells slots (vx_MQ below Qc XC args s mc ms free) (F0 m pc ls rest) := by
  intro T hT X
  have htr : e.platform.stackTraces = false := (show e.platform.stackTraces = l.stackTraces by rw [X.admits.platform]).trans hl
  have Y := vx_rebase X (R' := { frames := R.frames, locals := R.locals, cells := 1, slots := 6 }) (Nat.le_refl _) (Nat.le_refl _) hRcells hRslots
  obtain ⟨s', hA⟩ : ∃ z, z = (T.setVm s.vm).setFrames (.invoking m args :: below) := ⟨_, rfl⟩
  rw [← hA] at Y
  have hvm : s'.vm = s.vm := by rw [hA]; rfl
  have hhp : s'.heap = H := by rw [hA]; exact hT
  have hW0 : s.WarmedH s'.vm := by rw [hvm]; exact State.WarmedH.refl s
  have hat' : ∀ w ∈ vx_at0 own ic cls names, w.before args s' = true := fun w hw => vx_ot_at hW0 hvm.symm (hgood w (List.mem_cons_of_mem _ (List.mem_cons_of_mem _ hw))) (hat w hw)
  have hk' : (Cond.classLink own ik cls).before args s' = true := vx_ot_at hW0 hvm.symm (hgood _ List.mem_cons_self) hk
  have hini' : (Cond.initialized cls).before args s' = true := vx_ot_at hW0 hvm.symm (hgood _ (List.mem_cons_of_mem _ List.mem_cons_self)) hini
  have hU' : vx_Zq Bundle.tN "UNASSIGNED_STACK" Bundle.steD A s' s'.heap := by rw [hhp]; exact vx_Zq.moved hW0.alike (hU.kept hS.2.1)
  have hN' : vx_Zq Bundle.tN "SUPPRESSED_SENTINEL" Bundle.listD A s' s'.heap := by rw [hhp]; exact vx_Zq.moved hW0.alike (hN.kept hS.2.1)
  have h : ∀ w ∈ Bundle.ownAtoms0 own ic cls names, w.before args s' = true := vx_own hat' (vx_isRefq hU'.1) (vx_isRefq hN'.1) hU'.2.word hN'.2.word
  have hown' : s'.vm.findClass own = some m.cls := by rw [hvm]; exact hown
  have hins : (Cond.instantiable cls 6).before args s' = true := h _ (by simp [Bundle.ownAtoms0])
  obtain ⟨vm₁, cX, kX, hfX, hkX, -, -, X₁, st1⟩ := Y.newCold hexec (own := own) (C := cls) (index := ik) (n := 6) hown' hk' hins hini'
    (g := F0 m pc ls rest) rfl (by rw [hb]; exact d0) (Nat.le_refl _) (Nat.le_refl _)
  generalize hT1 : (T.setVm vm₁).pushCell { cls := cX, slots := kX.instanceTypes.map defaultValue, vm := .none } = T1 at X₁ st1
  have hcat : (Value.ref T.heap.size).category = 1 := rfl
  have hcellA : T1.heap[T.heap.size]? = some (freshCell cX kX) := by rw [← hT1]; exact State.heap_pushCell_size _ _
  have d3' : decode c.code (pc + 3) = .ok (.dup, 1) := by rw [hb]; exact d3
  obtain ⟨U, hsteps, hrun, hend, hW, hsame, ce, hce, hO⟩ := X₁.ctorThrow0 hexec htr (own := own) (cls := cls) (names := names) (ic := ic) hown' hcls hnames h (fun x hx => nomatch hx) hfX hkX hcellA (by rw [hhp, hT]; exact Nat.le_refl _)
    (g := { method := m, pc := pc + 4, locals := ls, stack := .ref T.heap.size :: .ref T.heap.size :: rest, locked := none }) rfl hsize rfl rfl (rest := rest) rfl
    (by rw [hb]; exact d4) (by rw [hb]; exact d7) hout hRframes (by simp only [List.map_cons, List.sum_cons, hcat]; omega) hlocks
  obtain ⟨f1, f2⟩ := vx_frame hsame
  rw [hhp] at f1 f2
  have hWs : s.WarmedH U.vm := State.WarmedH.trans hW0 hW
  have hcl : s.vm.findClass cls = some ce.cls := by
    have h9 := hO.cls
    rw [hvm] at h9
    exact h9
  have hall : s.sameButNew ({ U with vm := s.vm } : State) locs mc ms := by
    subst hA
    obtain ⟨e1, e2⟩ := hsame
    rw [State.setFrames_setFrames] at e1
    have h2 : (T.setVm s.vm).sameButNew ({ U with vm := s.vm } : State) [] (0 + 1) (0 + 6) := ⟨e1, e2⟩
    have h3 := X.same.trans h2
    rw [List.append_nil] at h3
    exact h3.mono hc hs
  refine ⟨U, ?_, .threw T.heap.size, hrun, hend, Or.inr ⟨T.heap.size, rfl, cls, ce, locs, hx U hWs.alike f1 (fun q hq => f2 q hq (fun z hz => nomatch hz)), hce, hO.vm, hcl, hWs, hall, hf⟩⟩
  refine st1 _ ?_
  show Steps p.tables e below (T1.setTop { method := m, pc := pc + 3, locals := ls, stack := .ref T.heap.size :: rest, locked := none }) _
  jvm_step X₁.here [X₁.here.top, hexec, d3', Value.category]
  exact hsteps
/-- 'throw new E("text")': new; dup; ldc; invokespecial; athrow -/
theorem vx_throwS {cc : ByteArray} {pc : Nat} (hexec : p.tables.exec = Jvm.exec) (hb : c.code = cc) (hl : l.stackTraces = false) {own cls text : String} {names : List String} {ik is ic mc ms sa : Nat} {A : Nat → Prop}
    (hown : s.vm.findClass own = some m.cls) (hcls : Bundle.fit cls = true) (hnames : ∀ n ∈ names, Bundle.fit n = true)
    (hk : (Cond.classLink own ik cls).before args s = true) (hini : (Cond.initialized cls).before args s = true) (hstr : vk_R own is text sa s) (hat : ∀ w ∈ vx_atS own ic cls names, w.before args s = true)
    (hgood : ∀ w ∈ Cond.classLink own ik cls :: Cond.initialized cls :: vx_atS own ic cls names, vx_ot w = true)
    (hU : vx_Zq Bundle.tN "UNASSIGNED_STACK" Bundle.steD A s s.heap) (hN : vx_Zq Bundle.tN "SUPPRESSED_SENTINEL" Bundle.listD A s s.heap) (hS : va_S A s.heap H locs) (hsize : ls.size = c.maxLocals)
    (d0 : decode cc pc = .ok (.new ik, 3)) (d3 : decode cc (pc + 3) = .ok (.dup, 1)) (d4 : decode cc (pc + 4) = .ok (.ldc is, 2)) (d6 : decode cc (pc + 6) = .ok (.invokespecial ic, 3)) (d9 : decode cc (pc + 9) = .ok (.athrow, 1))
    (hout : ∀ x ∈ c.exceptionTable.toList, covers x (pc + 9) = false)
    (hRframes : names.length + 3 < R.frames) (hRlocals : (rest.map fun v => v.category).sum + (13 * (names.length + 1) + 43) ≤ R.locals) (hRcells : cells + 1 ≤ R.cells) (hRslots : slots + 6 ≤ R.slots) (hlocks : meth.locks = false)
    (hx : ∀ t : State, s.vm.Alike t.vm → H.size ≤ t.heap.size → (∀ q : Nat, q < H.size → t.heap[q]? = H[q]?) → XC cls s t)
    (hf : ∀ z ∈ locs, free z.base) (hc : cells + 1 ≤ mc) (hs : slots + 6 ≤ ms) :
    W p l e R s m args below meth c H locs cells slots (vx_MQ below Qc XC args s mc ms free) (F0 m pc ls rest) := by
  intro T hT X
  have htr : e.platform.stackTraces = false := (show e.platform.stackTraces = l.stackTraces by rw [X.admits.platform]).trans hl
  have Y := vx_rebase X (R' := { frames := R.frames, locals := R.locals, cells := 1, slots := 6 }) (Nat.le_refl _) (Nat.le_refl _) hRcells hRslots
  obtain ⟨s', hA⟩ : ∃ z, z = (T.setVm s.vm).setFrames (.invoking m args :: below) := ⟨_, rfl⟩
  rw [← hA] at Y
  have hvm : s'.vm = s.vm := by rw [hA]; rfl
  have hhp : s'.heap = H := by rw [hA]; exact hT
  have hW0 : s.WarmedH s'.vm := by rw [hvm]; exact State.WarmedH.refl s
  have hat' : ∀ w ∈ vx_atS own ic cls names, w.before args s' = true := fun w hw => vx_ot_at hW0 hvm.symm (hgood w (List.mem_cons_of_mem _ (List.mem_cons_of_mem _ hw))) (hat w hw)
  have hk' : (Cond.classLink own ik cls).before args s' = true := vx_ot_at hW0 hvm.symm (hgood _ List.mem_cons_self) hk
  have hini' : (Cond.initialized cls).before args s' = true := vx_ot_at hW0 hvm.symm (hgood _ (List.mem_cons_of_mem _ List.mem_cons_self)) hini
  have hU' : vx_Zq Bundle.tN "UNASSIGNED_STACK" Bundle.steD A s' s'.heap := by rw [hhp]; exact vx_Zq.moved hW0.alike (hU.kept hS.2.1)
  have hN' : vx_Zq Bundle.tN "SUPPRESSED_SENTINEL" Bundle.listD A s' s'.heap := by rw [hhp]; exact vx_Zq.moved hW0.alike (hN.kept hS.2.1)
  have h : ∀ w ∈ Bundle.ownAtoms own ic cls names, w.before args s' = true := vx_own hat' (vx_isRefq hU'.1) (vx_isRefq hN'.1) hU'.2.word hN'.2.word
  have hown' : s'.vm.findClass own = some m.cls := by rw [hvm]; exact hown
  have hins : (Cond.instantiable cls 6).before args s' = true := h _ (by simp [Bundle.ownAtoms])
  obtain ⟨vm₁, cX, kX, hfX, hkX, -, -, X₁, st1⟩ := Y.newCold hexec (own := own) (C := cls) (index := ik) (n := 6) hown' hk' hins hini'
    (g := F0 m pc ls rest) rfl (by rw [hb]; exact d0) (Nat.le_refl _) (Nat.le_refl _)
  generalize hT1 : (T.setVm vm₁).pushCell { cls := cX, slots := kX.instanceTypes.map defaultValue, vm := .none } = T1 at X₁ st1
  have hcat : (Value.ref T.heap.size).category = 1 := rfl
  have hcellA : T1.heap[T.heap.size]? = some (freshCell cX kX) := by rw [← hT1]; exact State.heap_pushCell_size _ _
  have d3' : decode c.code (pc + 3) = .ok (.dup, 1) := by rw [hb]; exact d3
  have d4' : decode c.code (pc + 4) = .ok (.ldc is, 2) := by rw [hb]; exact d4
  have hstr' : vk_R own is text sa s' := vk_R.warm hW0 hstr
  obtain ⟨U, hsteps, hrun, hend, hW, hsame, ce, hce, hO⟩ := X₁.ctorThrowS hexec htr (own := own) (cls := cls) (names := names) (ic := ic) hown' hcls hnames h (fun x hx => nomatch hx) hfX hkX hcellA (by rw [hhp, hT]; exact Nat.le_refl _) (msg := .ref sa) rfl
    (g := { method := m, pc := pc + 6, locals := ls, stack := .ref sa :: .ref T.heap.size :: .ref T.heap.size :: rest, locked := none }) rfl hsize rfl rfl (rest := rest) rfl
    (by rw [hb]; exact d6) (by rw [hb]; exact d9) hout hRframes (by simp only [List.map_cons, List.sum_cons, hcat]; omega) hlocks
  obtain ⟨f1, f2⟩ := vx_frame hsame
  rw [hhp] at f1 f2
  have hWs : s.WarmedH U.vm := State.WarmedH.trans hW0 hW
  have hcl : s.vm.findClass cls = some ce.cls := by
    have h9 := hO.cls
    rw [hvm] at h9
    exact h9
  have hall : s.sameButNew ({ U with vm := s.vm } : State) locs mc ms := by
    subst hA
    obtain ⟨e1, e2⟩ := hsame
    rw [State.setFrames_setFrames] at e1
    have h2 : (T.setVm s.vm).sameButNew ({ U with vm := s.vm } : State) [] (0 + 1) (0 + 6) := ⟨e1, e2⟩
    have h3 := X.same.trans h2
    rw [List.append_nil] at h3
    exact h3.mono hc hs
  refine ⟨U, ?_, .threw T.heap.size, hrun, hend, Or.inr ⟨T.heap.size, rfl, cls, ce, locs, hx U hWs.alike f1 (fun q hq => f2 q hq (fun z hz => nomatch hz)), hce, hO.vm, hcl, hWs, hall, hf⟩⟩
  refine st1 _ ?_
  show Steps p.tables e below (T1.setTop { method := m, pc := pc + 3, locals := ls, stack := .ref T.heap.size :: rest, locked := none }) _
  jvm_step X₁.here [X₁.here.top, hexec, d3', Value.category]
  exact X₁.ldcString hexec (own := own) (text := text) (index := is) (a := sa) hown' hstr'.1 hstr'.2
    (g := { method := m, pc := pc + 4, locals := ls, stack := .ref T.heap.size :: .ref T.heap.size :: rest, locked := none }) rfl d4' _ hsteps
/-- 'throw new E("text")', the text by a wide index -/
theorem vx_throwSW {cc : ByteArray} {pc : Nat} (hexec : p.tables.exec = Jvm.exec) (hb : c.code = cc) (hl : l.stackTraces = false) {own cls text : String} {names : List String} {ik is ic mc ms sa : Nat} {A : Nat → Prop}
    (hown : s.vm.findClass own = some m.cls) (hcls : Bundle.fit cls = true) (hnames : ∀ n ∈ names, Bundle.fit n = true)
    (hk : (Cond.classLink own ik cls).before args s = true) (hini : (Cond.initialized cls).before args s = true) (hstr : vk_R own is text sa s) (hat : ∀ w ∈ vx_atS own ic cls names, w.before args s = true)
    (hgood : ∀ w ∈ Cond.classLink own ik cls :: Cond.initialized cls :: vx_atS own ic cls names, vx_ot w = true)
    (hU : vx_Zq Bundle.tN "UNASSIGNED_STACK" Bundle.steD A s s.heap) (hN : vx_Zq Bundle.tN "SUPPRESSED_SENTINEL" Bundle.listD A s s.heap) (hS : va_S A s.heap H locs) (hsize : ls.size = c.maxLocals)
    (d0 : decode cc pc = .ok (.new ik, 3)) (d3 : decode cc (pc + 3) = .ok (.dup, 1)) (d4 : decode cc (pc + 4) = .ok (.ldc_w is, 3)) (d7 : decode cc (pc + 7) = .ok (.invokespecial ic, 3)) (d10 : decode cc (pc + 10) = .ok (.athrow, 1))
    (hout : ∀ x ∈ c.exceptionTable.toList, covers x (pc + 10) = false)
    (hRframes : names.length + 3 < R.frames) (hRlocals : (rest.map fun v => v.category).sum + (13 * (names.length + 1) + 43) ≤ R.locals) (hRcells : cells + 1 ≤ R.cells) (hRslots : slots + 6 ≤ R.slots) (hlocks : meth.locks = false)
    (hx : ∀ t : State, s.vm.Alike t.vm → H.size ≤ t.heap.size → (∀ q : Nat, q < H.size → t.heap[q]? = H[q]?) → XC cls s t)
    (hf : ∀ z ∈ locs, free z.base) (hc : cells + 1 ≤ mc) (hs : slots + 6 ≤ ms) :
    W p l e R s m args below meth c H locs cells slots (vx_MQ below Qc XC args s mc ms free) (F0 m pc ls rest) := by
  intro T hT X
  have htr : e.platform.stackTraces = false := (show e.platform.stackTraces = l.stackTraces by rw [X.admits.platform]).trans hl
  have Y := vx_rebase X (R' := { frames := R.frames, locals := R.locals, cells := 1, slots := 6 }) (Nat.le_refl _) (Nat.le_refl _) hRcells hRslots
  obtain ⟨s', hA⟩ : ∃ z, z = (T.setVm s.vm).setFrames (.invoking m args :: below) := ⟨_, rfl⟩
  rw [← hA] at Y
  have hvm : s'.vm = s.vm := by rw [hA]; rfl
  have hhp : s'.heap = H := by rw [hA]; exact hT
  have hW0 : s.WarmedH s'.vm := by rw [hvm]; exact State.WarmedH.refl s
  have hat' : ∀ w ∈ vx_atS own ic cls names, w.before args s' = true := fun w hw => vx_ot_at hW0 hvm.symm (hgood w (List.mem_cons_of_mem _ (List.mem_cons_of_mem _ hw))) (hat w hw)
  have hk' : (Cond.classLink own ik cls).before args s' = true := vx_ot_at hW0 hvm.symm (hgood _ List.mem_cons_self) hk
  have hini' : (Cond.initialized cls).before args s' = true := vx_ot_at hW0 hvm.symm (hgood _ (List.mem_cons_of_mem _ List.mem_cons_self)) hini
  have hU' : vx_Zq Bundle.tN "UNASSIGNED_STACK" Bundle.steD A s' s'.heap := by rw [hhp]; exact vx_Zq.moved hW0.alike (hU.kept hS.2.1)
  have hN' : vx_Zq Bundle.tN "SUPPRESSED_SENTINEL" Bundle.listD A s' s'.heap := by rw [hhp]; exact vx_Zq.moved hW0.alike (hN.kept hS.2.1)
  have h : ∀ w ∈ Bundle.ownAtoms own ic cls names, w.before args s' = true := vx_own hat' (vx_isRefq hU'.1) (vx_isRefq hN'.1) hU'.2.word hN'.2.word
  have hown' : s'.vm.findClass own = some m.cls := by rw [hvm]; exact hown
  have hins : (Cond.instantiable cls 6).before args s' = true := h _ (by simp [Bundle.ownAtoms])
  obtain ⟨vm₁, cX, kX, hfX, hkX, -, -, X₁, st1⟩ := Y.newCold hexec (own := own) (C := cls) (index := ik) (n := 6) hown' hk' hins hini'
    (g := F0 m pc ls rest) rfl (by rw [hb]; exact d0) (Nat.le_refl _) (Nat.le_refl _)
  generalize hT1 : (T.setVm vm₁).pushCell { cls := cX, slots := kX.instanceTypes.map defaultValue, vm := .none } = T1 at X₁ st1
  have hcat : (Value.ref T.heap.size).category = 1 := rfl
  have hcellA : T1.heap[T.heap.size]? = some (freshCell cX kX) := by rw [← hT1]; exact State.heap_pushCell_size _ _
  have d3' : decode c.code (pc + 3) = .ok (.dup, 1) := by rw [hb]; exact d3
  have d4' : decode c.code (pc + 4) = .ok (.ldc_w is, 3) := by rw [hb]; exact d4
  have hstr' : vk_R own is text sa s' := vk_R.warm hW0 hstr
  obtain ⟨U, hsteps, hrun, hend, hW, hsame, ce, hce, hO⟩ := X₁.ctorThrowS hexec htr (own := own) (cls := cls) (names := names) (ic := ic) hown' hcls hnames h (fun x hx => nomatch hx) hfX hkX hcellA (by rw [hhp, hT]; exact Nat.le_refl _) (msg := .ref sa) rfl
    (g := { method := m, pc := pc + 7, locals := ls, stack := .ref sa :: .ref T.heap.size :: .ref T.heap.size :: rest, locked := none }) rfl hsize rfl rfl (rest := rest) rfl
    (by rw [hb]; exact d7) (by rw [hb]; exact d10) hout hRframes (by simp only [List.map_cons, List.sum_cons, hcat]; omega) hlocks
  obtain ⟨f1, f2⟩ := vx_frame hsame
  rw [hhp] at f1 f2
  have hWs : s.WarmedH U.vm := State.WarmedH.trans hW0 hW
  have hcl : s.vm.findClass cls = some ce.cls := by
    have h9 := hO.cls
    rw [hvm] at h9
    exact h9
  have hall : s.sameButNew ({ U with vm := s.vm } : State) locs mc ms := by
    subst hA
    obtain ⟨e1, e2⟩ := hsame
    rw [State.setFrames_setFrames] at e1
    have h2 : (T.setVm s.vm).sameButNew ({ U with vm := s.vm } : State) [] (0 + 1) (0 + 6) := ⟨e1, e2⟩
    have h3 := X.same.trans h2
    rw [List.append_nil] at h3
    exact h3.mono hc hs
  refine ⟨U, ?_, .threw T.heap.size, hrun, hend, Or.inr ⟨T.heap.size, rfl, cls, ce, locs, hx U hWs.alike f1 (fun q hq => f2 q hq (fun z hz => nomatch hz)), hce, hO.vm, hcl, hWs, hall, hf⟩⟩
  refine st1 _ ?_
  show Steps p.tables e below (T1.setTop { method := m, pc := pc + 3, locals := ls, stack := .ref T.heap.size :: rest, locked := none }) _
  jvm_step X₁.here [X₁.here.top, hexec, d3', Value.category]
  exact X₁.ldcStringW hexec (own := own) (text := text) (index := is) (a := sa) hown' hstr'.1 hstr'.2
    (g := { method := m, pc := pc + 4, locals := ls, stack := .ref T.heap.size :: .ref T.heap.size :: rest, locked := none }) rfl d4' _ hsteps
end Ends
section Bodies
variable {l : Launch}
theorem vx_ofW {y : MethodName} {ws ws' : List Cond} {rm : Room} {Pc : Array Value → State → Prop} {Qc : Array Value → State → Outcome → State → Prop} {XC : String → State → State → Prop} {mc ms : Nat} {free : Addr → Prop} {cc : ByteArray} {maxL : Nat} {ret : Option FieldType}
    (hy : plainName y.cls = true) (hw : ws = Cond.code y cc maxL ret :: ws')
    (body : ∀ p e s m args below meth c s₁, BodyLoose p l y (headSpec ws rm) cc maxL ret e s m args below meth c s₁ → c.maxLocals = maxL → (∀ x ∈ c.exceptionTable.toList, False) → Pc args s →
      W p l e (headSpec ws rm).room s m args below meth c s.heap [] 0 0 (vx_MQ below Qc XC args s mc ms free) (entryFrame m args maxL)) : vx_Met l y ws rm Pc Qc XC mc ms free := by
  refine MetFree.of_bodyS (code := cc) (maxLocals := maxL) (ret := ret) hy ?_ ?_
  · intro args s m h hn
    obtain ⟨meth, c, h1, h2, h3, h4, h5, h6, -, -⟩ := Cond.code_spec hn (atoms_spec (ws := ws) h _ (by rw [hw]; exact List.mem_cons_self))
    exact ⟨meth, c, h1, h2, h3, h4, h5, h6⟩
  · intro p e s m args below meth c s₁ B hml hP _
    have hh0 : s₁.heap = s.heap := by rw [B.state]; rfl
    have ht : ∀ x ∈ c.exceptionTable.toList, False := by
      obtain ⟨meth9, c9, h1, h2, -, -, -, -, h7, -⟩ := Cond.code_spec B.named (atoms_spec (ws := ws) B.pre _ (by rw [hw]; exact List.mem_cons_self))
      cases Option.some.inj (h1.symm.trans B.method)
      cases Option.some.inj (h2.symm.trans (Stand.of_body B).code)
      intro x hx
      rw [Array.isEmpty_iff.mp h7] at hx
      cases hx
    obtain ⟨t, a1, o, b1, b2, b3⟩ := body p e s m args below meth c s₁ B hml ht hP s₁ hh0 (Stand.of_body B)
    exact ⟨t, o, a1, b1, b2, b3⟩
/-- the table of a body with handlers -/
theorem vx_table {p : Program} {x y : MethodName} {S : Spec} {cc bytes : ByteArray} {maxL maxL' : Nat} {ret ret' : Option FieldType} {e : Env} {s s₁ : State} {m : MethodId} {args : Array Value} {below : List Frame} {meth : Method} {c : Code} {hh : List (Nat × Nat × Nat × Nat)}
    (B : BodyLoose p l y S cc maxL ret e s m args below meth c s₁) (h : (Cond.codeWith y bytes maxL' ret' hh).before args s = true) : c.exceptionTable.toList = tableOf hh := by
  obtain ⟨m9, meth9, c9, hn9, h1, h2, -, -, h6, -⟩ := Cond.codeWith_spec h
  cases Option.some.inj (hn9.symm.trans B.named)
  cases Option.some.inj (h1.symm.trans B.method)
  cases Option.some.inj (h2.symm.trans (Stand.of_body B).code)
  rw [← h6, table_eq]
end Bodies
end VXA
/-! ===== END ===== -/
/-! ===== BEGIN a static call of a method with an exception table ===== -/
section VXS
variable {p : Program} {l : Launch} {e : Env} {R : Room} {s : State} {m : MethodId} {args : Array Value} {below : List Frame} {meth : Method} {c : Code} {T : State} {H : Heap} {locs : List Loc} {cells slots : Nat}
abbrev vx_CSW (R : Room) (s : State) (args : Array Value) (own : String) (index : Nat) (y : MethodName) (bytes : ByteArray) (maxL : Nat) (ret : Option FieldType) (hh : List (Nat × Nat × Nat × Nat)) (ws : List Cond) (rm : Room) (mc ms n : Nat) : Prop :=
  (rm.cells = mc ∧ rm.slots = ms ∧ rm.frames + 1 ≤ R.frames ∧ 8 + (maxL + 11) + rm.locals ≤ R.locals ∧ (∀ w ∈ ws, ∀ (a' : Array Value) (U : State), s.WarmedH U.vm → w.before a' U = true) ∧ Cond.codeWith y bytes maxL ret hh ∈ ws) ∧
  (Cond.codeWith y bytes maxL ret hh).before args s = true ∧ (Cond.initialized y.cls).before args s = true ∧ (y.cls ≠ "java/lang/invoke/MethodHandle" ∧ y.cls ≠ "java/lang/invoke/VarHandle") ∧
  (∀ sig, parseMethodDescriptor y.desc = some sig → n = sig.parameters.length) ∧ (Cond.methodLink own index y).before args s = true ∧ (Cond.static y).before args s = true
theorem vx_cwSW {own : String} {index maxL mc ms : Nat} {y : MethodName} {bytes : ByteArray} {ret : Option FieldType} {hh : List (Nat × Nat × Nat × Nat)} {Ts ws ws' : List Cond} {rm : Room} (n : Nat) (ht : ∀ w ∈ Ts, w.before args s = true) (hT : GoodIn Ts (va_wsS own index y ws)) (hw : ws = Cond.codeWith y bytes maxL ret hh :: ws') (hrc : rm.cells = mc) (hrs : rm.slots = ms)
    (hd : y.cls ≠ "java/lang/invoke/MethodHandle" ∧ y.cls ≠ "java/lang/invoke/VarHandle" ∧ (parseMethodDescriptor y.desc).map (fun d => d.parameters.length) = some n) (hR : rm.frames + 1 ≤ R.frames ∧ 8 + (maxL + 11) + rm.locals ≤ R.locals) :
    vx_CSW R s args own index y bytes maxL ret hh ws rm mc ms n := by
  have ok : ∀ w ∈ va_wsS own index y ws, w.before args s = true := fun w h => ht w (hT w h).1
  have hG : GoodIn Ts ws := fun w h => hT w (by unfold va_wsS; exact List.mem_append_right _ h)
  have hc : Cond.codeWith y bytes maxL ret hh ∈ ws := by rw [hw]; exact List.mem_cons_self
  refine ⟨⟨hrc, hrs, hR.1, hR.2, pay_in ht hG, hc⟩, ht _ (hG _ hc).1, ok _ (by simp [va_wsS]), ⟨hd.1, hd.2.1⟩, fun sig h => ?_, ok _ (by simp [va_wsS]), ok _ (by simp [va_wsS])⟩
  have h2 := hd.2.2
  rw [h] at h2
  exact (Option.some.inj h2).symm
theorem vx_callSW (X : Stand p l e R s m args below meth c T locs cells slots) (hexec : p.tables.exec = Jvm.exec) {own : String} {index : Nat} {y : MethodName} {bytes : ByteArray} {maxL : Nat} {ret : Option FieldType} {hh : List (Nat × Nat × Nat × Nat)}
    (hown : s.vm.findClass own = some m.cls) (hlink : (Cond.methodLink own index y).before args s = true) (hstat : (Cond.static y).before args s = true) (hinit : (Cond.initialized y.cls).before args s = true)
    (hcode : (Cond.codeWith y bytes maxL ret hh).before args s = true) (hy : y.cls ≠ "java/lang/invoke/MethodHandle" ∧ y.cls ≠ "java/lang/invoke/VarHandle")
    {W9 : Nat} {Pre : Pt → Array Value → Prop} {Post : Pt → Array Value → Option Value → Pt → Prop} (hK : Back l R p e below s args y 3 W9 Pre Post)
    {g : JFrame} (hg : g.method = m) (hsize : g.locals.size = c.maxLocals) {argsL rest : List Value} (hlen : ∀ sig, parseMethodDescriptor y.desc = some sig → argsL.length = sig.parameters.length)
    (hstack : g.stack = argsL.reverse ++ rest) (hW : 2 * g.monitorRoom + (rest.map fun v => v.category).sum ≤ W9) (hdg : decode c.code g.pc = .ok (.invokestatic index, 3))
    (hpre : ∀ vm₁, s.WarmedH vm₁ → Pre ⟨T.setVm vm₁, locs, cells, slots⟩ argsL.toArray) :
    ∃ (v : Option Value) (vm₁ : Vm) (B : Pt), s.WarmedH vm₁ ∧ Stand p l e R s m args below meth c B.U B.locs B.cells B.slots ∧ Post ⟨T.setVm vm₁, locs, cells, slots⟩ argsL.toArray v B ∧
      ∀ target, Steps p.tables e below (B.U.setTop { g with pc := g.pc + 3, stack := v.toList ++ rest }) target → Steps p.tables e below (T.setTop g) target := by
  obtain ⟨mk, methM, cM, hnamed, hmethM, -, -, -, -, -, -, hsigM⟩ := Cond.codeWith_spec hcode
  have hstatic : methM.isStatic = true := Cond.static_spec hnamed hmethM hstat
  obtain ⟨kP, hkP, -⟩ := className_of_methodNamed hnamed
  have hinitP : kP.init = .initialized := Cond.initialized_spec (findClass_of_methodNamed hnamed) hkP hinit
  obtain ⟨vm₁, X₁, hstep₁⟩ := X.invokestatic hexec hown hlink hnamed hmethM hstatic hkP hinitP hy (g := g) hg (argsL := argsL) (rest := rest) (hlen _ hsigM) hstack hdg
  obtain ⟨v, B, X', hpost, hsteps⟩ := hK m meth c ⟨T.setVm vm₁, locs, cells, slots⟩ { g with stack := rest } (.invokestatic index) mk argsL.toArray X₁ hg hsize hdg hW (X₁.named hnamed) (hpre vm₁ X₁.warmed)
  exact ⟨v, vm₁, B, X₁.warmed, X', hpost, fun target h => hstep₁ _ fun acts => by rw [doInvoke_state]; exact hsteps.trans h⟩
theorem vx_runSW {y : MethodName} {bytes cc : ByteArray} {maxL nL mc ms n index : Nat} {ret : Option FieldType} {hh : List (Nat × Nat × Nat × Nat)} {ws : List Cond} {rm : Room} {Pc : Array Value → State → Prop} {Qc : Array Value → State → Outcome → State → Prop} {free : Addr → Prop} {Ts : List Cond} {own : String} {As rest : List Value} {g : JFrame}
    (S : CallFix p m c cc nL s args Ts own) (hM : Met l y ws rm Pc Qc mc ms free) (cw : vx_CSW R s args own index y bytes maxL ret hh ws rm mc ms n) (hp : PreS s H Pc As)
    (hg : g.method = m) (hn : As.length = n) (hsize : g.locals.size = nL) (hstack : g.stack = As.reverse ++ rest) (hW : 2 * g.monitorRoom + (rest.map fun v => v.category).sum ≤ 8) (hdg : decode cc g.pc = .ok (.invokestatic index, 3)) (hf : cells + mc ≤ R.cells ∧ slots + ms ≤ R.slots) :
    va_Run p l e R s m args below meth c H locs cells slots mc ms g rest (Qc As.toArray) (free) := by
  obtain ⟨⟨hrc, hrs, hfr, hlo, hws, hcw⟩, hcode, hini, hy, hlen, hl, hstt⟩ := cw
  have hK : Back l R p e below s args y 3 8 (PreOf R mc ms Pc) (PostOf Qc mc ms free) := va_backW (hh := hh) (bytes := bytes) (maxL := maxL) (ret := ret) hM hp.1 hrc hrs hfr hlo hws hcw (fun a' U hW => word_at hW (Or.inl (by first | rfl | simp [Cond.onTables, Cond.keeps, Cond.steady])) hini)
  obtain ⟨hx, hb, hml, ho, -⟩ := S
  intro T hT X
  obtain ⟨v, vm₁, ⟨U', l2, c2, s2⟩, hW₁, X', ⟨g', mk, t, L, e1, e2, hq, h1, hL, h2, h3⟩, st⟩ := vx_callSW X hx (hh := hh) (bytes := bytes) (maxL := maxL) (ret := ret) ho hl hstt hini hcode hy hK hg (hsize.trans hml.symm) (argsL := As) (rest := rest) (fun sig h => hn.trans (hlen sig h)) hstack hW (by rw [hb]; exact hdg)
    (fun vm₁ hW₁ => ⟨hf.1, hf.2, hp.2 (T.setVm vm₁) hT hW₁⟩)
  dsimp only [Pt.U, Pt.locs, Pt.cells, Pt.slots] at X' e1 e2 h1 h2 h3 st
  subst h1; subst h2; subst h3
  exact ⟨v, (T.setVm vm₁).calling g' mk As.toArray, t, U', L, hT, X', hL, e1, e2, hq, st⟩
/-- not caught here, past rows that name other classes: it goes on to the caller -/
theorem vx_outP {p : Program} {l : Launch} {e : Env} {R : Room} {s : State} {m : MethodId} {args : Array Value} {below : List Frame} {meth : Method} {c : Code} {H : Heap} {locs : List Loc} {cells slots : Nat} {free : Addr → Prop} {ls : Array Slot} {rest : List Value} {Qc : Array Value → State → Outcome → State → Prop} {XC : String → State → State → Prop}
    {pc : Nat} {own E : String} {ce : Cell} {q : Addr} {mc ms : Nat} (hown : s.vm.findClass own = some m.cls) (hlocks : meth.locks = false)
    (hpass : ∀ z ∈ c.exceptionTable.toList, covers z pc = false ∨ (z.catchType ≠ 0 ∧ ∃ nm : String, (Cond.classLink own z.catchType nm).before args s = true ∧ va_Nc E nm s)) (hcell : H[q]? = some ce) (hv : ce.vm = .none) (hcl : s.vm.findClass E = some ce.cls)
    (hx : ∀ t : State, t.heap = H → s.vm.Alike t.vm → XC E s t) (hf : ∀ z ∈ locs, free z.base) (hc : cells ≤ mc) (hs : slots ≤ ms) :
    vx_W p l e R s m args below meth c H locs cells slots (vx_MQ below Qc XC args s mc ms free) (F0 m pc ls rest) q := by
  intro T hT X
  have hpl : e.platform.magicAccessors = ({} : Platform).magicAccessors := by rw [X.admits.platform]
  obtain ⟨vm', hW', X', st⟩ := X.outThrough hlocks q (g := F0 m pc ls rest) rfl rfl rfl (cell := ce) (by rw [hT]; exact hcell) (by rw [hv]; rfl)
    (by obtain ⟨k9, h9, -⟩ := Vm.findClass_spec hcl; exact ⟨k9, h9⟩) (fun z hz => by
      rcases hpass z hz with h | ⟨hz0, nm, hl1, hn1⟩
      · exact Or.inl h
      · obtain ⟨c6, hc6, hcl6⟩ := Cond.classLink_spec hown hl1 e.platform hpl
        obtain ⟨a8, b8, h1, h2, h3⟩ := hn1
        cases Option.some.inj (h1.symm.trans hcl)
        cases Option.some.inj (h2.symm.trans hc6)
        exact Or.inr ⟨hz0, _, hcl6, h3⟩)
  obtain ⟨g₀, hfr⟩ := X'.frames_eq
  have hcell9 : ((T.setVm vm').setFrames (.throwing q :: below)).heap[q]? = some ce := by
    show T.heap[q]? = some ce
    rw [hT]; exact hcell
  have hend : Ended ((T.setVm vm').setFrames (.throwing q :: below)) below (.threw q) := State.frames_setFrames _ (State.cur_lt_of_frames hfr)
  refine ⟨(T.setVm vm').setFrames (.throwing q :: below), ?_, .threw q, X'.here.running, hend, Or.inr ⟨q, rfl, E, ce, locs, hx _ hT (X'.ends _).1.alike, hcell9, hv, hcl, (X'.ends _).1, (X'.ends _).2.mono hc hs, hf⟩⟩
  rw [X.pushThrowing_eq]
  exact st
/-- a thing of a world lies in the heap -/
theorem vx_lt {D : va_G} {cl : List vw_C} {ws : va_W} {H1 : Heap} (h : va_P D cl ws H1) {k : Nat} {q : Nat × va_E} (hk : ws[k]? = some q) : q.1 < H1.size := (h k q hk).lt
end VXS
/-! ===== END ===== -/
/-! ===== BEGIN methods with a table of their own: called by a name, returning or throwing ===== -/
section VXH
/-! vx_backW, vx_callVX, vx_callSX, vx_callVW, vx_runVW, vx_runVX, vx_runSX, vx_ofWH follow the same proofs as their sisters above (Free/Laws.lean, Shelf42/LK1.lean); vx_outP calls Shelf42/NT130.lean (outThrough). -/
section
variable {l : Launch} {R : Room} {p : Program} {e : Env} {below : List Frame} {s : State} {sargs : Array Value} {y : MethodName} {len W9 : Nat}
theorem vx_backW {ws : List Cond} {rm : Room} {Pc : Array Value → State → Prop} {Qc : Array Value → State → Outcome → State → Prop} {XC : String → State → State → Prop} {mc ms : Nat} {free : Addr → Prop} {bytes : ByteArray} {maxL : Nat} {ret : Option FieldType} {hh : List (Nat × Nat × Nat × Nat)}
    (hM : vx_Met l y ws rm Pc Qc XC mc ms free) (hblind : FrameBlind Pc) (hrc : rm.cells = mc) (hrs : rm.slots = ms)
    (hframes : rm.frames + 1 ≤ R.frames) (hlocals : W9 + (maxL + 11) + rm.locals ≤ R.locals)
    (hws : ∀ w ∈ ws, ∀ a' U, s.WarmedH U.vm → w.before a' U = true) (hcode : Cond.codeWith y bytes maxL ret hh ∈ ws) (hinit : ∀ a' U, s.WarmedH U.vm → (Cond.initialized y.cls).before a' U = true) :
    vx_Back l R p e below s sargs y len W9 (PreOf R mc ms Pc) (PostOf Qc mc ms free) (vx_Post XC mc ms free) := by
  intro m meth c A g ig mk a X hg hsize hdg hW hn hp
  have h1 : (headSpec ws rm).pre.before a A.U = true := atoms_intro fun w hw => hws w hw _ _ X.warmed
  have h2 : (Cond.codeWith y bytes maxL ret hh).before a A.U = true := hws _ hcode _ _ X.warmed
  have h3 : (Cond.initialized y.cls).before a A.U = true := hinit _ _ X.warmed
  have h4 : A.cells + (headSpec ws rm).room.cells ≤ R.cells := by rw [show (headSpec ws rm).room.cells = mc from hrc]; exact hp.1
  have h5 : A.slots + (headSpec ws rm).room.slots ≤ R.slots := by rw [show (headSpec ws rm).room.slots = ms from hrs]; exact hp.2.1
  have hPc : Pc a (A.U.calling g mk a) := hblind _ _ _ _ hp.2.2
  obtain ⟨U, Ls, c0, s0⟩ := A
  dsimp only [Pt.U, Pt.locs, Pt.cells, Pt.slots] at h1 h2 h3 h4 h5 X hn hPc ⊢
  obtain ⟨m9, methY, cY, hn9, hmY, hcY, -, hlY, -⟩ := Cond.codeWith_spec h2
  cases Option.some.inj (hn9.symm.trans hn)
  obtain ⟨kY, hkY, -⟩ := className_of_methodNamed hn
  have hinitY : kY.init = .initialized := Cond.initialized_spec (findClass_of_methodNamed hn) hkY h3
  have h : At U g.method c below := by rw [hg]; exact X.here
  have hlocals9 : W9 + (maxL + 11) + (headSpec ws rm).room.locals ≤ R.locals := hlocals
  have happ : (headSpec ws rm).appliesLoose y e.platform (U.calling g mk a) = true :=
    Spec.appliesLoose_calling (g := g) h hdg hn hkY hinitY
      (X.room_calling (g := g) (R' := (headSpec ws rm).room) hsize hmY hcY hframes (by rw [hlY]; omega) h4 h5) h1
  obtain ⟨mid, hmid⟩ := h.above
  have hfr : (U.setTop g).frames = (.java g :: mid) ++ below := by rw [State.frames_setTop' g h.top, hmid]; rfl
  obtain ⟨o, s₂, hsteps, -, hend, hq⟩ := Steps.callFree hM p X.admits X.cas X.clock (acts := []) hfr happ hPc trivial
  have hq' : vx_Q Qc XC mc ms free a (U.calling g mk a) o s₂ := hq
  rw [State.frames_setTop' g h.top] at hend
  obtain ⟨g₀, hg0⟩ := Option.isSome_iff_exists.mp h.top
  obtain ⟨r, hr⟩ := State.topJava?_eq_some.mp hg0
  have hr' : (({ U with heap := s₂.heap, slotsUsed := s₂.slotsUsed } : State).setVm s₂.vm).frames = .java g₀ :: r := hr
  rcases hq' with ⟨hqc, L, hfe, hL⟩ | ⟨q, rfl, E, ce, L, hx, hce, hcv, hcl, hW₂, hsm, hL⟩
  · obtain ⟨⟨v, rfl⟩, hW₂, e2, q2, q3, q4, q5, q6⟩ := id hfe
    have e3 : s₂ = ({ (U.calling g mk a).setFrames s₂.frames with heap := s₂.heap, slotsUsed := s₂.slotsUsed } : State).setVm s₂.vm := by
      have : s₂ = ({ s₂ with vm := (U.calling g mk a).vm } : State).setVm s₂.vm := rfl
      rw [e2] at this
      exact this
    obtain ⟨c₂, i₂, len₂, hc₂, hd₂, hf₂⟩ := hend
    have hW' : U.WarmedH s₂.vm := hW₂
    have hcc : c₂ = c := by
      have h1 : s₂.code? g.method = U.code? g.method := by
        rw [State.code?_eq, State.code?_eq, hW'.alike.method?]
      exact Option.some.inj (hc₂.symm.trans (h1.trans h.code))
    subst hcc
    have hlen : len₂ = len := by rw [hdg] at hd₂; cases hd₂; rfl
    subst hlen
    have hs₂ : s₂ = (({ U with heap := s₂.heap, slotsUsed := s₂.slotsUsed } : State).setVm s₂.vm).setTop { g with pc := g.pc + len₂, stack := v.toList ++ g.stack } := by
      refine e3.trans ?_
      rw [hf₂, State.calling_eq h.top, State.setFrames_setFrames, State.setTop_of_frames _ hr', hr]
      rfl
    have hsame : U.sameButNew ({ U with heap := s₂.heap, slotsUsed := s₂.slotsUsed } : State) L mc ms := by
      refine ⟨?_, q2, q3, q4, q5, q6⟩
      obtain ⟨t, ht, -⟩ := State.frames_cons hr
      show ({ U with heap := s₂.heap, slotsUsed := s₂.slotsUsed } : State) = { U.setFrames U.frames with heap := s₂.heap, slotsUsed := s₂.slotsUsed }
      rw [State.setFrames_self ht]
    subst hg
    refine Or.inl ⟨v, ⟨(({ U with heap := s₂.heap, slotsUsed := s₂.slotsUsed } : State).setVm s₂.vm), Ls ++ L, c0 + mc, s0 + ms⟩,
      ⟨X.admits, X.cas, X.clock, X.frames, X.room, X.hears, X.method, X.code, (X.here.setHeapUsed s₂.heap s₂.slotsUsed).setVm hW'.alike, X.tail, State.WarmedH.trans X.warmed hW', X.limits, X.bytes, X.same.trans (hsame.setVm s.vm)⟩,
      ⟨g, mk, s₂, L, rfl, rfl, hqc, rfl, hL, rfl, rfl⟩, ?_⟩
    show Steps p.tables e below _ ((({ U with heap := s₂.heap, slotsUsed := s₂.slotsUsed } : State).setVm s₂.vm).setTop { g with pc := g.pc + len₂, stack := v.toList ++ g.stack })
    rw [← hs₂]
    exact hsteps
  · obtain ⟨e2, q2, q3, q4, q5, q6⟩ := id hsm
    have e3 : s₂ = ({ (U.calling g mk a).setFrames s₂.frames with heap := s₂.heap, slotsUsed := s₂.slotsUsed } : State).setVm s₂.vm := by
      have : s₂ = ({ s₂ with vm := (U.calling g mk a).vm } : State).setVm s₂.vm := rfl
      rw [e2] at this
      exact this
    have hf₂ : s₂.frames = .throwing q :: .java g :: U.frames.tail := hend
    have hW' : U.WarmedH s₂.vm := hW₂
    have hs₂ : s₂ = ((({ U with heap := s₂.heap, slotsUsed := s₂.slotsUsed } : State).setVm s₂.vm).setTop g).pushFrame (.throwing q) := by
      refine e3.trans ?_
      rw [hf₂, State.calling_eq h.top, State.setFrames_setFrames, State.pushFrame, State.frames_setTop _ hr', State.setTop_of_frames _ hr', State.setFrames_setFrames, hr]
      rfl
    have hsame : U.sameButNew ({ U with heap := s₂.heap, slotsUsed := s₂.slotsUsed } : State) L mc ms := by
      refine ⟨?_, q2, q3, q4, q5, q6⟩
      obtain ⟨t, ht, -⟩ := State.frames_cons hr
      show ({ U with heap := s₂.heap, slotsUsed := s₂.slotsUsed } : State) = { U.setFrames U.frames with heap := s₂.heap, slotsUsed := s₂.slotsUsed }
      rw [State.setFrames_self ht]
    subst hg
    refine Or.inr ⟨q, ⟨(({ U with heap := s₂.heap, slotsUsed := s₂.slotsUsed } : State).setVm s₂.vm), Ls ++ L, c0 + mc, s0 + ms⟩,
      ⟨X.admits, X.cas, X.clock, X.frames, X.room, X.hears, X.method, X.code, (X.here.setHeapUsed s₂.heap s₂.slotsUsed).setVm hW'.alike, X.tail, State.WarmedH.trans X.warmed hW', X.limits, X.bytes, X.same.trans (hsame.setVm s.vm)⟩,
      ⟨g, mk, s₂, L, E, ce, rfl, rfl, hx, hce, hcv, hcl, rfl, hL, rfl, rfl⟩, ?_⟩
    show Steps p.tables e below _ (((({ U with heap := s₂.heap, slotsUsed := s₂.slotsUsed } : State).setVm s₂.vm).setTop g).pushFrame (.throwing q))
    rw [← hs₂]
    exact hsteps
end
variable {p : Program} {l : Launch} {e : Env} {R : Room} {s : State} {m : MethodId} {args : Array Value} {below : List Frame} {meth : Method} {c : Code} {T : State} {H : Heap} {locs : List Loc} {cells slots : Nat}
theorem vx_callVX (X : Stand p l e R s m args below meth c T locs cells slots) (hexec : p.tables.exec = Jvm.exec) {own C : String} {index : Nat} {y : MethodName} {bytes : ByteArray} {maxL : Nat} {ret : Option FieldType} {hh : List (Nat × Nat × Nat × Nat)}
    (hown : s.vm.findClass own = some m.cls) (hlink : (Cond.methodLink own index y).before args s = true) (hinst : (Cond.instanceMethod y).before args s = true) (hsel : (Cond.selects C y y).before args s = true)
    (hcode : (Cond.codeWith y bytes maxL ret hh).before args s = true) (hy : y.cls ≠ "java/lang/invoke/MethodHandle" ∧ y.cls ≠ "java/lang/invoke/VarHandle")
    {W9 : Nat} {Pre : Pt → Array Value → Prop} {Post : Pt → Array Value → Option Value → Pt → Prop} {PostX : Pt → Array Value → Addr → Pt → Prop} (hK : vx_Back l R p e below s args y 3 W9 Pre Post PostX)
    {b : Addr} {cellB : Cell} (hcell : T.heap[b]? = some cellB) (hobj : cellB.vm.isStatics = false) (hcls : s.vm.findClass C = some cellB.cls)
    {g : JFrame} (hg : g.method = m) (hsize : g.locals.size = c.maxLocals) {argsL rest : List Value} (hlen : ∀ sig, parseMethodDescriptor y.desc = some sig → argsL.length = sig.parameters.length)
    (hstack : g.stack = argsL.reverse ++ .ref b :: rest) (hW : 2 * g.monitorRoom + (rest.map fun v => v.category).sum ≤ W9) (hdg : decode c.code g.pc = .ok (.invokevirtual index, 3))
    (hpre : ∀ vm₁, s.WarmedH vm₁ → Pre ⟨T.setVm vm₁, locs, cells, slots⟩ (Value.ref b :: argsL).toArray) :
    (∃ (v : Option Value) (vm₁ : Vm) (B : Pt), s.WarmedH vm₁ ∧ Stand p l e R s m args below meth c B.U B.locs B.cells B.slots ∧ Post ⟨T.setVm vm₁, locs, cells, slots⟩ (Value.ref b :: argsL).toArray v B ∧
      ∀ target, Steps p.tables e below (B.U.setTop { g with pc := g.pc + 3, stack := v.toList ++ rest }) target → Steps p.tables e below (T.setTop g) target) ∨
    (∃ (q : Addr) (vm₁ : Vm) (B : Pt), s.WarmedH vm₁ ∧ Stand p l e R s m args below meth c B.U B.locs B.cells B.slots ∧ PostX ⟨T.setVm vm₁, locs, cells, slots⟩ (Value.ref b :: argsL).toArray q B ∧
      Steps p.tables e below (T.setTop g) ((B.U.setTop { g with stack := rest }).pushFrame (.throwing q))) := by
  obtain ⟨mk, methM, hnamed, hmethM, hstM, habM⟩ := Cond.instanceMethod_spec hinst
  obtain ⟨m8, methM', cM, hn8, hmethM', -, -, -, -, -, -, hsigM⟩ := Cond.codeWith_spec hcode
  cases Option.some.inj (hn8.symm.trans hnamed)
  cases hmethM.symm.trans hmethM'
  obtain ⟨c2, r2, m2, q1, q2, q3, q4, kP, hkP, hkPi⟩ := Cond.selects_spec hsel
  cases hcls.symm.trans q1
  cases (State.methodFound?_of_named hnamed hy).symm.trans q2
  cases hnamed.symm.trans q3
  have hselP : selectMethod e.platform s.vm cellB.cls mk = .method mk := by rw [Launch.admits_selectMethod X.admits]; exact q4
  obtain ⟨vm₁, X₁, hstep₁⟩ := X.invokevirtual hexec hown hlink hnamed hmethM hstM hkP hkPi hy (a := b) (cell := cellB) hcell
    (fun z h => by rw [h] at hobj; cases hobj) hselP hmethM habM hkP hkPi (g := g) hg (argsL := argsL) (rest := rest) (hlen _ hsigM) hstack hdg
  rcases hK m meth c ⟨T.setVm vm₁, locs, cells, slots⟩ { g with stack := rest } (.invokevirtual index) mk (Value.ref b :: argsL).toArray X₁ hg hsize hdg hW (X₁.named hnamed) (hpre vm₁ X₁.warmed) with ⟨v, B, X', hpost, hsteps⟩ | ⟨q, B, X', hpost, hsteps⟩
  · exact Or.inl ⟨v, vm₁, B, X₁.warmed, X', hpost, fun target h => hstep₁ _ fun acts => by rw [doInvoke_state]; exact hsteps.trans h⟩
  · exact Or.inr ⟨q, vm₁, B, X₁.warmed, X', hpost, hstep₁ _ fun acts => by rw [doInvoke_state]; exact hsteps⟩
theorem vx_callSX (X : Stand p l e R s m args below meth c T locs cells slots) (hexec : p.tables.exec = Jvm.exec) {own : String} {index : Nat} {y : MethodName} {bytes : ByteArray} {maxL : Nat} {ret : Option FieldType} {hh : List (Nat × Nat × Nat × Nat)}
    (hown : s.vm.findClass own = some m.cls) (hlink : (Cond.methodLink own index y).before args s = true) (hstat : (Cond.static y).before args s = true) (hinit : (Cond.initialized y.cls).before args s = true)
    (hcode : (Cond.codeWith y bytes maxL ret hh).before args s = true) (hy : y.cls ≠ "java/lang/invoke/MethodHandle" ∧ y.cls ≠ "java/lang/invoke/VarHandle")
    {W9 : Nat} {Pre : Pt → Array Value → Prop} {Post : Pt → Array Value → Option Value → Pt → Prop} {PostX : Pt → Array Value → Addr → Pt → Prop} (hK : vx_Back l R p e below s args y 3 W9 Pre Post PostX)
    {g : JFrame} (hg : g.method = m) (hsize : g.locals.size = c.maxLocals) {argsL rest : List Value} (hlen : ∀ sig, parseMethodDescriptor y.desc = some sig → argsL.length = sig.parameters.length)
    (hstack : g.stack = argsL.reverse ++ rest) (hW : 2 * g.monitorRoom + (rest.map fun v => v.category).sum ≤ W9) (hdg : decode c.code g.pc = .ok (.invokestatic index, 3))
    (hpre : ∀ vm₁, s.WarmedH vm₁ → Pre ⟨T.setVm vm₁, locs, cells, slots⟩ argsL.toArray) :
    (∃ (v : Option Value) (vm₁ : Vm) (B : Pt), s.WarmedH vm₁ ∧ Stand p l e R s m args below meth c B.U B.locs B.cells B.slots ∧ Post ⟨T.setVm vm₁, locs, cells, slots⟩ argsL.toArray v B ∧
      ∀ target, Steps p.tables e below (B.U.setTop { g with pc := g.pc + 3, stack := v.toList ++ rest }) target → Steps p.tables e below (T.setTop g) target) ∨
    (∃ (q : Addr) (vm₁ : Vm) (B : Pt), s.WarmedH vm₁ ∧ Stand p l e R s m args below meth c B.U B.locs B.cells B.slots ∧ PostX ⟨T.setVm vm₁, locs, cells, slots⟩ argsL.toArray q B ∧
      Steps p.tables e below (T.setTop g) ((B.U.setTop { g with stack := rest }).pushFrame (.throwing q))) := by
  obtain ⟨mk, methM, cM, hnamed, hmethM, -, -, -, -, -, -, hsigM⟩ := Cond.codeWith_spec hcode
  have hstatic : methM.isStatic = true := Cond.static_spec hnamed hmethM hstat
  obtain ⟨kP, hkP, -⟩ := className_of_methodNamed hnamed
  have hinitP : kP.init = .initialized := Cond.initialized_spec (findClass_of_methodNamed hnamed) hkP hinit
  obtain ⟨vm₁, X₁, hstep₁⟩ := X.invokestatic hexec hown hlink hnamed hmethM hstatic hkP hinitP hy (g := g) hg (argsL := argsL) (rest := rest) (hlen _ hsigM) hstack hdg
  rcases hK m meth c ⟨T.setVm vm₁, locs, cells, slots⟩ { g with stack := rest } (.invokestatic index) mk argsL.toArray X₁ hg hsize hdg hW (X₁.named hnamed) (hpre vm₁ X₁.warmed) with ⟨v, B, X', hpost, hsteps⟩ | ⟨q, B, X', hpost, hsteps⟩
  · exact Or.inl ⟨v, vm₁, B, X₁.warmed, X', hpost, fun target h => hstep₁ _ fun acts => by rw [doInvoke_state]; exact hsteps.trans h⟩
  · exact Or.inr ⟨q, vm₁, B, X₁.warmed, X', hpost, hstep₁ _ fun acts => by rw [doInvoke_state]; exact hsteps⟩
theorem vx_callVW (X : Stand p l e R s m args below meth c T locs cells slots) (hexec : p.tables.exec = Jvm.exec) {own C : String} {index : Nat} {y : MethodName} {bytes : ByteArray} {maxL : Nat} {ret : Option FieldType} {hh : List (Nat × Nat × Nat × Nat)}
    (hown : s.vm.findClass own = some m.cls) (hlink : (Cond.methodLink own index y).before args s = true) (hinst : (Cond.instanceMethod y).before args s = true) (hsel : (Cond.selects C y y).before args s = true)
    (hcode : (Cond.codeWith y bytes maxL ret hh).before args s = true) (hy : y.cls ≠ "java/lang/invoke/MethodHandle" ∧ y.cls ≠ "java/lang/invoke/VarHandle")
    {W9 : Nat} {Pre : Pt → Array Value → Prop} {Post : Pt → Array Value → Option Value → Pt → Prop} (hK : Back l R p e below s args y 3 W9 Pre Post)
    {b : Addr} {cellB : Cell} (hcell : T.heap[b]? = some cellB) (hobj : cellB.vm.isStatics = false) (hcls : s.vm.findClass C = some cellB.cls)
    {g : JFrame} (hg : g.method = m) (hsize : g.locals.size = c.maxLocals) {argsL rest : List Value} (hlen : ∀ sig, parseMethodDescriptor y.desc = some sig → argsL.length = sig.parameters.length)
    (hstack : g.stack = argsL.reverse ++ .ref b :: rest) (hW : 2 * g.monitorRoom + (rest.map fun v => v.category).sum ≤ W9) (hdg : decode c.code g.pc = .ok (.invokevirtual index, 3))
    (hpre : ∀ vm₁, s.WarmedH vm₁ → Pre ⟨T.setVm vm₁, locs, cells, slots⟩ (Value.ref b :: argsL).toArray) :
    ∃ (v : Option Value) (vm₁ : Vm) (B : Pt), s.WarmedH vm₁ ∧ Stand p l e R s m args below meth c B.U B.locs B.cells B.slots ∧ Post ⟨T.setVm vm₁, locs, cells, slots⟩ (Value.ref b :: argsL).toArray v B ∧
      ∀ target, Steps p.tables e below (B.U.setTop { g with pc := g.pc + 3, stack := v.toList ++ rest }) target → Steps p.tables e below (T.setTop g) target := by
  obtain ⟨mk, methM, hnamed, hmethM, hstM, habM⟩ := Cond.instanceMethod_spec hinst
  obtain ⟨m8, methM', cM, hn8, hmethM', -, -, -, -, -, -, hsigM⟩ := Cond.codeWith_spec hcode
  cases Option.some.inj (hn8.symm.trans hnamed)
  cases hmethM.symm.trans hmethM'
  obtain ⟨c2, r2, m2, q1, q2, q3, q4, kP, hkP, hkPi⟩ := Cond.selects_spec hsel
  cases hcls.symm.trans q1
  cases (State.methodFound?_of_named hnamed hy).symm.trans q2
  cases hnamed.symm.trans q3
  have hselP : selectMethod e.platform s.vm cellB.cls mk = .method mk := by rw [Launch.admits_selectMethod X.admits]; exact q4
  obtain ⟨vm₁, X₁, hstep₁⟩ := X.invokevirtual hexec hown hlink hnamed hmethM hstM hkP hkPi hy (a := b) (cell := cellB) hcell
    (fun z h => by rw [h] at hobj; cases hobj) hselP hmethM habM hkP hkPi (g := g) hg (argsL := argsL) (rest := rest) (hlen _ hsigM) hstack hdg
  obtain ⟨v, B, X', hpost, hsteps⟩ := hK m meth c ⟨T.setVm vm₁, locs, cells, slots⟩ { g with stack := rest } (.invokevirtual index) mk (Value.ref b :: argsL).toArray X₁ hg hsize hdg hW (X₁.named hnamed) (hpre vm₁ X₁.warmed)
  exact ⟨v, vm₁, B, X₁.warmed, X', hpost, fun target h => hstep₁ _ fun acts => by rw [doInvoke_state]; exact hsteps.trans h⟩
abbrev vx_CVW (R : Room) (s : State) (args : Array Value) (own C : String) (index : Nat) (y : MethodName) (bytes : ByteArray) (maxL : Nat) (ret : Option FieldType) (hh : List (Nat × Nat × Nat × Nat)) (ws : List Cond) (rm : Room) (mc ms n : Nat) : Prop :=
  (rm.cells = mc ∧ rm.slots = ms ∧ rm.frames + 1 ≤ R.frames ∧ 8 + (maxL + 11) + rm.locals ≤ R.locals ∧ (∀ w ∈ ws, ∀ (a' : Array Value) (U : State), s.WarmedH U.vm → w.before a' U = true) ∧ Cond.codeWith y bytes maxL ret hh ∈ ws) ∧
  (Cond.codeWith y bytes maxL ret hh).before args s = true ∧ (Cond.initialized y.cls).before args s = true ∧ (y.cls ≠ "java/lang/invoke/MethodHandle" ∧ y.cls ≠ "java/lang/invoke/VarHandle") ∧
  (∀ sig, parseMethodDescriptor y.desc = some sig → n = sig.parameters.length) ∧ (Cond.methodLink own index y).before args s = true ∧ (Cond.instanceMethod y).before args s = true ∧ (Cond.selects C y y).before args s = true
theorem vx_cwVW {own C : String} {index maxL mc ms : Nat} {y : MethodName} {bytes : ByteArray} {ret : Option FieldType} {hh : List (Nat × Nat × Nat × Nat)} {Ts ws ws' : List Cond} {rm : Room} (n : Nat) (ht : ∀ w ∈ Ts, w.before args s = true) (hT : GoodIn Ts (wsV own index C y ws)) (hw : ws = Cond.codeWith y bytes maxL ret hh :: ws') (hrc : rm.cells = mc) (hrs : rm.slots = ms)
    (hd : y.cls = C ∧ y.cls ≠ "java/lang/invoke/MethodHandle" ∧ y.cls ≠ "java/lang/invoke/VarHandle" ∧ (parseMethodDescriptor y.desc).map (fun d => d.parameters.length) = some n) (hR : rm.frames + 1 ≤ R.frames ∧ 8 + (maxL + 11) + rm.locals ≤ R.locals) :
    vx_CVW R s args own C index y bytes maxL ret hh ws rm mc ms n := by
  obtain ⟨hC, hd⟩ := hd
  subst hC
  have ok : ∀ w ∈ wsV own index y.cls y ws, w.before args s = true := fun w h => ht w (hT w h).1
  have hG : GoodIn Ts ws := fun w h => hT w (by unfold wsV; exact List.mem_append_right _ h)
  have hc : Cond.codeWith y bytes maxL ret hh ∈ ws := by rw [hw]; exact List.mem_cons_self
  refine ⟨⟨hrc, hrs, hR.1, hR.2, pay_in ht hG, hc⟩, ht _ (hG _ hc).1, ok _ (by simp [wsV]), ⟨hd.1, hd.2.1⟩, fun sig h => ?_, ok _ (by simp [wsV]), ok _ (by simp [wsV]), ok _ (by simp [wsV])⟩
  have h2 := hd.2.2
  rw [h] at h2
  exact (Option.some.inj h2).symm
theorem vx_runVW {y : MethodName} {bytes cc : ByteArray} {maxL nL mc ms n index : Nat} {ret : Option FieldType} {hh : List (Nat × Nat × Nat × Nat)} {ws : List Cond} {rm : Room} {Pc : Array Value → State → Prop} {Qc : Array Value → State → Outcome → State → Prop} {free : Addr → Prop} {Ts : List Cond} {own C : String} {b : Addr} {As rest : List Value} {g : JFrame}
    (S : CallFix p m c cc nL s args Ts own) (hM : Met l y ws rm Pc Qc mc ms free) (cw : vx_CVW R s args own C index y bytes maxL ret hh ws rm mc ms n) (hp : PreV s H C b Pc As)
    (hg : g.method = m) (hn : As.length = n) (hsize : g.locals.size = nL) (hstack : g.stack = As.reverse ++ .ref b :: rest) (hW : 2 * g.monitorRoom + (rest.map fun v => v.category).sum ≤ 8) (hdg : decode cc g.pc = .ok (.invokevirtual index, 3)) (hf : cells + mc ≤ R.cells ∧ slots + ms ≤ R.slots) :
    va_Run p l e R s m args below meth c H locs cells slots mc ms g rest (Qc (Value.ref b :: As).toArray) free := by
  obtain ⟨⟨hrc, hrs, hfr, hlo, hws, hcw⟩, hcode, hini, hy, hlen, hl, hin, hse⟩ := cw
  have hK : Back l R p e below s args y 3 8 (PreOf R mc ms Pc) (PostOf Qc mc ms free) := va_backW (hh := hh) (bytes := bytes) (maxL := maxL) (ret := ret) hM hp.1 hrc hrs hfr hlo hws hcw (fun a' U hW => word_at hW (Or.inl (by first | rfl | simp [Cond.onTables, Cond.keeps, Cond.steady])) hini)
  obtain ⟨hx, hb, hml, ho, -⟩ := S
  obtain ⟨-, ⟨cellB, hcB, hoB, hclB⟩, hPc⟩ := hp
  intro T hT X
  obtain ⟨v, vm₁, ⟨U', l2, c2, s2⟩, hW₁, X', ⟨g', mk, t, L, e1, e2, hq, h1, hL, h2, h3⟩, st⟩ := vx_callVW X hx (C := C) (hh := hh) (bytes := bytes) (maxL := maxL) (ret := ret) ho hl hin hse hcode hy hK (by rw [hT]; exact hcB) hoB hclB hg (hsize.trans hml.symm) (argsL := As) (rest := rest) (fun sig h => hn.trans (hlen sig h)) hstack hW (by rw [hb]; exact hdg)
    (fun vm₁ hW₁ => ⟨hf.1, hf.2, hPc (T.setVm vm₁) hT hW₁⟩)
  dsimp only [Pt.U, Pt.locs, Pt.cells, Pt.slots] at X' e1 e2 h1 h2 h3 st
  subst h1; subst h2; subst h3
  exact ⟨v, (T.setVm vm₁).calling g' mk (Value.ref b :: As).toArray, t, U', L, hT, X', hL, e1, e2, hq, st⟩
section
variable {y : MethodName} {bytes cc : ByteArray} {maxL nL mc ms n index : Nat} {ret : Option FieldType} {ws : List Cond} {rm : Room} {Pc : Array Value → State → Prop} {Qc : Array Value → State → Outcome → State → Prop} {XC : String → State → State → Prop} {free : Addr → Prop} {Ts : List Cond} {own C : String} {b : Addr} {As rest : List Value} {g : JFrame}
theorem vx_runVX {hh : List (Nat × Nat × Nat × Nat)} (S : CallFix p m c cc nL s args Ts own) (hM : vx_Met l y ws rm Pc Qc XC mc ms free) (cw : vx_CVW R s args own C index y bytes maxL ret hh ws rm mc ms n) (hp : PreV s H C b Pc As)
    (hg : g.method = m) (hn : As.length = n) (hsize : g.locals.size = nL) (hstack : g.stack = As.reverse ++ .ref b :: rest) (hW : 2 * g.monitorRoom + (rest.map fun v => v.category).sum ≤ 8) (hdg : decode cc g.pc = .ok (.invokevirtual index, 3)) (hf : cells + mc ≤ R.cells ∧ slots + ms ≤ R.slots) :
    vx_Run p l e R s m args below meth c H locs cells slots mc ms g rest (Qc (Value.ref b :: As).toArray) XC free := by
  obtain ⟨⟨hrc, hrs, hfr, hlo, hws, hcw⟩, hcode, hini, hy, hlen, hl, hin, hse⟩ := cw
  have hK : vx_Back l R p e below s args y 3 8 (PreOf R mc ms Pc) (PostOf Qc mc ms free) (vx_Post XC mc ms free) := vx_backW (hh := hh) (bytes := bytes) (maxL := maxL) (ret := ret) hM hp.1 hrc hrs hfr hlo hws hcw (fun a' U hW => word_at hW (Or.inl (by first | rfl | simp [Cond.onTables, Cond.keeps, Cond.steady])) hini)
  obtain ⟨hx, hb, hml, ho, -⟩ := S
  obtain ⟨-, ⟨cellB, hcB, hoB, hclB⟩, hPc⟩ := hp
  intro T hT X
  rcases vx_callVX X hx (C := C) (hh := hh) (bytes := bytes) (maxL := maxL) (ret := ret) ho hl hin hse hcode hy hK (by rw [hT]; exact hcB) hoB hclB hg (hsize.trans hml.symm) (argsL := As) (rest := rest) (fun sig h => hn.trans (hlen sig h)) hstack hW (by rw [hb]; exact hdg)
    (fun vm₁ hW₁ => ⟨hf.1, hf.2, hPc (T.setVm vm₁) hT hW₁⟩) with ⟨v, vm₁, ⟨U', l2, c2, s2⟩, hW₁, X', ⟨g', mk, t, L, e1, e2, hq, h1, hL, h2, h3⟩, st⟩ | ⟨q, vm₁, ⟨U', l2, c2, s2⟩, hW₁, X', ⟨g', mk, t, L, E, ce, e1, e2, hq, hce, hcv, hcl, h1, hL, h2, h3⟩, st⟩
  · dsimp only [Pt.U, Pt.locs, Pt.cells, Pt.slots] at X' e1 e2 h1 h2 h3 st
    subst h1; subst h2; subst h3
    exact Or.inl ⟨v, (T.setVm vm₁).calling g' mk (Value.ref b :: As).toArray, t, U', L, hT, X', hL, e1, e2, hq, st⟩
  · dsimp only [Pt.U, Pt.locs, Pt.cells, Pt.slots] at X' e1 e2 h1 h2 h3 st hcl
    subst h1; subst h2; subst h3
    exact Or.inr ⟨q, (T.setVm vm₁).calling g' mk (Value.ref b :: As).toArray, t, U', L, E, ce, hT, X', hL, e1, e2, hq, hce, hcv, vx_cls hW₁ hcl, st⟩
theorem vx_runSX {hh : List (Nat × Nat × Nat × Nat)} (S : CallFix p m c cc nL s args Ts own) (hM : vx_Met l y ws rm Pc Qc XC mc ms free) (cw : vx_CSW R s args own index y bytes maxL ret hh ws rm mc ms n) (hp : PreS s H Pc As)
    (hg : g.method = m) (hn : As.length = n) (hsize : g.locals.size = nL) (hstack : g.stack = As.reverse ++ rest) (hW : 2 * g.monitorRoom + (rest.map fun v => v.category).sum ≤ 8) (hdg : decode cc g.pc = .ok (.invokestatic index, 3)) (hf : cells + mc ≤ R.cells ∧ slots + ms ≤ R.slots) :
    vx_Run p l e R s m args below meth c H locs cells slots mc ms g rest (Qc As.toArray) XC free := by
  obtain ⟨⟨hrc, hrs, hfr, hlo, hws, hcw⟩, hcode, hini, hy, hlen, hl, hstt⟩ := cw
  have hK : vx_Back l R p e below s args y 3 8 (PreOf R mc ms Pc) (PostOf Qc mc ms free) (vx_Post XC mc ms free) := vx_backW (hh := hh) (bytes := bytes) (maxL := maxL) (ret := ret) hM hp.1 hrc hrs hfr hlo hws hcw (fun a' U hW => word_at hW (Or.inl (by first | rfl | simp [Cond.onTables, Cond.keeps, Cond.steady])) hini)
  obtain ⟨hx, hb, hml, ho, -⟩ := S
  intro T hT X
  rcases vx_callSX X hx (hh := hh) (bytes := bytes) (maxL := maxL) (ret := ret) ho hl hstt hini hcode hy hK hg (hsize.trans hml.symm) (argsL := As) (rest := rest) (fun sig h => hn.trans (hlen sig h)) hstack hW (by rw [hb]; exact hdg)
    (fun vm₁ hW₁ => ⟨hf.1, hf.2, hp.2 (T.setVm vm₁) hT hW₁⟩) with ⟨v, vm₁, ⟨U', l2, c2, s2⟩, hW₁, X', ⟨g', mk, t, L, e1, e2, hq, h1, hL, h2, h3⟩, st⟩ | ⟨q, vm₁, ⟨U', l2, c2, s2⟩, hW₁, X', ⟨g', mk, t, L, E, ce, e1, e2, hq, hce, hcv, hcl, h1, hL, h2, h3⟩, st⟩
  · dsimp only [Pt.U, Pt.locs, Pt.cells, Pt.slots] at X' e1 e2 h1 h2 h3 st
    subst h1; subst h2; subst h3
    exact Or.inl ⟨v, (T.setVm vm₁).calling g' mk As.toArray, t, U', L, hT, X', hL, e1, e2, hq, st⟩
  · dsimp only [Pt.U, Pt.locs, Pt.cells, Pt.slots] at X' e1 e2 h1 h2 h3 st hcl
    subst h1; subst h2; subst h3
    exact Or.inr ⟨q, (T.setVm vm₁).calling g' mk As.toArray, t, U', L, E, ce, hT, X', hL, e1, e2, hq, hce, hcv, vx_cls hW₁ hcl, st⟩
end
end VXH
theorem vx_ofWH {l : Launch} {y : MethodName} {ws ws' : List Cond} {rm : Room} {Pc : Array Value → State → Prop} {Qc : Array Value → State → Outcome → State → Prop} {XC : String → State → State → Prop} {mc ms : Nat} {free : Addr → Prop} {cc : ByteArray} {maxL : Nat} {ret : Option FieldType} {hh : List (Nat × Nat × Nat × Nat)}
    (hy : plainName y.cls = true) (hw : ws = Cond.codeWith y cc maxL ret hh :: ws')
    (body : ∀ p e s m args below meth c s₁, BodyLoose p l y (headSpec ws rm) cc maxL ret e s m args below meth c s₁ → c.maxLocals = maxL → Pc args s →
      W p l e (headSpec ws rm).room s m args below meth c s.heap [] 0 0 (vx_MQ below Qc XC args s mc ms free) (entryFrame m args maxL)) : vx_Met l y ws rm Pc Qc XC mc ms free := by
  refine MetFree.of_bodyS (code := cc) (maxLocals := maxL) (ret := ret) hy ?_ ?_
  · intro args s m h hn
    obtain ⟨m9, meth, c, hn9, h1, h2, h3, h4, -, h5, h6, -⟩ := Cond.codeWith_spec (atoms_spec (ws := ws) h _ (by rw [hw]; exact List.mem_cons_self))
    cases hn.symm.trans hn9
    exact ⟨meth, c, h1, h2, h3, h4, h5, h6⟩
  · intro p e s m args below meth c s₁ B hml hP _
    have hh0 : s₁.heap = s.heap := by rw [B.state]; rfl
    obtain ⟨t, a1, o, b1, b2, b3⟩ := body p e s m args below meth c s₁ B hml hP s₁ hh0 (Stand.of_body B)
    exact ⟨t, o, a1, b1, b2, b3⟩
/-! ===== END ===== -/
end
section
/-! names: classes, cells, words, methods (by gen/names.py out of the Statement) -/
def ow_T0 : u_T := fun k => match k with
  | 0 => ("OwnerRings", "plan", "LOwnerRings$Plan;", true)
  | 1 => ("OwnerRings", "base", "LOwnerRings$Base;", true)
  | 2 => ("OwnerRings", "keptBase", "LOwnerRings$Base;", true)
  | 3 => ("OwnerRings", "stand", "LOwnerRings$Stand;", true)
  | _ => ("OwnerRings", "everStored", "Z", false)
def ow_ty0 : Nat → FieldType := fun k => match k with
  | 0 => .object "OwnerRings$Plan"
  | 1 => .object "OwnerRings$Base"
  | 2 => .object "OwnerRings$Base"
  | 3 => .object "OwnerRings$Stand"
  | _ => .boolean
def ow_T1 : u_T := fun k => match k with
  | 0 => ("OwnerRings$Plan", "typeCount", "I", false)
  | 1 => ("OwnerRings$Plan", "setCount", "I", false)
  | 2 => ("OwnerRings$Plan", "fieldCount", "[I", true)
  | 3 => ("OwnerRings$Plan", "ownerType", "[I", true)
  | 4 => ("OwnerRings$Plan", "memberType", "[I", true)
  | 5 => ("OwnerRings$Plan", "order", "[I", true)
  | _ => ("OwnerRings$Plan", "kind", "[I", true)
def ow_ty1 : Nat → FieldType := fun k => match k with
  | 0 => .int
  | 1 => .int
  | 2 => .array .int
  | 3 => .array .int
  | 4 => .array .int
  | 5 => .array .int
  | _ => .array .int
def ow_T2 : u_T := fun k => match k with
  | 0 => ("OwnerRings$Base", "recordCount", "I", false)
  | 1 => ("OwnerRings$Base", "nextKey", "I", false)
  | 2 => ("OwnerRings$Base", "keys", "[I", true)
  | 3 => ("OwnerRings$Base", "types", "[I", true)
  | 4 => ("OwnerRings$Base", "fields", "[[I", true)
  | 5 => ("OwnerRings$Base", "owners", "[[I", true)
  | _ => ("OwnerRings$Base", "positions", "[[I", true)
def ow_ty2 : Nat → FieldType := fun k => match k with
  | 0 => .int
  | 1 => .int
  | 2 => .array .int
  | 3 => .array .int
  | 4 => .array (.array .int)
  | 5 => .array (.array .int)
  | _ => .array (.array .int)
def ow_T3 : u_T := fun k => match k with
  | 0 => ("OwnerRings$Stand", "ofRun", "I", false)
  | 1 => ("OwnerRings$Stand", "ofType", "[I", true)
  | _ => ("OwnerRings$Stand", "ofSet", "[I", true)
def ow_ty3 : Nat → FieldType := fun k => match k with
  | 0 => .int
  | 1 => .array .int
  | _ => .array .int
def ow_T4 : u_T := fun k => match k with
  | 0 => ("OwnerRingsModel", "code", "I", false)
  | 1 => ("OwnerRingsModel", "types", "I", false)
  | 2 => ("OwnerRingsModel", "fields", "[I", true)
  | 3 => ("OwnerRingsModel", "sets", "I", false)
  | 4 => ("OwnerRingsModel", "ownerType", "[I", true)
  | 5 => ("OwnerRingsModel", "memberType", "[I", true)
  | 6 => ("OwnerRingsModel", "orders", "[I", true)
  | 7 => ("OwnerRingsModel", "kinds", "[I", true)
  | 8 => ("OwnerRingsModel", "ever", "Z", false)
  | 9 => ("OwnerRingsModel", "nextKey", "I", false)
  | 10 => ("OwnerRingsModel", "key", "[I", true)
  | 11 => ("OwnerRingsModel", "type", "[I", true)
  | 12 => ("OwnerRingsModel", "cell", "[I", true)
  | 13 => ("OwnerRingsModel", "owns", "[I", true)
  | 14 => ("OwnerRingsModel", "list", "[I", true)
  | 15 => ("OwnerRingsModel", "listed", "[I", true)
  | 16 => ("OwnerRingsModel", "run", "I", false)
  | 17 => ("OwnerRingsModel", "ofType", "[I", true)
  | 18 => ("OwnerRingsModel", "ofSet", "[I", true)
  | 19 => ("OwnerRingsModel", "goes", "[Z", true)
  | 20 => ("OwnerRingsModel", "keptNext", "I", false)
  | 21 => ("OwnerRingsModel", "keptKey", "[I", true)
  | 22 => ("OwnerRingsModel", "keptType", "[I", true)
  | 23 => ("OwnerRingsModel", "keptCell", "[I", true)
  | 24 => ("OwnerRingsModel", "keptOwns", "[I", true)
  | 25 => ("OwnerRingsModel", "keptList", "[I", true)
  | _ => ("OwnerRingsModel", "keptListed", "[I", true)
def ow_ty4 : Nat → FieldType := fun k => match k with
  | 0 => .int
  | 1 => .int
  | 2 => .array .int
  | 3 => .int
  | 4 => .array .int
  | 5 => .array .int
  | 6 => .array .int
  | 7 => .array .int
  | 8 => .boolean
  | 9 => .int
  | 10 => .array .int
  | 11 => .array .int
  | 12 => .array .int
  | 13 => .array .int
  | 14 => .array .int
  | 15 => .array .int
  | 16 => .int
  | 17 => .array .int
  | 18 => .array .int
  | 19 => .array .boolean
  | 20 => .int
  | 21 => .array .int
  | 22 => .array .int
  | 23 => .array .int
  | 24 => .array .int
  | 25 => .array .int
  | _ => .array .int
abbrev ow_cl : List vw_C := [("OwnerRings", ow_T0, 5), ("OwnerRings$Plan", ow_T1, 7), ("OwnerRings$Base", ow_T2, 7), ("OwnerRings$Stand", ow_T3, 3), ("OwnerRingsModel", ow_T4, 27)]
def ow_nf : Nat → Nat := fun ci => match ci with
  | 0 => 5
  | 1 => 7
  | 2 => 7
  | 3 => 3
  | _ => 27
/-- which slots of an object hold references -/
def ow_isr : Nat → Nat → Bool := fun ci k => match ci with
  | 0 => ([0, 1, 2, 3] : List Nat).contains k
  | 1 => ([2, 3, 4, 5, 6] : List Nat).contains k
  | 2 => ([2, 3, 4, 5, 6] : List Nat).contains k
  | 3 => ([1, 2] : List Nat).contains k
  | _ => ([2, 4, 5, 6, 7, 10, 11, 12, 13, 14, 15, 17, 18, 19, 21, 22, 23, 24, 25, 26] : List Nat).contains k
/-- the cells, in the order in which they are made: (0, class), (1, ints), (2, booleans), (3, longs), (4, rows) -/
def ow_kds : List (Nat × Nat) := [(0, 0), (0, 1), (1, 4), (1, 5), (1, 5), (1, 5), (1, 5), (0, 2), (1, 24), (1, 24), (4, 3), (1, 24), (1, 24), (1, 24), (4, 5), (1, 24), (1, 24), (1, 24), (1, 24), (1, 24), (4, 5), (1, 24), (1, 24), (1, 24), (1, 24), (1, 24), (0, 2), (1, 24), (1, 24), (4, 3), (1, 24), (1, 24), (1, 24), (4, 5), (1, 24), (1, 24), (1, 24), (1, 24), (1, 24), (4, 5), (1, 24), (1, 24), (1, 24), (1, 24), (1, 24), (0, 3), (1, 4), (1, 5), (0, 4), (1, 4), (1, 5), (1, 5), (1, 5), (1, 5), (1, 24), (1, 24), (1, 72), (1, 120), (1, 120), (1, 5), (1, 4), (1, 5), (2, 24), (1, 24), (1, 24), (1, 72), (1, 120), (1, 120), (1, 5), (3, 1)]
def ow_kd (c : Nat) : Nat × Nat := ow_kds.getD c (9, 0)
/-- the words that a method may use, whatever the tables have learned since -/
def ow_ws : List Cond := lw_tbl.filter goodWord
theorem ow_good : GoodIn ow_ws ow_ws := fun w hw => ⟨hw, good_of_word (List.mem_filter.mp hw).2⟩
theorem tb1 {w : Cond} (i : Nat) (h : tables_1_1[i]? = some w) (g : goodWord w = true) : w ∈ ow_ws := List.mem_filter.mpr ⟨List.mem_append_right _ (List.mem_append_left _ (List.mem_of_getElem? h)), g⟩
theorem tb2 {w : Cond} (i : Nat) (h : tables_1_2[i]? = some w) (g : goodWord w = true) : w ∈ ow_ws := List.mem_filter.mpr ⟨List.mem_append_right _ (List.mem_append_right _ (List.mem_append_left _ (List.mem_of_getElem? h))), g⟩
theorem tb3 {w : Cond} (i : Nat) (h : tables_1_3[i]? = some w) (g : goodWord w = true) : w ∈ ow_ws := List.mem_filter.mpr ⟨List.mem_append_right _ (List.mem_append_right _ (List.mem_append_right _ (List.mem_append_left _ (List.mem_of_getElem? h)))), g⟩
theorem tb4 {w : Cond} (i : Nat) (h : tables_1_4[i]? = some w) (g : goodWord w = true) : w ∈ ow_ws := List.mem_filter.mpr ⟨List.mem_append_right _ (List.mem_append_right _ (List.mem_append_right _ (List.mem_append_right _ (List.mem_of_getElem? h)))), g⟩
theorem tbs {w : Cond} (i : Nat) (h : (k2_sels lw_privs)[i]? = some w) (g : goodWord w = true) : w ∈ ow_ws := List.mem_filter.mpr ⟨List.mem_append_left _ (List.mem_of_getElem? h), g⟩
theorem ow_in0 : ∀ w ∈ u_ws "OwnerRings" ow_T0 5, w ∈ ow_ws := by decide +kernel
theorem ow_nm0 : ∀ a, a < 5 → ∀ b, b < 5 → a ≠ b → (ow_T0 a).2.1 ≠ (ow_T0 b).2.1 := by decide +kernel
theorem ow_tyo0 : ∀ k, k < 5 → parseFieldDescriptor (ow_T0 k).2.2.1 = some (ow_ty0 k) := by decide +kernel
theorem ow_in1 : ∀ w ∈ u_ws "OwnerRings$Plan" ow_T1 7, w ∈ ow_ws := by decide +kernel
theorem ow_nm1 : ∀ a, a < 7 → ∀ b, b < 7 → a ≠ b → (ow_T1 a).2.1 ≠ (ow_T1 b).2.1 := by decide +kernel
theorem ow_tyo1 : ∀ k, k < 7 → parseFieldDescriptor (ow_T1 k).2.2.1 = some (ow_ty1 k) := by decide +kernel
theorem ow_in2 : ∀ w ∈ u_ws "OwnerRings$Base" ow_T2 7, w ∈ ow_ws := by decide +kernel
theorem ow_nm2 : ∀ a, a < 7 → ∀ b, b < 7 → a ≠ b → (ow_T2 a).2.1 ≠ (ow_T2 b).2.1 := by decide +kernel
theorem ow_tyo2 : ∀ k, k < 7 → parseFieldDescriptor (ow_T2 k).2.2.1 = some (ow_ty2 k) := by decide +kernel
theorem ow_in3 : ∀ w ∈ u_ws "OwnerRings$Stand" ow_T3 3, w ∈ ow_ws := by decide +kernel
theorem ow_nm3 : ∀ a, a < 3 → ∀ b, b < 3 → a ≠ b → (ow_T3 a).2.1 ≠ (ow_T3 b).2.1 := by decide +kernel
theorem ow_tyo3 : ∀ k, k < 3 → parseFieldDescriptor (ow_T3 k).2.2.1 = some (ow_ty3 k) := by decide +kernel
theorem ow_in4 : ∀ w ∈ u_ws "OwnerRingsModel" ow_T4 27, w ∈ ow_ws := by decide +kernel
theorem ow_nm4 : ∀ a, a < 27 → ∀ b, b < 27 → a ≠ b → (ow_T4 a).2.1 ≠ (ow_T4 b).2.1 := by decide +kernel
theorem ow_tyo4 : ∀ k, k < 27 → parseFieldDescriptor (ow_T4 k).2.2.1 = some (ow_ty4 k) := by decide +kernel
end
section
/-! THE LAYER: one memory for the whole system; a method's walk said over it, without heap, frames or room -/
/-- how many cells there are; which cell a slot of references names; the ints; the longs; how many makings are still paid for -/
abbrev ow_M : Type := Nat × (Nat → Nat → Option Nat) × (Nat → Nat → Int32) × (Nat → Nat → Int64) × Nat
/-- how a method ends: it returns (an int, or nothing), or throws an exception of a kind -/
abbrev ow_R : Type := Option Int32 ⊕ Nat
/-- a method: its name, code, local variables, return type, handlers -/
abbrev ow_Y : Type := MethodName × ByteArray × Nat × Option FieldType × List (Nat × Nat × Nat × Nat)
def ow_u (f : Nat → Nat → Int32) (c k : Nat) (v : Int32) : Nat → Nat → Int32 := fun a => if a = c then upd (f a) k v else f a
def ow_ul (f : Nat → Nat → Int64) (c k : Nat) (v : Int64) : Nat → Nat → Int64 := fun a => if a = c then vp_updL (f a) k v else f a
def ow_ur (f : Nat → Nat → Option Nat) (c k : Nat) (v : Option Nat) : Nat → Nat → Option Nat := fun a => if a = c then va_up (f a) k v else f a
/-- a slot of an object -/
def ow_sv (ad : Nat → Nat) (u : ow_M) (c ci k : Nat) : Value := if ow_isr ci k = true then va_rf ((u.2.1 c k).map ad) else .int (u.2.2.1 c k)
/-- a cell -/
def ow_E (ids : Nat → ClassId) (ad : Nat → Nat) (u : ow_M) (c : Nat) : va_E := match ow_kd c with
  | (0, ci) => .inr (ci, (List.range (ow_nf ci)).map (ow_sv ad u c ci))
  | (1, n) => .inl (ids 0, n, .inl (u.2.2.1 c))
  | (2, n) => .inl (ids 1, n, .inl (u.2.2.1 c))
  | (3, n) => .inl (ids 2, n, .inr (.inl (u.2.2.2.1 c)))
  | (_, n) => .inl (ids 3, n, .inr (.inr (.inr (.inr (fun j => (u.2.1 c j).map ad)))))
def ow_W (ids : Nat → ClassId) (ad : Nat → Nat) (u : ow_M) : va_W := (List.range u.1).map (fun c => (ad c, ow_E ids ad u c))
def ow_tys (ids : Nat → ClassId) : List (ClassId × FieldType) := [(ids 0, .int), (ids 1, .boolean), (ids 2, .long), (ids 3, .array .int)]
/-- a value of the layer as the machine has it: a reference names a cell by its number, the script by a word of its own -/
def ow_cv (sb : Nat) (ad : Nat → Nat) : Value → Value
  | .ref c => .ref (ad c)
  | .retAddr _ => .ref sb
  | v => v
theorem ow_cat {sb : Nat} {ad : Nat → Nat} {v : Value} (h : v.category = 1) : (ow_cv sb ad v).category = 1 := by
  cases v <;> first | exact h | rfl
/-- the local variables -/
def ow_ls (sb : Nat) (ad : Nat → Nat) (nL : Nat) (L : List (Option Value)) (ls : Array Slot) : Prop :=
  (ls.size = nL ∧ lv_wf ls) ∧ ∀ (i : Nat) (v : Value), L[i]? = some (some v) → v.category = 1 ∧ ls[i]? = some (.val (ow_cv sb ad v))
def ow_lv (sb : Nat) (ad : Nat → Nat) (L : List (Option Value)) : List (Nat × Value) := (List.range L.length).filterMap (fun i => (L[i]?.join).map (fun v => (i, ow_cv sb ad v)))
theorem ow_lv_mem {sb : Nat} {ad : Nat → Nat} {L : List (Option Value)} {q : Nat × Value} : q ∈ ow_lv sb ad L ↔ ∃ v, L[q.1]? = some (some v) ∧ q.2 = ow_cv sb ad v := by
  unfold ow_lv
  rw [List.mem_filterMap]
  constructor
  · rintro ⟨i, -, h⟩
    cases hi : L[i]? with
    | none => rw [hi] at h; cases h
    | some o =>
      cases o with
      | none => rw [hi] at h; cases h
      | some v => rw [hi] at h; cases h; exact ⟨v, hi, rfl⟩
  · rintro ⟨v, h1, h2⟩
    refine ⟨q.1, List.mem_range.mpr (List.getElem?_eq_some_iff.mp h1).1, ?_⟩
    rw [h1]
    show some (q.1, ow_cv sb ad v) = some q
    rw [← h2]
theorem ow_ls.at {sb : Nat} {ad : Nat → Nat} {nL : Nat} {L : List (Option Value)} {ls : Array Slot} (h : ow_ls sb ad nL L ls) {i : Nat} {v : Value} (hl : L[i]? = some (some v)) : ls[i]? = some (.val (ow_cv sb ad v)) := (h.2 i v hl).2
theorem ow_ls.has {sb : Nat} {ad : Nat → Nat} {nL : Nat} {L : List (Option Value)} {ls : Array Slot} (h : ow_ls sb ad nL L ls) : lv_has ls nL (ow_lv sb ad L) := by
  refine ⟨h.1.1, h.1.2, fun q hq => ?_⟩
  obtain ⟨v, h1, h2⟩ := ow_lv_mem.mp hq
  rw [h2]
  exact h.at h1
theorem ow_ls.place {sb : Nat} {ad : Nat → Nat} {nL : Nat} {L : List (Option Value)} {ls : Array Slot} (_h : ow_ls sb ad nL L ls) {i : Nat} {v : Value} (hl : L[i]? = some (some v)) : ∃ q : Nat, (ow_lv sb ad L)[q]? = some (i, ow_cv sb ad v) :=
  List.getElem?_of_mem (ow_lv_mem.mpr ⟨v, hl, rfl⟩)
theorem ow_ls.store {sb : Nat} {ad : Nat → Nat} {nL : Nat} {L : List (Option Value)} {ls ls' : Array Slot} (h : ow_ls sb ad nL L ls) {i : Nat} {v : Value} (hc : v.category = 1)
    (h' : lv_has ls' nL ((i, ow_cv sb ad v) :: (ow_lv sb ad L).filter (fun q => !(q.1 == i) && !(q.1 + 1 == i && q.2.category == 2)))) : ow_ls sb ad nL (L.set i (some v)) ls' := by
  refine ⟨⟨h'.1, h'.2.1⟩, fun j w hj => ?_⟩
  by_cases hji : j = i
  · subst hji
    have hlt : j < L.length := by
      have := (List.getElem?_eq_some_iff.mp hj).1
      simpa using this
    rw [List.getElem?_set_self hlt] at hj
    cases hj
    exact ⟨hc, h'.2.2 (j, ow_cv sb ad v) List.mem_cons_self⟩
  · rw [List.getElem?_set_ne (Ne.symm hji)] at hj
    have hw := h.2 j w hj
    refine ⟨hw.1, h'.2.2 (j, ow_cv sb ad w) (List.mem_cons_of_mem _ (List.mem_filter.mpr ⟨ow_lv_mem.mpr ⟨w, hj, rfl⟩, ?_⟩))⟩
    have hcw : (ow_cv sb ad w).category = 1 := ow_cat hw.1
    simp [hji, hcw]
/-- a local variable is forgotten -/
theorem ow_ls.forget {sb : Nat} {ad : Nat → Nat} {nL : Nat} {L : List (Option Value)} {ls : Array Slot} (h : ow_ls sb ad nL L ls) {L' : List (Option Value)} (hs : ∀ (i : Nat) (v : Value), L'[i]? = some (some v) → L[i]? = some (some v)) : ow_ls sb ad nL L' ls :=
  ⟨h.1, fun i v hi => h.2 i v (hs i v hi)⟩
theorem ow_args (sb : Nat) (ad : Nat → Nat) : ∀ (vs : List Value) (k : Nat), (∀ v ∈ vs, v.category = 1) → ∀ (i : Nat) (v : Value), vs[i]? = some v → (k + i, ow_cv sb ad v) ∈ lv_args k (vs.map (ow_cv sb ad))
  | [], _, _, i, v, h => by simp at h
  | w :: vs, k, hc, i, v, h => by
    have hw : (ow_cv sb ad w).category = 1 := ow_cat (hc w List.mem_cons_self)
    have e : lv_args k ((w :: vs).map (ow_cv sb ad)) = (k, ow_cv sb ad w) :: lv_args (k + 1) (vs.map (ow_cv sb ad)) := by
      show (k, ow_cv sb ad w) :: lv_args (if (ow_cv sb ad w).category = 2 then k + 2 else k + 1) _ = _
      rw [hw]; rfl
    rw [e]
    cases i with
    | zero => rw [List.getElem?_cons_zero] at h; cases h; exact List.mem_cons_self
    | succ i =>
      rw [List.getElem?_cons_succ] at h
      have := ow_args sb ad vs (k + 1) (fun z hz => hc z (List.mem_cons_of_mem _ hz)) i v h
      rw [show k + 1 + i = k + (i + 1) by omega] at this
      exact List.mem_cons_of_mem _ this
theorem ow_entry (sb : Nat) (ad : Nat → Nat) (vs : List Value) (hc : ∀ v ∈ vs, v.category = 1) {nL : Nat} {ls : Array Slot} (h : lv_has ls nL (lv_args 0 (vs.map (ow_cv sb ad)))) (k : Nat) : ow_ls sb ad nL (vs.map some ++ List.replicate k none) ls := by
  refine ⟨⟨h.1, h.2.1⟩, fun i v hi => ?_⟩
  have hv : vs[i]? = some v := by
    by_cases hl : i < vs.length
    · rw [List.getElem?_append_left (by simpa using hl), List.getElem?_map] at hi
      cases hz : vs[i]? with
      | none => rw [hz] at hi; cases hi
      | some w => rw [hz] at hi; cases hi; rfl
    · rw [List.getElem?_append_right (by simpa using hl)] at hi
      have := List.eq_of_mem_replicate (List.mem_of_getElem? hi)
      cases this
  have := ow_args sb ad vs 0 hc i v hv
  rw [Nat.zero_add] at this
  exact ⟨hc v (List.mem_of_getElem? hv), h.2.2 _ this⟩
/-- the exceptions, by number -/
def ow_exn : Nat → String := fun k => match k with
  | 0 => "java/lang/IllegalArgumentException"
  | 1 => "java/lang/IllegalStateException"
  | _ => "java/util/NoSuchElementException"
/-- an exception of the kind kx lies at x -/
def ow_ex (kx x : Nat) (s : State) (H : Heap) : Prop := ∃ ce : Cell, H[x]? = some ce ∧ ce.vm = .none ∧ s.vm.findClass (ow_exn kx) = some ce.cls
theorem ow_ex.back {kx x : Nat} {s U : State} {H : Heap} (hW : s.WarmedH U.vm) (h : ow_ex kx x U H) : ow_ex kx x s H := by
  obtain ⟨ce, h1, h2, h3⟩ := h
  refine ⟨ce, h1, h2, ?_⟩
  rw [hW.alike.findClass] at h3
  exact h3
/-- words on members that look at no entry -/
def ow_fw : List Cond := lw_tbl.filter (fun w => w.onTables && w.faceAtom)
def ow_nw1 : Cond := .methodLinkNest "OwnerRings" 9 ⟨"OwnerRings$Plan", "<init>", "()V"⟩ "OwnerRings"
def ow_nw2 : Cond := .methodLinkNest "OwnerRings$Base" 50 ⟨"OwnerRings", "hasBit", "(II)Z"⟩ "OwnerRings"
/-- the texts of the exceptions -/
def ow_strs : List (String × Nat × String) := [("OwnerRings", 39, "a type has 1 to 3 fields"), ("OwnerRings", 50, "no more types can be declared"), ("OwnerRings", 61, "a set needs two types"), ("OwnerRings", 67, "no such order or class"), ("OwnerRings", 72, "no more sets can be declared"), ("OwnerRings", 78, "no such type"), ("OwnerRings", 88, "there are 24 records"), ("OwnerRings", 124, "no such type or field"), ("OwnerRings", 136, "no such way to move"), ("OwnerRings", 145, "no such field"), ("OwnerRings", 173, "nothing that has a current record"), ("OwnerRings", 196, "it cannot become a member"), ("OwnerRings", 204, "it cannot leave"), ("OwnerRings", 212, "it cannot change its ring"), ("OwnerRings", 214, "no such mode"), ("OwnerRings", 222, "it owns members"), ("OwnerRings", 227, "a bound member would be without a ring"), ("OwnerRings", 256, "no such set"), ("OwnerRings", 263, "no record with this key"), ("OwnerRings", 266, "no record is current of the run"), ("OwnerRings", 268, "the set has no current owner"), ("OwnerRings", 289, "the ring has a member with this value"), ("OwnerRings", 294, "no such record")]
/-- what else a method takes of its start -/
def ow_G (s : State) (A : Nat → Prop) : Prop := (∀ w ∈ ow_fw, w.before #[] s = true) ∧ va_Nw ow_nw1 s ∧ va_Nw ow_nw2 s ∧ va_AOA .int s ∧ vx_Zq Bundle.tN "UNASSIGNED_STACK" Bundle.steD A s s.heap ∧ vx_Zq Bundle.tN "SUPPRESSED_SENTINEL" Bundle.listD A s s.heap ∧
  (∀ q ∈ ow_strs, ∃ a, vk_R q.1 q.2.1 q.2.2 a s) ∧ ∀ i, i < 3 → ∀ j, j < 3 → i ≠ j → va_Nc (ow_exn i) (ow_exn j) s
theorem ow_G.moved {s : State} {A A' : Nat → Prop} {locs : List Loc} (V : State) (hW : s.WarmedH V.vm) (hS : va_S A s.heap V.heap locs) (hA : ∀ q, A' q → A q) (h : ow_G s A) : ow_G V A' := by
  obtain ⟨g1, g2, g3, g4, g5, g6, g7, g8⟩ := h
  refine ⟨fun w hw => ?_, g2.warmM hW, g3.warmM hW, over_moved (a := #[]) (a' := #[]) hW.alike g4, ((g5.kept hS.2.1).moved hW.alike).narrow hA, ((g6.kept hS.2.1).moved hW.alike).narrow hA, fun q hq => ?_, fun i hi j hj hij => (g8 i hi j hj hij).moved hW.alike⟩
  · have hf := (List.mem_filter.mp hw).2
    rw [Bool.and_eq_true] at hf
    exact va_tabs hf.1 (rfl : (s.setVm V.vm).vm = V.vm) (Cond.faceAtom_setVm hW.alike w hf.2 (g1 w hw))
  · obtain ⟨a, ha⟩ := g7 q hq
    exact ⟨a, ha.warm hW⟩
/-- what stays the same all along a method's walk -/
def ow_X (Y : ow_Y) (sc : Option (Nat × (Nat → Int32))) (d : Nat × Nat) (b0 sb : Nat) (ids : Nat → ClassId) (D : va_G) (A : Nat → Prop) (p : Program) (R : Room) (s : State) (m : MethodId) (args : Array Value) (meth : Method) (c : Code) : Prop :=
  p.tables.exec = Jvm.exec ∧ c.code = Y.2.1 ∧ c.maxLocals = Y.2.2.1 ∧ meth.sig.returnType = Y.2.2.2.1 ∧ meth.locks = false ∧ s.vm.findClass Y.1.cls = some m.cls ∧ meth.name = Y.1.name ∧
  c.exceptionTable.toList.map (fun h => (h.startPc, h.endPc, h.handlerPc, h.catchType)) = Y.2.2.2.2 ∧ (∀ w ∈ ow_ws, w.before args s = true) ∧ va_K D ow_cl (ow_tys ids) s ∧ (∀ q, s.heap.size ≤ q → A q) ∧
  (d.1 ≤ R.frames ∧ d.2 ≤ R.locals ∧ 8 * b0 ≤ R.cells ∧ 128 * b0 ≤ R.slots) ∧ ow_G s A ∧ ∀ (n : Nat) (xs : Nat → Int32), sc = some (n, xs) → va_X sb n xs s s.heap ∧ sb < s.heap.size ∧ ¬ A sb
section OwX
variable {Y : ow_Y} {sc : Option (Nat × (Nat → Int32))} {d : Nat × Nat} {b0 sb : Nat} {ids : Nat → ClassId} {D : va_G} {A : Nat → Prop} {p : Program} {R : Room} {s : State} {m : MethodId} {args : Array Value} {meth : Method} {c : Code}
theorem ow_X.exec (X : ow_X Y sc d b0 sb ids D A p R s m args meth c) : p.tables.exec = Jvm.exec := X.1
theorem ow_X.bytes (X : ow_X Y sc d b0 sb ids D A p R s m args meth c) : c.code = Y.2.1 := X.2.1
theorem ow_X.maxL (X : ow_X Y sc d b0 sb ids D A p R s m args meth c) : c.maxLocals = Y.2.2.1 := X.2.2.1
theorem ow_X.ret (X : ow_X Y sc d b0 sb ids D A p R s m args meth c) : meth.sig.returnType = Y.2.2.2.1 := X.2.2.2.1
theorem ow_X.locks (X : ow_X Y sc d b0 sb ids D A p R s m args meth c) : meth.locks = false := X.2.2.2.2.1
theorem ow_X.own (X : ow_X Y sc d b0 sb ids D A p R s m args meth c) : s.vm.findClass Y.1.cls = some m.cls := X.2.2.2.2.2.1
theorem ow_X.name (X : ow_X Y sc d b0 sb ids D A p R s m args meth c) : meth.name = Y.1.name := X.2.2.2.2.2.2.1
theorem ow_X.hand (X : ow_X Y sc d b0 sb ids D A p R s m args meth c) : c.exceptionTable.toList.map (fun h => (h.startPc, h.endPc, h.handlerPc, h.catchType)) = Y.2.2.2.2 := X.2.2.2.2.2.2.2.1
theorem ow_X.ts (X : ow_X Y sc d b0 sb ids D A p R s m args meth c) : ∀ w ∈ ow_ws, w.before args s = true := X.2.2.2.2.2.2.2.2.1
theorem ow_X.K (X : ow_X Y sc d b0 sb ids D A p R s m args meth c) : va_K D ow_cl (ow_tys ids) s := X.2.2.2.2.2.2.2.2.2.1
theorem ow_X.new (X : ow_X Y sc d b0 sb ids D A p R s m args meth c) : ∀ q, s.heap.size ≤ q → A q := X.2.2.2.2.2.2.2.2.2.2.1
theorem ow_X.room (X : ow_X Y sc d b0 sb ids D A p R s m args meth c) : d.1 ≤ R.frames ∧ d.2 ≤ R.locals ∧ 8 * b0 ≤ R.cells ∧ 128 * b0 ≤ R.slots := X.2.2.2.2.2.2.2.2.2.2.2.1
theorem ow_X.given (X : ow_X Y sc d b0 sb ids D A p R s m args meth c) : ow_G s A := X.2.2.2.2.2.2.2.2.2.2.2.2.1
theorem ow_X.script (X : ow_X Y sc d b0 sb ids D A p R s m args meth c) : ∀ (n : Nat) (xs : Nat → Int32), sc = some (n, xs) → va_X sb n xs s s.heap ∧ sb < s.heap.size ∧ ¬ A sb := X.2.2.2.2.2.2.2.2.2.2.2.2.2
end OwX
/-- references name cells that are there; cells that are not there yet are empty -/
def ow_wf (u : ow_M) : Prop := (∀ c k t, u.2.1 c k = some t → t < u.1) ∧ ∀ c, u.1 ≤ c → (∀ k, u.2.1 c k = none) ∧ (∀ k, u.2.2.1 c k = 0) ∧ ∀ k, u.2.2.2.1 c k = 0
def ow_okS (n : Nat) (S : List Value) : Prop := ∀ c, Value.ref c ∈ S → c < n
def ow_okL (n : Nat) (L : List (Option Value)) : Prop := ∀ c, some (Value.ref c) ∈ L → c < n
theorem ow_okS.t {n : Nat} {v : Value} {S : List Value} (h : ow_okS n (v :: S)) : ow_okS n S := fun c hc => h c (List.mem_cons_of_mem _ hc)
theorem ow_okS.i {n : Nat} {x : Int32} {S : List Value} (h : ow_okS n S) : ow_okS n (.int x :: S) := fun c hc => by
  rcases List.mem_cons.mp hc with h1 | h1
  · cases h1
  · exact h c h1
theorem ow_okS.l {n : Nat} {x : Int64} {S : List Value} (h : ow_okS n S) : ow_okS n (.long x :: S) := fun c hc => by
  rcases List.mem_cons.mp hc with h1 | h1
  · cases h1
  · exact h c h1
theorem ow_okS.s {n x : Nat} {S : List Value} (h : ow_okS n S) : ow_okS n (.retAddr x :: S) := fun c hc => by
  rcases List.mem_cons.mp hc with h1 | h1
  · cases h1
  · exact h c h1
theorem ow_okS.r {n t : Nat} {S : List Value} (h : ow_okS n S) (ht : t < n) : ow_okS n (.ref t :: S) := fun c hc => by
  rcases List.mem_cons.mp hc with h1 | h1
  · cases h1; exact ht
  · exact h c h1
theorem ow_okS.c {n : Nat} {v : Value} {S S' : List Value} (h : ow_okS n S) (h' : ow_okS n S') (hv : v ∈ S') : ow_okS n (v :: S) := fun c hc => by
  rcases List.mem_cons.mp hc with h1 | h1
  · exact h' c (h1 ▸ hv)
  · exact h c h1
theorem ow_okL.set {n i : Nat} {v : Option Value} {L : List (Option Value)} (h : ow_okL n L) (hv : ∀ c, v = some (.ref c) → c < n) : ow_okL n (L.set i v) := fun c hc => by
  rcases List.mem_or_eq_of_mem_set hc with h1 | h1
  · exact h c h1
  · exact hv c h1.symm
theorem ow_okL.at {n i c : Nat} {L : List (Option Value)} (h : ow_okL n L) (hl : L[i]? = some (some (.ref c))) : c < n := h c (List.mem_of_getElem? hl)
/-- the world at a point of a walk -/
def ow_P (n0 b0 : Nat) (ad0 : Nat → Nat) (ids : Nat → ClassId) (D : va_G) (A : Nat → Prop) (s : State) (H : Heap) (locs : List Loc) (cells slots : Nat) (ad : Nat → Nat) (u : ow_M) : Prop :=
  va_P D ow_cl (ow_W ids ad u) H ∧ va_D A (ow_W ids ad u) ∧ va_S A s.heap H locs ∧ cells + 8 * u.2.2.2.2 ≤ 8 * b0 ∧ slots + 128 * u.2.2.2.2 ≤ 128 * b0 ∧ n0 ≤ u.1 ∧ ow_wf u ∧ ∀ c, c < n0 → ad c = ad0 c
/-- the end of a method -/
def ow_Q (Q : ow_R → ow_M → Prop) (n0 b0 sb : Nat) (ad0 : Nat → Nat) (ids : Nat → ClassId) (D : va_G) (A : Nat → Prop) (s : State) (o : Outcome) (t : State) : Prop :=
  ∃ (u : ow_M) (ad : Nat → Nat) (Ls : List Loc) (k n : Nat), s.WarmedH t.vm ∧ s.sameButNew ({ t with vm := s.vm } : State) Ls k n ∧ ow_P n0 b0 ad0 ids D A s t.heap Ls k n ad u ∧
    ((∃ v : Option Int32, o = .returned (v.map Value.int) ∧ Q (.inl v) u) ∨ ∃ (x kx : Nat), o = .threw x ∧ ow_ex kx x s t.heap ∧ Q (.inr kx) u)
def ow_MQ (below : List Frame) (Q : ow_R → ow_M → Prop) (n0 b0 sb : Nat) (ad0 : Nat → Nat) (ids : Nat → ClassId) (D : va_G) (A : Nat → Prop) (s : State) : State → Prop := fun t =>
  ∃ o, t.status = .running ∧ Ended t below o ∧ ow_Q Q n0 b0 sb ad0 ids D A s o t
/-- from here the method comes to an end with Q -/
def AW (l : Launch) (Y : ow_Y) (sc : Option (Nat × (Nat → Int32))) (d : Nat × Nat) (Q : ow_R → ow_M → Prop) (pc : Nat) (L : List (Option Value)) (S : List Value) (u : ow_M) : Prop :=
  ∀ (p : Program) (e : Env) (R : Room) (s : State) (m : MethodId) (args : Array Value) (below : List Frame) (meth : Method) (c : Code) (n0 b0 : Nat) (ad0 : Nat → Nat) (sb : Nat) (ids : Nat → ClassId) (D : va_G) (A : Nat → Prop) (H : Heap) (locs : List Loc) (cells slots : Nat) (ad : Nat → Nat) (ls : Array Slot),
    ow_X Y sc d b0 sb ids D A p R s m args meth c → ow_P n0 b0 ad0 ids D A s H locs cells slots ad u → ow_ls sb ad Y.2.2.1 L ls → ow_okL u.1 L ∧ ow_okS u.1 S →
    W p l e R s m args below meth c H locs cells slots (ow_MQ below Q n0 b0 sb ad0 ids D A s) (F0 m pc ls (S.map (ow_cv sb ad)))
/-- a method called with these values at this memory ends with Q -/
def MT (l : Launch) (Y : ow_Y) (d : Nat × Nat) (vs : List Value) (u : ow_M) (Q : ow_R → ow_M → Prop) : Prop :=
  ∀ (sb : Nat) (ad : Nat → Nat) (ids : Nat → ClassId) (D : va_G) (sz : Nat),
    MetFree l Y.1 (headSpec ow_ws { frames := d.1, cells := 8 * u.2.2.2.2, slots := 128 * u.2.2.2.2, locals := d.2 })
      (fun a U => a = (vs.map (ow_cv sb ad)).toArray ∧ U.heap.size = sz ∧ va_P D ow_cl (ow_W ids ad u) U.heap ∧ va_K D ow_cl (ow_tys ids) U ∧ va_D (fun _ => True) (ow_W ids ad u) ∧ ow_wf u ∧ ow_okS u.1 vs ∧ ow_G U (va_A (ow_W ids ad u) sz))
      (fun _ _ _ _ _ => True) (fun _ st o t => ow_Q Q u.1 u.2.2.2.2 sb ad ids D (va_A (ow_W ids ad u) sz) st o t)
end
section
section OwSimple
variable {l : Launch} {Y : ow_Y} {sc : Option (Nat × (Nat → Int32))} {d : Nat × Nat} {Q : ow_R → ow_M → Prop} {pc : Nat} {L : List (Option Value)} {S : List Value} {u : ow_M}
theorem aw_iconst {n : Int} {v : Int32} (hdg : decode Y.2.1 pc = .ok (.iconst n, 1)) (hx : Int32.ofInt n = v) (k : AW l Y sc d Q (pc + 1) L (.int v :: S) u) : AW l Y sc d Q pc L S u := by
  intro p e R s m args below meth c n0 b0 ad0 sb ids D A H locs cells slots ad ls X P h hv
  exact lv_iconst X.exec X.bytes hdg hx (k _ _ _ _ _ _ _ _ _ _ _ _ _ _ _ _ _ _ _ _ _ _ X P h ⟨hv.1, hv.2.i⟩)
theorem aw_bipush {n : Int} {v : Int32} (hdg : decode Y.2.1 pc = .ok (.bipush n, 2)) (hx : (Int8.ofInt n).toInt32 = v) (k : AW l Y sc d Q (pc + 2) L (.int v :: S) u) : AW l Y sc d Q pc L S u := by
  intro p e R s m args below meth c n0 b0 ad0 sb ids D A H locs cells slots ad ls X P h hv
  exact lv_bipush X.exec X.bytes hdg hx (k _ _ _ _ _ _ _ _ _ _ _ _ _ _ _ _ _ _ _ _ _ _ X P h ⟨hv.1, hv.2.i⟩)
theorem aw_sipush {n : Int} {v : Int32} (hdg : decode Y.2.1 pc = .ok (.sipush n, 3)) (hx : (Int16.ofInt n).toInt32 = v) (k : AW l Y sc d Q (pc + 3) L (.int v :: S) u) : AW l Y sc d Q pc L S u := by
  intro p e R s m args below meth c n0 b0 ad0 sb ids D A H locs cells slots ad ls X P h hv
  exact lv_sipush X.exec X.bytes hdg hx (k _ _ _ _ _ _ _ _ _ _ _ _ _ _ _ _ _ _ _ _ _ _ X P h ⟨hv.1, hv.2.i⟩)
theorem aw_iload_n {j : Fin 4} {x : Int32} (hdg : decode Y.2.1 pc = .ok (.iload_n j, 1)) (hl : L[(j : Nat)]? = some (some (.int x))) (k : AW l Y sc d Q (pc + 1) L (.int x :: S) u) : AW l Y sc d Q pc L S u := by
  intro p e R s m args below meth c n0 b0 ad0 sb ids D A H locs cells slots ad ls X P h hv
  exact lv_iload_n X.exec X.bytes hdg rfl (h.at hl) (k _ _ _ _ _ _ _ _ _ _ _ _ _ _ _ _ _ _ _ _ _ _ X P h ⟨hv.1, hv.2.i⟩)
theorem aw_iload {i : Nat} {x : Int32} (hdg : decode Y.2.1 pc = .ok (.iload i, 2)) (hl : L[i]? = some (some (.int x))) (k : AW l Y sc d Q (pc + 2) L (.int x :: S) u) : AW l Y sc d Q pc L S u := by
  intro p e R s m args below meth c n0 b0 ad0 sb ids D A H locs cells slots ad ls X P h hv
  exact lv_iload X.exec X.bytes hdg (h.at hl) (k _ _ _ _ _ _ _ _ _ _ _ _ _ _ _ _ _ _ _ _ _ _ X P h ⟨hv.1, hv.2.i⟩)
theorem aw_aload_n {j : Fin 4} {x : Nat} (hdg : decode Y.2.1 pc = .ok (.aload_n j, 1)) (hl : L[(j : Nat)]? = some (some (.ref x))) (k : AW l Y sc d Q (pc + 1) L (.ref x :: S) u) : AW l Y sc d Q pc L S u := by
  intro p e R s m args below meth c n0 b0 ad0 sb ids D A H locs cells slots ad ls X P h hv
  exact lv_aload_n X.exec X.bytes hdg rfl (h.at hl) (k _ _ _ _ _ _ _ _ _ _ _ _ _ _ _ _ _ _ _ _ _ _ X P h ⟨hv.1, hv.2.r (hv.1.at hl)⟩)
theorem aw_aload {i : Nat} {x : Nat} (hdg : decode Y.2.1 pc = .ok (.aload i, 2)) (hl : L[i]? = some (some (.ref x))) (k : AW l Y sc d Q (pc + 2) L (.ref x :: S) u) : AW l Y sc d Q pc L S u := by
  intro p e R s m args below meth c n0 b0 ad0 sb ids D A H locs cells slots ad ls X P h hv
  exact lv_aload X.exec X.bytes hdg (h.at hl) (k _ _ _ _ _ _ _ _ _ _ _ _ _ _ _ _ _ _ _ _ _ _ X P h ⟨hv.1, hv.2.r (hv.1.at hl)⟩)
theorem aw_sload_n {j : Fin 4} {x : Nat} (hdg : decode Y.2.1 pc = .ok (.aload_n j, 1)) (hl : L[(j : Nat)]? = some (some (.retAddr x))) (k : AW l Y sc d Q (pc + 1) L (.retAddr x :: S) u) : AW l Y sc d Q pc L S u := by
  intro p e R s m args below meth c n0 b0 ad0 sb ids D A H locs cells slots ad ls X P h hv
  exact lv_aload_n X.exec X.bytes hdg rfl (h.at hl) (k _ _ _ _ _ _ _ _ _ _ _ _ _ _ _ _ _ _ _ _ _ _ X P h ⟨hv.1, hv.2.s⟩)
theorem aw_istore_n {j : Fin 4} {x : Int32} (hdg : decode Y.2.1 pc = .ok (.istore_n j, 1)) (hi : (j : Nat) < Y.2.2.1) (k : AW l Y sc d Q (pc + 1) (L.set (j : Nat) (some (.int x))) S u) : AW l Y sc d Q pc L (.int x :: S) u := by
  intro p e R s m args below meth c n0 b0 ad0 sb ids D A H locs cells slots ad ls X P h hv
  exact lv_istore_n X.exec X.bytes hdg rfl h.has hi rfl (fun ls' h' => k _ _ _ _ _ _ _ _ _ _ _ _ _ _ _ _ _ _ _ _ _ _ X P (h.store rfl h') ⟨hv.1.set (fun _ q => by cases q), hv.2.t⟩)
theorem aw_istore {i : Nat} {x : Int32} (hdg : decode Y.2.1 pc = .ok (.istore i, 2)) (hi : i < Y.2.2.1) (k : AW l Y sc d Q (pc + 2) (L.set i (some (.int x))) S u) : AW l Y sc d Q pc L (.int x :: S) u := by
  intro p e R s m args below meth c n0 b0 ad0 sb ids D A H locs cells slots ad ls X P h hv
  exact lv_istore X.exec X.bytes hdg h.has hi rfl (fun ls' h' => k _ _ _ _ _ _ _ _ _ _ _ _ _ _ _ _ _ _ _ _ _ _ X P (h.store rfl h') ⟨hv.1.set (fun _ q => by cases q), hv.2.t⟩)
theorem aw_astore_n {j : Fin 4} {x : Nat} (hdg : decode Y.2.1 pc = .ok (.astore_n j, 1)) (hi : (j : Nat) < Y.2.2.1) (k : AW l Y sc d Q (pc + 1) (L.set (j : Nat) (some (.ref x))) S u) : AW l Y sc d Q pc L (.ref x :: S) u := by
  intro p e R s m args below meth c n0 b0 ad0 sb ids D A H locs cells slots ad ls X P h hv
  exact lv_astore_n X.exec X.bytes hdg rfl h.has hi rfl (fun ls' h' => k _ _ _ _ _ _ _ _ _ _ _ _ _ _ _ _ _ _ _ _ _ _ X P (h.store rfl h') ⟨hv.1.set (fun _ q => by cases q; exact hv.2 _ List.mem_cons_self), hv.2.t⟩)
theorem aw_astore {i : Nat} {x : Nat} (hdg : decode Y.2.1 pc = .ok (.astore i, 2)) (hi : i < Y.2.2.1) (k : AW l Y sc d Q (pc + 2) (L.set i (some (.ref x))) S u) : AW l Y sc d Q pc L (.ref x :: S) u := by
  intro p e R s m args below meth c n0 b0 ad0 sb ids D A H locs cells slots ad ls X P h hv
  exact lv_astore X.exec X.bytes hdg h.has hi rfl (fun ls' h' => k _ _ _ _ _ _ _ _ _ _ _ _ _ _ _ _ _ _ _ _ _ _ X P (h.store rfl h') ⟨hv.1.set (fun _ q => by cases q; exact hv.2 _ List.mem_cons_self), hv.2.t⟩)
theorem aw_iadd {x y : Int32} (hdg : decode Y.2.1 pc = .ok (.iadd, 1)) (k : AW l Y sc d Q (pc + 1) L (.int (x + y) :: S) u) : AW l Y sc d Q pc L (.int y :: .int x :: S) u := by
  intro p e R s m args below meth c n0 b0 ad0 sb ids D A H locs cells slots ad ls X P h hv
  exact lv_iadd X.exec X.bytes hdg (k _ _ _ _ _ _ _ _ _ _ _ _ _ _ _ _ _ _ _ _ _ _ X P h ⟨hv.1, hv.2.t.t.i⟩)
theorem aw_isub {x y : Int32} (hdg : decode Y.2.1 pc = .ok (.isub, 1)) (k : AW l Y sc d Q (pc + 1) L (.int (x - y) :: S) u) : AW l Y sc d Q pc L (.int y :: .int x :: S) u := by
  intro p e R s m args below meth c n0 b0 ad0 sb ids D A H locs cells slots ad ls X P h hv
  exact lv_isub X.exec X.bytes hdg (k _ _ _ _ _ _ _ _ _ _ _ _ _ _ _ _ _ _ _ _ _ _ X P h ⟨hv.1, hv.2.t.t.i⟩)
theorem aw_imul {x y : Int32} (hdg : decode Y.2.1 pc = .ok (.imul, 1)) (k : AW l Y sc d Q (pc + 1) L (.int (x * y) :: S) u) : AW l Y sc d Q pc L (.int y :: .int x :: S) u := by
  intro p e R s m args below meth c n0 b0 ad0 sb ids D A H locs cells slots ad ls X P h hv
  exact lv_imul X.exec X.bytes hdg (k _ _ _ _ _ _ _ _ _ _ _ _ _ _ _ _ _ _ _ _ _ _ X P h ⟨hv.1, hv.2.t.t.i⟩)
theorem aw_iand {x y : Int32} (hdg : decode Y.2.1 pc = .ok (.iand, 1)) (k : AW l Y sc d Q (pc + 1) L (.int (x &&& y) :: S) u) : AW l Y sc d Q pc L (.int y :: .int x :: S) u := by
  intro p e R s m args below meth c n0 b0 ad0 sb ids D A H locs cells slots ad ls X P h hv
  exact lv_iand X.exec X.bytes hdg (k _ _ _ _ _ _ _ _ _ _ _ _ _ _ _ _ _ _ _ _ _ _ X P h ⟨hv.1, hv.2.t.t.i⟩)
theorem aw_ior {x y : Int32} (hdg : decode Y.2.1 pc = .ok (.ior, 1)) (k : AW l Y sc d Q (pc + 1) L (.int (x ||| y) :: S) u) : AW l Y sc d Q pc L (.int y :: .int x :: S) u := by
  intro p e R s m args below meth c n0 b0 ad0 sb ids D A H locs cells slots ad ls X P h hv
  exact lv_ior X.exec X.bytes hdg (k _ _ _ _ _ _ _ _ _ _ _ _ _ _ _ _ _ _ _ _ _ _ X P h ⟨hv.1, hv.2.t.t.i⟩)
theorem aw_ixor {x y : Int32} (hdg : decode Y.2.1 pc = .ok (.ixor, 1)) (k : AW l Y sc d Q (pc + 1) L (.int (x ^^^ y) :: S) u) : AW l Y sc d Q pc L (.int y :: .int x :: S) u := by
  intro p e R s m args below meth c n0 b0 ad0 sb ids D A H locs cells slots ad ls X P h hv
  exact lv_ixor X.exec X.bytes hdg (k _ _ _ _ _ _ _ _ _ _ _ _ _ _ _ _ _ _ _ _ _ _ X P h ⟨hv.1, hv.2.t.t.i⟩)
theorem aw_ishl {x y : Int32} (hdg : decode Y.2.1 pc = .ok (.ishl, 1)) (k : AW l Y sc d Q (pc + 1) L (.int (x <<< (y &&& 31)) :: S) u) : AW l Y sc d Q pc L (.int y :: .int x :: S) u := by
  intro p e R s m args below meth c n0 b0 ad0 sb ids D A H locs cells slots ad ls X P h hv
  exact lv_ishl X.exec X.bytes hdg (k _ _ _ _ _ _ _ _ _ _ _ _ _ _ _ _ _ _ _ _ _ _ X P h ⟨hv.1, hv.2.t.t.i⟩)
theorem aw_ishr {x y : Int32} (hdg : decode Y.2.1 pc = .ok (.ishr, 1)) (k : AW l Y sc d Q (pc + 1) L (.int (x >>> (y &&& 31)) :: S) u) : AW l Y sc d Q pc L (.int y :: .int x :: S) u := by
  intro p e R s m args below meth c n0 b0 ad0 sb ids D A H locs cells slots ad ls X P h hv
  exact lv_ishr X.exec X.bytes hdg (k _ _ _ _ _ _ _ _ _ _ _ _ _ _ _ _ _ _ _ _ _ _ X P h ⟨hv.1, hv.2.t.t.i⟩)
theorem aw_irem {x y : Int32} (hdg : decode Y.2.1 pc = .ok (.irem, 1)) (hne : ¬ y = 0) (k : AW l Y sc d Q (pc + 1) L (.int (x - x / y * y) :: S) u) : AW l Y sc d Q pc L (.int y :: .int x :: S) u := by
  intro p e R s m args below meth c n0 b0 ad0 sb ids D A H locs cells slots ad ls X P h hv
  exact lv_irem X.exec X.bytes hdg hne (k _ _ _ _ _ _ _ _ _ _ _ _ _ _ _ _ _ _ _ _ _ _ X P h ⟨hv.1, hv.2.t.t.i⟩)
theorem aw_i2l {x : Int32} (hdg : decode Y.2.1 pc = .ok (.i2l, 1)) (k : AW l Y sc d Q (pc + 1) L (.long x.toInt64 :: S) u) : AW l Y sc d Q pc L (.int x :: S) u := by
  intro p e R s m args below meth c n0 b0 ad0 sb ids D A H locs cells slots ad ls X P h hv
  exact lv_i2l X.exec X.bytes hdg rfl (k _ _ _ _ _ _ _ _ _ _ _ _ _ _ _ _ _ _ _ _ _ _ X P h ⟨hv.1, hv.2.t.l⟩)
theorem aw_dup {v : Value} (hdg : decode Y.2.1 pc = .ok (.dup, 1)) (hc1 : v.category = 1) (k : AW l Y sc d Q (pc + 1) L (v :: v :: S) u) : AW l Y sc d Q pc L (v :: S) u := by
  intro p e R s m args below meth c n0 b0 ad0 sb ids D A H locs cells slots ad ls X P h hv
  exact lv_dup X.exec X.bytes hdg (ow_cat hc1) (k _ _ _ _ _ _ _ _ _ _ _ _ _ _ _ _ _ _ _ _ _ _ X P h ⟨hv.1, hv.2.c hv.2 List.mem_cons_self⟩)
theorem aw_pop {v : Value} (hdg : decode Y.2.1 pc = .ok (.pop, 1)) (hc1 : v.category = 1) (k : AW l Y sc d Q (pc + 1) L S u) : AW l Y sc d Q pc L (v :: S) u := by
  intro p e R s m args below meth c n0 b0 ad0 sb ids D A H locs cells slots ad ls X P h hv
  exact lv_pop X.exec X.bytes hdg (ow_cat hc1) (k _ _ _ _ _ _ _ _ _ _ _ _ _ _ _ _ _ _ _ _ _ _ X P h ⟨hv.1, hv.2.t⟩)
theorem aw_dup_x1 {v w : Value} (hdg : decode Y.2.1 pc = .ok (.dup_x1, 1)) (hc1 : v.category = 1) (hc2 : w.category = 1) (k : AW l Y sc d Q (pc + 1) L (v :: w :: v :: S) u) : AW l Y sc d Q pc L (v :: w :: S) u := by
  intro p e R s m args below meth c n0 b0 ad0 sb ids D A H locs cells slots ad ls X P h hv
  exact lv_dup_x1 X.exec X.bytes hdg (ow_cat hc1) (ow_cat hc2) (k _ _ _ _ _ _ _ _ _ _ _ _ _ _ _ _ _ _ _ _ _ _ X P h ⟨hv.1, ((hv.2.t.t.c hv.2 List.mem_cons_self).c hv.2 (List.mem_cons_of_mem _ List.mem_cons_self)).c hv.2 List.mem_cons_self⟩)
theorem aw_dup_x2 {v w x : Value} (hdg : decode Y.2.1 pc = .ok (.dup_x2, 1)) (hc1 : v.category = 1) (hc2 : w.category = 1) (hc3 : x.category = 1) (k : AW l Y sc d Q (pc + 1) L (v :: w :: x :: v :: S) u) : AW l Y sc d Q pc L (v :: w :: x :: S) u := by
  intro p e R s m args below meth c n0 b0 ad0 sb ids D A H locs cells slots ad ls X P h hv
  exact lv_dup_x2 X.exec X.bytes hdg (ow_cat hc1) (ow_cat hc2) (ow_cat hc3) (k _ _ _ _ _ _ _ _ _ _ _ _ _ _ _ _ _ _ _ _ _ _ X P h ⟨hv.1, (((hv.2.t.t.t.c hv.2 List.mem_cons_self).c hv.2 (List.mem_cons_of_mem _ (List.mem_cons_of_mem _ List.mem_cons_self))).c hv.2 (List.mem_cons_of_mem _ List.mem_cons_self)).c hv.2 List.mem_cons_self⟩)
theorem aw_dup2 {v w : Value} (hdg : decode Y.2.1 pc = .ok (.dup2, 1)) (hc1 : v.category = 1) (hc2 : w.category = 1) (k : AW l Y sc d Q (pc + 1) L (v :: w :: v :: w :: S) u) : AW l Y sc d Q pc L (v :: w :: S) u := by
  intro p e R s m args below meth c n0 b0 ad0 sb ids D A H locs cells slots ad ls X P h hv
  exact lv_dup2_11 X.exec X.bytes hdg (ow_cat hc1) (ow_cat hc2) (k _ _ _ _ _ _ _ _ _ _ _ _ _ _ _ _ _ _ _ _ _ _ X P h ⟨hv.1, (hv.2.c hv.2 (List.mem_cons_of_mem _ List.mem_cons_self)).c hv.2 List.mem_cons_self⟩)
theorem aw_goto {off : Int} {tgt : Nat} (hdg : decode Y.2.1 pc = .ok (.goto off, 3)) (ht : (pc : Int) + off = (tgt : Int)) (k : AW l Y sc d Q tgt L S u) : AW l Y sc d Q pc L S u := by
  intro p e R s m args below meth c n0 b0 ad0 sb ids D A H locs cells slots ad ls X P h hv
  exact lv_goto X.exec X.bytes hdg ht (k _ _ _ _ _ _ _ _ _ _ _ _ _ _ _ _ _ _ _ _ _ _ X P h hv)
theorem aw_iinc {i : Nat} {n : Int} {x v : Int32} (hdg : decode Y.2.1 pc = .ok (.iinc i n, 3)) (hl : L[i]? = some (some (.int x))) (hx : x + Int32.ofInt n = v) (hi : i < Y.2.2.1) (k : AW l Y sc d Q (pc + 3) (L.set i (some (.int v))) S u) : AW l Y sc d Q pc L S u := by
  intro p e R s m args below meth c n0 b0 ad0 sb ids D A H locs cells slots ad ls X P h hv
  obtain ⟨q, hq⟩ := h.place hl
  exact lv_iinc X.exec X.bytes hdg h.has hq hx hi rfl (fun ls' h' => k _ _ _ _ _ _ _ _ _ _ _ _ _ _ _ _ _ _ _ _ _ _ X P (h.store rfl h') ⟨hv.1.set (fun _ q => by cases q), hv.2⟩)
theorem aw_if_eq {x : Int32} {off : Int} {tgt : Nat} (hdg : decode Y.2.1 pc = .ok (.ifCond .eq off, 3)) (ht : (pc : Int) + off = (tgt : Int)) (kt : x = 0 → AW l Y sc d Q tgt L S u) (kf : ¬ x = 0 → AW l Y sc d Q (pc + 3) L S u) : AW l Y sc d Q pc L (.int x :: S) u := by
  intro p e R s m args below meth c n0 b0 ad0 sb ids D A H locs cells slots ad ls X P h hv
  exact lv_if_eq X.exec X.bytes hdg ht (fun z => kt z _ _ _ _ _ _ _ _ _ _ _ _ _ _ _ _ _ _ _ _ _ _ X P h ⟨hv.1, hv.2.t⟩) (fun z => kf z _ _ _ _ _ _ _ _ _ _ _ _ _ _ _ _ _ _ _ _ _ _ X P h ⟨hv.1, hv.2.t⟩)
theorem aw_if_ne {x : Int32} {off : Int} {tgt : Nat} (hdg : decode Y.2.1 pc = .ok (.ifCond .ne off, 3)) (ht : (pc : Int) + off = (tgt : Int)) (kt : ¬ x = 0 → AW l Y sc d Q tgt L S u) (kf : x = 0 → AW l Y sc d Q (pc + 3) L S u) : AW l Y sc d Q pc L (.int x :: S) u := by
  intro p e R s m args below meth c n0 b0 ad0 sb ids D A H locs cells slots ad ls X P h hv
  exact lv_if_ne X.exec X.bytes hdg ht (fun z => kt z _ _ _ _ _ _ _ _ _ _ _ _ _ _ _ _ _ _ _ _ _ _ X P h ⟨hv.1, hv.2.t⟩) (fun z => kf z _ _ _ _ _ _ _ _ _ _ _ _ _ _ _ _ _ _ _ _ _ _ X P h ⟨hv.1, hv.2.t⟩)
theorem aw_if_lt {x : Int32} {off : Int} {tgt : Nat} (hdg : decode Y.2.1 pc = .ok (.ifCond .lt off, 3)) (ht : (pc : Int) + off = (tgt : Int)) (kt : x < 0 → AW l Y sc d Q tgt L S u) (kf : ¬ x < 0 → AW l Y sc d Q (pc + 3) L S u) : AW l Y sc d Q pc L (.int x :: S) u := by
  intro p e R s m args below meth c n0 b0 ad0 sb ids D A H locs cells slots ad ls X P h hv
  exact lv_if_lt X.exec X.bytes hdg ht (fun z => kt z _ _ _ _ _ _ _ _ _ _ _ _ _ _ _ _ _ _ _ _ _ _ X P h ⟨hv.1, hv.2.t⟩) (fun z => kf z _ _ _ _ _ _ _ _ _ _ _ _ _ _ _ _ _ _ _ _ _ _ X P h ⟨hv.1, hv.2.t⟩)
theorem aw_if_ge {x : Int32} {off : Int} {tgt : Nat} (hdg : decode Y.2.1 pc = .ok (.ifCond .ge off, 3)) (ht : (pc : Int) + off = (tgt : Int)) (kt : 0 ≤ x → AW l Y sc d Q tgt L S u) (kf : ¬ 0 ≤ x → AW l Y sc d Q (pc + 3) L S u) : AW l Y sc d Q pc L (.int x :: S) u := by
  intro p e R s m args below meth c n0 b0 ad0 sb ids D A H locs cells slots ad ls X P h hv
  exact lv_if_ge X.exec X.bytes hdg ht (fun z => kt z _ _ _ _ _ _ _ _ _ _ _ _ _ _ _ _ _ _ _ _ _ _ X P h ⟨hv.1, hv.2.t⟩) (fun z => kf z _ _ _ _ _ _ _ _ _ _ _ _ _ _ _ _ _ _ _ _ _ _ X P h ⟨hv.1, hv.2.t⟩)
theorem aw_if_gt {x : Int32} {off : Int} {tgt : Nat} (hdg : decode Y.2.1 pc = .ok (.ifCond .gt off, 3)) (ht : (pc : Int) + off = (tgt : Int)) (kt : 0 < x → AW l Y sc d Q tgt L S u) (kf : ¬ 0 < x → AW l Y sc d Q (pc + 3) L S u) : AW l Y sc d Q pc L (.int x :: S) u := by
  intro p e R s m args below meth c n0 b0 ad0 sb ids D A H locs cells slots ad ls X P h hv
  exact lv_if_gt X.exec X.bytes hdg ht (fun z => kt z _ _ _ _ _ _ _ _ _ _ _ _ _ _ _ _ _ _ _ _ _ _ X P h ⟨hv.1, hv.2.t⟩) (fun z => kf z _ _ _ _ _ _ _ _ _ _ _ _ _ _ _ _ _ _ _ _ _ _ X P h ⟨hv.1, hv.2.t⟩)
theorem aw_if_le {x : Int32} {off : Int} {tgt : Nat} (hdg : decode Y.2.1 pc = .ok (.ifCond .le off, 3)) (ht : (pc : Int) + off = (tgt : Int)) (kt : x ≤ 0 → AW l Y sc d Q tgt L S u) (kf : ¬ x ≤ 0 → AW l Y sc d Q (pc + 3) L S u) : AW l Y sc d Q pc L (.int x :: S) u := by
  intro p e R s m args below meth c n0 b0 ad0 sb ids D A H locs cells slots ad ls X P h hv
  exact lv_if_le X.exec X.bytes hdg ht (fun z => kt z _ _ _ _ _ _ _ _ _ _ _ _ _ _ _ _ _ _ _ _ _ _ X P h ⟨hv.1, hv.2.t⟩) (fun z => kf z _ _ _ _ _ _ _ _ _ _ _ _ _ _ _ _ _ _ _ _ _ _ X P h ⟨hv.1, hv.2.t⟩)
theorem aw_icmp_eq {x y : Int32} {off : Int} {tgt : Nat} (hdg : decode Y.2.1 pc = .ok (.if_icmp .eq off, 3)) (ht : (pc : Int) + off = (tgt : Int)) (kt : x = y → AW l Y sc d Q tgt L S u) (kf : ¬ x = y → AW l Y sc d Q (pc + 3) L S u) : AW l Y sc d Q pc L (.int y :: .int x :: S) u := by
  intro p e R s m args below meth c n0 b0 ad0 sb ids D A H locs cells slots ad ls X P h hv
  exact lv_icmp_eq X.exec X.bytes hdg ht (fun z => kt z _ _ _ _ _ _ _ _ _ _ _ _ _ _ _ _ _ _ _ _ _ _ X P h ⟨hv.1, hv.2.t.t⟩) (fun z => kf z _ _ _ _ _ _ _ _ _ _ _ _ _ _ _ _ _ _ _ _ _ _ X P h ⟨hv.1, hv.2.t.t⟩)
theorem aw_icmp_ne {x y : Int32} {off : Int} {tgt : Nat} (hdg : decode Y.2.1 pc = .ok (.if_icmp .ne off, 3)) (ht : (pc : Int) + off = (tgt : Int)) (kt : ¬ x = y → AW l Y sc d Q tgt L S u) (kf : x = y → AW l Y sc d Q (pc + 3) L S u) : AW l Y sc d Q pc L (.int y :: .int x :: S) u := by
  intro p e R s m args below meth c n0 b0 ad0 sb ids D A H locs cells slots ad ls X P h hv
  exact lv_icmp_ne X.exec X.bytes hdg ht (fun z => kt z _ _ _ _ _ _ _ _ _ _ _ _ _ _ _ _ _ _ _ _ _ _ X P h ⟨hv.1, hv.2.t.t⟩) (fun z => kf z _ _ _ _ _ _ _ _ _ _ _ _ _ _ _ _ _ _ _ _ _ _ X P h ⟨hv.1, hv.2.t.t⟩)
theorem aw_icmp_lt {x y : Int32} {off : Int} {tgt : Nat} (hdg : decode Y.2.1 pc = .ok (.if_icmp .lt off, 3)) (ht : (pc : Int) + off = (tgt : Int)) (kt : x < y → AW l Y sc d Q tgt L S u) (kf : ¬ x < y → AW l Y sc d Q (pc + 3) L S u) : AW l Y sc d Q pc L (.int y :: .int x :: S) u := by
  intro p e R s m args below meth c n0 b0 ad0 sb ids D A H locs cells slots ad ls X P h hv
  exact lv_icmp_lt X.exec X.bytes hdg ht (fun z => kt z _ _ _ _ _ _ _ _ _ _ _ _ _ _ _ _ _ _ _ _ _ _ X P h ⟨hv.1, hv.2.t.t⟩) (fun z => kf z _ _ _ _ _ _ _ _ _ _ _ _ _ _ _ _ _ _ _ _ _ _ X P h ⟨hv.1, hv.2.t.t⟩)
theorem aw_icmp_ge {x y : Int32} {off : Int} {tgt : Nat} (hdg : decode Y.2.1 pc = .ok (.if_icmp .ge off, 3)) (ht : (pc : Int) + off = (tgt : Int)) (kt : y ≤ x → AW l Y sc d Q tgt L S u) (kf : ¬ y ≤ x → AW l Y sc d Q (pc + 3) L S u) : AW l Y sc d Q pc L (.int y :: .int x :: S) u := by
  intro p e R s m args below meth c n0 b0 ad0 sb ids D A H locs cells slots ad ls X P h hv
  exact lv_icmp_ge X.exec X.bytes hdg ht (fun z => kt z _ _ _ _ _ _ _ _ _ _ _ _ _ _ _ _ _ _ _ _ _ _ X P h ⟨hv.1, hv.2.t.t⟩) (fun z => kf z _ _ _ _ _ _ _ _ _ _ _ _ _ _ _ _ _ _ _ _ _ _ X P h ⟨hv.1, hv.2.t.t⟩)
theorem aw_icmp_gt {x y : Int32} {off : Int} {tgt : Nat} (hdg : decode Y.2.1 pc = .ok (.if_icmp .gt off, 3)) (ht : (pc : Int) + off = (tgt : Int)) (kt : y < x → AW l Y sc d Q tgt L S u) (kf : ¬ y < x → AW l Y sc d Q (pc + 3) L S u) : AW l Y sc d Q pc L (.int y :: .int x :: S) u := by
  intro p e R s m args below meth c n0 b0 ad0 sb ids D A H locs cells slots ad ls X P h hv
  exact lv_icmp_gt X.exec X.bytes hdg ht (fun z => kt z _ _ _ _ _ _ _ _ _ _ _ _ _ _ _ _ _ _ _ _ _ _ X P h ⟨hv.1, hv.2.t.t⟩) (fun z => kf z _ _ _ _ _ _ _ _ _ _ _ _ _ _ _ _ _ _ _ _ _ _ X P h ⟨hv.1, hv.2.t.t⟩)
theorem aw_icmp_le {x y : Int32} {off : Int} {tgt : Nat} (hdg : decode Y.2.1 pc = .ok (.if_icmp .le off, 3)) (ht : (pc : Int) + off = (tgt : Int)) (kt : x ≤ y → AW l Y sc d Q tgt L S u) (kf : ¬ x ≤ y → AW l Y sc d Q (pc + 3) L S u) : AW l Y sc d Q pc L (.int y :: .int x :: S) u := by
  intro p e R s m args below meth c n0 b0 ad0 sb ids D A H locs cells slots ad ls X P h hv
  exact lv_icmp_le X.exec X.bytes hdg ht (fun z => kt z _ _ _ _ _ _ _ _ _ _ _ _ _ _ _ _ _ _ _ _ _ _ X P h ⟨hv.1, hv.2.t.t⟩) (fun z => kf z _ _ _ _ _ _ _ _ _ _ _ _ _ _ _ _ _ _ _ _ _ _ X P h ⟨hv.1, hv.2.t.t⟩)
theorem aw_lcmp {x y : Int64} (hdg : decode Y.2.1 pc = .ok (.lcmp, 1)) (k : AW l Y sc d Q (pc + 1) L (.int (lg_cmp x y) :: S) u) : AW l Y sc d Q pc L (.long y :: .long x :: S) u := by
  intro p e R s m args below meth c n0 b0 ad0 sb ids D A H locs cells slots ad ls X P h hv
  exact W.lcmp X.exec X.bytes hdg (k _ _ _ _ _ _ _ _ _ _ _ _ _ _ _ _ _ _ _ _ _ _ X P h ⟨hv.1, hv.2.t.t.i⟩)
theorem aw_tsOut {x : Int32} {dflt lo hi : Int} {offs : Array Int} {len tgt : Nat} (hdg : decode Y.2.1 pc = .ok (.tableswitch dflt lo hi offs, len)) (hh : x.toInt < lo ∨ hi < x.toInt) (ht : (pc : Int) + dflt = (tgt : Int)) (k : AW l Y sc d Q tgt L S u) : AW l Y sc d Q pc L (.int x :: S) u := by
  intro p e R s m args below meth c n0 b0 ad0 sb ids D A H locs cells slots ad ls X P h hv
  exact lv_tableOut X.exec X.bytes hdg hh ht (k _ _ _ _ _ _ _ _ _ _ _ _ _ _ _ _ _ _ _ _ _ _ X P h ⟨hv.1, hv.2.t⟩)
theorem aw_tsIn {x : Int32} {dflt lo hi off : Int} {offs : Array Int} {len tgt : Nat} (hdg : decode Y.2.1 pc = .ok (.tableswitch dflt lo hi offs, len)) (h1 : ¬ x.toInt < lo) (h2 : ¬ hi < x.toInt) (ho : offs[(x.toInt - lo).toNat]? = some off) (ht : (pc : Int) + off = (tgt : Int)) (k : AW l Y sc d Q tgt L S u) : AW l Y sc d Q pc L (.int x :: S) u := by
  intro p e R s m args below meth c n0 b0 ad0 sb ids D A H locs cells slots ad ls X P h hv
  exact lv_tableIn X.exec X.bytes hdg h1 h2 ho ht (k _ _ _ _ _ _ _ _ _ _ _ _ _ _ _ _ _ _ _ _ _ _ X P h ⟨hv.1, hv.2.t⟩)
end OwSimple
end
section
theorem ow_at {ids : Nat → ClassId} {ad : Nat → Nat} {u : ow_M} {c : Nat} (h : c < u.1) : (ow_W ids ad u)[c]? = some (ad c, ow_E ids ad u c) := by
  simp [ow_W, h]
theorem ow_len {ids : Nat → ClassId} {ad : Nat → Nat} {u : ow_M} : (ow_W ids ad u).length = u.1 := by simp [ow_W]
theorem ow_set {ids : Nat → ClassId} {ad : Nat → Nat} {u u' : ow_M} {c : Nat} (hn : u'.1 = u.1) (hc : c < u.1) (ho : ∀ a, a ≠ c → ow_E ids ad u' a = ow_E ids ad u a) : (ow_W ids ad u).set c (ad c, ow_E ids ad u' c) = ow_W ids ad u' := by
  apply List.ext_getElem?
  intro k
  by_cases hk : k = c
  · subst hk
    rw [List.getElem?_set_self (by rw [ow_len]; exact hc), ow_at (by rw [hn]; exact hc)]
  · rw [List.getElem?_set_ne (Ne.symm hk)]
    by_cases hl : k < u.1
    · rw [ow_at hl, ow_at (by rw [hn]; exact hl), ho k hk]
    · rw [List.getElem?_eq_none (by rw [ow_len]; omega), List.getElem?_eq_none (by rw [ow_len, hn]; omega)]
theorem ow_E_congr {ids : Nat → ClassId} {ad : Nat → Nat} {u u' : ow_M} {a : Nat} (h1 : u'.2.1 a = u.2.1 a) (h2 : u'.2.2.1 a = u.2.2.1 a) (h3 : u'.2.2.2.1 a = u.2.2.2.1 a) : ow_E ids ad u' a = ow_E ids ad u a := by
  have e : ow_sv ad u' a = ow_sv ad u a := by
    funext ci k
    simp only [ow_sv, h1, h2]
  simp only [ow_E, h1, h2, h3, e]
theorem ow_E_0 {ids : Nat → ClassId} {ad : Nat → Nat} {u : ow_M} {c ci : Nat} (hk : ow_kd c = (0, ci)) : ow_E ids ad u c = .inr (ci, (List.range (ow_nf ci)).map (ow_sv ad u c ci)) := by simp only [ow_E, hk]
theorem ow_E_1 {ids : Nat → ClassId} {ad : Nat → Nat} {u : ow_M} {c n : Nat} (hk : ow_kd c = (1, n)) : ow_E ids ad u c = .inl (ids 0, n, .inl (u.2.2.1 c)) := by simp only [ow_E, hk]
theorem ow_E_2 {ids : Nat → ClassId} {ad : Nat → Nat} {u : ow_M} {c n : Nat} (hk : ow_kd c = (2, n)) : ow_E ids ad u c = .inl (ids 1, n, .inl (u.2.2.1 c)) := by simp only [ow_E, hk]
theorem ow_E_3 {ids : Nat → ClassId} {ad : Nat → Nat} {u : ow_M} {c n : Nat} (hk : ow_kd c = (3, n)) : ow_E ids ad u c = .inl (ids 2, n, .inr (.inl (u.2.2.2.1 c))) := by simp only [ow_E, hk]
theorem ow_E_4 {ids : Nat → ClassId} {ad : Nat → Nat} {u : ow_M} {c n : Nat} (hk : ow_kd c = (4, n)) : ow_E ids ad u c = .inl (ids 3, n, .inr (.inr (.inr (.inr (fun j => (u.2.1 c j).map ad))))) := by simp only [ow_E, hk]
theorem ow_u_ne {f : Nat → Nat → Int32} {c k a : Nat} {v : Int32} (h : a ≠ c) : ow_u f c k v a = f a := by simp [ow_u, h]
theorem ow_u_eq {f : Nat → Nat → Int32} {c k : Nat} {v : Int32} : ow_u f c k v c = upd (f c) k v := by simp [ow_u]
theorem ow_ul_ne {f : Nat → Nat → Int64} {c k a : Nat} {v : Int64} (h : a ≠ c) : ow_ul f c k v a = f a := by simp [ow_ul, h]
theorem ow_ul_eq {f : Nat → Nat → Int64} {c k : Nat} {v : Int64} : ow_ul f c k v c = vp_updL (f c) k v := by simp [ow_ul]
theorem ow_ur_ne {f : Nat → Nat → Option Nat} {c k a : Nat} {v : Option Nat} (h : a ≠ c) : ow_ur f c k v a = f a := by simp [ow_ur, h]
theorem ow_ur_eq {f : Nat → Nat → Option Nat} {c k : Nat} {v : Option Nat} : ow_ur f c k v c = va_up (f c) k v := by simp [ow_ur]
/-- the entry 'index' of the class own names the field k of the class number ci -/
def ow_F (own : String) (index ci k : Nat) : Prop := ∃ (C : String) (T : u_T), ow_cl[ci]? = some (C, T, ow_nf ci) ∧ k < ow_nf ci ∧ (∀ w ∈ u_ws C T (ow_nf ci), w ∈ ow_ws) ∧ Cond.fieldLink own index (T k).1 (T k).2.1 (T k).2.2.1 ∈ ow_ws
/-- the class number ci has fields of these types, apart by name -/
def ow_Ft (ci : Nat) (ty : Nat → FieldType) : Prop := ∃ (C : String) (T : u_T), ow_cl[ci]? = some (C, T, ow_nf ci) ∧ (∀ k, k < ow_nf ci → parseFieldDescriptor (T k).2.2.1 = some (ty k)) ∧ (∀ a, a < ow_nf ci → ∀ b, b < ow_nf ci → a ≠ b → (T a).2.1 ≠ (T b).2.1)
theorem ow_fs {ad : Nat → Nat} {u : ow_M} {c ci k : Nat} (hk : k < ow_nf ci) : ((List.range (ow_nf ci)).map (ow_sv ad u c ci))[k]? = some (ow_sv ad u c ci k) := by simp [hk]
theorem ow_fset {ad : Nat → Nat} {u u' : ow_M} {c ci k : Nat} {v : Value} (hv : ow_sv ad u' c ci k = v) (ho : ∀ j, j ≠ k → ow_sv ad u' c ci j = ow_sv ad u c ci j) : ((List.range (ow_nf ci)).map (ow_sv ad u c ci)).set k v = (List.range (ow_nf ci)).map (ow_sv ad u' c ci) := by
  apply List.ext_getElem?
  intro j
  by_cases hj : j = k
  · subst hj
    by_cases hl : j < ow_nf ci
    · rw [List.getElem?_set_self (by simpa using hl), ow_fs hl, hv]
    · rw [List.getElem?_eq_none (by simpa using hl), List.getElem?_eq_none (by simpa using hl)]
  · rw [List.getElem?_set_ne (Ne.symm hj)]
    by_cases hl : j < ow_nf ci
    · rw [ow_fs hl, ow_fs hl, ho j hj]
    · rw [List.getElem?_eq_none (by simpa using hl), List.getElem?_eq_none (by simpa using hl)]
section OwHeap
variable {l : Launch} {Y : ow_Y} {sc : Option (Nat × (Nat → Int32))} {d : Nat × Nat} {Q : ow_R → ow_M → Prop} {pc : Nat} {L : List (Option Value)} {S : List Value} {u : ow_M}
theorem ow_P.wf {n0 b0 : Nat} {ad0 ad : Nat → Nat} {ids : Nat → ClassId} {D : va_G} {A : Nat → Prop} {s : State} {H : Heap} {locs : List Loc} {cells slots : Nat} (P : ow_P n0 b0 ad0 ids D A s H locs cells slots ad u) : ow_wf u := P.2.2.2.2.2.2.1
theorem ow_wf.i {a k : Nat} {x : Int32} (h : ow_wf u) (ha : a < u.1) : ow_wf (u.1, u.2.1, ow_u u.2.2.1 a k x, u.2.2.2.1, u.2.2.2.2) :=
  ⟨h.1, fun c hc => ⟨(h.2 c hc).1, fun j => by show ow_u u.2.2.1 a k x c j = 0; rw [ow_u_ne (by have : u.1 ≤ c := hc; omega)]; exact (h.2 c hc).2.1 j, (h.2 c hc).2.2⟩⟩
theorem ow_wf.lo {a k : Nat} {x : Int64} (h : ow_wf u) (ha : a < u.1) : ow_wf (u.1, u.2.1, u.2.2.1, ow_ul u.2.2.2.1 a k x, u.2.2.2.2) :=
  ⟨h.1, fun c hc => ⟨(h.2 c hc).1, (h.2 c hc).2.1, fun j => by show ow_ul u.2.2.2.1 a k x c j = 0; rw [ow_ul_ne (by have : u.1 ≤ c := hc; omega)]; exact (h.2 c hc).2.2 j⟩⟩
theorem ow_wf.r {a k t : Nat} (h : ow_wf u) (ha : a < u.1) (ht : t < u.1) : ow_wf (u.1, ow_ur u.2.1 a k (some t), u.2.2.1, u.2.2.2.1, u.2.2.2.2) := by
  refine ⟨fun c j z hz => ?_, fun c hc => ⟨fun j => ?_, (h.2 c hc).2⟩⟩
  · by_cases hca : c = a
    · subst hca
      by_cases hj : j = k
      · subst hj
        have hz2 : some t = some z := by simpa [ow_ur, va_up] using hz
        cases hz2; exact ht
      · exact h.1 c j z (by simpa [ow_ur, va_up, hj] using hz)
    · exact h.1 c j z (by simpa [ow_ur, hca] using hz)
  · have : u.1 ≤ c := hc
    show ow_ur u.2.1 a k (some t) c j = none
    rw [ow_ur_ne (by omega)]; exact (h.2 c hc).1 j
theorem aw_geti {index ci k a : Nat} (hF : ow_F Y.1.cls index ci k) (hdg : decode Y.2.1 pc = .ok (.getfield index, 3)) (ha : a < u.1) (hk : ow_kd a = (0, ci)) (hr : ow_isr ci k = false) (kk : AW l Y sc d Q (pc + 3) L (.int (u.2.2.1 a k) :: S) u) : AW l Y sc d Q pc L (.ref a :: S) u := by
  intro p e R s m args below meth c n0 b0 ad0 sb ids D A H locs cells slots ad ls X P h hv
  obtain ⟨C, T, f1, f2, f3, f4⟩ := hF
  have he := ow_at (ids := ids) (ad := ad) ha
  rw [ow_E_0 hk] at he
  refine va_get X.exec X.bytes X.ts f3 X.own X.K P.1 a he f1 k f2 (X.ts _ f4) (fun x h9 => h9) (ow_fs f2) hdg ?_
  have e : ow_sv ad u a ci k = ow_cv sb ad (.int (u.2.2.1 a k)) := by simp [ow_sv, hr, ow_cv]
  rw [e]
  exact kk _ _ _ _ _ _ _ _ _ _ _ _ _ _ _ _ _ _ _ _ _ _ X P h ⟨hv.1, hv.2.t.i⟩
theorem aw_getr {index ci k a t : Nat} (hF : ow_F Y.1.cls index ci k) (hdg : decode Y.2.1 pc = .ok (.getfield index, 3)) (ha : a < u.1) (hk : ow_kd a = (0, ci)) (hr : ow_isr ci k = true) (ht : u.2.1 a k = some t) (kk : AW l Y sc d Q (pc + 3) L (.ref t :: S) u) : AW l Y sc d Q pc L (.ref a :: S) u := by
  intro p e R s m args below meth c n0 b0 ad0 sb ids D A H locs cells slots ad ls X P h hv
  obtain ⟨C, T, f1, f2, f3, f4⟩ := hF
  have he := ow_at (ids := ids) (ad := ad) ha
  rw [ow_E_0 hk] at he
  refine va_get X.exec X.bytes X.ts f3 X.own X.K P.1 a he f1 k f2 (X.ts _ f4) (fun x h9 => h9) (ow_fs f2) hdg ?_
  have e : ow_sv ad u a ci k = ow_cv sb ad (.ref t) := by simp [ow_sv, hr, ht, ow_cv, va_rf]
  rw [e]
  exact kk _ _ _ _ _ _ _ _ _ _ _ _ _ _ _ _ _ _ _ _ _ _ X P h ⟨hv.1, hv.2.t.r (P.wf.1 _ _ _ ht)⟩
theorem aw_iald {a n : Nat} {i : Int32} (hdg : decode Y.2.1 pc = .ok (.iaload, 1)) (ha : a < u.1) (hk : ow_kd a = (1, n)) (hi : vp_in i n) (kk : AW l Y sc d Q (pc + 1) L (.int (u.2.2.1 a i.toNatClampNeg) :: S) u) : AW l Y sc d Q pc L (.int i :: .ref a :: S) u := by
  intro p e R s m args below meth c n0 b0 ad0 sb ids D A H locs cells slots ad ls X P h hv
  have he := ow_at (ids := ids) (ad := ad) ha
  rw [ow_E_1 hk] at he
  exact va_iald X.exec X.bytes X.K P.1 a 0 he rfl hi hdg (kk _ _ _ _ _ _ _ _ _ _ _ _ _ _ _ _ _ _ _ _ _ _ X P h ⟨hv.1, hv.2.t.t.i⟩)
theorem aw_zald {a n : Nat} {i : Int32} (hdg : decode Y.2.1 pc = .ok (.baload, 1)) (ha : a < u.1) (hk : ow_kd a = (2, n)) (hi : vp_in i n) (kk : AW l Y sc d Q (pc + 1) L (.int (u.2.2.1 a i.toNatClampNeg) :: S) u) : AW l Y sc d Q pc L (.int i :: .ref a :: S) u := by
  intro p e R s m args below meth c n0 b0 ad0 sb ids D A H locs cells slots ad ls X P h hv
  have he := ow_at (ids := ids) (ad := ad) ha
  rw [ow_E_2 hk] at he
  exact va_zald X.exec X.bytes X.K P.1 a 1 he rfl hi hdg (kk _ _ _ _ _ _ _ _ _ _ _ _ _ _ _ _ _ _ _ _ _ _ X P h ⟨hv.1, hv.2.t.t.i⟩)
theorem aw_lald {a n : Nat} {i : Int32} (hdg : decode Y.2.1 pc = .ok (.laload, 1)) (ha : a < u.1) (hk : ow_kd a = (3, n)) (hi : vp_in i n) (kk : AW l Y sc d Q (pc + 1) L (.long (u.2.2.2.1 a i.toNatClampNeg) :: S) u) : AW l Y sc d Q pc L (.int i :: .ref a :: S) u := by
  intro p e R s m args below meth c n0 b0 ad0 sb ids D A H locs cells slots ad ls X P h hv
  have he := ow_at (ids := ids) (ad := ad) ha
  rw [ow_E_3 hk] at he
  exact va_lald X.exec X.bytes X.K P.1 a 2 he rfl hi hdg (kk _ _ _ _ _ _ _ _ _ _ _ _ _ _ _ _ _ _ _ _ _ _ X P h ⟨hv.1, hv.2.t.t.l⟩)
theorem aw_aald {a n t : Nat} {i : Int32} (hdg : decode Y.2.1 pc = .ok (.aaload, 1)) (ha : a < u.1) (hk : ow_kd a = (4, n)) (hi : vp_in i n) (ht : u.2.1 a i.toNatClampNeg = some t) (kk : AW l Y sc d Q (pc + 1) L (.ref t :: S) u) : AW l Y sc d Q pc L (.int i :: .ref a :: S) u := by
  intro p e R s m args below meth c n0 b0 ad0 sb ids D A H locs cells slots ad ls X P h hv
  have he := ow_at (ids := ids) (ad := ad) ha
  rw [ow_E_4 hk] at he
  have hlt : i.toNatClampNeg < n := Nat.not_le.mp fun q => hi (Or.inr q)
  refine W.aald (v := .ref (ad t)) (ty := .array .int) X.exec X.bytes (P.1 a _ he) ((X.K.2 3 (ids 3, .array .int) rfl).1 n (fun j => va_rf ((u.2.1 a j).map ad))) rfl (fun q => by cases q) (by show ¬ (i < 0 ∨ (arrV _ _ _).slots.size ≤ _); rw [arrV_size]; exact hi) (by show (arrV _ _ _).slots[_]? = _; rw [arrV_read _ _ hlt]; show some (va_rf ((u.2.1 a i.toNatClampNeg).map ad)) = _; rw [ht]; rfl) rfl rfl hdg ?_
  exact kk _ _ _ _ _ _ _ _ _ _ _ _ _ _ _ _ _ _ _ _ _ _ X P h ⟨hv.1, hv.2.t.t.r (P.wf.1 _ _ _ ht)⟩
theorem ow_P.moved {n0 b0 : Nat} {ad0 ad : Nat → Nat} {ids : Nat → ClassId} {D : va_G} {A : Nat → Prop} {s : State} {H H1 : Heap} {locs locs1 : List Loc} {cells slots : Nat} {u' : ow_M} (P : ow_P n0 b0 ad0 ids D A s H locs cells slots ad u) (hn : u'.1 = u.1) (hb : u'.2.2.2.2 = u.2.2.2.2)
    (hP : va_P D ow_cl (ow_W ids ad u') H1) (hD : va_D A (ow_W ids ad u')) (hS : va_S A s.heap H1 locs1) (hw : ow_wf u') : ow_P n0 b0 ad0 ids D A s H1 locs1 cells slots ad u' := by
  obtain ⟨-, -, -, p4, p5, p6, -, p7⟩ := P
  exact ⟨hP, hD, hS, by rw [hb]; exact p4, by rw [hb]; exact p5, by rw [hn]; exact p6, hw, p7⟩
theorem aw_iast {a n : Nat} {i x : Int32} (hdg : decode Y.2.1 pc = .ok (.iastore, 1)) (ha : a < u.1) (hk : ow_kd a = (1, n)) (hi : vp_in i n) (kk : AW l Y sc d Q (pc + 1) L S (u.1, u.2.1, ow_u u.2.2.1 a i.toNatClampNeg x, u.2.2.2.1, u.2.2.2.2)) : AW l Y sc d Q pc L (.int x :: .int i :: .ref a :: S) u := by
  intro p e R s m args below meth c n0 b0 ad0 sb ids D A H locs cells slots ad ls X P h hv
  have he := ow_at (ids := ids) (ad := ad) ha
  rw [ow_E_1 hk] at he
  refine va_iast X.exec X.bytes X.K P.1 P.2.1 P.2.2.1 a 0 he rfl hi hdg (fun H1 locs1 hP hD hS => ?_)
  have ew : (ow_W ids ad u).set a (ad a, .inl (ids 0, n, .inl (upd (u.2.2.1 a) i.toNatClampNeg x))) = ow_W ids ad (u.1, u.2.1, ow_u u.2.2.1 a i.toNatClampNeg x, u.2.2.2.1, u.2.2.2.2) := by
    rw [← ow_set (ids := ids) (ad := ad) (u := u) (u' := (u.1, u.2.1, ow_u u.2.2.1 a i.toNatClampNeg x, u.2.2.2.1, u.2.2.2.2)) (c := a) rfl ha (fun b hb => ow_E_congr rfl (ow_u_ne hb) rfl), ow_E_1 hk]
    simp only [ow_u_eq]
  rw [ew] at hP hD
  exact kk _ _ _ _ _ _ _ _ _ _ _ _ _ _ _ _ _ _ _ _ _ _ X (P.moved rfl rfl hP hD hS (P.wf.i ha)) h ⟨hv.1, hv.2.t.t.t⟩
theorem aw_zast {a n : Nat} {i x : Int32} (hdg : decode Y.2.1 pc = .ok (.bastore, 1)) (ha : a < u.1) (hk : ow_kd a = (2, n)) (hi : vp_in i n) (hx : x = 0 ∨ x = 1) (kk : AW l Y sc d Q (pc + 1) L S (u.1, u.2.1, ow_u u.2.2.1 a i.toNatClampNeg x, u.2.2.2.1, u.2.2.2.2)) : AW l Y sc d Q pc L (.int x :: .int i :: .ref a :: S) u := by
  intro p e R s m args below meth c n0 b0 ad0 sb ids D A H locs cells slots ad ls X P h hv
  have he := ow_at (ids := ids) (ad := ad) ha
  rw [ow_E_2 hk] at he
  have hx1 : vp_nar .boolean x = x := by rcases hx with rfl | rfl <;> rfl
  refine va_zast X.exec X.bytes X.K P.1 P.2.1 P.2.2.1 a 1 he rfl hi hdg (fun H1 locs1 hP hD hS => ?_)
  rw [hx1] at hP hD
  have ew : (ow_W ids ad u).set a (ad a, .inl (ids 1, n, .inl (upd (u.2.2.1 a) i.toNatClampNeg x))) = ow_W ids ad (u.1, u.2.1, ow_u u.2.2.1 a i.toNatClampNeg x, u.2.2.2.1, u.2.2.2.2) := by
    rw [← ow_set (ids := ids) (ad := ad) (u := u) (u' := (u.1, u.2.1, ow_u u.2.2.1 a i.toNatClampNeg x, u.2.2.2.1, u.2.2.2.2)) (c := a) rfl ha (fun b hb => ow_E_congr rfl (ow_u_ne hb) rfl), ow_E_2 hk]
    simp only [ow_u_eq]
  rw [ew] at hP hD
  exact kk _ _ _ _ _ _ _ _ _ _ _ _ _ _ _ _ _ _ _ _ _ _ X (P.moved rfl rfl hP hD hS (P.wf.i ha)) h ⟨hv.1, hv.2.t.t.t⟩
theorem aw_last {a n : Nat} {i : Int32} {x : Int64} (hdg : decode Y.2.1 pc = .ok (.lastore, 1)) (ha : a < u.1) (hk : ow_kd a = (3, n)) (hi : vp_in i n) (kk : AW l Y sc d Q (pc + 1) L S (u.1, u.2.1, u.2.2.1, ow_ul u.2.2.2.1 a i.toNatClampNeg x, u.2.2.2.2)) : AW l Y sc d Q pc L (.long x :: .int i :: .ref a :: S) u := by
  intro p e R s m args below meth c n0 b0 ad0 sb ids D A H locs cells slots ad ls X P h hv
  have he := ow_at (ids := ids) (ad := ad) ha
  rw [ow_E_3 hk] at he
  refine va_last X.exec X.bytes X.K P.1 P.2.1 P.2.2.1 a 2 he rfl hi hdg (fun H1 locs1 hP hD hS => ?_)
  have ew : (ow_W ids ad u).set a (ad a, .inl (ids 2, n, .inr (.inl (vp_updL (u.2.2.2.1 a) i.toNatClampNeg x)))) = ow_W ids ad (u.1, u.2.1, u.2.2.1, ow_ul u.2.2.2.1 a i.toNatClampNeg x, u.2.2.2.2) := by
    rw [← ow_set (ids := ids) (ad := ad) (u := u) (u' := (u.1, u.2.1, u.2.2.1, ow_ul u.2.2.2.1 a i.toNatClampNeg x, u.2.2.2.2)) (c := a) rfl ha (fun b hb => ow_E_congr rfl rfl (ow_ul_ne hb)), ow_E_3 hk]
    simp only [ow_ul_eq]
  rw [ew] at hP hD
  exact kk _ _ _ _ _ _ _ _ _ _ _ _ _ _ _ _ _ _ _ _ _ _ X (P.moved rfl rfl hP hD hS (P.wf.lo ha)) h ⟨hv.1, hv.2.t.t.t⟩
theorem aw_sld {n x : Nat} {xs : Nat → Int32} {i : Int32} (hs : sc = some (n, xs)) (hdg : decode Y.2.1 pc = .ok (.iaload, 1)) (hi : vp_in i n) (kk : AW l Y sc d Q (pc + 1) L (.int (xs i.toNatClampNeg) :: S) u) : AW l Y sc d Q pc L (.int i :: .retAddr x :: S) u := by
  intro p e R s m args below meth c n0 b0 ad0 sb ids D A H locs cells slots ad ls X P h hv
  obtain ⟨x1, x2, x3⟩ := X.script n xs hs
  exact va_sld X.exec X.bytes x1 x2 x3 P.2.2.1 hi hdg (kk _ _ _ _ _ _ _ _ _ _ _ _ _ _ _ _ _ _ _ _ _ _ X P h ⟨hv.1, hv.2.t.t.i⟩)
theorem aw_slen {n x : Nat} {xs : Nat → Int32} (hs : sc = some (n, xs)) (hdg : decode Y.2.1 pc = .ok (.arraylength, 1)) (kk : AW l Y sc d Q (pc + 1) L (.int (nI n) :: S) u) : AW l Y sc d Q pc L (.retAddr x :: S) u := by
  intro p e R s m args below meth c n0 b0 ad0 sb ids D A H locs cells slots ad ls X P h hv
  obtain ⟨x1, x2, x3⟩ := X.script n xs hs
  exact va_slen X.exec X.bytes x1 x2 x3 P.2.2.1 hdg (kk _ _ _ _ _ _ _ _ _ _ _ _ _ _ _ _ _ _ _ _ _ _ X P h ⟨hv.1, hv.2.t.i⟩)
end OwHeap
end
section
/-- the entry 'index' of the class own names the field k (of type ty, final or not) of the class number ci, which may be written -/
def ow_Fw (own : String) (index ci k : Nat) (fin : Bool) (ty : FieldType) : Prop := ∃ (C : String) (T : u_T) (ty0 : Nat → FieldType), ow_cl[ci]? = some (C, T, ow_nf ci) ∧ k < ow_nf ci ∧ (∀ w ∈ u_ws C T (ow_nf ci), w ∈ ow_ws) ∧ Cond.fieldLink own index (T k).1 (T k).2.1 (T k).2.2.1 ∈ ow_ws ∧
  (∀ k, k < ow_nf ci → parseFieldDescriptor (T k).2.2.1 = some (ty0 k)) ∧ (∀ a, a < ow_nf ci → ∀ b, b < ow_nf ci → a ≠ b → (T a).2.1 ≠ (T b).2.1) ∧ (T k).2.2.2 = fin ∧ (fin = true → (T k).1 = own) ∧ parseFieldDescriptor (T k).2.2.1 = some ty
section OwPuts
variable {l : Launch} {Y : ow_Y} {sc : Option (Nat × (Nat → Int32))} {d : Nat × Nat} {Q : ow_R → ow_M → Prop} {pc : Nat} {L : List (Option Value)} {S : List Value} {u : ow_M}
theorem ow_puti_W {ids : Nat → ClassId} {ad : Nat → Nat} {a ci k : Nat} {x : Int32} (ha : a < u.1) (hk : ow_kd a = (0, ci)) (hr : ow_isr ci k = false) :
    (ow_W ids ad u).set a (ad a, .inr (ci, ((List.range (ow_nf ci)).map (ow_sv ad u a ci)).set k (.int x))) = ow_W ids ad (u.1, u.2.1, ow_u u.2.2.1 a k x, u.2.2.2.1, u.2.2.2.2) := by
  rw [← ow_set (ids := ids) (ad := ad) (u := u) (u' := (u.1, u.2.1, ow_u u.2.2.1 a k x, u.2.2.2.1, u.2.2.2.2)) (c := a) rfl ha (fun b hb => ow_E_congr rfl (ow_u_ne hb) rfl), ow_E_0 hk]
  congr 3
  rw [ow_fset (u' := (u.1, u.2.1, ow_u u.2.2.1 a k x, u.2.2.2.1, u.2.2.2.2))]
  · simp [ow_sv, hr, ow_u_eq, upd]
  · intro j hj
    simp [ow_sv, ow_u_eq, upd, hj]
theorem ow_putr_W {ids : Nat → ClassId} {ad : Nat → Nat} {a ci k t : Nat} (ha : a < u.1) (hk : ow_kd a = (0, ci)) (hr : ow_isr ci k = true) :
    (ow_W ids ad u).set a (ad a, .inr (ci, ((List.range (ow_nf ci)).map (ow_sv ad u a ci)).set k (.ref (ad t)))) = ow_W ids ad (u.1, ow_ur u.2.1 a k (some t), u.2.2.1, u.2.2.2.1, u.2.2.2.2) := by
  rw [← ow_set (ids := ids) (ad := ad) (u := u) (u' := (u.1, ow_ur u.2.1 a k (some t), u.2.2.1, u.2.2.2.1, u.2.2.2.2)) (c := a) rfl ha (fun b hb => ow_E_congr (ow_ur_ne hb) rfl rfl), ow_E_0 hk]
  congr 3
  rw [ow_fset (u' := (u.1, ow_ur u.2.1 a k (some t), u.2.2.1, u.2.2.2.1, u.2.2.2.2))]
  · simp [ow_sv, hr, ow_ur_eq, va_up, va_rf]
  · intro j hj
    simp [ow_sv, ow_ur_eq, va_up, hj]
theorem aw_puti {index ci k a : Nat} {x : Int32} {ty : FieldType} (hF : ow_Fw Y.1.cls index ci k false ty) (hdg : decode Y.2.1 pc = .ok (.putfield index, 3)) (ha : a < u.1) (hk : ow_kd a = (0, ci)) (hr : ow_isr ci k = false) (hn : narrow ty (.int x) = .int x) (hf : fits ty (.int x) = true)
    (kk : AW l Y sc d Q (pc + 3) L S (u.1, u.2.1, ow_u u.2.2.1 a k x, u.2.2.2.1, u.2.2.2.2)) : AW l Y sc d Q pc L (.int x :: .ref a :: S) u := by
  intro p e R s m args below meth c n0 b0 ad0 sb ids D A H locs cells slots ad ls X P h hv
  obtain ⟨C, T, ty0, f1, f2, f3, f4, f5, f6, f7, f8, f9⟩ := hF
  have he := ow_at (ids := ids) (ad := ad) ha
  rw [ow_E_0 hk] at he
  refine va_put (v := .int x) X.exec X.bytes X.ts f3 ty0 f5 f6 X.own X.K P.1 P.2.1 P.2.2.1 a he f1 k f2 (X.ts _ f4) (fun x h9 => h9) f7 f9 hn hf (by simpa using f2) hdg (fun H1 locs1 hP hD hS => ?_)
  rw [ow_puti_W ha hk hr] at hP hD
  exact kk _ _ _ _ _ _ _ _ _ _ _ _ _ _ _ _ _ _ _ _ _ _ X (P.moved rfl rfl hP hD hS (P.wf.i ha)) h ⟨hv.1, hv.2.t.t⟩
theorem aw_putr {index ci k a t : Nat} {ty : FieldType} (hF : ow_Fw Y.1.cls index ci k true ty) (hin : Y.1.name = "<init>") (hdg : decode Y.2.1 pc = .ok (.putfield index, 3)) (ha : a < u.1) (hk : ow_kd a = (0, ci)) (hr : ow_isr ci k = true) (hn : ∀ x, narrow ty (.ref x) = .ref x) (hf : ∀ x, fits ty (.ref x) = true)
    (kk : AW l Y sc d Q (pc + 3) L S (u.1, ow_ur u.2.1 a k (some t), u.2.2.1, u.2.2.2.1, u.2.2.2.2)) : AW l Y sc d Q pc L (.ref t :: .ref a :: S) u := by
  intro p e R s m args below meth c n0 b0 ad0 sb ids D A H locs cells slots ad ls X P h hv
  obtain ⟨C, T, ty0, f1, f2, f3, f4, f5, f6, f7, f8, f9⟩ := hF
  have he := ow_at (ids := ids) (ad := ad) ha
  rw [ow_E_0 hk] at he
  refine va_putF (v := .ref (ad t)) X.exec X.bytes X.ts f3 ty0 f5 f6 X.own X.K P.1 P.2.1 P.2.2.1 a he f1 k f2 (X.ts _ f4) (fun x h9 => h9) f7 (X.name.trans hin) (f8 rfl) f9 (hn _) (hf _) (by simpa using f2) hdg (fun H1 locs1 hP hD hS => ?_)
  rw [ow_putr_W ha hk hr] at hP hD
  exact kk _ _ _ _ _ _ _ _ _ _ _ _ _ _ _ _ _ _ _ _ _ _ X (P.moved rfl rfl hP hD hS (P.wf.r ha (hv.2 t List.mem_cons_self))) h ⟨hv.1, hv.2.t.t⟩
end OwPuts
end
section
/-! ends, calls -/
/-- the word of a method's code -/
def ow_code (Y : ow_Y) : Cond := match Y.2.2.2.2 with
  | [] => .code Y.1 Y.2.1 Y.2.2.1 Y.2.2.2.1
  | hh => .codeWith Y.1 Y.2.1 Y.2.2.1 Y.2.2.2.1 hh
theorem ow_code_spec {Y : ow_Y} {args : Array Value} {s : State} {m : MethodId} (hn : s.methodNamed? Y.1 = some m) (h : (ow_code Y).before args s = true) :
    ∃ meth c, s.vm.method? m = some meth ∧ meth.code = some c ∧ c.code = Y.2.1 ∧ c.maxLocals = Y.2.2.1 ∧ meth.sig.returnType = Y.2.2.2.1 ∧ meth.locks = false ∧ c.exceptionTable.toList.map (fun h => (h.startPc, h.endPc, h.handlerPc, h.catchType)) = Y.2.2.2.2 ∧ parseMethodDescriptor Y.1.desc = some meth.sig := by
  obtain ⟨y, cc, mx, rt, hh⟩ := Y
  cases hh with
  | nil =>
    obtain ⟨meth, c, h1, h2, h3, h4, h5, h6, h7, h8⟩ := Cond.code_spec hn (show (Cond.code y cc mx rt).before args s = true from h)
    refine ⟨meth, c, h1, h2, h3, h4, h5, h6, ?_, h8⟩
    have : c.exceptionTable = #[] := by simpa using h7
    rw [this]; rfl
  | cons q qs =>
    obtain ⟨m9, meth, c, hn9, h1, h2, h3, h4, h7, h5, h6, h8⟩ := Cond.codeWith_spec (show (Cond.codeWith y cc mx rt (q :: qs)).before args s = true from h)
    cases hn.symm.trans hn9
    exact ⟨meth, c, h1, h2, h3, h4, h5, h6, h7, h8⟩
theorem ow_code_named {Y : ow_Y} {args : Array Value} {s : State} (h : (ow_code Y).before args s = true) : ∃ m, s.methodNamed? Y.1 = some m := by
  obtain ⟨y, cc, mx, rt, hh⟩ := Y
  cases hh with
  | nil => exact Cond.code_named (show (Cond.code y cc mx rt).before args s = true from h)
  | cons q qs =>
    obtain ⟨m9, meth, c, hn9, -⟩ := Cond.codeWith_spec (show (Cond.codeWith y cc mx rt (q :: qs)).before args s = true from h)
    exact ⟨m9, hn9⟩
theorem ow_cvc (sb : Nat) (ad : Nat → Nat) (v : Value) : (ow_cv sb ad v).category = v.category := by cases v <;> rfl
theorem ow_weigh {m : MethodId} {pc sb : Nat} {ls : Array Slot} {ad : Nat → Nat} {S : List Value} {n k : Nat} (h : (S.map fun v => v.category).sum + n ≤ k) : 2 * (F0 m pc ls (S.map (ow_cv sb ad))).monitorRoom + ((F0 m pc ls (S.map (ow_cv sb ad))).stack.map fun v => v.category).sum + n ≤ k := by
  show 2 * 0 + ((S.map (ow_cv sb ad)).map fun v => v.category).sum + n ≤ k
  rw [List.map_map]
  have : ((fun v => v.category) ∘ ow_cv sb ad) = fun v : Value => v.category := by
    funext v; exact ow_cvc sb ad v
  rw [this]; omega
theorem ow_sl_len (sb : Nat) (ad : Nat → Nat) : ∀ vs : List Value, (∀ v ∈ vs, v.category = 1) → (lg_sl (vs.map (ow_cv sb ad))).length = vs.length
  | [], _ => rfl
  | w :: ws, hc => by
    have hw : (ow_cv sb ad w).category = 1 := ow_cat (hc w List.mem_cons_self)
    have ih := ow_sl_len sb ad ws (fun z hz => hc z (List.mem_cons_of_mem _ hz))
    have e : lg_sl ((w :: ws).map (ow_cv sb ad)) = [Slot.val (ow_cv sb ad w)] ++ lg_sl (ws.map (ow_cv sb ad)) := by
      simp only [lg_sl, List.map_cons, List.flatMap_cons, hw]
      rfl
    rw [e, List.length_append, ih, List.length_cons]
    simp
    omega
section OwEnds
variable {l : Launch} {Y : ow_Y} {sc : Option (Nat × (Nat → Int32))} {d : Nat × Nat} {Q : ow_R → ow_M → Prop} {pc : Nat} {L : List (Option Value)} {S : List Value} {u : ow_M}
theorem aw_iret {x : Int32} {ty : FieldType} (hdg : decode Y.2.1 pc = .ok (.ireturn, 1)) (hr : Y.2.2.2.1 = some ty) (hn : narrow ty (.int x) = .int x) (q : Q (.inl (some x)) u) : AW l Y sc d Q pc L [.int x] u := by
  intro p e R s m args below meth c n0 b0 ad0 sb ids D A H locs cells slots ad ls X P h hv
  intro T hT Xs
  have hexec := X.exec
  have hb := X.bytes
  have hr2 : meth.sig.returnType = some ty := X.ret.trans hr
  obtain ⟨fs, hret, hrun, hended, hW, hframe⟩ := Xs.leave (v := some (.int x)) (hlocks := X.locks) (fun h => by rw [hr2] at h; cases h)
  have hmeth' : T.vm.method? m = some meth := Xs.method'
  refine ⟨T.setFrames fs, ?_, .returned (some (.int x)), hrun, hended, u, ad, locs, cells, slots, hW, hframe, ?_, Or.inl ⟨some x, rfl, q⟩⟩
  · show Steps p.tables e below (T.setTop (F0 m pc ls [.int x])) _
    jvm_step Xs.here [Xs.here.top, hexec, hb, hdg, hmeth', hr2, hn]
    (try refine ⟨rfl, ?_⟩); (try refine ⟨rfl, ?_⟩)
    first | (intro acts; rw [hret _ acts rfl rfl rfl]) | rw [hret _ _ rfl rfl rfl]
    exact Steps.refl _
  · have : (T.setFrames fs).heap = H := hT
    rw [this]; exact P
theorem aw_vret (hdg : decode Y.2.1 pc = .ok (.return_, 1)) (hr : Y.2.2.2.1 = none) (q : Q (.inl none) u) : AW l Y sc d Q pc L [] u := by
  intro p e R s m args below meth c n0 b0 ad0 sb ids D A H locs cells slots ad ls X P h hv
  intro T hT Xs
  have hexec := X.exec
  have hb := X.bytes
  have hr2 : meth.sig.returnType = none := X.ret.trans hr
  obtain ⟨fs, hret, hrun, hended, hW, hframe⟩ := Xs.leave (v := none) (hlocks := X.locks) (fun _ => rfl)
  have hmeth' : T.vm.method? m = some meth := Xs.method'
  refine ⟨T.setFrames fs, ?_, .returned none, hrun, hended, u, ad, locs, cells, slots, hW, hframe, ?_, Or.inl ⟨none, rfl, q⟩⟩
  · show Steps p.tables e below (T.setTop (F0 m pc ls [])) _
    jvm_step Xs.here [Xs.here.top, hexec, hb, hdg, hmeth', hr2]
    (try refine ⟨rfl, ?_⟩); (try refine ⟨rfl, ?_⟩)
    first | (intro acts; rw [hret _ acts rfl rfl rfl]) | rw [hret _ _ rfl rfl rfl]
    exact Steps.refl _
  · have : (T.setFrames fs).heap = H := hT
    rw [this]; exact P
/-- a method by the walk of its body -/
theorem mt_of {vs : List Value} {k : Nat} (hpl : plainName Y.1.cls = true) (hw : ow_code Y ∈ ow_ws) (hcv : ∀ v ∈ vs, v.category = 1) (hk : vs.length + k = Y.2.2.1) (body : AW l Y none d Q 0 (vs.map some ++ List.replicate k none) [] u) : MT l Y d vs u Q := by
  intro sb ad ids D sz
  refine MetFree.of_bodyS (code := Y.2.1) (maxLocals := Y.2.2.1) (ret := Y.2.2.2.1) hpl ?_ ?_
  · intro args s m h hn
    obtain ⟨meth, c, h1, h2, h3, h4, h5, h6, -, -⟩ := ow_code_spec hn (atoms_spec (ws := ow_ws) h _ hw)
    exact ⟨meth, c, h1, h2, h3, h4, h5, h6⟩
  · intro p e s m args below meth c s₁ B hml hP _
    obtain ⟨rfl, hsz, hP, hK, hD, hwf, hok, hG⟩ := hP
    subst hsz
    have hts := atoms_spec (ws := ow_ws) B.pre
    have X0 := Stand.of_body B
    obtain ⟨meth', c', hm', hc', -, -, -, -, hhand, -⟩ := ow_code_spec B.named (hts _ hw)
    cases B.method.symm.trans hm'
    cases X0.code.symm.trans hc'
    have hh0 : s₁.heap = s.heap := by rw [B.state]; rfl
    have hA : ∀ q, s.heap.size ≤ q → va_A (ow_W ids ad u) s.heap.size q := fun q h => Or.inr h
    have hX : ow_X Y none d u.2.2.2.2 sb ids D (va_A (ow_W ids ad u) s.heap.size) p { frames := d.1, cells := 8 * u.2.2.2.2, slots := 128 * u.2.2.2.2, locals := d.2 } s m (vs.map (ow_cv sb ad)).toArray meth c :=
      ⟨B.exec, B.bytes, hml, B.returns, B.notSynchronized, findClass_of_methodNamed B.named, (name_of_methodNamed B.named B.method).1, hhand, hts, hK, hA, ⟨Nat.le_refl _, Nat.le_refl _, Nat.le_refl _, Nat.le_refl _⟩, hG, fun n xs h => by cases h⟩
    have hPP : ow_P u.1 u.2.2.2.2 ad ids D (va_A (ow_W ids ad u) s.heap.size) s s.heap [] 0 0 ad u :=
      ⟨hP, hD.self (sz := s.heap.size), va_S.rf, by omega, by omega, Nat.le_refl _, hwf, fun _ _ => rfl⟩
    have hcat : (lg_sl (vs.map (ow_cv sb ad))).length ≤ Y.2.2.1 := by
      have := ow_sl_len sb ad vs hcv
      omega
    have hl := lv_entry (vs.map (ow_cv sb ad)) (n := Y.2.2.1) hcat
    have hls := ow_entry sb ad vs hcv hl k
    have hokL : ow_okL u.1 (vs.map some ++ List.replicate k none) := by
      intro c hc
      rcases List.mem_append.mp hc with h1 | h1
      · obtain ⟨v, h2, h3⟩ := List.mem_map.mp h1
        cases h3
        exact hok c h2
      · have h2 := List.eq_of_mem_replicate h1
        cases h2
    have hw0 := body p e _ s m _ below meth c _ _ _ sb ids D _ s.heap [] 0 0 ad _ hX hPP hls ⟨hokL, fun c hc => nomatch hc⟩
    simp only [List.map_nil] at hw0
    rw [← lg_entry_eq] at hw0
    obtain ⟨t, a1, o, b1, b2, b3⟩ := hw0 s₁ hh0 X0
    exact ⟨t, o, a1, b1, b2, b3⟩
end OwEnds
/-- where a call lands: behind it with a value, or with an exception on its way -/
def ow_land (g : JFrame) (B : State) : Option Value ⊕ Addr → State
  | .inl v => B.setTop { g with pc := g.pc + 3, stack := v.toList ++ g.stack }
  | .inr x => (B.setTop g).pushFrame (.throwing x)
section OwCalls
variable {p : Program} {l : Launch} {e : Env} {R : Room} {s : State} {m : MethodId} {args : Array Value} {below : List Frame} {meth : Method} {c : Code} {U : State} {locs : List Loc} {cells slots : Nat}
variable {Y Y' : ow_Y} {sc : Option (Nat × (Nat → Int32))} {d d' : Nat × Nat} {n0 b0 sb : Nat} {ids : Nat → ClassId} {D : va_G} {A : Nat → Prop} {ad0 ad : Nat → Nat} {u : ow_M} {vs : List Value} {Qm : ow_R → ow_M → Prop}
theorem ow_enter (hM : MT l Y' d' vs u Qm) (X : ow_X Y sc d b0 sb ids D A p R s m args meth c) (P : ow_P n0 b0 ad0 ids D A s U.heap locs cells slots ad u) (hok : ow_okS u.1 vs) (Xs : Stand p l e R s m args below meth c U locs cells slots)
    {g : JFrame} {ig : Instr} {mk : MethodId} (hg : g.method = m) (hsize : g.locals.size = c.maxLocals) (hdg : decode c.code g.pc = .ok (ig, 3)) (hd : d'.1 + 1 ≤ d.1 ∧ 2 * g.monitorRoom + (g.stack.map fun v => v.category).sum + (Y'.2.2.1 + 11) + d'.2 ≤ d.2) (hn : U.methodNamed? Y'.1 = some mk)
    (hcode : ow_code Y' ∈ ow_ws) (hini : Cond.initialized Y'.1.cls ∈ ow_ws) :
    ∃ (o : Option Value ⊕ Addr) (T' : State) (locs' : List Loc) (cells' slots' : Nat) (ad' : Nat → Nat) (u' : ow_M), Stand p l e R s m args below meth c T' locs' cells' slots' ∧ ow_P n0 b0 ad0 ids D A s T'.heap locs' cells' slots' ad' u' ∧ u.1 ≤ u'.1 ∧ (∀ c, c < u.1 → ad' c = ad c) ∧
      (match o with | .inl v => ∃ r : Option Int32, v = r.map Value.int ∧ Qm (.inl r) u' | .inr x => ∃ kx, ow_ex kx x s T'.heap ∧ Qm (.inr kx) u') ∧
      Steps p.tables e below (doInvoke e (U.setTop g) [] mk (vs.map (ow_cv sb ad)).toArray).1 (ow_land g T' o) := by
  have hM := hM sb ad ids D U.heap.size
  have hwords : ∀ w ∈ ow_ws, ∀ (a' : Array Value) (V : State), s.WarmedH V.vm → w.before a' V = true := pay_in X.ts ow_good
  obtain ⟨rf, rl, rc, rs⟩ := X.room
  obtain ⟨p1, p2, p3, p4, p5, p6, p7, p8⟩ := P
  have hcw := hwords _ hcode (vs.map (ow_cv sb ad)).toArray U Xs.warmed
  obtain ⟨methY, cY, hmY, hcY, -, hlY, -, -, -, -⟩ := ow_code_spec hn hcw
  obtain ⟨kY, hkY, -⟩ := className_of_methodNamed hn
  have hinitY : kY.init = .initialized := Cond.initialized_spec (findClass_of_methodNamed hn) hkY (hwords _ hini (vs.map (ow_cv sb ad)).toArray U Xs.warmed)
  have h : At U g.method c below := by rw [hg]; exact Xs.here
  have happ : (headSpec ow_ws { frames := d'.1, cells := 8 * u.2.2.2.2, slots := 128 * u.2.2.2.2, locals := d'.2 }).appliesLoose Y'.1 e.platform (U.calling g mk (vs.map (ow_cv sb ad)).toArray) = true :=
    Spec.appliesLoose_calling (g := g) h hdg hn hkY hinitY
      (Xs.room_calling (g := g) (R' := { frames := d'.1, cells := 8 * u.2.2.2.2, slots := 128 * u.2.2.2.2, locals := d'.2 }) hsize hmY hcY (by show d'.1 + 1 ≤ _; omega) (by rw [hlY]; show _ + d'.2 ≤ _; omega) (by show _ + 8 * u.2.2.2.2 ≤ _; omega) (by show _ + 128 * u.2.2.2.2 ≤ _; omega)) (atoms_intro fun w hw => hwords w hw _ _ Xs.warmed)
  obtain ⟨mid, hmid⟩ := h.above
  have hfr : (U.setTop g).frames = (.java g :: mid) ++ below := by rw [State.frames_setTop' g h.top, hmid]; rfl
  have hA' : ∀ q, va_A (ow_W ids ad u) U.heap.size q → A q := by
    intro q hq
    rcases hq with ⟨k, e, hk⟩ | hq
    · exact p2.2 k (q, e) hk
    · exact X.new q (Nat.le_trans p3.1 hq)
  obtain ⟨o, s₂, hsteps, -, hend, hq⟩ := Steps.callFree hM p Xs.admits Xs.cas Xs.clock (acts := []) (m := mk) (args := (vs.map (ow_cv sb ad)).toArray) hfr happ ⟨rfl, rfl, p1, va_K.moved Xs.warmed.alike X.K, p2.weaken (fun _ _ _ _ => trivial), p7, hok, ow_G.moved (U.calling g mk (vs.map (ow_cv sb ad)).toArray) Xs.warmed p3 hA' X.given⟩ trivial
  rw [State.frames_setTop' g h.top] at hend
  have hq' : ow_Q Qm u.1 u.2.2.2.2 sb ad ids D (va_A (ow_W ids ad u) U.heap.size) (U.calling g mk (vs.map (ow_cv sb ad)).toArray) o s₂ := hq
  obtain ⟨u', ad', Ls, k, n, hW₂, hsame, ⟨q1, q2, q3, q4, q5, q6, q7, q8⟩, hend2⟩ := hq'
  have hW' : U.WarmedH s₂.vm := hW₂
  have hP' : ow_P n0 b0 ad0 ids D A s s₂.heap (locs ++ Ls) (cells + k) (slots + n) ad' u' := by
    refine ⟨q1, q2.weaken (fun _ q _ h => hA' q.1 h), ⟨Nat.le_trans p3.1 q3.1, fun q h1 h2 => ?_, fun q hq => ?_⟩, by omega, by omega, Nat.le_trans p6 q6, q7, fun c hc => (q8 c (Nat.lt_of_lt_of_le hc p6)).trans (p8 c hc)⟩
    · rw [q3.2.1 q (Nat.lt_of_lt_of_le h1 p3.1) (fun z => h2 (hA' q z))]; exact p3.2.1 q h1 h2
    · rcases List.mem_append.mp hq with h | h
      · exact p3.2.2 q h
      · exact hA' _ (q3.2.2 q h)
  rcases hend2 with ⟨v, rfl, hQ⟩ | ⟨x, kx, rfl, hx, hQ⟩
  · obtain ⟨e2, r2, r3, r4, r5, r6⟩ := hsame
    have e3 : s₂ = ({ (U.calling g mk (vs.map (ow_cv sb ad)).toArray).setFrames s₂.frames with heap := s₂.heap, slotsUsed := s₂.slotsUsed } : State).setVm s₂.vm := by
      have : s₂ = ({ s₂ with vm := (U.calling g mk (vs.map (ow_cv sb ad)).toArray).vm } : State).setVm s₂.vm := rfl
      rw [e2] at this
      exact this
    obtain ⟨c₂, i₂, len₂, hc₂, hd₂, hf₂⟩ := hend
    have hcc : c₂ = c := by
      have h1 : s₂.code? g.method = U.code? g.method := by
        rw [State.code?_eq, State.code?_eq, hW'.alike.method?]
      exact Option.some.inj (hc₂.symm.trans (h1.trans h.code))
    subst hcc
    have hlen : len₂ = 3 := by rw [hdg] at hd₂; cases hd₂; rfl
    subst hlen
    obtain ⟨g₀, hg0⟩ := Option.isSome_iff_exists.mp h.top
    obtain ⟨r, hr⟩ := State.topJava?_eq_some.mp hg0
    have hs₂ : s₂ = (({ U with heap := s₂.heap, slotsUsed := s₂.slotsUsed } : State).setVm s₂.vm).setTop { g with pc := g.pc + 3, stack := (v.map Value.int).toList ++ g.stack } := by
      have hr' : (({ U with heap := s₂.heap, slotsUsed := s₂.slotsUsed } : State).setVm s₂.vm).frames = .java g₀ :: r := hr
      refine e3.trans ?_
      rw [hf₂, State.calling_eq h.top, State.setFrames_setFrames, State.setTop_of_frames _ hr', hr]
      rfl
    have hsame2 : U.sameButNew ({ U with heap := s₂.heap, slotsUsed := s₂.slotsUsed } : State) Ls k n := by
      refine ⟨?_, r2, r3, r4, r5, r6⟩
      obtain ⟨t, ht, -⟩ := State.frames_cons hr
      show ({ U with heap := s₂.heap, slotsUsed := s₂.slotsUsed } : State) = { U.setFrames U.frames with heap := s₂.heap, slotsUsed := s₂.slotsUsed }
      rw [State.setFrames_self ht]
    refine ⟨.inl (v.map Value.int), ({ U with heap := s₂.heap, slotsUsed := s₂.slotsUsed } : State).setVm s₂.vm, locs ++ Ls, cells + k, slots + n, ad', u',
      ⟨Xs.admits, Xs.cas, Xs.clock, Xs.frames, Xs.room, Xs.hears, Xs.method, Xs.code, (Xs.here.setHeapUsed s₂.heap s₂.slotsUsed).setVm hW'.alike, Xs.tail, State.WarmedH.trans Xs.warmed hW', Xs.limits, Xs.bytes, Xs.same.trans (hsame2.setVm s.vm)⟩, hP', q6, q8, ⟨v, rfl, hQ⟩, ?_⟩
    show Steps p.tables e below _ ((({ U with heap := s₂.heap, slotsUsed := s₂.slotsUsed } : State).setVm s₂.vm).setTop { g with pc := g.pc + 3, stack := (v.map Value.int).toList ++ g.stack })
    rw [← hs₂]
    exact hsteps
  · rw [Xs.tail] at hend
    obtain ⟨T', X', -, hs', ht⟩ := Xs.outOfThrown hg (mk := mk) (a := (vs.map (ow_cv sb ad)).toArray) (t := s₂) (x := x) (L := Ls) (k := k) (n := n) hend hW₂ hsame
    have hheap : T'.heap = s₂.heap := by rw [ht, Stand.throwing_heap]
    refine ⟨.inr x, T', locs ++ Ls, cells + k, slots + n, ad', u', X', by rw [hheap]; exact hP', q6, q8, ⟨kx, ?_, hQ⟩, ?_⟩
    · rw [hheap]; exact ow_ex.back Xs.warmed hx
    · show Steps p.tables e below _ ((T'.setTop g).pushFrame (.throwing x))
      rw [← ht]; exact hsteps
end OwCalls
end
section
/-! the calls as rules -/
theorem ow_cv_map {sb n : Nat} {ad ad' : Nat → Nat} {S : List Value} (ha : ∀ c, c < n → ad' c = ad c) (h : ow_okS n S) : S.map (ow_cv sb ad') = S.map (ow_cv sb ad) := by
  refine List.map_congr_left (fun v hv => ?_)
  cases v with
  | ref c => show Value.ref (ad' c) = Value.ref (ad c); rw [ha c (h c hv)]
  | _ => rfl
theorem ow_ls.re {sb n nL : Nat} {ad ad' : Nat → Nat} {L : List (Option Value)} {ls : Array Slot} (h : ow_ls sb ad nL L ls) (ha : ∀ c, c < n → ad' c = ad c) (hL : ow_okL n L) : ow_ls sb ad' nL L ls := by
  refine ⟨h.1, fun i v hi => ⟨(h.2 i v hi).1, ?_⟩⟩
  rw [(h.2 i v hi).2]
  cases v with
  | ref c => show some (Slot.val (Value.ref (ad c))) = some (Slot.val (Value.ref (ad' c))); rw [ha c (hL c (List.mem_of_getElem? hi))]
  | _ => rfl
theorem ow_okS.up {n n' : Nat} {S : List Value} (h : ow_okS n S) (hn : n ≤ n') : ow_okS n' S := fun c hc => Nat.lt_of_lt_of_le (h c hc) hn
theorem ow_okL.up {n n' : Nat} {L : List (Option Value)} (h : ow_okL n L) (hn : n ≤ n') : ow_okL n' L := fun c hc => Nat.lt_of_lt_of_le (h c hc) hn
theorem ow_okS.app {n : Nat} {S S' : List Value} (h : ow_okS n S) (h' : ow_okS n S') : ow_okS n (S ++ S') := fun c hc => by
  rcases List.mem_append.mp hc with h1 | h1
  · exact h c h1
  · exact h' c h1
theorem ow_okS.ints {n : Nat} (r : Option Int32) : ow_okS n (r.toList.map Value.int) := fun c hc => by
  obtain ⟨x, -, h⟩ := List.mem_map.mp hc
  cases h
/-- behind a call, where no handler of the method covers it -/
def ow_next (l : Launch) (Y : ow_Y) (sc : Option (Nat × (Nat → Int32))) (d : Nat × Nat) (Q : ow_R → ow_M → Prop) (pc : Nat) (L : List (Option Value)) (S : List Value) : ow_R → ow_M → Prop := fun r u => match r with
  | .inl v => AW l Y sc d Q pc L (v.toList.map Value.int ++ S) u
  | .inr kx => Q (.inr kx) u
section OwRules
variable {p : Program} {l : Launch} {e : Env} {R : Room} {s : State} {m : MethodId} {args : Array Value} {below : List Frame} {meth : Method} {c : Code} {locs : List Loc} {cells slots : Nat}
variable {Y Y' : ow_Y} {sc : Option (Nat × (Nat → Int32))} {d : Nat × Nat} {n0 b0 sb : Nat} {ids : Nat → ClassId} {D : va_G} {A : Nat → Prop} {ad0 ad : Nat → Nat} {u : ow_M} {vs : List Value} {Q : ow_R → ow_M → Prop} {pc : Nat} {L : List (Option Value)} {S : List Value} {ls : Array Slot}
theorem ow_behind (hh : ∀ q ∈ Y.2.2.2.2, ¬ (q.1 ≤ pc ∧ pc < q.2.1)) (X : ow_X Y sc d b0 sb ids D A p R s m args meth c) (h : ow_ls sb ad Y.2.2.1 L ls) (hv : ow_okL u.1 L ∧ ow_okS u.1 S)
    {o : Option Value ⊕ Addr} {T' : State} {locs' : List Loc} {cells' slots' : Nat} {ad' : Nat → Nat} {u' : ow_M} (Xs : Stand p l e R s m args below meth c T' locs' cells' slots') (P : ow_P n0 b0 ad0 ids D A s T'.heap locs' cells' slots' ad' u') (hle : u.1 ≤ u'.1) (had : ∀ c, c < u.1 → ad' c = ad c)
    (hQ : match o with | .inl v => ∃ r : Option Int32, v = r.map Value.int ∧ ow_next l Y sc d Q (pc + 3) L S (.inl r) u' | .inr x => ∃ kx, ow_ex kx x s T'.heap ∧ ow_next l Y sc d Q (pc + 3) L S (.inr kx) u') :
    ∃ t, Steps p.tables e below (ow_land (F0 m pc ls (S.map (ow_cv sb ad))) T' o) t ∧ ow_MQ below Q n0 b0 sb ad0 ids D A s t := by
  cases o with
  | inl v =>
    obtain ⟨r, rfl, hr⟩ := hQ
    have hw := hr p e R s m args below meth c n0 b0 ad0 sb ids D A T'.heap locs' cells' slots' ad' ls X P (h.re had hv.1) ⟨hv.1.up hle, (ow_okS.ints r).app (hv.2.up hle)⟩
    rw [List.map_append, ow_cv_map had hv.2] at hw
    have e1 : (r.toList.map Value.int).map (ow_cv sb ad') = (r.map Value.int).toList := by cases r <;> rfl
    rw [e1] at hw
    exact hw T' rfl Xs
  | inr x =>
    obtain ⟨kx, hx, hq⟩ := hQ
    have hout : ∀ y ∈ c.exceptionTable.toList, covers y (F0 m pc ls (S.map (ow_cv sb ad))).pc = false := by
      intro y hy
      have hm := List.mem_map_of_mem (f := fun h : ExceptionTableEntry => (h.startPc, h.endPc, h.handlerPc, h.catchType)) hy
      rw [X.hand] at hm
      have := hh _ hm
      simp only [covers, Bool.and_eq_false_iff, decide_eq_false_iff_not]
      by_cases h1 : y.startPc ≤ pc
      · right; intro h2; exact this ⟨h1, h2⟩
      · left; exact h1
    obtain ⟨st, hrun, hended, hW, hframe⟩ := Xs.leaveThrown x (g := F0 m pc ls (S.map (ow_cv sb ad))) rfl rfl rfl hout X.locks
    exact ⟨_, st, .threw x, hrun, hended, u', ad', locs', cells', slots', hW, hframe, P, Or.inr ⟨x, kx, rfl, hx, hq⟩⟩
end OwRules
/-- the words of a callee -/
def ow_Cd (Y' : ow_Y) (n : Nat) : Prop := ow_code Y' ∈ ow_ws ∧ Cond.initialized Y'.1.cls ∈ ow_ws ∧ (Y'.1.cls ≠ "java/lang/invoke/MethodHandle" ∧ Y'.1.cls ≠ "java/lang/invoke/VarHandle") ∧ (parseMethodDescriptor Y'.1.desc).map (fun d => d.parameters.length) = some n
/-- an entry of a class that names a method of an object of the class C -/
def ow_LV (own : String) (index : Nat) (Y' : ow_Y) (C : String) : Prop := Cond.methodLink own index Y'.1 ∈ ow_ws ∧ Cond.instanceMethod Y'.1 ∈ ow_ws ∧ Cond.selects C Y'.1 Y'.1 ∈ ow_ws
def ow_LS (own : String) (index : Nat) (Y' : ow_Y) : Prop := Cond.methodLink own index Y'.1 ∈ ow_ws ∧ Cond.static Y'.1 ∈ ow_ws
def ow_LI (own : String) (index : Nat) (Y' : ow_Y) : Prop := Cond.methodLink own index Y'.1 ∈ ow_ws ∧ Cond.instanceMethod Y'.1 ∈ ow_ws ∧ Y'.1.name = "<init>"
theorem ow_len_of {Y' : ow_Y} {n : Nat} {sig : MethodDescriptor} (h : (parseMethodDescriptor Y'.1.desc).map (fun d => d.parameters.length) = some n) (hs : parseMethodDescriptor Y'.1.desc = some sig) : n = sig.parameters.length := by
  rw [hs] at h
  exact (Option.some.inj h).symm
section OwRules2
variable {l : Launch} {Y Y' : ow_Y} {sc : Option (Nat × (Nat → Int32))} {d d' : Nat × Nat} {Q : ow_R → ow_M → Prop} {pc : Nat} {L : List (Option Value)} {S : List Value} {u : ow_M}
theorem aw_callS {index : Nat} {vs : List Value} {st : List Value} (hdg : decode Y.2.1 pc = .ok (.invokestatic index, 3)) (hL : ow_LS Y.1.cls index Y') (hC : ow_Cd Y' vs.length) (hst : vs.reverse ++ S = st) (hd : d'.1 + 1 ≤ d.1 ∧ (S.map fun v => v.category).sum + (Y'.2.2.1 + 11 + d'.2) ≤ d.2) (hh : ∀ q ∈ Y.2.2.2.2, ¬ (q.1 ≤ pc ∧ pc < q.2.1))
    (kk : MT l Y' d' vs u (ow_next l Y sc d Q (pc + 3) L S)) : AW l Y sc d Q pc L st u := by
  subst hst
  intro p e R s m args below meth c n0 b0 ad0 sb ids D A H locs cells slots ad ls X P h hv
  intro T hT Xs
  subst hT
  have hvs : ow_okS u.1 vs := fun c hc => hv.2 c (List.mem_append_left _ (List.mem_reverse.mpr hc))
  have hS : ow_okS u.1 S := fun c hc => hv.2 c (List.mem_append_right _ hc)
  obtain ⟨c1, c2, c4, c5⟩ := hC
  obtain ⟨l1, l2⟩ := hL
  obtain ⟨mk, methM, hnamed, hmethM, hsigM⟩ : ∃ mk methM, s.methodNamed? Y'.1 = some mk ∧ s.vm.method? mk = some methM ∧ parseMethodDescriptor Y'.1.desc = some methM.sig := by
    obtain ⟨mk, hnamed⟩ := ow_code_named (X.ts _ c1)
    obtain ⟨methM, cM, h1, -, -, -, -, -, -, h8⟩ := ow_code_spec hnamed (X.ts _ c1)
    exact ⟨mk, methM, hnamed, h1, h8⟩
  have hstatic : methM.isStatic = true := Cond.static_spec hnamed hmethM (X.ts _ l2)
  obtain ⟨kP, hkP, -⟩ := className_of_methodNamed hnamed
  have hinitP : kP.init = .initialized := Cond.initialized_spec (findClass_of_methodNamed hnamed) hkP (X.ts _ c2)
  have hstack : (F0 m pc ls ((vs.reverse ++ S).map (ow_cv sb ad))).stack = (vs.map (ow_cv sb ad)).reverse ++ S.map (ow_cv sb ad) := by
    show (vs.reverse ++ S).map (ow_cv sb ad) = _
    rw [List.map_append, List.map_reverse]
  obtain ⟨vm₁, X₁, hstep₁⟩ := Xs.invokestatic X.exec X.own (X.ts _ l1) hnamed hmethM hstatic hkP hinitP c4 (g := F0 m pc ls ((vs.reverse ++ S).map (ow_cv sb ad))) rfl (argsL := vs.map (ow_cv sb ad)) (rest := S.map (ow_cv sb ad)) (by rw [List.length_map]; exact ow_len_of c5 hsigM) hstack (by rw [X.bytes]; exact hdg)
  obtain ⟨o, T', locs', cells', slots', ad', u', Xs', P', hle, had, hQ, hsteps⟩ := ow_enter (e := e) (U := T.setVm vm₁) (g := F0 m pc ls (S.map (ow_cv sb ad))) (ig := .invokestatic index) (mk := mk) kk X P hvs X₁ rfl (by rw [X.maxL]; exact h.1.1) (by rw [X.bytes]; exact hdg) ⟨hd.1, by have := ow_weigh (m := m) (pc := pc) (sb := sb) (ls := ls) (ad := ad) hd.2; omega⟩ (X₁.named hnamed) c1 c2
  obtain ⟨t, a1, b1⟩ := ow_behind (e := e) (below := below) (m := m) hh X h ⟨hv.1, hS⟩ Xs' P' hle had hQ
  exact ⟨t, hstep₁ _ fun acts => by rw [doInvoke_state]; exact hsteps.trans a1, b1⟩
theorem aw_callV {index a ci : Nat} {C : String} {T0 : u_T} {vs : List Value} {st : List Value} (hdg : decode Y.2.1 pc = .ok (.invokevirtual index, 3)) (hL : ow_LV Y.1.cls index Y' C) (hC : ow_Cd Y' vs.length) (ha : a < u.1) (hk : ow_kd a = (0, ci)) (hci : ow_cl[ci]? = some (C, T0, ow_nf ci)) (hst : vs.reverse ++ .ref a :: S = st) (hd : d'.1 + 1 ≤ d.1 ∧ (S.map fun v => v.category).sum + (Y'.2.2.1 + 11 + d'.2) ≤ d.2) (hh : ∀ q ∈ Y.2.2.2.2, ¬ (q.1 ≤ pc ∧ pc < q.2.1))
    (kk : MT l Y' d' (.ref a :: vs) u (ow_next l Y sc d Q (pc + 3) L S)) : AW l Y sc d Q pc L st u := by
  subst hst
  intro p e R s m args below meth c n0 b0 ad0 sb ids D A H locs cells slots ad ls X P h hv
  intro T hT Xs
  subst hT
  have hvs : ow_okS u.1 (.ref a :: vs) := fun c hc => by
    rcases List.mem_cons.mp hc with h1 | h1
    · cases h1; exact ha
    · exact hv.2 c (List.mem_append_left _ (List.mem_reverse.mpr h1))
  have hS : ow_okS u.1 S := fun c hc => hv.2 c (List.mem_append_right _ (List.mem_cons_of_mem _ hc))
  obtain ⟨c1, c2, c4, c5⟩ := hC
  obtain ⟨l1, l2, l3⟩ := hL
  obtain ⟨mk, methM, hnamed, hmethM, hstM, habM⟩ := Cond.instanceMethod_spec (X.ts _ l2)
  obtain ⟨methM', cM, hmethM', -, -, -, -, -, -, hsigM⟩ := ow_code_spec hnamed (X.ts _ c1)
  cases hmethM.symm.trans hmethM'
  obtain ⟨k2, r2, m2, q1, q2, q3, q4, kP, hkP, hkPi⟩ := Cond.selects_spec (X.ts _ l3)
  have he := ow_at (ids := ids) (ad := ad) ha
  rw [ow_E_0 hk] at he
  obtain ⟨cellB, hcell, hobj, hcls⟩ := va_recv X.K P.1 hci he
  cases hcls.symm.trans q1
  cases (State.methodFound?_of_named hnamed c4).symm.trans q2
  cases hnamed.symm.trans q3
  have hselP : selectMethod e.platform s.vm cellB.cls mk = .method mk := by rw [Launch.admits_selectMethod Xs.admits]; exact q4
  have hstack : (F0 m pc ls ((vs.reverse ++ .ref a :: S).map (ow_cv sb ad))).stack = (vs.map (ow_cv sb ad)).reverse ++ .ref (ad a) :: S.map (ow_cv sb ad) := by
    show (vs.reverse ++ .ref a :: S).map (ow_cv sb ad) = _
    rw [List.map_append, List.map_reverse]; rfl
  obtain ⟨vm₁, X₁, hstep₁⟩ := Xs.invokevirtual X.exec X.own (X.ts _ l1) hnamed hmethM hstM hkP hkPi c4 (a := ad a) (cell := cellB) hcell
    (fun z h => by rw [h] at hobj; cases hobj) hselP hmethM habM hkP hkPi (g := F0 m pc ls ((vs.reverse ++ .ref a :: S).map (ow_cv sb ad))) rfl (argsL := vs.map (ow_cv sb ad)) (rest := S.map (ow_cv sb ad)) (by rw [List.length_map]; exact ow_len_of c5 hsigM) hstack (by rw [X.bytes]; exact hdg)
  obtain ⟨o, T', locs', cells', slots', ad', u', Xs', P', hle, had, hQ, hsteps⟩ := ow_enter (e := e) (U := T.setVm vm₁) (g := F0 m pc ls (S.map (ow_cv sb ad))) (ig := .invokevirtual index) (mk := mk) kk X P hvs X₁ rfl (by rw [X.maxL]; exact h.1.1) (by rw [X.bytes]; exact hdg) ⟨hd.1, by have := ow_weigh (m := m) (pc := pc) (sb := sb) (ls := ls) (ad := ad) hd.2; omega⟩ (X₁.named hnamed) c1 c2
  obtain ⟨t, a1, b1⟩ := ow_behind (e := e) (below := below) (m := m) hh X h ⟨hv.1, hS⟩ Xs' P' hle had hQ
  exact ⟨t, hstep₁ _ fun acts => by rw [doInvoke_state]; exact hsteps.trans a1, b1⟩
end OwRules2
end
section
/-! what is made -/
theorem ow_sv_up {ad : Nat → Nat} {u u' : ow_M} {q c ci : Nat} (hw : ow_wf u) (h1 : u'.2.1 c = u.2.1 c) (h2 : u'.2.2.1 c = u.2.2.1 c) : ow_sv (va_up ad u.1 q) u' c ci = ow_sv ad u c ci := by
  funext k
  simp only [ow_sv, h1, h2]
  cases hr : u.2.1 c k with
  | none => rfl
  | some t =>
    have : t < u.1 := hw.1 c k t hr
    simp [va_up, Nat.ne_of_lt this]
theorem ow_rf_up {ad : Nat → Nat} {u : ow_M} {q c : Nat} (hw : ow_wf u) : (fun j => (u.2.1 c j).map (va_up ad u.1 q)) = (fun j => (u.2.1 c j).map ad) := by
  funext j
  cases hr : u.2.1 c j with
  | none => rfl
  | some t =>
    have : t < u.1 := hw.1 c j t hr
    simp [va_up, Nat.ne_of_lt this]
theorem ow_E_up {ids : Nat → ClassId} {ad : Nat → Nat} {u : ow_M} {q c n b : Nat} (hw : ow_wf u) : ow_E ids (va_up ad u.1 q) (n, u.2.1, u.2.2.1, u.2.2.2.1, b) c = ow_E ids ad u c := by
  have e1 : ∀ ci, ow_sv (va_up ad u.1 q) (n, u.2.1, u.2.2.1, u.2.2.2.1, b) c ci = ow_sv ad u c ci := fun ci => ow_sv_up hw rfl rfl
  have e2 := ow_rf_up (ad := ad) (q := q) (c := c) hw
  simp only [ow_E, e1, e2]
theorem ow_W_push {ids : Nat → ClassId} {ad : Nat → Nat} {u : ow_M} {q b : Nat} (hw : ow_wf u) : ow_W ids (va_up ad u.1 q) (u.1 + 1, u.2.1, u.2.2.1, u.2.2.2.1, b) = ow_W ids ad u ++ [(q, ow_E ids ad u u.1)] := by
  unfold ow_W
  show (List.range (u.1 + 1)).map _ = _
  rw [List.range_succ, List.map_append]
  congr 1
  · refine List.map_congr_left (fun c hc => ?_)
    have hlt : c < u.1 := List.mem_range.mp hc
    rw [ow_E_up hw, va_up_ne _ _ (Nat.ne_of_lt hlt)]
  · show [(va_up ad u.1 q u.1, _)] = _
    rw [va_up_self, ow_E_up hw]
theorem ow_wf.push {u : ow_M} {b : Nat} (hw : ow_wf u) : ow_wf (u.1 + 1, u.2.1, u.2.2.1, u.2.2.2.1, b) :=
  ⟨fun c k t h => Nat.lt_succ_of_lt (hw.1 c k t h), fun c hc => hw.2 c (Nat.le_of_succ_le hc)⟩
theorem ow_P.push {n0 b0 : Nat} {ad0 ad : Nat → Nat} {ids : Nat → ClassId} {D : va_G} {A : Nat → Prop} {s : State} {H H1 : Heap} {locs : List Loc} {cells slots q b N k : Nat} {u : ow_M} (P : ow_P n0 b0 ad0 ids D A s H locs cells slots ad u) (hb : u.2.2.2.2 = b + k) (hk : 1 ≤ k) (hN : N ≤ 128 * k)
    (hP : va_P D ow_cl (ow_W ids ad u ++ [(q, ow_E ids ad u u.1)]) H1) (hD : va_D A (ow_W ids ad u ++ [(q, ow_E ids ad u u.1)])) (hS : va_S A s.heap H1 locs) : ow_P n0 b0 ad0 ids D A s H1 locs (cells + 1) (slots + N) (va_up ad u.1 q) (u.1 + 1, u.2.1, u.2.2.1, u.2.2.2.1, b) := by
  obtain ⟨-, -, -, p4, p5, p6, p7, p8⟩ := P
  rw [← ow_W_push (b := b) p7] at hP hD
  rw [hb] at p4 p5
  refine ⟨hP, hD, hS, by show cells + 1 + 8 * b ≤ _; omega, by show slots + N + 128 * b ≤ _; omega, Nat.le_succ_of_le p6, p7.push, fun c hc => ?_⟩
  rw [va_up_ne _ _ (Nat.ne_of_lt (Nat.lt_of_lt_of_le hc p6))]
  exact p8 c hc
section OwNews
variable {l : Launch} {Y : ow_Y} {sc : Option (Nat × (Nat → Int32))} {d : Nat × Nat} {Q : ow_R → ow_M → Prop} {pc : Nat} {L : List (Option Value)} {S : List Value} {u : ow_M}
/-- an object of the class number ci can be made, by this entry -/
def ow_N (own : String) (index ci : Nat) : Prop := ∃ (C : String) (T : u_T) (ty0 : Nat → FieldType), ow_cl[ci]? = some (C, T, ow_nf ci) ∧ (∀ w ∈ u_ws C T (ow_nf ci), w ∈ ow_ws) ∧ (∀ k, k < ow_nf ci → parseFieldDescriptor (T k).2.2.1 = some (ty0 k)) ∧
  Cond.classLink own index C ∈ ow_ws ∧ Cond.instantiable C (ow_nf ci) ∈ ow_ws ∧ Cond.initialized C ∈ ow_ws ∧ ∀ k, k < ow_nf ci → defaultValue (ty0 k) = if ow_isr ci k = true then .null else .int 0
theorem aw_new {index ci b : Nat} (hN : ow_N Y.1.cls index ci) (hdg : decode Y.2.1 pc = .ok (.new index, 3)) (hk : ow_kd u.1 = (0, ci)) (hnf : ow_nf ci ≤ 128) (hb : u.2.2.2.2 = b + 1) (kk : AW l Y sc d Q (pc + 3) L (.ref u.1 :: S) (u.1 + 1, u.2.1, u.2.2.1, u.2.2.2.1, b)) : AW l Y sc d Q pc L S u := by
  intro p e R s m args below meth c n0 b0 ad0 sb ids D A H locs cells slots ad ls X P h hv
  obtain ⟨C, T, ty0, f1, f2, f3, f4, f5, f6, f7⟩ := hN
  obtain ⟨rf, rl, rc, rs⟩ := X.room
  have p4 := P.2.2.2.1
  have p5 := P.2.2.2.2.1
  have hw := P.wf
  rw [hb] at p4 p5
  have hfr := hw.2 u.1 (Nat.le_refl _)
  refine va_new (ci := ci) (fs := (List.range (ow_nf ci)).map (ow_sv ad u u.1 ci)) X.exec X.bytes X.ts f2 ty0 f3 X.own (X.ts _ f4) (X.ts _ f5) (X.ts _ f6) X.K P.1 P.2.1 P.2.2.1 X.new f1 (fun j hj => ?_) (by omega) (by omega) hdg (fun q H1 hP hD hS => ?_)
  · have : vp_V ((List.range (ow_nf ci)).map (ow_sv ad u u.1 ci)) j = ow_sv ad u u.1 ci j := by simp [vp_V, hj]
    rw [this, f7 j hj, ow_sv, hfr.1 j, hfr.2.1 j]
    rfl
  · rw [show (Sum.inr (ci, (List.range (ow_nf ci)).map (ow_sv ad u u.1 ci)) : va_E) = ow_E ids ad u u.1 from (ow_E_0 hk).symm] at hP hD
    have hw2 := kk p e R s m args below meth c n0 b0 ad0 sb ids D A H1 locs (cells + 1) (slots + ow_nf ci) (va_up ad u.1 q) ls X (P.push (b := b) (k := 1) hb (Nat.le_refl _) (by omega) hP hD hS) (h.re (n := u.1) (fun c hc => va_up_ne _ _ (Nat.ne_of_lt hc)) hv.1) ⟨hv.1.up (Nat.le_succ _), (hv.2.up (Nat.le_succ _)).r (Nat.lt_succ_self _)⟩
    rw [List.map_cons, ow_cv_map (n := u.1) (fun c hc => va_up_ne _ _ (Nat.ne_of_lt hc)) hv.2] at hw2
    have e1 : ow_cv sb (va_up ad u.1 q) (.ref u.1) = .ref q := by show Value.ref (va_up ad u.1 q u.1) = _; rw [va_up_self]
    rw [e1] at hw2
    exact hw2
theorem aw_newi {N b k : Nat} (harr : Cond.arrayClass .int ∈ ow_ws) (hdg : decode Y.2.1 pc = .ok (.newarray .int, 2)) (hk : ow_kd u.1 = (1, N)) (hN : N ≤ 128 * k) (h1 : 1 ≤ k) (hk2 : k ≤ 1000) (hb : u.2.2.2.2 = b + k) (kk : AW l Y sc d Q (pc + 2) L (.ref u.1 :: S) (u.1 + 1, u.2.1, u.2.2.1, u.2.2.2.1, b)) : AW l Y sc d Q pc L (.int (nI N) :: S) u := by
  intro p e R s m args below meth c n0 b0 ad0 sb ids D A H locs cells slots ad ls X P h hv
  obtain ⟨rf, rl, rc, rs⟩ := X.room
  have p4 := P.2.2.2.1
  have p5 := P.2.2.2.2.1
  have hw := P.wf
  rw [hb] at p4 p5
  have hfr := hw.2 u.1 (Nat.le_refl _)
  have hlt : N < 2 ^ 31 := by have : 128 * k ≤ 128 * 1000 := Nat.mul_le_mul_left _ hk2; omega
  refine va_newa (atype := .int) (ty := .int) (a0 := (N, .inl (fun _ => 0))) X.exec X.bytes (X.ts _ harr) rfl X.K P.1 P.2.1 P.2.2.1 X.new (fun cA => rfl) (nI_pos hlt) (nI_clamp hlt) (by show N * 4 ≤ _; have : 128 * k ≤ 128 * 1000 := Nat.mul_le_mul_left _ hk2; omega) (by omega) (by omega) hdg (fun q cA H1 hK hP hD hS => ?_)
  have hcA : cA = ids 0 := by
    have g1 := (hK.2 4 (cA, .int) rfl).2
    have g2 := (X.K.2 0 (ids 0, .int) rfl).2
    exact Option.some.inj (g1.symm.trans g2)
  subst hcA
  have ez : u.2.2.1 u.1 = fun _ => 0 := funext hfr.2.1
  rw [show (Sum.inl (ids 0, N, Sum.inl (fun _ => 0)) : va_E) = ow_E ids ad u u.1 from by rw [ow_E_1 hk, ez]] at hP hD
  have hw2 := kk p e R s m args below meth c n0 b0 ad0 sb ids D A H1 locs (cells + 1) (slots + N) (va_up ad u.1 q) ls X (P.push (b := b) (k := k) hb h1 hN hP hD hS) (h.re (n := u.1) (fun c hc => va_up_ne _ _ (Nat.ne_of_lt hc)) hv.1) ⟨hv.1.up (Nat.le_succ _), (hv.2.t.up (Nat.le_succ _)).r (Nat.lt_succ_self _)⟩
  rw [List.map_cons, ow_cv_map (n := u.1) (fun c hc => va_up_ne _ _ (Nat.ne_of_lt hc)) hv.2.t] at hw2
  have e1 : ow_cv sb (va_up ad u.1 q) (.ref u.1) = .ref q := by show Value.ref (va_up ad u.1 q u.1) = _; rw [va_up_self]
  rw [e1] at hw2
  exact hw2
theorem aw_newz {N b k : Nat} (harr : Cond.arrayClass .boolean ∈ ow_ws) (hdg : decode Y.2.1 pc = .ok (.newarray .boolean, 2)) (hk : ow_kd u.1 = (2, N)) (hN : N ≤ 128 * k) (h1 : 1 ≤ k) (hk2 : k ≤ 1000) (hb : u.2.2.2.2 = b + k) (kk : AW l Y sc d Q (pc + 2) L (.ref u.1 :: S) (u.1 + 1, u.2.1, u.2.2.1, u.2.2.2.1, b)) : AW l Y sc d Q pc L (.int (nI N) :: S) u := by
  intro p e R s m args below meth c n0 b0 ad0 sb ids D A H locs cells slots ad ls X P h hv
  obtain ⟨rf, rl, rc, rs⟩ := X.room
  have p4 := P.2.2.2.1
  have p5 := P.2.2.2.2.1
  have hw := P.wf
  rw [hb] at p4 p5
  have hfr := hw.2 u.1 (Nat.le_refl _)
  have hlt : N < 2 ^ 31 := by have : 128 * k ≤ 128 * 1000 := Nat.mul_le_mul_left _ hk2; omega
  refine va_newa (atype := .boolean) (ty := .boolean) (a0 := (N, .inl (fun _ => 0))) X.exec X.bytes (X.ts _ harr) rfl X.K P.1 P.2.1 P.2.2.1 X.new (fun cA => rfl) (nI_pos hlt) (nI_clamp hlt) (by show N * 1 ≤ _; have : 128 * k ≤ 128 * 1000 := Nat.mul_le_mul_left _ hk2; omega) (by omega) (by omega) hdg (fun q cA H1 hK hP hD hS => ?_)
  have hcA : cA = ids 1 := by
    have g1 := (hK.2 4 (cA, .boolean) rfl).2
    have g2 := (X.K.2 1 (ids 1, .boolean) rfl).2
    exact Option.some.inj (g1.symm.trans g2)
  subst hcA
  have ez : u.2.2.1 u.1 = fun _ => 0 := funext hfr.2.1
  rw [show (Sum.inl (ids 1, N, Sum.inl (fun _ => 0)) : va_E) = ow_E ids ad u u.1 from by rw [ow_E_2 hk, ez]] at hP hD
  have hw2 := kk p e R s m args below meth c n0 b0 ad0 sb ids D A H1 locs (cells + 1) (slots + N) (va_up ad u.1 q) ls X (P.push (b := b) (k := k) hb h1 hN hP hD hS) (h.re (n := u.1) (fun c hc => va_up_ne _ _ (Nat.ne_of_lt hc)) hv.1) ⟨hv.1.up (Nat.le_succ _), (hv.2.t.up (Nat.le_succ _)).r (Nat.lt_succ_self _)⟩
  rw [List.map_cons, ow_cv_map (n := u.1) (fun c hc => va_up_ne _ _ (Nat.ne_of_lt hc)) hv.2.t] at hw2
  have e1 : ow_cv sb (va_up ad u.1 q) (.ref u.1) = .ref q := by show Value.ref (va_up ad u.1 q u.1) = _; rw [va_up_self]
  rw [e1] at hw2
  exact hw2
theorem aw_newl {N b k : Nat} (harr : Cond.arrayClass .long ∈ ow_ws) (hdg : decode Y.2.1 pc = .ok (.newarray .long, 2)) (hk : ow_kd u.1 = (3, N)) (hN : N ≤ 128 * k) (h1 : 1 ≤ k) (hk2 : k ≤ 1000) (hb : u.2.2.2.2 = b + k) (kk : AW l Y sc d Q (pc + 2) L (.ref u.1 :: S) (u.1 + 1, u.2.1, u.2.2.1, u.2.2.2.1, b)) : AW l Y sc d Q pc L (.int (nI N) :: S) u := by
  intro p e R s m args below meth c n0 b0 ad0 sb ids D A H locs cells slots ad ls X P h hv
  obtain ⟨rf, rl, rc, rs⟩ := X.room
  have p4 := P.2.2.2.1
  have p5 := P.2.2.2.2.1
  have hw := P.wf
  rw [hb] at p4 p5
  have hfr := hw.2 u.1 (Nat.le_refl _)
  have hlt : N < 2 ^ 31 := by have : 128 * k ≤ 128 * 1000 := Nat.mul_le_mul_left _ hk2; omega
  refine va_newa (atype := .long) (ty := .long) (a0 := (N, .inr (.inl (fun _ => 0)))) X.exec X.bytes (X.ts _ harr) rfl X.K P.1 P.2.1 P.2.2.1 X.new (fun cA => rfl) (nI_pos hlt) (nI_clamp hlt) (by show N * 8 ≤ _; have : 128 * k ≤ 128 * 1000 := Nat.mul_le_mul_left _ hk2; omega) (by omega) (by omega) hdg (fun q cA H1 hK hP hD hS => ?_)
  have hcA : cA = ids 2 := by
    have g1 := (hK.2 4 (cA, .long) rfl).2
    have g2 := (X.K.2 2 (ids 2, .long) rfl).2
    exact Option.some.inj (g1.symm.trans g2)
  subst hcA
  have ez : u.2.2.2.1 u.1 = fun _ => 0 := funext hfr.2.2
  rw [show (Sum.inl (ids 2, N, Sum.inr (Sum.inl (fun _ => 0))) : va_E) = ow_E ids ad u u.1 from by rw [ow_E_3 hk, ez]] at hP hD
  have hw2 := kk p e R s m args below meth c n0 b0 ad0 sb ids D A H1 locs (cells + 1) (slots + N) (va_up ad u.1 q) ls X (P.push (b := b) (k := k) hb h1 hN hP hD hS) (h.re (n := u.1) (fun c hc => va_up_ne _ _ (Nat.ne_of_lt hc)) hv.1) ⟨hv.1.up (Nat.le_succ _), (hv.2.t.up (Nat.le_succ _)).r (Nat.lt_succ_self _)⟩
  rw [List.map_cons, ow_cv_map (n := u.1) (fun c hc => va_up_ne _ _ (Nat.ne_of_lt hc)) hv.2.t] at hw2
  have e1 : ow_cv sb (va_up ad u.1 q) (.ref u.1) = .ref q := by show Value.ref (va_up ad u.1 q u.1) = _; rw [va_up_self]
  rw [e1] at hw2
  exact hw2
end OwNews
end
section
/-! constructors, throws, catches, what the library does -/
theorem ow_W_b {ids : Nat → ClassId} {ad : Nat → Nat} {u : ow_M} {b : Nat} : ow_W ids ad (u.1, u.2.1, u.2.2.1, u.2.2.2.1, b) = ow_W ids ad u := by
  unfold ow_W
  exact List.map_congr_left (fun c _ => by rw [ow_E_congr (u := u) (u' := (u.1, u.2.1, u.2.2.1, u.2.2.2.1, b)) rfl rfl rfl])
abbrev ow_names : List String := ["java/lang/RuntimeException", "java/lang/Exception"]
/-- the words of 'throw new E("..")' in the class own: E's entry, its constructor's entry -/
def ow_Th (own : String) (kx ik ic : Nat) : Prop := Cond.classLink own ik (ow_exn kx) ∈ ow_ws ∧ Cond.initialized (ow_exn kx) ∈ ow_ws ∧ (∀ w ∈ vx_atS own ic (ow_exn kx) ow_names, w ∈ ow_ws ∨ w ∈ ow_fw) ∧
  (∀ w ∈ Cond.classLink own ik (ow_exn kx) :: Cond.initialized (ow_exn kx) :: vx_atS own ic (ow_exn kx) ow_names, vx_ot w = true) ∧ Bundle.fit (ow_exn kx) = true ∧ ∀ n ∈ ow_names, Bundle.fit n = true
theorem ow_fw_on {s : State} {A : Nat → Prop} (h : ow_G s A) {w : Cond} (hw : w ∈ ow_fw) (args : Array Value) : w.before args s = true := by
  have hf := (List.mem_filter.mp hw).2
  rw [Bool.and_eq_true] at hf
  exact va_tabs hf.1 rfl (h.1 w hw)
theorem ow_uncovered {Y : ow_Y} {sc : Option (Nat × (Nat → Int32))} {d : Nat × Nat} {b0 sb : Nat} {ids : Nat → ClassId} {D : va_G} {A : Nat → Prop} {p : Program} {R : Room} {s : State} {m : MethodId} {args : Array Value} {meth : Method} {c : Code} {pc : Nat}
    (X : ow_X Y sc d b0 sb ids D A p R s m args meth c) (hh : ∀ q ∈ Y.2.2.2.2, ¬ (q.1 ≤ pc ∧ pc < q.2.1)) : ∀ y ∈ c.exceptionTable.toList, covers y pc = false := by
  intro y hy
  have hm := List.mem_map_of_mem (f := fun h : ExceptionTableEntry => (h.startPc, h.endPc, h.handlerPc, h.catchType)) hy
  rw [X.hand] at hm
  have := hh _ hm
  simp only [covers, Bool.and_eq_false_iff, decide_eq_false_iff_not]
  by_cases h1 : y.startPc ≤ pc
  · right; intro h2; exact this ⟨h1, h2⟩
  · left; exact h1
section OwSpecial
variable {l : Launch} {Y Y' : ow_Y} {sc : Option (Nat × (Nat → Int32))} {d d' : Nat × Nat} {Q : ow_R → ow_M → Prop} {pc : Nat} {L : List (Option Value)} {S : List Value} {u : ow_M}
theorem aw_throw {kx ik is ic b : Nat} {text : String} (hl : l.stackTraces = false) (hT : ow_Th Y.1.cls kx ik ic) (hstr : (Y.1.cls, is, text) ∈ ow_strs) (hh : ∀ q ∈ Y.2.2.2.2, ¬ (q.1 ≤ pc + 9 ∧ pc + 9 < q.2.1))
    (d0 : decode Y.2.1 pc = .ok (.new ik, 3)) (d3 : decode Y.2.1 (pc + 3) = .ok (.dup, 1)) (d4 : decode Y.2.1 (pc + 4) = .ok (.ldc is, 2)) (d6 : decode Y.2.1 (pc + 6) = .ok (.invokespecial ic, 3)) (d9 : decode Y.2.1 (pc + 9) = .ok (.athrow, 1))
    (hd : 5 < d.1 ∧ (S.map fun v => v.category).sum + 82 ≤ d.2) (hb : u.2.2.2.2 = b + 1) (q : Q (.inr kx) (u.1, u.2.1, u.2.2.1, u.2.2.2.1, b)) : AW l Y sc d Q pc L S u := by
  intro p e R s m args below meth c n0 b0 ad0 sb ids D A H locs cells slots ad ls X P h hv
  obtain ⟨t1, t2, t3, t4, t5, t6⟩ := hT
  obtain ⟨rf, rl, rc, rs⟩ := X.room
  obtain ⟨g1, g2, g3, g4, g5, g6, g7, g8⟩ := X.given
  obtain ⟨sa, hsa⟩ := g7 _ hstr
  obtain ⟨p1, p2, p3, p4, p5, p6, p7, p8⟩ := P
  rw [hb] at p4 p5
  have hcat : ((S.map (ow_cv sb ad)).map fun v => v.category).sum = (S.map fun v => v.category).sum := by
    rw [List.map_map]
    have : ((fun v => v.category) ∘ ow_cv sb ad) = fun v : Value => v.category := by
      funext v; exact ow_cvc sb ad v
    rw [this]
  have hw := vx_throwS (p := p) (e := e) (R := R) (below := below) (H := H) (cells := cells) (slots := slots) (ls := ls) (rest := S.map (ow_cv sb ad)) (Qc := fun _ _ _ _ => False) (XC := fun E _ t => E = ow_exn kx ∧ H.size ≤ t.heap.size ∧ ∀ q : Nat, q < H.size → t.heap[q]? = H[q]?) (free := A) (mc := cells + 1) (ms := slots + 6) (names := ow_names)
    X.exec X.bytes hl X.own t5 t6 (X.ts _ t1) (X.ts _ t2) hsa (fun w hw => (t3 w hw).elim (fun h => X.ts w h) (fun h => ow_fw_on X.given h args)) t4 g5 g6 p3 (by rw [X.maxL]; exact h.1.1) d0 d3 d4 d6 d9 (ow_uncovered X hh)
    (by show 2 + 3 < R.frames; omega) (by show _ + (13 * (2 + 1) + 43) ≤ R.locals; rw [hcat]; omega) (by omega) (by omega) X.locks (fun t _ h1 h2 => ⟨rfl, h1, h2⟩) p3.2.2 (Nat.le_refl _) (Nat.le_refl _)
  intro T hT Xs
  obtain ⟨t, st, o, hrun, hend, hq⟩ := hw T hT Xs
  rcases hq with ⟨hF, -⟩ | ⟨x, rfl, E, ce, Ls, ⟨rfl, h1, h2⟩, hce, hcv, hcl, hW, hsame, hL⟩
  · exact hF.elim
  · refine ⟨t, st, .threw x, hrun, hend, (u.1, u.2.1, u.2.2.1, u.2.2.2.1, b), ad, Ls, cells + 1, slots + 6, hW, hsame, ⟨?_, ?_, ⟨Nat.le_trans p3.1 h1, fun q hq hA => ?_, hL⟩, by show cells + 1 + 8 * b ≤ _; omega, by show slots + 6 + 128 * b ≤ _; omega, p6, p7, p8⟩, Or.inr ⟨x, kx, rfl, ⟨ce, hce, hcv, hcl⟩, q⟩⟩
    · rw [ow_W_b]; exact p1.kept (fun k q hk => h2 q.1 (p1 k q hk).lt)
    · rw [ow_W_b]; exact p2
    · rw [h2 q (Nat.lt_of_lt_of_le hq p3.1)]; exact p3.2.1 q hq hA
theorem aw_throwW {kx ik is ic b : Nat} {text : String} (hl : l.stackTraces = false) (hT : ow_Th Y.1.cls kx ik ic) (hstr : (Y.1.cls, is, text) ∈ ow_strs) (hh : ∀ q ∈ Y.2.2.2.2, ¬ (q.1 ≤ pc + 10 ∧ pc + 10 < q.2.1))
    (d0 : decode Y.2.1 pc = .ok (.new ik, 3)) (d3 : decode Y.2.1 (pc + 3) = .ok (.dup, 1)) (d4 : decode Y.2.1 (pc + 4) = .ok (.ldc_w is, 3)) (d7 : decode Y.2.1 (pc + 7) = .ok (.invokespecial ic, 3)) (d10 : decode Y.2.1 (pc + 10) = .ok (.athrow, 1))
    (hd : 5 < d.1 ∧ (S.map fun v => v.category).sum + 82 ≤ d.2) (hb : u.2.2.2.2 = b + 1) (q : Q (.inr kx) (u.1, u.2.1, u.2.2.1, u.2.2.2.1, b)) : AW l Y sc d Q pc L S u := by
  intro p e R s m args below meth c n0 b0 ad0 sb ids D A H locs cells slots ad ls X P h hv
  obtain ⟨t1, t2, t3, t4, t5, t6⟩ := hT
  obtain ⟨rf, rl, rc, rs⟩ := X.room
  obtain ⟨g1, g2, g3, g4, g5, g6, g7, g8⟩ := X.given
  obtain ⟨sa, hsa⟩ := g7 _ hstr
  obtain ⟨p1, p2, p3, p4, p5, p6, p7, p8⟩ := P
  rw [hb] at p4 p5
  have hcat : ((S.map (ow_cv sb ad)).map fun v => v.category).sum = (S.map fun v => v.category).sum := by
    rw [List.map_map]
    have : ((fun v => v.category) ∘ ow_cv sb ad) = fun v : Value => v.category := by
      funext v; exact ow_cvc sb ad v
    rw [this]
  have hw := vx_throwSW (p := p) (e := e) (R := R) (below := below) (H := H) (cells := cells) (slots := slots) (ls := ls) (rest := S.map (ow_cv sb ad)) (Qc := fun _ _ _ _ => False) (XC := fun E _ t => E = ow_exn kx ∧ H.size ≤ t.heap.size ∧ ∀ q : Nat, q < H.size → t.heap[q]? = H[q]?) (free := A) (mc := cells + 1) (ms := slots + 6) (names := ow_names)
    X.exec X.bytes hl X.own t5 t6 (X.ts _ t1) (X.ts _ t2) hsa (fun w hw => (t3 w hw).elim (fun h => X.ts w h) (fun h => ow_fw_on X.given h args)) t4 g5 g6 p3 (by rw [X.maxL]; exact h.1.1) d0 d3 d4 d7 d10 (ow_uncovered X hh)
    (by show 2 + 3 < R.frames; omega) (by show _ + (13 * (2 + 1) + 43) ≤ R.locals; rw [hcat]; omega) (by omega) (by omega) X.locks (fun t _ h1 h2 => ⟨rfl, h1, h2⟩) p3.2.2 (Nat.le_refl _) (Nat.le_refl _)
  intro T hT Xs
  obtain ⟨t, st, o, hrun, hend, hq⟩ := hw T hT Xs
  rcases hq with ⟨hF, -⟩ | ⟨x, rfl, E, ce, Ls, ⟨rfl, h1, h2⟩, hce, hcv, hcl, hW, hsame, hL⟩
  · exact hF.elim
  · refine ⟨t, st, .threw x, hrun, hend, (u.1, u.2.1, u.2.2.1, u.2.2.2.1, b), ad, Ls, cells + 1, slots + 6, hW, hsame, ⟨?_, ?_, ⟨Nat.le_trans p3.1 h1, fun q hq hA => ?_, hL⟩, by show cells + 1 + 8 * b ≤ _; omega, by show slots + 6 + 128 * b ≤ _; omega, p6, p7, p8⟩, Or.inr ⟨x, kx, rfl, ⟨ce, hce, hcv, hcl⟩, q⟩⟩
    · rw [ow_W_b]; exact p1.kept (fun k q hk => h2 q.1 (p1 k q hk).lt)
    · rw [ow_W_b]; exact p2
    · rw [h2 q (Nat.lt_of_lt_of_le hq p3.1)]; exact p3.2.1 q hq hA
theorem aw_objInit {index a : Nat} (hl : Cond.methodLink Y.1.cls index Lib.objectInit ∈ ow_ws) (hi : Cond.instanceMethod Lib.objectInit ∈ ow_ws) (hc : Cond.code Lib.objectInit ⟨#[0xb1]⟩ 1 none ∈ ow_ws) (hdg : decode Y.2.1 pc = .ok (.invokespecial index, 3)) (hd : 1 ≤ d.1 ∧ (S.map fun v => v.category).sum + 12 ≤ d.2)
    (k : AW l Y sc d Q (pc + 3) L S u) : AW l Y sc d Q pc L (.ref a :: S) u := by
  intro p e R s m args below meth c n0 b0 ad0 sb ids D A H locs cells slots ad ls X P h hv
  obtain ⟨rf, rl, rc, rs⟩ := X.room
  refine W.objInit X.exec X.bytes X.own (X.ts _ hl) (X.ts _ hi) (X.ts _ hc) rfl (by rw [X.maxL]; exact h.1.1) (rest := S.map (ow_cv sb ad)) rfl hdg (by omega) (Nat.le_trans (ow_weigh (m := m) (pc := pc) (sb := sb) (ls := ls) (ad := ad) hd.2) rl) ?_
  exact k _ _ _ _ _ _ _ _ _ _ _ _ _ _ _ _ _ _ _ _ _ _ X P h ⟨hv.1, hv.2.t⟩
theorem aw_ldcw {index : Nat} {x : Int32} (hc : Cond.constant Y.1.cls index x ∈ ow_ws) (hdg : decode Y.2.1 pc = .ok (.ldc_w index, 3)) (k : AW l Y sc d Q (pc + 3) L (.int x :: S) u) : AW l Y sc d Q pc L S u := by
  intro p e R s m args below meth c n0 b0 ad0 sb ids D A H locs cells slots ad ls X P h hv
  exact lv_ldcw X.exec X.bytes X.own (X.ts _ hc) hdg (k _ _ _ _ _ _ _ _ _ _ _ _ _ _ _ _ _ _ _ _ _ _ X P h ⟨hv.1, hv.2.i⟩)
theorem aw_iushr {x y : Int32} (hdg : decode Y.2.1 pc = .ok (.iushr, 1)) (k : AW l Y sc d Q (pc + 1) L (.int ((x.toUInt32 >>> (y.toUInt32 &&& Int32.toUInt32 31)).toInt32) :: S) u) : AW l Y sc d Q pc L (.int y :: .int x :: S) u := by
  intro p e R s m args below meth c n0 b0 ad0 sb ids D A H locs cells slots ad ls X P h hv
  exact lv_iushr X.exec X.bytes hdg rfl (k _ _ _ _ _ _ _ _ _ _ _ _ _ _ _ _ _ _ _ _ _ _ X P h ⟨hv.1, hv.2.t.t.i⟩)
/-- a constructor by its entry -/
theorem aw_callI {index a : Nat} {vs : List Value} {st : List Value} (hdg : decode Y.2.1 pc = .ok (.invokespecial index, 3)) (hL : ow_LI Y.1.cls index Y') (hC : ow_Cd Y' vs.length) (hY : ow_code Y' = Cond.code Y'.1 Y'.2.1 Y'.2.2.1 none) (ha : a < u.1) (hst : vs.reverse ++ .ref a :: S = st) (hd : d'.1 + 1 ≤ d.1 ∧ (S.map fun v => v.category).sum + (Y'.2.2.1 + 11 + d'.2) ≤ d.2) (hh : ∀ q ∈ Y.2.2.2.2, ¬ (q.1 ≤ pc ∧ pc < q.2.1))
    (kk : MT l Y' d' (.ref a :: vs) u (ow_next l Y sc d Q (pc + 3) L S)) : AW l Y sc d Q pc L st u := by
  subst hst
  intro p e R s m args below meth c n0 b0 ad0 sb ids D A H locs cells slots ad ls X P h hv
  intro T hT Xs
  subst hT
  have hvs : ow_okS u.1 (.ref a :: vs) := fun c hc => by
    rcases List.mem_cons.mp hc with h1 | h1
    · cases h1; exact ha
    · exact hv.2 c (List.mem_append_left _ (List.mem_reverse.mpr h1))
  have hS : ow_okS u.1 S := fun c hc => hv.2 c (List.mem_append_right _ (List.mem_cons_of_mem _ hc))
  obtain ⟨c1, c2, c4, c5⟩ := hC
  obtain ⟨l1, l2, l3⟩ := hL
  have hcode := X.ts _ c1
  rw [hY] at hcode
  have hstack : (F0 m pc ls ((vs.reverse ++ .ref a :: S).map (ow_cv sb ad))).stack = (vs.map (ow_cv sb ad)).reverse ++ .ref (ad a) :: S.map (ow_cv sb ad) := by
    show (vs.reverse ++ .ref a :: S).map (ow_cv sb ad) = _
    rw [List.map_append, List.map_reverse]; rfl
  have hpl : e.platform.magicAccessors = ({} : Platform).magicAccessors := by rw [Xs.admits.platform]
  obtain ⟨mk, methM, cM, kP, vm₁, hnamed, hmethM, hcodeM, -, hlocalsM, -, hkP, -, hW₁, hstep₁⟩ := Steps.initColdArgs (e := e) Xs.here X.exec Xs.warmed hpl X.own l3 c4 (X.ts _ l1) (X.ts _ l2) hcode (f := F0 m pc ls ((vs.reverse ++ .ref a :: S).map (ow_cv sb ad))) rfl (argsL := vs.map (ow_cv sb ad)) (rest := S.map (ow_cv sb ad)) (fun sig hs => by rw [List.length_map]; exact ow_len_of c5 hs) hstack (by rw [X.bytes]; exact hdg)
  have X₁ := Xs.noted hW₁
  obtain ⟨o, T', locs', cells', slots', ad', u', Xs', P', hle, had, hQ, hsteps⟩ := ow_enter (e := e) (U := T.setVm vm₁) (g := F0 m pc ls (S.map (ow_cv sb ad))) (ig := .invokespecial index) (mk := mk) kk X P hvs X₁ rfl (by rw [X.maxL]; exact h.1.1) (by rw [X.bytes]; exact hdg) ⟨hd.1, by have := ow_weigh (m := m) (pc := pc) (sb := sb) (ls := ls) (ad := ad) hd.2; omega⟩ (X₁.named hnamed) c1 c2
  obtain ⟨t, a1, b1⟩ := ow_behind (e := e) (below := below) (m := m) hh X h ⟨hv.1, hS⟩ Xs' P' hle had hQ
  exact ⟨t, hstep₁ _ fun acts => by rw [doInvoke_state]; exact hsteps.trans a1, b1⟩
/-- a nest mate's constructor -/
theorem aw_callIN {host : String} {index a : Nat} {vs : List Value} {st : List Value} (hdg : decode Y.2.1 pc = .ok (.invokespecial index, 3)) (hN : ow_nw1 = Cond.methodLinkNest Y.1.cls index Y'.1 host) (hL : Cond.instanceMethod Y'.1 ∈ ow_ws ∧ Y'.1.name = "<init>") (hC : ow_Cd Y' vs.length) (hY : ow_code Y' = Cond.code Y'.1 Y'.2.1 Y'.2.2.1 none) (ha : a < u.1) (hst : vs.reverse ++ .ref a :: S = st) (hd : d'.1 + 1 ≤ d.1 ∧ (S.map fun v => v.category).sum + (Y'.2.2.1 + 11 + d'.2) ≤ d.2) (hh : ∀ q ∈ Y.2.2.2.2, ¬ (q.1 ≤ pc ∧ pc < q.2.1))
    (kk : MT l Y' d' (.ref a :: vs) u (ow_next l Y sc d Q (pc + 3) L S)) : AW l Y sc d Q pc L st u := by
  subst hst
  intro p e R s m args below meth c n0 b0 ad0 sb ids D A H locs cells slots ad ls X P h hv
  intro T hT Xs
  subst hT
  have hvs : ow_okS u.1 (.ref a :: vs) := fun c hc => by
    rcases List.mem_cons.mp hc with h1 | h1
    · cases h1; exact ha
    · exact hv.2 c (List.mem_append_left _ (List.mem_reverse.mpr h1))
  have hS : ow_okS u.1 S := fun c hc => hv.2 c (List.mem_append_right _ (List.mem_cons_of_mem _ hc))
  obtain ⟨c1, c2, c4, c5⟩ := hC
  obtain ⟨l2, l3⟩ := hL
  have l1 : (Cond.methodLinkNest Y.1.cls index Y'.1 host).before args s = true := by rw [← hN]; exact va_Nw.use rfl X.given.2.1
  have hcode := X.ts _ c1
  rw [hY] at hcode
  have hstack : (F0 m pc ls ((vs.reverse ++ .ref a :: S).map (ow_cv sb ad))).stack = (vs.map (ow_cv sb ad)).reverse ++ .ref (ad a) :: S.map (ow_cv sb ad) := by
    show (vs.reverse ++ .ref a :: S).map (ow_cv sb ad) = _
    rw [List.map_append, List.map_reverse]; rfl
  have hpl : e.platform.magicAccessors = ({} : Platform).magicAccessors := by rw [Xs.admits.platform]
  obtain ⟨mk, methM, cM, kP, vm₁, hnamed, hmethM, hcodeM, -, hlocalsM, -, hkP, -, hW₁, hstep₁⟩ := Steps.initColdArgsNest (e := e) Xs.here X.exec Xs.warmed hpl X.own l3 c4 l1 (X.ts _ l2) hcode (f := F0 m pc ls ((vs.reverse ++ .ref a :: S).map (ow_cv sb ad))) rfl (argsL := vs.map (ow_cv sb ad)) (rest := S.map (ow_cv sb ad)) (fun sig hs => by rw [List.length_map]; exact ow_len_of c5 hs) hstack (by rw [X.bytes]; exact hdg)
  have X₁ := Xs.noted hW₁
  obtain ⟨o, T', locs', cells', slots', ad', u', Xs', P', hle, had, hQ, hsteps⟩ := ow_enter (e := e) (U := T.setVm vm₁) (g := F0 m pc ls (S.map (ow_cv sb ad))) (ig := .invokespecial index) (mk := mk) kk X P hvs X₁ rfl (by rw [X.maxL]; exact h.1.1) (by rw [X.bytes]; exact hdg) ⟨hd.1, by have := ow_weigh (m := m) (pc := pc) (sb := sb) (ls := ls) (ad := ad) hd.2; omega⟩ (X₁.named hnamed) c1 c2
  obtain ⟨t, a1, b1⟩ := ow_behind (e := e) (below := below) (m := m) hh X h ⟨hv.1, hS⟩ Xs' P' hle had hQ
  exact ⟨t, hstep₁ _ fun acts => by rw [doInvoke_state]; exact hsteps.trans a1, b1⟩
/-- a nest mate's static method -/
theorem aw_callSN {host : String} {index : Nat} {vs : List Value} {st : List Value} (hdg : decode Y.2.1 pc = .ok (.invokestatic index, 3)) (hN : ow_nw2 = Cond.methodLinkNest Y.1.cls index Y'.1 host) (hL : Cond.static Y'.1 ∈ ow_ws) (hC : ow_Cd Y' vs.length) (hst : vs.reverse ++ S = st) (hd : d'.1 + 1 ≤ d.1 ∧ (S.map fun v => v.category).sum + (Y'.2.2.1 + 11 + d'.2) ≤ d.2) (hh : ∀ q ∈ Y.2.2.2.2, ¬ (q.1 ≤ pc ∧ pc < q.2.1))
    (kk : MT l Y' d' vs u (ow_next l Y sc d Q (pc + 3) L S)) : AW l Y sc d Q pc L st u := by
  subst hst
  intro p e R s m args below meth c n0 b0 ad0 sb ids D A H locs cells slots ad ls X P h hv
  intro T hT Xs
  subst hT
  have hvs : ow_okS u.1 vs := fun c hc => hv.2 c (List.mem_append_left _ (List.mem_reverse.mpr hc))
  have hS : ow_okS u.1 S := fun c hc => hv.2 c (List.mem_append_right _ hc)
  obtain ⟨c1, c2, c4, c5⟩ := hC
  have l1 : (Cond.methodLinkNest Y.1.cls index Y'.1 host).before args s = true := by rw [← hN]; exact va_Nw.use rfl X.given.2.2.1
  obtain ⟨mk, methM, hnamed, hmethM, hsigM⟩ : ∃ mk methM, s.methodNamed? Y'.1 = some mk ∧ s.vm.method? mk = some methM ∧ parseMethodDescriptor Y'.1.desc = some methM.sig := by
    obtain ⟨mk, hnamed⟩ := ow_code_named (X.ts _ c1)
    obtain ⟨methM, cM, h1, -, -, -, -, -, -, h8⟩ := ow_code_spec hnamed (X.ts _ c1)
    exact ⟨mk, methM, hnamed, h1, h8⟩
  have hstatic : methM.isStatic = true := Cond.static_spec hnamed hmethM (X.ts _ hL)
  obtain ⟨kP, hkP, -⟩ := className_of_methodNamed hnamed
  have hinitP : kP.init = .initialized := Cond.initialized_spec (findClass_of_methodNamed hnamed) hkP (X.ts _ c2)
  have hstack : (F0 m pc ls ((vs.reverse ++ S).map (ow_cv sb ad))).stack = (vs.map (ow_cv sb ad)).reverse ++ S.map (ow_cv sb ad) := by
    show (vs.reverse ++ S).map (ow_cv sb ad) = _
    rw [List.map_append, List.map_reverse]
  obtain ⟨vm₁, X₁, hstep₁⟩ := Xs.invokestaticNest X.exec X.own l1 hnamed hmethM hstatic hkP hinitP c4 (g := F0 m pc ls ((vs.reverse ++ S).map (ow_cv sb ad))) rfl (argsL := vs.map (ow_cv sb ad)) (rest := S.map (ow_cv sb ad)) (by rw [List.length_map]; exact ow_len_of c5 hsigM) hstack (by rw [X.bytes]; exact hdg)
  obtain ⟨o, T', locs', cells', slots', ad', u', Xs', P', hle, had, hQ, hsteps⟩ := ow_enter (e := e) (U := T.setVm vm₁) (g := F0 m pc ls (S.map (ow_cv sb ad))) (ig := .invokestatic index) (mk := mk) kk X P hvs X₁ rfl (by rw [X.maxL]; exact h.1.1) (by rw [X.bytes]; exact hdg) ⟨hd.1, by have := ow_weigh (m := m) (pc := pc) (sb := sb) (ls := ls) (ad := ad) hd.2; omega⟩ (X₁.named hnamed) c1 c2
  obtain ⟨t, a1, b1⟩ := ow_behind (e := e) (below := below) (m := m) hh X h ⟨hv.1, hS⟩ Xs' P' hle had hQ
  exact ⟨t, hstep₁ _ fun acts => by rw [doInvoke_state]; exact hsteps.trans a1, b1⟩
end OwSpecial
end
section
/-! 'throw new E("..")' where E's constructor calls its superclass's by another entry than 7 (NoSuchElementException: 13); launches without stack traces -/
def nx_atoms (own : String) (ic : Nat) (X : String) (ix : Nat) (rx : ByteArray) (sup : String) (names : List String) : List Cond :=
  Bundle.throwableAtoms ++ Bundle.throwableSAtoms ++ Bundle.passSAtoms X sup ix rx ++ Bundle.chainSAtoms sup names ++
  [.methodLink own ic (Bundle.initS X), .instantiable X 6, .selects X Bundle.tFill0 Bundle.tFill0, .selects X Bundle.tFill Bundle.tFill,
   .lays X Bundle.tN "cause" "Ljava/lang/Throwable;", .lays X Bundle.tN "stackTrace" Bundle.steD, .lays X Bundle.tN "suppressedExceptions" Bundle.listD, .lays X Bundle.tN "detailMessage" "Ljava/lang/String;",
   .isRef (.static Bundle.tN "UNASSIGNED_STACK" Bundle.steD), .isRef (.static Bundle.tN "SUPPRESSED_SENTINEL" Bundle.listD),
   .fieldLink Bundle.tN 198 Bundle.tN "backtrace" "Ljava/lang/Object;", .lays Bundle.tN Bundle.tN "backtrace" "Ljava/lang/Object;", .lays X Bundle.tN "backtrace" "Ljava/lang/Object;"]
section NxCtor
variable {p : Program} {l : Launch} {e : Env} {R : Room} {s : State} {m₀ : MethodId} {args : Array Value} {below : List Frame} {meth : Method} {c : Code} {V : State} {locs : List Loc} {cells slots : Nat}
set_option maxHeartbeats 2000000 in
theorem nx_ctor (X : Stand p l e R s m₀ args below meth c V locs cells slots) (hexec : p.tables.exec = Jvm.exec) (htr : e.platform.stackTraces = false) {own cls sup : String} {names : List String} {ic ix : Nat} {rx : ByteArray}
    (x0 : decode rx 0 = .ok (.aload_n 0, 1)) (x1 : decode rx 1 = .ok (.aload_n 1, 1)) (x2 : decode rx 2 = .ok (.invokespecial ix, 3)) (x5 : decode rx 5 = .ok (.return_, 1))
    (hown : s.vm.findClass own = some m₀.cls) (hcls : Bundle.fit cls = true) (hsupf : Bundle.fit sup = true) (hnames : ∀ n ∈ names, Bundle.fit n = true)
    (h : ∀ w ∈ nx_atoms own ic cls ix rx sup names, w.before args s = true)
    (hlocs : ∀ x ∈ locs, ∀ cell, s.heap[x.base]? = some cell → cell.vm.isStatics = false)
    {a : Addr} {cX : ClassId} {kX : Class} (hfoundX : s.vm.findClass cls = some cX) (hkX : s.vm.classes[cX]? = some kX) (hcell : V.heap[a]? = some (freshCell cX kX)) (hnew : s.heap.size ≤ a)
    {msg : Value} (hmsg : msg.isRef = true)
    {g : JFrame} (hg : g.method = m₀) (hsize : g.locals.size = c.maxLocals) (hlocked : g.locked = none) (hentered : g.entered = []) {rest : List Value} (hstack : g.stack = msg :: .ref a :: .ref a :: rest)
    (hd6 : decode c.code g.pc = .ok (.invokespecial ic, 3)) (hd9 : decode c.code (g.pc + 3) = .ok (.athrow, 1)) (hout : ∀ x ∈ c.exceptionTable.toList, covers x (g.pc + 3) = false)
    (hRframes : names.length + 4 < R.frames) (hRlocals : 2 * g.monitorRoom + ((Value.ref a :: rest).map fun v => v.category).sum + (13 * (names.length + 2) + 42) ≤ R.locals) (hlocks : meth.locks = false) :
    ∃ U : State, Steps p.tables e below (V.setTop g) U ∧ U.status = .running ∧ Ended U below (.threw a) ∧ s.WarmedH U.vm ∧ s.sameButNew ({ U with vm := s.vm } : State) locs cells slots ∧
      ∃ ce : Cell, U.heap[a]? = some ce ∧ ce.vm = .none ∧ s.vm.findClass cls = some ce.cls := by
  have hpf := X.admits.platform
  have howns : e.platform.frameOwnsMonitors = true := by rw [hpf]
  have hfin : e.platform.finalization = false := by rw [hpf]
  have hpl : e.platform.magicAccessors = ({} : Platform).magicAccessors := by rw [hpf]
  have w : ∀ x, x ∈ nx_atoms own ic cls ix rx sup names → x.holds args s none s [] = true := fun x hx => h x hx
  obtain ⟨T, Z0, L, -, Y⟩ := ThrowableC.of_atoms (args := args) howns hfin hpl (fun x hx => h x (by simp [nx_atoms, hx]))
  obtain ⟨Z, M, LZ, LM, hnZ⟩ := Init0T.ofS_atoms (args := args) hpl L Y (fun x hx => h x (by simp [nx_atoms, hx]))
  obtain ⟨P1, L1, hP1m, hs1⟩ := PassC.ofS_atoms (args := args) (s := s) hpl (X := cls) (Y := sup) (Bundle.fit_spec hcls).1 (Bundle.fit_spec hsupf).2 x0 x1 x2 x5 (fun x hx => h x (by simp [nx_atoms, hx]))
  obtain ⟨P2, Ps, hlen, L2, hL, hP2m, hlink1, hlink⟩ := Bundle.chainS (args := args) hpl hnZ names sup hsupf hnames (fun x hx => h x (by simp [nx_atoms, hx]))
  have hs12 : P1.sup = P2.m := Option.some.inj (hs1.symm.trans hP2m)
  have hfound : s.vm.findClass cls = some P1.m.cls := findClass_of_methodNamed hP1m
  cases Option.some.inj (hfoundX.symm.trans hfound)
  obtain ⟨c1, kX', hc1, hk, hord, -, -, hn6⟩ := Cond.instantiable_spec (w (.instantiable cls 6) (by simp [nx_atoms]))
  cases Option.some.inj (hc1.symm.trans hfound)
  cases Option.some.inj (hkX.symm.trans hk)
  have pick : ∀ {y : MethodName} {my : MethodId}, s.methodNamed? y = some my → (y.cls ≠ "java/lang/invoke/MethodHandle" ∧ y.cls ≠ "java/lang/invoke/VarHandle") → (Cond.selects cls y y).holds args s none s [] = true → selectMethod e.platform s.vm P1.m.cls my = .method my := by
    intro y my hy hne hs
    obtain ⟨c2, r2, m2, q1, q2, q3, q4, -⟩ := Cond.selects_spec hs
    cases Option.some.inj (q1.symm.trans hfound)
    cases Option.some.inj (q2.symm.trans (State.methodFound?_of_named hy hne))
    cases Option.some.inj (q3.symm.trans hy)
    rw [Launch.admits_selectMethod X.admits]; exact q4
  have hsel0 := pick Y.fill0 (by decide) (w (.selects cls Bundle.tFill0 Bundle.tFill0) (by simp [nx_atoms]))
  have hselF := pick Y.fill (by decide) (w (.selects cls Bundle.tFill Bundle.tFill) (by simp [nx_atoms]))
  obtain ⟨cS, hcS, hiss⟩ := Y.statics
  obtain ⟨u0, hu0⟩ := Cond.staticRefV Y.unassigned L.unassignedStatic L.statics hcS hiss (w (.isRef (.static Bundle.tN "UNASSIGNED_STACK" Bundle.steD)) (by simp [nx_atoms]))
  obtain ⟨sen, hsen⟩ := Cond.staticRefV Y.sentinel L.sentinelStatic L.statics hcS hiss (w (.isRef (.static Bundle.tN "SUPPRESSED_SENTINEL" Bundle.listD)) (by simp [nx_atoms]))
  obtain ⟨ci, i8, fB, hk8, hg8, ha8, hsB, -, hnB, htB, hffB⟩ := Cond.ownField (t := .object "java/lang/Object") Y.found L.cls (by decide +kernel) (w (.fieldLink Bundle.tN 198 Bundle.tN "backtrace" "Ljava/lang/Object;") (by simp [nx_atoms])) (w (.lays Bundle.tN Bundle.tN "backtrace" "Ljava/lang/Object;") (by simp [nx_atoms])) e.platform hpl
  obtain ⟨cS2, hcS2, heS, -, hkeep⟩ := X.same.2.2.2.2.2 T.aS cS hcS
  have hcV : V.heap[T.aS]? = some cS2 := hcS2
  have hfree : ∀ i, (⟨T.aS, i⟩ : Loc) ∉ locs := fun i hmem => by
    have q := hlocs _ hmem cS hcS
    rw [hiss] at q; cases q
  have hknown : cS2.vm ≠ .unknown := by
    rw [heS]; intro hu
    rw [show cS.vm = .unknown from hu] at hiss
    cases hiss
  have hne : T.aS ≠ a := Nat.ne_of_lt (Nat.lt_of_lt_of_le (Array.getElem?_eq_some_iff.mp hcS).1 hnew)
  obtain ⟨iM, hffM⟩ := Y.msg
  obtain ⟨tyC, dC, hdC, hdnC⟩ := Cond.laysAt hfound hk Y.cause (w (.lays cls Bundle.tN "cause" "Ljava/lang/Throwable;") (by simp [nx_atoms]))
  obtain ⟨tyS, dS, hdS, hdnS⟩ := Cond.laysAt hfound hk Y.stack (w (.lays cls Bundle.tN "stackTrace" Bundle.steD) (by simp [nx_atoms]))
  obtain ⟨tyP, dP, hdP, hdnP⟩ := Cond.laysAt hfound hk Y.supp (w (.lays cls Bundle.tN "suppressedExceptions" Bundle.listD) (by simp [nx_atoms]))
  obtain ⟨tyM, dM, hdM, hdnM⟩ := Cond.laysAt hfound hk hffM (w (.lays cls Bundle.tN "detailMessage" "Ljava/lang/String;") (by simp [nx_atoms]))
  obtain ⟨tyB, dB, hdB, hdnB⟩ := Cond.laysAt hfound hk hffB (w (.lays cls Bundle.tN "backtrace" "Ljava/lang/Object;") (by simp [nx_atoms]))
  have bC := Cond.laysApart hdB hdC hdnB hdnC (by rw [hnB, Y.causeName]; decide)
  have bS := Cond.laysApart hdB hdS hdnB hdnS (by rw [hnB, Y.stackName]; decide)
  have bP := Cond.laysApart hdB hdP hdnB hdnP (by rw [hnB, Y.suppName]; decide)
  have hskip : SkipFacts T e.platform s (fun u => u) u0 ((preparedCellV T.toThrowableT (freshCell P1.m.cls kX) a u0 sen).withEntry V.cur) :=
    ⟨{ ci198 := ci, i198 := i8, fBack := fB }, ⟨hk8, hg8, ha8, hsB⟩, by
      have q := fresh_default (c := P1.m.cls) tyB
      rw [htB] at q
      simpa [preparedCellV, Cell.setSlot, Cell.withEntry, Array.getElem?_setIfInBounds, bC, bS, bP, bC.symm, bS.symm, bP.symm, defaultValue] using q, fun _ _ => rfl⟩
  obtain ⟨tm, methC, cdC, kC, vm₁, hnC, -, -, -, -, -, -, -, hW₁, st1⟩ := Steps.initColdS (tb := p.tables) (e := e) (below := below) (s := s) (U := V) X.here hexec X.warmed hpl hown (t := Bundle.initS cls) rfl rfl (Bundle.fit_spec hcls).2
    (w (.methodLink own ic (Bundle.initS cls)) (by simp [nx_atoms])) (h (.instanceMethod (Bundle.initS cls)) (by simp [nx_atoms, Bundle.passSAtoms])) (bytes := rx) (maxL := 2) (h (.code (Bundle.initS cls) rx 2 none) (by simp [nx_atoms, Bundle.passSAtoms]))
    (f := g) hg (a := a) (msg := msg) (rest := .ref a :: rest) hstack hd6
  cases Option.some.inj (hnC.symm.trans hP1m)
  have X₁ := X.noted hW₁
  obtain ⟨vm₂, X₂, st2⟩ := X₁.ctorMessageOffV hexec (g := { g with stack := .ref a :: rest }) hg hsize T L Z LZ M LM (P1 :: P2 :: Ps)
    (fun P hP => by
      rcases List.mem_cons.mp hP with rfl | hP
      · exact L1
      · rcases List.mem_cons.mp hP with rfl | hP
        · exact L2
        · exact hL P hP) ⟨hs12, hlink1, hlink⟩ (u0 := u0) (sen := sen) (self := a) hmsg (cell := freshCell P1.m.cls kX) (cellS := cS2)
    hcell (fun _ => by simp) (by simp) rfl rfl hsel0 hselF hcV hne hknown (by rw [hkeep _ (hfree _)]; exact hu0) (by rw [hkeep _ (hfree _)]; exact hsen)
    (Takes.of_laid hk hord tyC (by rw [Y.causeType]; rfl)) (Takes.of_laid hk hord tyS (by rw [Y.stackType]; exact fits_refV_array _ u0)) (Takes.of_laid hk hord tyP (by rw [Y.suppType]; exact fits_refV_object _ sen))
    (Takes.of_laid hk hord tyM (by rw [Y.msgType]; exact fits_refV_object _ ⟨msg, hmsg⟩)) Y.objLocals hskip htr [] hd6
    (by simp only [List.length_cons, hlen]; omega) (by simp only [List.length_cons, hlen]; exact hRlocals)
  obtain ⟨hwalk, hrun, hended, hWU, hsame⟩ := X₂.athrowLeaves hexec (g := { g with stack := .ref a :: rest, pc := g.pc + 3 }) hg hlocked hentered hout (a := a) (rest := rest) rfl hd9
  have hlt : a < ((V.setVm vm₁).setVm vm₂).heap.size := (Array.getElem?_eq_some_iff.mp hcell).1
  have hU := heapAt_setCell_self (s := (V.setVm vm₁).setVm vm₂) (plainBareV T.toThrowableT (freshCell P1.m.cls kX) a u0 sen msg) hlt
  refine ⟨_, st1 _ (fun acts => ?_), hrun, hended, hWU, hsame.weaken (fun y hy hlt' => ?_) (Nat.le_refl _) (Nat.le_refl _), _, hU, rfl, hfound⟩
  · rw [doInvoke_state]
    exact st2 _ hwalk
  · rcases List.mem_append.mp hy with h1 | h1
    · exact h1
    · exfalso
      have hb : y.base = a := by
        simp only [List.mem_cons, List.not_mem_nil, or_false] at h1
        rcases h1 with rfl | rfl | rfl | rfl | rfl <;> rfl
      rw [hb] at hlt'
      exact Nat.not_lt.mpr hnew hlt'
end NxCtor
/-- the words of 'throw new NoSuchElementException("..")' in the class own -/
def nx_at (own : String) (ic : Nat) : List Cond := (nx_atoms own ic (ow_exn 2) 13 prog_15_method_4_code "java/lang/RuntimeException" ["java/lang/Exception"]).filter vx_no
def nx_Th (own : String) (ik ic : Nat) : Prop := Cond.classLink own ik (ow_exn 2) ∈ ow_ws ∧ Cond.initialized (ow_exn 2) ∈ ow_ws ∧ (∀ w ∈ nx_at own ic, w ∈ ow_ws ∨ w ∈ ow_fw) ∧ (∀ w ∈ Cond.classLink own ik (ow_exn 2) :: Cond.initialized (ow_exn 2) :: nx_at own ic, vx_ot w = true)
theorem nx_d0 : decode prog_15_method_4_code 0 = .ok (.aload_n 0, 1) := by decide +kernel
theorem nx_d1 : decode prog_15_method_4_code 1 = .ok (.aload_n 1, 1) := by decide +kernel
theorem nx_d2 : decode prog_15_method_4_code 2 = .ok (.invokespecial 13, 3) := by decide +kernel
theorem nx_d5 : decode prog_15_method_4_code 5 = .ok (.return_, 1) := by decide +kernel
section NxThrow
variable {l : Launch} {Y : ow_Y} {sc : Option (Nat × (Nat → Int32))} {d : Nat × Nat} {Q : ow_R → ow_M → Prop} {pc : Nat} {L : List (Option Value)} {S : List Value} {u : ow_M}
set_option maxHeartbeats 2000000 in
theorem aw_throwN {ik is ic b : Nat} {text : String} (hl : l.stackTraces = false) (hTh : nx_Th Y.1.cls ik ic) (hstr : (Y.1.cls, is, text) ∈ ow_strs) (hh : ∀ q ∈ Y.2.2.2.2, ¬ (q.1 ≤ pc + 9 ∧ pc + 9 < q.2.1))
    (d0 : decode Y.2.1 pc = .ok (.new ik, 3)) (d3 : decode Y.2.1 (pc + 3) = .ok (.dup, 1)) (d4 : decode Y.2.1 (pc + 4) = .ok (.ldc is, 2)) (d6 : decode Y.2.1 (pc + 6) = .ok (.invokespecial ic, 3)) (d9 : decode Y.2.1 (pc + 9) = .ok (.athrow, 1))
    (hd : 5 < d.1 ∧ (S.map fun v => v.category).sum + 82 ≤ d.2) (hb : u.2.2.2.2 = b + 1) (q : Q (.inr 2) (u.1, u.2.1, u.2.2.1, u.2.2.2.1, b)) : AW l Y sc d Q pc L S u := by
  intro p e R s m args below meth c n0 b0 ad0 sb ids D A H locs cells slots ad ls X P h hv
  obtain ⟨t1, t2, t3, t4⟩ := hTh
  obtain ⟨rf, rl, rc, rs⟩ := X.room
  obtain ⟨g1, g2, g3, g4, g5, g6, g7, g8⟩ := X.given
  obtain ⟨sa, hsa⟩ := g7 _ hstr
  obtain ⟨p1, p2, p3, p4, p5, p6, p7, p8⟩ := P
  rw [hb] at p4 p5
  have hcat : ((S.map (ow_cv sb ad)).map fun v => v.category).sum = (S.map fun v => v.category).sum := by
    rw [List.map_map]
    have : ((fun v => v.category) ∘ ow_cv sb ad) = fun v : Value => v.category := by
      funext v; exact ow_cvc sb ad v
    rw [this]
  intro T hT Xs
  have htr : e.platform.stackTraces = false := (show e.platform.stackTraces = l.stackTraces by rw [Xs.admits.platform]).trans hl
  have Yr := vx_rebase Xs (R' := { frames := R.frames, locals := R.locals, cells := 1, slots := 6 }) (Nat.le_refl _) (Nat.le_refl _) (show cells + 1 ≤ R.cells by omega) (show slots + 6 ≤ R.slots by omega)
  obtain ⟨s', hs'⟩ : ∃ z, z = (T.setVm s.vm).setFrames (.invoking m args :: below) := ⟨_, rfl⟩
  rw [← hs'] at Yr
  have hvm : s'.vm = s.vm := by rw [hs']; rfl
  have hhp : s'.heap = H := by rw [hs']; exact hT
  have hW0 : s.WarmedH s'.vm := by rw [hvm]; exact State.WarmedH.refl s
  have mv : ∀ w, vx_ot w = true → w.before args s = true → w.before args s' = true := fun w hg hw => vx_ot_at hW0 hvm.symm hg hw
  have hat : ∀ w ∈ nx_at Y.1.cls ic, w.before args s' = true := fun w hw => mv w (t4 w (List.mem_cons_of_mem _ (List.mem_cons_of_mem _ hw))) ((t3 w hw).elim (fun h => X.ts w h) (fun h => ow_fw_on X.given h args))
  have hk' : (Cond.classLink Y.1.cls ik (ow_exn 2)).before args s' = true := mv _ (t4 _ List.mem_cons_self) (X.ts _ t1)
  have hini' : (Cond.initialized (ow_exn 2)).before args s' = true := mv _ (t4 _ (List.mem_cons_of_mem _ List.mem_cons_self)) (X.ts _ t2)
  have hU' : vx_Zq Bundle.tN "UNASSIGNED_STACK" Bundle.steD A s' s'.heap := by rw [hhp]; exact vx_Zq.moved hW0.alike (g5.kept p3.2.1)
  have hN' : vx_Zq Bundle.tN "SUPPRESSED_SENTINEL" Bundle.listD A s' s'.heap := by rw [hhp]; exact vx_Zq.moved hW0.alike (g6.kept p3.2.1)
  have hall : ∀ w ∈ nx_atoms Y.1.cls ic (ow_exn 2) 13 prog_15_method_4_code "java/lang/RuntimeException" ["java/lang/Exception"], w.before args s' = true := vx_own hat (vx_isRefq hU'.1) (vx_isRefq hN'.1) hU'.2.word hN'.2.word
  have hown' : s'.vm.findClass Y.1.cls = some m.cls := by rw [hvm]; exact X.own
  have hins : (Cond.instantiable (ow_exn 2) 6).before args s' = true := hall _ (by simp [nx_atoms])
  obtain ⟨vm₁, cX, kX, hfX, hkX, -, -, X₁, st1⟩ := Yr.newCold X.exec (own := Y.1.cls) (C := ow_exn 2) (index := ik) (n := 6) hown' hk' hins hini'
    (g := F0 m pc ls (S.map (ow_cv sb ad))) rfl (by rw [X.bytes]; exact d0) (Nat.le_refl _) (Nat.le_refl _)
  generalize hT1 : (T.setVm vm₁).pushCell { cls := cX, slots := kX.instanceTypes.map defaultValue, vm := .none } = T1 at X₁ st1
  have hc1 : (Value.ref T.heap.size).category = 1 := rfl
  have hcellA : T1.heap[T.heap.size]? = some (freshCell cX kX) := by rw [← hT1]; exact State.heap_pushCell_size _ _
  have d3' : decode c.code (pc + 3) = .ok (.dup, 1) := by rw [X.bytes]; exact d3
  have d4' : decode c.code (pc + 4) = .ok (.ldc is, 2) := by rw [X.bytes]; exact d4
  have hstr' : vk_R Y.1.cls is text sa s' := vk_R.warm hW0 hsa
  have hexec := X.exec
  obtain ⟨U, hsteps, hrun, hend, hW, hsame, ce, hce, hcv, hcl⟩ := nx_ctor X₁ hexec htr (own := Y.1.cls) (cls := ow_exn 2) (sup := "java/lang/RuntimeException") (names := ["java/lang/Exception"]) (ic := ic) nx_d0 nx_d1 nx_d2 nx_d5 hown' (by decide +kernel) (by decide +kernel) (by decide +kernel) hall (fun x hx => nomatch hx) hfX hkX hcellA (by rw [hhp, hT]; exact Nat.le_refl _) (msg := .ref sa) rfl
    (g := { method := m, pc := pc + 6, locals := ls, stack := .ref sa :: .ref T.heap.size :: .ref T.heap.size :: S.map (ow_cv sb ad), locked := none }) rfl (by rw [X.maxL]; exact h.1.1) rfl rfl (rest := S.map (ow_cv sb ad)) rfl
    (by rw [X.bytes]; exact d6) (by rw [X.bytes]; exact d9) (ow_uncovered X hh) (by show 1 + 4 < R.frames; omega) (by simp only [List.map_cons, List.sum_cons, hc1, hcat]; show 2 * 0 + _ + (13 * (1 + 2) + 42) ≤ R.locals; omega) X.locks
  obtain ⟨f1, f2⟩ := vx_frame hsame
  rw [hhp] at f1 f2
  have hWs : s.WarmedH U.vm := State.WarmedH.trans hW0 hW
  have hsm : s.sameButNew ({ U with vm := s.vm } : State) locs (cells + 1) (slots + 6) := by
    subst hs'
    obtain ⟨e1, e2⟩ := hsame
    rw [State.setFrames_setFrames] at e1
    have h2 : (T.setVm s.vm).sameButNew ({ U with vm := s.vm } : State) [] (0 + 1) (0 + 6) := ⟨e1, e2⟩
    have h3 := Xs.same.trans h2
    rw [List.append_nil] at h3
    exact h3
  rw [hvm] at hcl
  have h2 : ∀ q : Nat, q < H.size → U.heap[q]? = H[q]? := fun q hq => f2 q hq (fun z hz => nomatch hz)
  refine ⟨U, ?_, .threw T.heap.size, hrun, hend, (u.1, u.2.1, u.2.2.1, u.2.2.2.1, b), ad, locs, cells + 1, slots + 6, hWs, hsm, ⟨?_, ?_, ⟨Nat.le_trans p3.1 f1, fun q hq hA => ?_, p3.2.2⟩, by show cells + 1 + 8 * b ≤ _; omega, by show slots + 6 + 128 * b ≤ _; omega, p6, p7, p8⟩, Or.inr ⟨T.heap.size, 2, rfl, ⟨ce, hce, hcv, hcl⟩, q⟩⟩
  · refine st1 _ ?_
    show Steps p.tables e below (T1.setTop { method := m, pc := pc + 3, locals := ls, stack := .ref T.heap.size :: S.map (ow_cv sb ad), locked := none }) _
    jvm_step X₁.here [X₁.here.top, hexec, d3', Value.category]
    exact X₁.ldcString hexec (own := Y.1.cls) (text := text) (index := is) (a := sa) hown' hstr'.1 hstr'.2
      (g := { method := m, pc := pc + 4, locals := ls, stack := .ref T.heap.size :: .ref T.heap.size :: S.map (ow_cv sb ad), locked := none }) rfl d4' _ hsteps
  · rw [ow_W_b]; exact p1.kept (fun k q hk => h2 q.1 (p1 k q hk).lt)
  · rw [ow_W_b]; exact p2
  · rw [h2 q (Nat.lt_of_lt_of_le hq p3.1)]; exact p3.2.1 q hq hA
set_option maxHeartbeats 2000000 in
theorem aw_throwNW {ik is ic b : Nat} {text : String} (hl : l.stackTraces = false) (hTh : nx_Th Y.1.cls ik ic) (hstr : (Y.1.cls, is, text) ∈ ow_strs) (hh : ∀ q ∈ Y.2.2.2.2, ¬ (q.1 ≤ pc + 10 ∧ pc + 10 < q.2.1))
    (d0 : decode Y.2.1 pc = .ok (.new ik, 3)) (d3 : decode Y.2.1 (pc + 3) = .ok (.dup, 1)) (d4 : decode Y.2.1 (pc + 4) = .ok (.ldc_w is, 3)) (d7 : decode Y.2.1 (pc + 7) = .ok (.invokespecial ic, 3)) (d10 : decode Y.2.1 (pc + 10) = .ok (.athrow, 1))
    (hd : 5 < d.1 ∧ (S.map fun v => v.category).sum + 82 ≤ d.2) (hb : u.2.2.2.2 = b + 1) (q : Q (.inr 2) (u.1, u.2.1, u.2.2.1, u.2.2.2.1, b)) : AW l Y sc d Q pc L S u := by
  intro p e R s m args below meth c n0 b0 ad0 sb ids D A H locs cells slots ad ls X P h hv
  obtain ⟨t1, t2, t3, t4⟩ := hTh
  obtain ⟨rf, rl, rc, rs⟩ := X.room
  obtain ⟨g1, g2, g3, g4, g5, g6, g7, g8⟩ := X.given
  obtain ⟨sa, hsa⟩ := g7 _ hstr
  obtain ⟨p1, p2, p3, p4, p5, p6, p7, p8⟩ := P
  rw [hb] at p4 p5
  have hcat : ((S.map (ow_cv sb ad)).map fun v => v.category).sum = (S.map fun v => v.category).sum := by
    rw [List.map_map]
    have : ((fun v => v.category) ∘ ow_cv sb ad) = fun v : Value => v.category := by
      funext v; exact ow_cvc sb ad v
    rw [this]
  intro T hT Xs
  have htr : e.platform.stackTraces = false := (show e.platform.stackTraces = l.stackTraces by rw [Xs.admits.platform]).trans hl
  have Yr := vx_rebase Xs (R' := { frames := R.frames, locals := R.locals, cells := 1, slots := 6 }) (Nat.le_refl _) (Nat.le_refl _) (show cells + 1 ≤ R.cells by omega) (show slots + 6 ≤ R.slots by omega)
  obtain ⟨s', hs'⟩ : ∃ z, z = (T.setVm s.vm).setFrames (.invoking m args :: below) := ⟨_, rfl⟩
  rw [← hs'] at Yr
  have hvm : s'.vm = s.vm := by rw [hs']; rfl
  have hhp : s'.heap = H := by rw [hs']; exact hT
  have hW0 : s.WarmedH s'.vm := by rw [hvm]; exact State.WarmedH.refl s
  have mv : ∀ w, vx_ot w = true → w.before args s = true → w.before args s' = true := fun w hg hw => vx_ot_at hW0 hvm.symm hg hw
  have hat : ∀ w ∈ nx_at Y.1.cls ic, w.before args s' = true := fun w hw => mv w (t4 w (List.mem_cons_of_mem _ (List.mem_cons_of_mem _ hw))) ((t3 w hw).elim (fun h => X.ts w h) (fun h => ow_fw_on X.given h args))
  have hk' : (Cond.classLink Y.1.cls ik (ow_exn 2)).before args s' = true := mv _ (t4 _ List.mem_cons_self) (X.ts _ t1)
  have hini' : (Cond.initialized (ow_exn 2)).before args s' = true := mv _ (t4 _ (List.mem_cons_of_mem _ List.mem_cons_self)) (X.ts _ t2)
  have hU' : vx_Zq Bundle.tN "UNASSIGNED_STACK" Bundle.steD A s' s'.heap := by rw [hhp]; exact vx_Zq.moved hW0.alike (g5.kept p3.2.1)
  have hN' : vx_Zq Bundle.tN "SUPPRESSED_SENTINEL" Bundle.listD A s' s'.heap := by rw [hhp]; exact vx_Zq.moved hW0.alike (g6.kept p3.2.1)
  have hall : ∀ w ∈ nx_atoms Y.1.cls ic (ow_exn 2) 13 prog_15_method_4_code "java/lang/RuntimeException" ["java/lang/Exception"], w.before args s' = true := vx_own hat (vx_isRefq hU'.1) (vx_isRefq hN'.1) hU'.2.word hN'.2.word
  have hown' : s'.vm.findClass Y.1.cls = some m.cls := by rw [hvm]; exact X.own
  have hins : (Cond.instantiable (ow_exn 2) 6).before args s' = true := hall _ (by simp [nx_atoms])
  obtain ⟨vm₁, cX, kX, hfX, hkX, -, -, X₁, st1⟩ := Yr.newCold X.exec (own := Y.1.cls) (C := ow_exn 2) (index := ik) (n := 6) hown' hk' hins hini'
    (g := F0 m pc ls (S.map (ow_cv sb ad))) rfl (by rw [X.bytes]; exact d0) (Nat.le_refl _) (Nat.le_refl _)
  generalize hT1 : (T.setVm vm₁).pushCell { cls := cX, slots := kX.instanceTypes.map defaultValue, vm := .none } = T1 at X₁ st1
  have hc1 : (Value.ref T.heap.size).category = 1 := rfl
  have hcellA : T1.heap[T.heap.size]? = some (freshCell cX kX) := by rw [← hT1]; exact State.heap_pushCell_size _ _
  have d3' : decode c.code (pc + 3) = .ok (.dup, 1) := by rw [X.bytes]; exact d3
  have d4' : decode c.code (pc + 4) = .ok (.ldc_w is, 3) := by rw [X.bytes]; exact d4
  have hstr' : vk_R Y.1.cls is text sa s' := vk_R.warm hW0 hsa
  have hexec := X.exec
  obtain ⟨U, hsteps, hrun, hend, hW, hsame, ce, hce, hcv, hcl⟩ := nx_ctor X₁ hexec htr (own := Y.1.cls) (cls := ow_exn 2) (sup := "java/lang/RuntimeException") (names := ["java/lang/Exception"]) (ic := ic) nx_d0 nx_d1 nx_d2 nx_d5 hown' (by decide +kernel) (by decide +kernel) (by decide +kernel) hall (fun x hx => nomatch hx) hfX hkX hcellA (by rw [hhp, hT]; exact Nat.le_refl _) (msg := .ref sa) rfl
    (g := { method := m, pc := pc + 7, locals := ls, stack := .ref sa :: .ref T.heap.size :: .ref T.heap.size :: S.map (ow_cv sb ad), locked := none }) rfl (by rw [X.maxL]; exact h.1.1) rfl rfl (rest := S.map (ow_cv sb ad)) rfl
    (by rw [X.bytes]; exact d7) (by rw [X.bytes]; exact d10) (ow_uncovered X hh) (by show 1 + 4 < R.frames; omega) (by simp only [List.map_cons, List.sum_cons, hc1, hcat]; show 2 * 0 + _ + (13 * (1 + 2) + 42) ≤ R.locals; omega) X.locks
  obtain ⟨f1, f2⟩ := vx_frame hsame
  rw [hhp] at f1 f2
  have hWs : s.WarmedH U.vm := State.WarmedH.trans hW0 hW
  have hsm : s.sameButNew ({ U with vm := s.vm } : State) locs (cells + 1) (slots + 6) := by
    subst hs'
    obtain ⟨e1, e2⟩ := hsame
    rw [State.setFrames_setFrames] at e1
    have h2 : (T.setVm s.vm).sameButNew ({ U with vm := s.vm } : State) [] (0 + 1) (0 + 6) := ⟨e1, e2⟩
    have h3 := Xs.same.trans h2
    rw [List.append_nil] at h3
    exact h3
  rw [hvm] at hcl
  have h2 : ∀ q : Nat, q < H.size → U.heap[q]? = H[q]? := fun q hq => f2 q hq (fun z hz => nomatch hz)
  refine ⟨U, ?_, .threw T.heap.size, hrun, hend, (u.1, u.2.1, u.2.2.1, u.2.2.2.1, b), ad, locs, cells + 1, slots + 6, hWs, hsm, ⟨?_, ?_, ⟨Nat.le_trans p3.1 f1, fun q hq hA => ?_, p3.2.2⟩, by show cells + 1 + 8 * b ≤ _; omega, by show slots + 6 + 128 * b ≤ _; omega, p6, p7, p8⟩, Or.inr ⟨T.heap.size, 2, rfl, ⟨ce, hce, hcv, hcl⟩, q⟩⟩
  · refine st1 _ ?_
    show Steps p.tables e below (T1.setTop { method := m, pc := pc + 3, locals := ls, stack := .ref T.heap.size :: S.map (ow_cv sb ad), locked := none }) _
    jvm_step X₁.here [X₁.here.top, hexec, d3', Value.category]
    exact X₁.ldcStringW hexec (own := Y.1.cls) (text := text) (index := is) (a := sa) hown' hstr'.1 hstr'.2
      (g := { method := m, pc := pc + 4, locals := ls, stack := .ref T.heap.size :: .ref T.heap.size :: S.map (ow_cv sb ad), locked := none }) rfl d4' _ hsteps
  · rw [ow_W_b]; exact p1.kept (fun k q hk => h2 q.1 (p1 k q hk).lt)
  · rw [ow_W_b]; exact p2
  · rw [h2 q (Nat.lt_of_lt_of_le hq p3.1)]; exact p3.2.1 q hq hA
end NxThrow
end
section
/-! a call whose exceptions are caught -/
/-- the row of the method's table that takes an exception of the kind kx thrown at pc -/
def ow_caught (Y : ow_Y) (pc kx hpc : Nat) : Prop := kx < 3 ∧ Cond.castable (ow_exn kx) (ow_exn kx) ∈ ow_fw ∧ ∃ (pre suf : List (Nat × Nat × Nat × Nat)) (a b ct : Nat), Y.2.2.2.2 = pre ++ (a, b, hpc, ct) :: suf ∧ (a ≤ pc ∧ pc < b) ∧ ct ≠ 0 ∧ Cond.classLink Y.1.cls ct (ow_exn kx) ∈ ow_ws ∧
  ∀ z ∈ pre, z.2.2.2 ≠ 0 ∧ ∃ ky, ky < 3 ∧ kx ≠ ky ∧ Cond.classLink Y.1.cls z.2.2.2 (ow_exn ky) ∈ ow_ws
theorem ow_ls.storeX {sb : Nat} {ad : Nat → Nat} {nL : Nat} {L : List (Option Value)} {ls ls' : Array Slot} (h : ow_ls sb ad nL L ls) {i : Nat} {v : Value}
    (h' : lv_has ls' nL ((i, v) :: (ow_lv sb ad L).filter (fun q => !(q.1 == i) && !(q.1 + 1 == i && q.2.category == 2)))) : ow_ls sb ad nL (L.set i none) ls' := by
  refine ⟨⟨h'.1, h'.2.1⟩, fun j w hj => ?_⟩
  by_cases hji : j = i
  · subst hji
    have hlt : j < L.length := by
      have := (List.getElem?_eq_some_iff.mp hj).1
      simpa using this
    rw [List.getElem?_set_self hlt] at hj
    cases hj
  · rw [List.getElem?_set_ne (Ne.symm hji)] at hj
    have hw := h.2 j w hj
    refine ⟨hw.1, h'.2.2 (j, ow_cv sb ad w) (List.mem_cons_of_mem _ (List.mem_filter.mpr ⟨ow_lv_mem.mpr ⟨w, hj, rfl⟩, ?_⟩))⟩
    have hcw : (ow_cv sb ad w).category = 1 := ow_cat hw.1
    simp [hji, hcw]
/-- behind a call, where the exceptions that it may throw are caught and put away -/
def ow_nextT (l : Launch) (Y : ow_Y) (sc : Option (Nat × (Nat → Int32))) (d : Nat × Nat) (Q : ow_R → ow_M → Prop) (pc : Nat) (L : List (Option Value)) (S : List Value) : ow_R → ow_M → Prop := fun r u => match r with
  | .inl v => AW l Y sc d Q (pc + 3) L (v.toList.map Value.int ++ S) u
  | .inr kx => ∃ hpc i len : Nat, ow_caught Y pc kx hpc ∧ i < Y.2.2.1 ∧ ((decode Y.2.1 hpc = .ok (.astore i, 2) ∧ len = 2) ∨ ∃ j : Fin 4, decode Y.2.1 hpc = .ok (.astore_n j, 1) ∧ (j : Nat) = i ∧ len = 1) ∧ AW l Y sc d Q (hpc + len) (L.set i none) [] u
section OwTry
variable {p : Program} {l : Launch} {e : Env} {R : Room} {s : State} {m : MethodId} {args : Array Value} {below : List Frame} {meth : Method} {c : Code}
variable {Y Y' : ow_Y} {sc : Option (Nat × (Nat → Int32))} {d : Nat × Nat} {n0 b0 sb : Nat} {ids : Nat → ClassId} {D : va_G} {A : Nat → Prop} {ad0 ad : Nat → Nat} {u : ow_M} {vs : List Value} {Q : ow_R → ow_M → Prop} {pc : Nat} {L : List (Option Value)} {S : List Value} {ls : Array Slot}
theorem ow_behindT (X : ow_X Y sc d b0 sb ids D A p R s m args meth c) (h : ow_ls sb ad Y.2.2.1 L ls) (hv : ow_okL u.1 L ∧ ow_okS u.1 S)
    {o : Option Value ⊕ Addr} {T' : State} {locs' : List Loc} {cells' slots' : Nat} {ad' : Nat → Nat} {u' : ow_M} (Xs : Stand p l e R s m args below meth c T' locs' cells' slots') (P : ow_P n0 b0 ad0 ids D A s T'.heap locs' cells' slots' ad' u') (hle : u.1 ≤ u'.1) (had : ∀ c, c < u.1 → ad' c = ad c)
    (hQ : match o with | .inl v => ∃ r : Option Int32, v = r.map Value.int ∧ ow_nextT l Y sc d Q pc L S (.inl r) u' | .inr x => ∃ kx, ow_ex kx x s T'.heap ∧ ow_nextT l Y sc d Q pc L S (.inr kx) u') :
    ∃ t, Steps p.tables e below (ow_land (F0 m pc ls (S.map (ow_cv sb ad))) T' o) t ∧ ow_MQ below Q n0 b0 sb ad0 ids D A s t := by
  cases o with
  | inl v =>
    obtain ⟨r, rfl, hr⟩ := hQ
    have hw := hr p e R s m args below meth c n0 b0 ad0 sb ids D A T'.heap locs' cells' slots' ad' ls X P (h.re had hv.1) ⟨hv.1.up hle, (ow_okS.ints r).app (hv.2.up hle)⟩
    rw [List.map_append, ow_cv_map had hv.2] at hw
    have e1 : (r.toList.map Value.int).map (ow_cv sb ad') = (r.map Value.int).toList := by cases r <;> rfl
    rw [e1] at hw
    exact hw T' rfl Xs
  | inr x =>
    obtain ⟨kx, ⟨ce, hx1, hx2, hx3⟩, hpc, i, len, ⟨hk3, hcast, pre, suf, a, b, ct, hsplit, hcov, hct, hlink, hpass⟩, hi, hst, hq⟩ := hQ
    have hmap := X.hand
    rw [hsplit] at hmap
    obtain ⟨pre', rest', e1, e2, e3⟩ := List.map_eq_append_iff.mp hmap
    obtain ⟨x', suf', e4, e5, e6⟩ := List.map_eq_cons_iff.mp e3
    subst e4
    simp only [Prod.mk.injEq] at e5
    obtain ⟨y1, y2, y3, y4⟩ := e5
    have hL := h.re had hv.1
    refine vx_catch (e := e) (H := T'.heap) (locs := locs') (cells := cells') (slots := slots') (Q := ow_MQ below Q n0 b0 sb ad0 ids D A s) (ls := ls) (rest := S.map (ow_cv sb ad)) (pc := pc) X.own pre' x' suf' e1 (fun z hz => ?_) (by simp only [covers, y1, y2, Bool.and_eq_true, decide_eq_true_eq]; exact hcov) (by rw [y4]; exact hct) (by rw [y4]; exact X.ts _ hlink) (ow_fw_on X.given hcast args) hx1 hx2 hx3 ?_ T' rfl Xs
    · have hm := List.mem_map_of_mem (f := fun h : ExceptionTableEntry => (h.startPc, h.endPc, h.handlerPc, h.catchType)) hz
      rw [e2] at hm
      obtain ⟨w1, ky, w2, w3, w4⟩ := hpass _ hm
      exact Or.inr ⟨w1, ow_exn ky, X.ts _ w4, X.given.2.2.2.2.2.2.2 kx hk3 ky w2 w3⟩
    · rw [y3]
      have hvL : ow_okL u'.1 (L.set i none) ∧ ow_okS u'.1 [] := ⟨(hv.1.up hle).set (fun c hc => by cases hc), fun c hc => nomatch hc⟩
      rcases hst with ⟨hdg, rfl⟩ | ⟨j, hdg, rfl, rfl⟩
      · exact lv_astore X.exec X.bytes hdg hL.has hi rfl (fun ls' h' => hq p e R s m args below meth c n0 b0 ad0 sb ids D A T'.heap locs' cells' slots' ad' ls' X P (hL.storeX h') hvL)
      · exact lv_astore_n X.exec X.bytes hdg rfl hL.has hi rfl (fun ls' h' => hq p e R s m args below meth c n0 b0 ad0 sb ids D A T'.heap locs' cells' slots' ad' ls' X P (hL.storeX h') hvL)
end OwTry
section OwTry2
variable {l : Launch} {Y Y' : ow_Y} {sc : Option (Nat × (Nat → Int32))} {d d' : Nat × Nat} {Q : ow_R → ow_M → Prop} {pc : Nat} {L : List (Option Value)} {S : List Value} {u : ow_M}
theorem aw_callVT {index a ci : Nat} {C : String} {T0 : u_T} {vs : List Value} {st : List Value} (hdg : decode Y.2.1 pc = .ok (.invokevirtual index, 3)) (hL : ow_LV Y.1.cls index Y' C) (hC : ow_Cd Y' vs.length) (ha : a < u.1) (hk : ow_kd a = (0, ci)) (hci : ow_cl[ci]? = some (C, T0, ow_nf ci)) (hst : vs.reverse ++ .ref a :: S = st) (hd : d'.1 + 1 ≤ d.1 ∧ (S.map fun v => v.category).sum + (Y'.2.2.1 + 11 + d'.2) ≤ d.2)
    (kk : MT l Y' d' (.ref a :: vs) u (ow_nextT l Y sc d Q pc L S)) : AW l Y sc d Q pc L st u := by
  subst hst
  intro p e R s m args below meth c n0 b0 ad0 sb ids D A H locs cells slots ad ls X P h hv
  intro T hT Xs
  subst hT
  have hvs : ow_okS u.1 (.ref a :: vs) := fun c hc => by
    rcases List.mem_cons.mp hc with h1 | h1
    · cases h1; exact ha
    · exact hv.2 c (List.mem_append_left _ (List.mem_reverse.mpr h1))
  have hS : ow_okS u.1 S := fun c hc => hv.2 c (List.mem_append_right _ (List.mem_cons_of_mem _ hc))
  obtain ⟨c1, c2, c4, c5⟩ := hC
  obtain ⟨l1, l2, l3⟩ := hL
  obtain ⟨mk, methM, hnamed, hmethM, hstM, habM⟩ := Cond.instanceMethod_spec (X.ts _ l2)
  obtain ⟨methM', cM, hmethM', -, -, -, -, -, -, hsigM⟩ := ow_code_spec hnamed (X.ts _ c1)
  cases hmethM.symm.trans hmethM'
  obtain ⟨k2, r2, m2, q1, q2, q3, q4, kP, hkP, hkPi⟩ := Cond.selects_spec (X.ts _ l3)
  have he := ow_at (ids := ids) (ad := ad) ha
  rw [ow_E_0 hk] at he
  obtain ⟨cellB, hcell, hobj, hcls⟩ := va_recv X.K P.1 hci he
  cases hcls.symm.trans q1
  cases (State.methodFound?_of_named hnamed c4).symm.trans q2
  cases hnamed.symm.trans q3
  have hselP : selectMethod e.platform s.vm cellB.cls mk = .method mk := by rw [Launch.admits_selectMethod Xs.admits]; exact q4
  have hstack : (F0 m pc ls ((vs.reverse ++ .ref a :: S).map (ow_cv sb ad))).stack = (vs.map (ow_cv sb ad)).reverse ++ .ref (ad a) :: S.map (ow_cv sb ad) := by
    show (vs.reverse ++ .ref a :: S).map (ow_cv sb ad) = _
    rw [List.map_append, List.map_reverse]; rfl
  obtain ⟨vm₁, X₁, hstep₁⟩ := Xs.invokevirtual X.exec X.own (X.ts _ l1) hnamed hmethM hstM hkP hkPi c4 (a := ad a) (cell := cellB) hcell
    (fun z h => by rw [h] at hobj; cases hobj) hselP hmethM habM hkP hkPi (g := F0 m pc ls ((vs.reverse ++ .ref a :: S).map (ow_cv sb ad))) rfl (argsL := vs.map (ow_cv sb ad)) (rest := S.map (ow_cv sb ad)) (by rw [List.length_map]; exact ow_len_of c5 hsigM) hstack (by rw [X.bytes]; exact hdg)
  obtain ⟨o, T', locs', cells', slots', ad', u', Xs', P', hle, had, hQ, hsteps⟩ := ow_enter (e := e) (U := T.setVm vm₁) (g := F0 m pc ls (S.map (ow_cv sb ad))) (ig := .invokevirtual index) (mk := mk) kk X P hvs X₁ rfl (by rw [X.maxL]; exact h.1.1) (by rw [X.bytes]; exact hdg) ⟨hd.1, by have := ow_weigh (m := m) (pc := pc) (sb := sb) (ls := ls) (ad := ad) hd.2; omega⟩ (X₁.named hnamed) c1 c2
  obtain ⟨t, a1, b1⟩ := ow_behindT (e := e) (below := below) (m := m) X h ⟨hv.1, hS⟩ Xs' P' hle had hQ
  exact ⟨t, hstep₁ _ fun acts => by rw [doInvoke_state]; exact hsteps.trans a1, b1⟩
end OwTry2
end
section
/-! arrays of arrays, copies of arrays -/
def ow_cp (f : Nat → Nat → Int32) (a0 a N : Nat) : Nat → Nat → Int32 := fun x => if x = a then va_cpy (f a0) (f a) 0 0 N else f x
theorem ow_cp_ne {f : Nat → Nat → Int32} {a0 a N x : Nat} (h : x ≠ a) : ow_cp f a0 a N x = f x := by simp [ow_cp, h]
theorem ow_cp_eq {f : Nat → Nat → Int32} {a0 a N : Nat} : ow_cp f a0 a N a = va_cpy (f a0) (f a) 0 0 N := by simp [ow_cp]
/-- the references of a new array of N rows -/
def ow_um (f : Nat → Nat → Option Nat) (c N : Nat) : Nat → Nat → Option Nat := fun x j => if x = c then (if j < N then some (c + 1 + j) else none) else f x j
def ow_am (ad : Nat → Nat) (c N q : Nat) (r : Nat → Nat) : Nat → Nat := fun x => if x = c then q else if c < x ∧ x < c + 1 + N then r (x - (c + 1)) else ad x
section OwArr
variable {l : Launch} {Y : ow_Y} {sc : Option (Nat × (Nat → Int32))} {d : Nat × Nat} {Q : ow_R → ow_M → Prop} {pc : Nat} {L : List (Option Value)} {S : List Value} {u : ow_M}
theorem aw_copy {index a a0 n n0' N : Nat} (h1 : Cond.methodLink Y.1.cls index arraycopyName ∈ ow_ws) (h2 : Cond.native arraycopyName ∈ ow_ws) (h3 : Cond.static arraycopyName ∈ ow_ws) (h4 : Cond.initialized "java/lang/System" ∈ ow_ws) (hdg : decode Y.2.1 pc = .ok (.invokestatic index, 3))
    (ha : a < u.1) (ha0 : a0 < u.1) (hk : ow_kd a = (1, n)) (hk0 : ow_kd a0 = (1, n0')) (hN : N ≤ n) (hN0 : N ≤ n0') (hlt : N < 2 ^ 31) (hd : 1 ≤ d.1 ∧ (S.map fun v => v.category).sum + (nativeFrameWords "java/lang/System" "arraycopy" 5 + 11) ≤ d.2)
    (kk : AW l Y sc d Q (pc + 3) L S (u.1, u.2.1, ow_cp u.2.2.1 a0 a N, u.2.2.2.1, u.2.2.2.2)) : AW l Y sc d Q pc L (.int (nI N) :: .int 0 :: .ref a :: .int 0 :: .ref a0 :: S) u := by
  intro p e R s m args below meth c n0 b0 ad0 sb ids D A H locs cells slots ad ls X P h hv
  obtain ⟨rf, rl, rc, rs⟩ := X.room
  have he := ow_at (ids := ids) (ad := ad) ha
  rw [ow_E_1 hk] at he
  have he0 := ow_at (ids := ids) (ad := ad) ha0
  rw [ow_E_1 hk0] at he0
  have hz : (0 : Int32).toNatClampNeg = 0 := rfl
  have hc : (nI N).toNatClampNeg = N := nI_clamp hlt
  have hwt := ow_weigh (m := m) (pc := pc) (sb := sb) (ls := ls) (ad := ad) hd.2
  refine va_copyi (ty := .int) X.exec X.bytes (by rw [X.maxL]; exact h.1.1.symm) X.own (X.ts _ h1) (X.ts _ h2) (X.ts _ h3) (X.ts _ h4) X.K P.1 P.2.1 P.2.2.1 a0 a 0 0 he0 he rfl rfl rfl (by decide) (by decide) (nI_pos hlt) (by rw [hz, hc]; omega) (by rw [hz, hc]; omega) (fun i _ => rfl) (by omega) (Nat.le_trans (Nat.le_trans (Nat.le_of_eq (by show _ = 2 * 0 + _ + _; rw [Nat.mul_zero, Nat.zero_add])) hwt) rl) hdg (fun H1 locs1 hP hD hS => ?_)
  rw [hz, hc] at hP hD
  have ew : (ow_W ids ad u).set a (ad a, .inl (ids 0, n, .inl (va_cpy (u.2.2.1 a0) (u.2.2.1 a) 0 0 N))) = ow_W ids ad (u.1, u.2.1, ow_cp u.2.2.1 a0 a N, u.2.2.2.1, u.2.2.2.2) := by
    rw [← ow_set (ids := ids) (ad := ad) (u := u) (u' := (u.1, u.2.1, ow_cp u.2.2.1 a0 a N, u.2.2.2.1, u.2.2.2.2)) (c := a) rfl ha (fun b hb => ow_E_congr rfl (ow_cp_ne hb) rfl), ow_E_1 hk]
    simp only [ow_cp_eq]
  rw [ew] at hP hD
  have hw : ow_wf (u.1, u.2.1, ow_cp u.2.2.1 a0 a N, u.2.2.2.1, u.2.2.2.2) :=
    ⟨P.wf.1, fun c hc => ⟨(P.wf.2 c hc).1, fun j => by show ow_cp u.2.2.1 a0 a N c j = 0; rw [ow_cp_ne (by have : u.1 ≤ c := hc; omega)]; exact (P.wf.2 c hc).2.1 j, (P.wf.2 c hc).2.2⟩⟩
  exact kk _ _ _ _ _ _ _ _ _ _ _ _ _ _ _ _ _ _ _ _ _ _ X (P.moved rfl rfl hP hD hS hw) h ⟨hv.1, hv.2.t.t.t.t.t⟩
theorem ow_W_rows {ids : Nat → ClassId} {ad : Nat → Nat} {N K q b : Nat} {r : Nat → Nat} (hw : ow_wf u) (hk : ow_kd u.1 = (4, N)) (hr : ∀ i, i < N → ow_kd (u.1 + 1 + i) = (1, K)) (f : Nat → va_E) (hrr : ∀ i j : Nat, i < N → j < N → r i = r j → i = j) :
    (ow_W ids ad u ++ [(q, .inl (ids 3, N, .inr (.inr (.inr (.inr (fun i => if i < N then some (r i) else none))))))]) ++ va_pl ([] ++ (List.range N).map r) (vr_up f ((List.range N).map r) (.inl (ids 0, K, .inl (fun _ => 0)))) =
      ow_W ids (ow_am ad u.1 N q r) (u.1 + 1 + N, ow_um u.2.1 u.1 N, u.2.2.1, u.2.2.2.1, b) := by
  apply List.ext_getElem?
  intro k
  by_cases h1 : k < u.1
  · rw [List.getElem?_append_left (by rw [List.length_append, ow_len]; omega), List.getElem?_append_left (by rw [ow_len]; exact h1), ow_at h1, ow_at (by show k < u.1 + 1 + N; omega)]
    have hne : k ≠ u.1 := by omega
    have e0 : ow_am ad u.1 N q r k = ad k := by simp [ow_am, hne, show ¬ (u.1 < k ∧ k < u.1 + 1 + N) by omega]
    rw [e0]
    have er : ∀ j, (ow_um u.2.1 u.1 N k j).map (ow_am ad u.1 N q r) = (u.2.1 k j).map ad := by
      intro j
      have e1 : ow_um u.2.1 u.1 N k j = u.2.1 k j := by simp [ow_um, hne]
      rw [e1]
      cases ht : u.2.1 k j with
      | none => rfl
      | some t =>
        have hlt : t < u.1 := hw.1 k j t ht
        simp [ow_am, show t ≠ u.1 by omega, show ¬ (u.1 < t ∧ t < u.1 + 1 + N) by omega]
    have es : ∀ ci, ow_sv (ow_am ad u.1 N q r) (u.1 + 1 + N, ow_um u.2.1 u.1 N, u.2.2.1, u.2.2.2.1, b) k ci = ow_sv ad u k ci := by
      intro ci
      funext j
      simp only [ow_sv, er]
    have ef : (fun j => (ow_um u.2.1 u.1 N k j).map (ow_am ad u.1 N q r)) = fun j => (u.2.1 k j).map ad := funext er
    congr 2
    simp only [ow_E, es, ef]
  · by_cases h2 : k = u.1
    · subst h2
      rw [List.getElem?_append_left (by rw [List.length_append, ow_len]; simp), List.getElem?_append_right (by rw [ow_len]; exact Nat.le_refl _), ow_len, Nat.sub_self, List.getElem?_cons_zero, ow_at (by show u.1 < u.1 + 1 + N; omega), ow_E_4 hk]
      have e0 : ow_am ad u.1 N q r u.1 = q := by simp [ow_am]
      rw [e0]
      congr 9
      funext j
      show _ = Option.map (ow_am ad u.1 N q r) (ow_um u.2.1 u.1 N u.1 j)
      by_cases hj : j < N
      · simp [ow_um, ow_am, hj, show ¬ (u.1 + 1 + j = u.1) by omega, show u.1 < u.1 + 1 + j ∧ u.1 + 1 + j < u.1 + 1 + N by omega]
      · simp [ow_um, hj]
    · by_cases h3 : k < u.1 + 1 + N
      · obtain ⟨i, rfl⟩ : ∃ i, k = u.1 + 1 + i := ⟨k - (u.1 + 1), by omega⟩
        have hi : i < N := by omega
        rw [List.getElem?_append_right (by rw [List.length_append, ow_len]; simp), List.length_append, ow_len, ow_at (by show u.1 + 1 + i < u.1 + 1 + N; omega), ow_E_1 (hr i hi)]
        have e0 : ow_am ad u.1 N q r (u.1 + 1 + i) = r i := by
          simp [ow_am, show ¬ (u.1 + 1 + i = u.1) by omega, show u.1 < u.1 + 1 + i ∧ u.1 + 1 + i < u.1 + 1 + N by omega]
        have ez : u.2.2.1 (u.1 + 1 + i) = fun _ => 0 := funext ((hw.2 (u.1 + 1 + i) (by omega)).2.1)
        rw [e0]
        show _ = some (r i, Sum.inl (ids 0, K, Sum.inl (u.2.2.1 (u.1 + 1 + i))))
        rw [ez]
        have em : (u.1 + 1 + i) - (u.1 + [((q, Sum.inl (ids 3, N, Sum.inr (Sum.inr (Sum.inr (Sum.inr (fun i => if i < N then some (r i) else none)))))) : Nat × va_E)].length) = i := by simp
        rw [em]
        simp only [va_pl, List.nil_append, List.map_map]
        rw [List.getElem?_map, List.getElem?_range hi]
        show some (r i, vr_up f ((List.range N).map r) _ (r i)) = _
        rw [vr_up_in (List.mem_map.mpr ⟨i, List.mem_range.mpr hi, rfl⟩)]
      · rw [List.getElem?_eq_none (by simp [ow_len, va_pl]; omega), List.getElem?_eq_none (by rw [ow_len]; show u.1 + 1 + N ≤ k; omega)]
theorem aw_rows {index N K b k : Nat} (hcl : Cond.classLink Y.1.cls index "[[I" ∈ ow_ws) (harr : Cond.arrayClass .int ∈ ow_ws) (hdg : decode Y.2.1 pc = .ok (.multianewarray index 2, 4)) (hk : ow_kd u.1 = (4, N)) (hr : ∀ i, i < N → ow_kd (u.1 + 1 + i) = (1, K)) (hN : N ≤ 100) (hK : K ≤ 100)
    (hb : u.2.2.2.2 = b + k) (h1 : 1 + N ≤ 8 * k) (h2 : N + N * K ≤ 128 * k) (kk : AW l Y sc d Q (pc + 4) L (.ref u.1 :: S) (u.1 + 1 + N, ow_um u.2.1 u.1 N, u.2.2.1, u.2.2.2.1, b)) : AW l Y sc d Q pc L (.int (nI K) :: .int (nI N) :: S) u := by
  intro p e R s m args below meth c n0 b0 ad0 sb ids D A H locs cells slots ad ls X P h hv
  obtain ⟨rf, rl, rc, rs⟩ := X.room
  obtain ⟨p1, p2, p3, p4, p5, p6, p7, p8⟩ := P
  rw [hb] at p4 p5
  have hNK : N * K ≤ 100 * 100 := Nat.mul_le_mul hN hK
  have hf0 : ow_W ids ad u ++ va_pl [] (fun _ => .inr (0, [])) = ow_W ids ad u := by simp [va_pl]
  refine va_mna (X := ow_W ids ad u) (L := []) (f := fun _ => .inr (0, [])) (ty := .int) (cy := ids 0) (z := (K, .inl (fun _ => 0))) X.exec X.bytes X.own (X.ts _ hcl) X.given.2.2.2.1 (X.ts _ harr) ((X.K.2 0 (ids 0, .int) rfl).2) X.K (by rw [hf0]; exact p1) (by rw [hf0]; exact p2) p3 X.new (nI_pos (by omega)) (nI_pos (by omega)) (nI_clamp (by omega)) (nI_clamp (by omega)) (by omega) (by show K * 4 ≤ _; omega) (by omega) rfl rfl (by omega) (by omega) (fun c => ?_) hdg (fun q r cA H1 hrr _ hK1 hP hD hS => ?_)
  · show ({ cls := c, slots := Array.replicate K (.int 0), vm := .none } : Cell) = _
    rw [arrV_new]; rfl
  · have hcA : cA = ids 3 := by
      have g1 := (hK1.2 4 (cA, .array .int) rfl).2
      have g2 := (X.K.2 3 (ids 3, .array .int) rfl).2
      exact Option.some.inj (g1.symm.trans g2)
    subst hcA
    rw [ow_W_rows (b := b) p7 hk hr _ hrr] at hP hD
    have had : ∀ c, c < u.1 → ow_am ad u.1 N q r c = ad c := fun c hc => by simp [ow_am, show c ≠ u.1 by omega, show ¬ (u.1 < c ∧ c < u.1 + 1 + N) by omega]
    have hw' : ow_wf (u.1 + 1 + N, ow_um u.2.1 u.1 N, u.2.2.1, u.2.2.2.1, b) := by
      refine ⟨fun c j t ht => ?_, fun c hc => ⟨fun j => ?_, (p7.2 c (by have : u.1 + 1 + N ≤ c := hc; omega)).2⟩⟩
      · by_cases hcu : c = u.1
        · subst hcu
          by_cases hj : j < N
          · have : some (u.1 + 1 + j) = some t := by simpa [ow_um, hj] using ht
            cases this
            show u.1 + 1 + j < u.1 + 1 + N
            omega
          · simp [ow_um, hj] at ht
        · have : u.2.1 c j = some t := by simpa [ow_um, hcu] using ht
          have := p7.1 c j t this
          show t < u.1 + 1 + N
          omega
      · have hc' : u.1 + 1 + N ≤ c := hc
        show ow_um u.2.1 u.1 N c j = none
        simp [ow_um, show c ≠ u.1 by omega, (p7.2 c (by omega)).1 j]
    have hw2 := kk p e R s m args below meth c n0 b0 ad0 sb ids D A H1 locs (cells + 1 + N) (slots + N + N * K) (ow_am ad u.1 N q r) ls X ⟨hP, hD, hS, by show cells + 1 + N + 8 * b ≤ _; omega, by show slots + N + N * K + 128 * b ≤ _; omega, by show n0 ≤ u.1 + 1 + N; omega, hw', fun c hc => (had c (by omega)).trans (p8 c hc)⟩
      (h.re (n := u.1) had hv.1) ⟨hv.1.up (by show u.1 ≤ u.1 + 1 + N; omega), (hv.2.t.t.up (by show u.1 ≤ u.1 + 1 + N; omega)).r (by show u.1 < u.1 + 1 + N; omega)⟩
    rw [List.map_cons, ow_cv_map (n := u.1) had hv.2.t.t] at hw2
    have e1 : ow_cv sb (ow_am ad u.1 N q r) (.ref u.1) = .ref q := by show Value.ref (ow_am ad u.1 N q r u.1) = _; simp [ow_am]
    rw [e1] at hw2
    exact hw2
end OwArr
end
section
/-! the methods; what each entry of the class files names (by gen/words.py) -/
abbrev Y_R_init : ow_Y := (⟨"OwnerRings", "<init>", "()V"⟩, prog_1_method_1_code, 1, none, [])
abbrev Y_P_init : ow_Y := (⟨"OwnerRings$Plan", "<init>", "()V"⟩, prog_3_method_1_code, 1, none, [])
abbrev Y_B_init : ow_Y := (⟨"OwnerRings$Base", "<init>", "()V"⟩, prog_2_method_1_code, 3, none, [])
abbrev Y_S_init : ow_Y := (⟨"OwnerRings$Stand", "<init>", "()V"⟩, prog_4_method_1_code, 1, none, [])
abbrev Y_S_clear : ow_Y := (⟨"OwnerRings$Stand", "clear", "()V"⟩, prog_4_method_2_code, 2, none, [])
abbrev Y_R_keep : ow_Y := (⟨"OwnerRings", "keep", "()I"⟩, prog_1_method_18_code, 1, some .int, [])
abbrev Y_B_copyFrom : ow_Y := (⟨"OwnerRings$Base", "copyFrom", "(LOwnerRings$Base;)V"⟩, prog_2_method_2_code, 3, none, [])
abbrev Y_R_rollBack : ow_Y := (⟨"OwnerRings", "rollBack", "()I"⟩, prog_1_method_19_code, 1, some .int, [])
abbrev Y_R_count : ow_Y := (⟨"OwnerRings", "count", "()I"⟩, prog_1_method_20_code, 1, some .int, [])
abbrev Y_L_type : ow_Y := (⟨"OwnerRingsLaw", "type", "(LOwnerRings;I[J)I"⟩, method_3_code, 4, some .int, [(0, 9, 12, 13), (0, 9, 15, 15)])
abbrev Y_R_type : ow_Y := (⟨"OwnerRings", "type", "(I)I"⟩, prog_1_method_2_code, 2, some .int, [])
abbrev Y_P_addType : ow_Y := (⟨"OwnerRings$Plan", "addType", "(I)I"⟩, prog_3_method_6_code, 2, some .int, [])
abbrev Y_L_set : ow_Y := (⟨"OwnerRingsLaw", "set", "(LOwnerRings;IIII[J)I"⟩, method_4_code, 7, some .int, [(0, 14, 17, 13), (0, 14, 21, 15)])
abbrev Y_R_set : ow_Y := (⟨"OwnerRings", "set", "(IIII)I"⟩, prog_1_method_3_code, 5, some .int, [])
abbrev Y_P_hasType : ow_Y := (⟨"OwnerRings$Plan", "hasType", "(I)Z"⟩, prog_3_method_2_code, 2, some .boolean, [])
abbrev Y_P_isOrder : ow_Y := (⟨"OwnerRings$Plan", "isOrder", "(II)Z"⟩, prog_3_method_5_code, 3, some .boolean, [])
abbrev Y_P_hasField : ow_Y := (⟨"OwnerRings$Plan", "hasField", "(II)Z"⟩, prog_3_method_4_code, 3, some .boolean, [])
abbrev Y_P_addSet : ow_Y := (⟨"OwnerRings$Plan", "addSet", "(IIII)I"⟩, prog_3_method_7_code, 5, some .int, [])
abbrev Y_L_store : ow_Y := (⟨"OwnerRingsLaw", "store", "(LOwnerRings;IIII[J)I"⟩, method_5_code, 7, some .int, [(0, 14, 17, 13), (0, 14, 21, 24), (0, 14, 25, 15)])
abbrev Y_R_store : ow_Y := (⟨"OwnerRings", "store", "(IIII)I"⟩, prog_1_method_4_code, 7, some .int, [])
abbrev Y_R_requireOwnersToJoin : ow_Y := (⟨"OwnerRings", "requireOwnersToJoin", "(I)V"⟩, prog_1_method_26_code, 3, none, [])
abbrev Y_P_joinsWhenStored : ow_Y := (⟨"OwnerRings$Plan", "joinsWhenStored", "(II)Z"⟩, prog_3_method_8_code, 3, some .boolean, [])
abbrev Y_R_requireCurrentOwner : ow_Y := (⟨"OwnerRings", "requireCurrentOwner", "(I)I"⟩, prog_1_method_25_code, 3, some .int, [])
abbrev Y_R_currentOwner : ow_Y := (⟨"OwnerRings", "currentOwner", "(I)I"⟩, prog_1_method_31_code, 3, some .int, [])
abbrev Y_B_freePlace : ow_Y := (⟨"OwnerRings$Base", "freePlace", "()I"⟩, prog_2_method_3_code, 2, some .int, [])
abbrev Y_B_writeFields : ow_Y := (⟨"OwnerRings$Base", "writeFields", "(IIII)V"⟩, prog_2_method_6_code, 5, none, [])
abbrev Y_R_requireNoRefusalToJoin : ow_Y := (⟨"OwnerRings", "requireNoRefusalToJoin", "(II)V"⟩, prog_1_method_27_code, 4, none, [])
abbrev Y_R_requireNoRefusal : ow_Y := (⟨"OwnerRings", "requireNoRefusal", "(III)V"⟩, prog_1_method_28_code, 4, none, [])
abbrev Y_P_isSorted : ow_Y := (⟨"OwnerRings$Plan", "isSorted", "(I)Z"⟩, prog_3_method_11_code, 2, some .boolean, [])
abbrev Y_P_sortField : ow_Y := (⟨"OwnerRings$Plan", "sortField", "(I)I"⟩, prog_3_method_12_code, 2, some .int, [])
abbrev Y_R_requireNoEqual : ow_Y := (⟨"OwnerRings", "requireNoEqual", "(IIII)V"⟩, prog_1_method_30_code, 5, none, [])
abbrev Y_B_hasOtherWithValue : ow_Y := (⟨"OwnerRings$Base", "hasOtherWithValue", "(IIIII)Z"⟩, prog_2_method_14_code, 7, some .boolean, [])
abbrev Y_B_addRecord : ow_Y := (⟨"OwnerRings$Base", "addRecord", "(II)V"⟩, prog_2_method_7_code, 3, none, [])
abbrev Y_R_join : ow_Y := (⟨"OwnerRings", "join", "(III)V"⟩, prog_1_method_35_code, 4, none, [])
abbrev Y_R_positionByOrder : ow_Y := (⟨"OwnerRings", "positionByOrder", "(III)I"⟩, prog_1_method_36_code, 7, some .int, [])
abbrev Y_B_ringSize : ow_Y := (⟨"OwnerRings$Base", "ringSize", "(II)I"⟩, prog_2_method_11_code, 5, some .int, [])
abbrev Y_R_positionByValue : ow_Y := (⟨"OwnerRings", "positionByValue", "(III)I"⟩, prog_1_method_37_code, 9, some .int, [])
abbrev Y_B_putIn : ow_Y := (⟨"OwnerRings$Base", "putIn", "(IIII)V"⟩, prog_2_method_16_code, 5, none, [])
abbrev Y_B_shiftRing : ow_Y := (⟨"OwnerRings$Base", "shiftRing", "(IIII)V"⟩, prog_2_method_18_code, 6, none, [])
abbrev Y_R_comeTo : ow_Y := (⟨"OwnerRings", "comeTo", "(II)V"⟩, prog_1_method_33_code, 6, none, [])
abbrev Y_B_isMember : ow_Y := (⟨"OwnerRings$Base", "isMember", "(II)Z"⟩, prog_2_method_10_code, 3, some .boolean, [])
abbrev Y_R_hasBit : ow_Y := (⟨"OwnerRings", "hasBit", "(II)Z"⟩, prog_1_method_45_code, 2, some .boolean, [])
abbrev Y_L_find : ow_Y := (⟨"OwnerRingsLaw", "find", "(LOwnerRings;II)I"⟩, method_6_code, 4, some .int, [(0, 6, 9, 24)])
abbrev Y_R_find : ow_Y := (⟨"OwnerRings", "find", "(II)V"⟩, prog_1_method_5_code, 3, none, [])
abbrev Y_R_requireRecord : ow_Y := (⟨"OwnerRings", "requireRecord", "(I)I"⟩, prog_1_method_23_code, 3, some .int, [])
abbrev Y_B_placeOf : ow_Y := (⟨"OwnerRings$Base", "placeOf", "(I)I"⟩, prog_2_method_4_code, 3, some .int, [])
abbrev Y_L_seek : ow_Y := (⟨"OwnerRingsLaw", "seek", "(LOwnerRings;III[J)I"⟩, method_7_code, 6, some .int, [(0, 12, 15, 13), (0, 12, 19, 24)])
abbrev Y_R_seek : ow_Y := (⟨"OwnerRings", "seek", "(III)I"⟩, prog_1_method_6_code, 4, some .int, [])
abbrev Y_B_lowestKeyed : ow_Y := (⟨"OwnerRings$Base", "lowestKeyed", "(III)I"⟩, prog_2_method_9_code, 7, some .int, [])
abbrev Y_R_comeToExisting : ow_Y := (⟨"OwnerRings", "comeToExisting", "(I)I"⟩, prog_1_method_32_code, 2, some .int, [])
abbrev Y_L_move : ow_Y := (⟨"OwnerRingsLaw", "move", "(LOwnerRings;II[J)I"⟩, method_8_code, 5, some .int, [(0, 10, 13, 13), (0, 10, 17, 24)])
abbrev Y_R_move : ow_Y := (⟨"OwnerRings", "move", "(II)I"⟩, prog_1_method_7_code, 3, some .int, [])
abbrev Y_R_requireSet : ow_Y := (⟨"OwnerRings", "requireSet", "(I)V"⟩, prog_1_method_21_code, 2, none, [])
abbrev Y_P_hasSet : ow_Y := (⟨"OwnerRings$Plan", "hasSet", "(I)Z"⟩, prog_3_method_3_code, 2, some .boolean, [])
abbrev Y_R_placeToMoveTo : ow_Y := (⟨"OwnerRings", "placeToMoveTo", "(II)I"⟩, prog_1_method_34_code, 7, some .int, [])
abbrev Y_B_memberAt : ow_Y := (⟨"OwnerRings$Base", "memberAt", "(III)I"⟩, prog_2_method_12_code, 5, some .int, [])
abbrev Y_L_scan : ow_Y := (⟨"OwnerRingsLaw", "scan", "(LOwnerRings;III[J)I"⟩, method_9_code, 6, some .int, [(0, 12, 15, 13), (0, 12, 19, 24)])
abbrev Y_R_scan : ow_Y := (⟨"OwnerRings", "scan", "(III)I"⟩, prog_1_method_8_code, 6, some .int, [])
abbrev Y_B_memberWithValue : ow_Y := (⟨"OwnerRings$Base", "memberWithValue", "(IIIII)I"⟩, prog_2_method_13_code, 9, some .int, [])
abbrev Y_L_current : ow_Y := (⟨"OwnerRingsLaw", "current", "(LOwnerRings;II[J)I"⟩, method_10_code, 5, some .int, [(0, 10, 13, 13)])
abbrev Y_R_current : ow_Y := (⟨"OwnerRings", "current", "(II)I"⟩, prog_1_method_9_code, 3, some .int, [])
abbrev Y_B_keyAt : ow_Y := (⟨"OwnerRings$Base", "keyAt", "(I)I"⟩, prog_2_method_5_code, 2, some .int, [])
abbrev Y_L_get : ow_Y := (⟨"OwnerRingsLaw", "get", "(LOwnerRings;I[J)I"⟩, method_11_code, 4, some .int, [(0, 9, 12, 24), (0, 9, 15, 13)])
abbrev Y_R_get : ow_Y := (⟨"OwnerRings", "get", "(I)I"⟩, prog_1_method_10_code, 3, some .int, [])
abbrev Y_R_requireRunRecord : ow_Y := (⟨"OwnerRings", "requireRunRecord", "()I"⟩, prog_1_method_24_code, 1, some .int, [])
abbrev Y_R_requireFieldOf : ow_Y := (⟨"OwnerRings", "requireFieldOf", "(II)V"⟩, prog_1_method_22_code, 3, none, [])
abbrev Y_L_modify : ow_Y := (⟨"OwnerRingsLaw", "modify", "(LOwnerRings;II)I"⟩, method_12_code, 4, some .int, [(0, 6, 9, 24), (0, 6, 12, 13), (0, 6, 15, 15)])
abbrev Y_R_modify : ow_Y := (⟨"OwnerRings", "modify", "(II)V"⟩, prog_1_method_11_code, 4, none, [])
abbrev Y_R_requireNoRefusalToSort : ow_Y := (⟨"OwnerRings", "requireNoRefusalToSort", "(III)V"⟩, prog_1_method_29_code, 5, none, [])
abbrev Y_P_isSortedBy : ow_Y := (⟨"OwnerRings$Plan", "isSortedBy", "(II)Z"⟩, prog_3_method_13_code, 3, some .boolean, [])
abbrev Y_R_sortAgain : ow_Y := (⟨"OwnerRings", "sortAgain", "(II)V"⟩, prog_1_method_38_code, 5, none, [])
abbrev Y_B_takeOut : ow_Y := (⟨"OwnerRings$Base", "takeOut", "(II)V"⟩, prog_2_method_17_code, 5, none, [])
abbrev Y_L_connect : ow_Y := (⟨"OwnerRingsLaw", "connect", "(LOwnerRings;I)I"⟩, method_13_code, 3, some .int, [(0, 5, 8, 13), (0, 5, 11, 24), (0, 5, 14, 15)])
abbrev Y_R_connect : ow_Y := (⟨"OwnerRings", "connect", "(I)V"⟩, prog_1_method_12_code, 4, none, [])
abbrev Y_L_disconnect : ow_Y := (⟨"OwnerRingsLaw", "disconnect", "(LOwnerRings;I)I"⟩, method_14_code, 3, some .int, [(0, 5, 8, 13), (0, 5, 11, 24), (0, 5, 14, 15)])
abbrev Y_R_disconnect : ow_Y := (⟨"OwnerRings", "disconnect", "(I)V"⟩, prog_1_method_13_code, 3, none, [])
abbrev Y_P_hold : ow_Y := (⟨"OwnerRings$Plan", "hold", "(I)I"⟩, prog_3_method_9_code, 2, some .int, [])
abbrev Y_R_stepBack : ow_Y := (⟨"OwnerRings", "stepBack", "(II)V"⟩, prog_1_method_43_code, 5, none, [])
abbrev Y_L_reconnect : ow_Y := (⟨"OwnerRingsLaw", "reconnect", "(LOwnerRings;I)I"⟩, method_15_code, 3, some .int, [(0, 5, 8, 13), (0, 5, 11, 24), (0, 5, 14, 15)])
abbrev Y_R_reconnect : ow_Y := (⟨"OwnerRings", "reconnect", "(I)V"⟩, prog_1_method_14_code, 4, none, [])
abbrev Y_L_erase : ow_Y := (⟨"OwnerRingsLaw", "erase", "(LOwnerRings;I[J)I"⟩, method_16_code, 4, some .int, [(0, 9, 12, 13), (0, 9, 15, 24), (0, 9, 18, 15)])
abbrev Y_R_erase : ow_Y := (⟨"OwnerRings", "erase", "(I)I"⟩, prog_1_method_15_code, 4, some .int, [])
abbrev Y_R_allThatGo : ow_Y := (⟨"OwnerRings", "allThatGo", "(II)I"⟩, prog_1_method_39_code, 7, some .int, [])
abbrev Y_P_goesWithOwner : ow_Y := (⟨"OwnerRings$Plan", "goesWithOwner", "(II)Z"⟩, prog_3_method_10_code, 3, some .boolean, [])
abbrev Y_B_membersOwnedBy : ow_Y := (⟨"OwnerRings$Base", "membersOwnedBy", "(II)I"⟩, prog_2_method_15_code, 5, some .int, [])
abbrev Y_R_ownsMembers : ow_Y := (⟨"OwnerRings", "ownsMembers", "(I)Z"⟩, prog_1_method_40_code, 3, some .boolean, [])
abbrev Y_R_boundOneWouldStay : ow_Y := (⟨"OwnerRings", "boundOneWouldStay", "(I)Z"⟩, prog_1_method_41_code, 3, some .boolean, [])
abbrev Y_R_standWithout : ow_Y := (⟨"OwnerRings", "standWithout", "(I)V"⟩, prog_1_method_42_code, 3, none, [])
abbrev Y_R_removeAll : ow_Y := (⟨"OwnerRings", "removeAll", "(I)V"⟩, prog_1_method_44_code, 5, none, [])
abbrev Y_B_dropRecord : ow_Y := (⟨"OwnerRings$Base", "dropRecord", "(I)V"⟩, prog_2_method_8_code, 2, none, [])
abbrev Y_I_bitCount : ow_Y := (⟨"java/lang/Integer", "bitCount", "(I)I"⟩, prog_10_method_49_code, 1, some .int, [])
abbrev Y_L_members : ow_Y := (⟨"OwnerRingsLaw", "members", "(LOwnerRings;I[J)I"⟩, method_17_code, 4, some .int, [(0, 9, 12, 13), (0, 9, 15, 24)])
abbrev Y_R_members : ow_Y := (⟨"OwnerRings", "members", "(I)I"⟩, prog_1_method_16_code, 2, some .int, [])
abbrev Y_L_owner : ow_Y := (⟨"OwnerRingsLaw", "owner", "(LOwnerRings;II[J)I"⟩, method_18_code, 5, some .int, [(0, 10, 13, 13), (0, 10, 17, 24)])
abbrev Y_R_owner : ow_Y := (⟨"OwnerRings", "owner", "(II)I"⟩, prog_1_method_17_code, 3, some .int, [])
abbrev Y_M_init : ow_Y := (⟨"OwnerRingsModel", "<init>", "()V"⟩, prog_6_method_1_code, 2, none, [])
abbrev Y_M_forget : ow_Y := (⟨"OwnerRingsModel", "forget", "()V"⟩, prog_6_method_2_code, 2, none, [])
abbrev Y_M_thrown : ow_Y := (⟨"OwnerRingsModel", "thrown", "()I"⟩, prog_6_method_3_code, 1, some .int, [])
abbrev Y_M_type : ow_Y := (⟨"OwnerRingsModel", "type", "(I)I"⟩, prog_6_method_6_code, 2, some .int, [])
abbrev Y_M_set : ow_Y := (⟨"OwnerRingsModel", "set", "(IIII)I"⟩, prog_6_method_8_code, 6, some .int, [])
abbrev Y_M_isType : ow_Y := (⟨"OwnerRingsModel", "isType", "(I)Z"⟩, prog_6_method_4_code, 2, some .boolean, [])
abbrev Y_M_isOrder : ow_Y := (⟨"OwnerRingsModel", "isOrder", "(II)Z"⟩, prog_6_method_7_code, 3, some .boolean, [])
abbrev Y_M_store : ow_Y := (⟨"OwnerRingsModel", "store", "(IIII)I"⟩, prog_6_method_22_code, 12, some .int, [])
abbrev Y_M_objection : ow_Y := (⟨"OwnerRingsModel", "objection", "(II)I"⟩, prog_6_method_21_code, 7, some .int, [])
abbrev Y_M_currentOwner : ow_Y := (⟨"OwnerRingsModel", "currentOwner", "(I)I"⟩, prog_6_method_11_code, 3, some .int, [])
abbrev Y_M_isRefused : ow_Y := (⟨"OwnerRingsModel", "isRefused", "(IIII)Z"⟩, prog_6_method_17_code, 7, some .boolean, [])
abbrev Y_M_join : ow_Y := (⟨"OwnerRingsModel", "join", "(III)V"⟩, prog_6_method_19_code, 6, none, [])
abbrev Y_M_placeFor : ow_Y := (⟨"OwnerRingsModel", "placeFor", "(III)I"⟩, prog_6_method_18_code, 11, some .int, [])
abbrev Y_M_placeOf : ow_Y := (⟨"OwnerRingsModel", "placeOf", "(II)I"⟩, prog_6_method_13_code, 5, some .int, [])
abbrev Y_M_firstOf : ow_Y := (⟨"OwnerRingsModel", "firstOf", "(II)I"⟩, prog_6_method_15_code, 3, some .int, [])
abbrev Y_M_nextIn : ow_Y := (⟨"OwnerRingsModel", "nextIn", "(IIII)I"⟩, prog_6_method_14_code, 6, some .int, [])
abbrev Y_M_come : ow_Y := (⟨"OwnerRingsModel", "come", "(II)V"⟩, prog_6_method_12_code, 5, none, [])
abbrev Y_M_find : ow_Y := (⟨"OwnerRingsModel", "find", "(II)V"⟩, prog_6_method_23_code, 3, none, [])
abbrev Y_M_recordWith : ow_Y := (⟨"OwnerRingsModel", "recordWith", "(I)I"⟩, prog_6_method_9_code, 4, some .int, [])
abbrev Y_M_seek : ow_Y := (⟨"OwnerRingsModel", "seek", "(III)I"⟩, prog_6_method_25_code, 7, some .int, [])
abbrev Y_M_comeTo : ow_Y := (⟨"OwnerRingsModel", "comeTo", "(II)I"⟩, prog_6_method_24_code, 3, some .int, [])
abbrev Y_M_move : ow_Y := (⟨"OwnerRingsModel", "move", "(II)I"⟩, prog_6_method_27_code, 5, some .int, [])
abbrev Y_M_isSet : ow_Y := (⟨"OwnerRingsModel", "isSet", "(I)Z"⟩, prog_6_method_5_code, 2, some .boolean, [])
abbrev Y_M_lastOf : ow_Y := (⟨"OwnerRingsModel", "lastOf", "(II)I"⟩, prog_6_method_16_code, 3, some .int, [])
abbrev Y_M_beside : ow_Y := (⟨"OwnerRingsModel", "beside", "(II)I"⟩, prog_6_method_26_code, 5, some .int, [])
abbrev Y_M_scan : ow_Y := (⟨"OwnerRingsModel", "scan", "(III)I"⟩, prog_6_method_28_code, 6, some .int, [])
abbrev Y_M_current : ow_Y := (⟨"OwnerRingsModel", "current", "(II)I"⟩, prog_6_method_29_code, 5, some .int, [])
abbrev Y_M_get : ow_Y := (⟨"OwnerRingsModel", "get", "(I)I"⟩, prog_6_method_30_code, 2, some .int, [])
abbrev Y_M_modify : ow_Y := (⟨"OwnerRingsModel", "modify", "(II)V"⟩, prog_6_method_32_code, 7, none, [])
abbrev Y_M_isSortedBy : ow_Y := (⟨"OwnerRingsModel", "isSortedBy", "(II)Z"⟩, prog_6_method_31_code, 3, some .boolean, [])
abbrev Y_M_leave : ow_Y := (⟨"OwnerRingsModel", "leave", "(II)V"⟩, prog_6_method_20_code, 5, none, [])
abbrev Y_M_connect : ow_Y := (⟨"OwnerRingsModel", "connect", "(I)V"⟩, prog_6_method_34_code, 3, none, [])
abbrev Y_M_valueIn : ow_Y := (⟨"OwnerRingsModel", "valueIn", "(II)I"⟩, prog_6_method_33_code, 3, some .int, [])
abbrev Y_M_disconnect : ow_Y := (⟨"OwnerRingsModel", "disconnect", "(I)V"⟩, prog_6_method_35_code, 4, none, [])
abbrev Y_M_reconnect : ow_Y := (⟨"OwnerRingsModel", "reconnect", "(I)V"⟩, prog_6_method_36_code, 3, none, [])
abbrev Y_M_erase : ow_Y := (⟨"OwnerRingsModel", "erase", "(I)I"⟩, prog_6_method_42_code, 3, some .int, [])
abbrev Y_M_ownedMembers : ow_Y := (⟨"OwnerRingsModel", "ownedMembers", "(I)I"⟩, prog_6_method_37_code, 4, some .int, [])
abbrev Y_M_spread : ow_Y := (⟨"OwnerRingsModel", "spread", "(I)V"⟩, prog_6_method_39_code, 6, none, [])
abbrev Y_M_takes : ow_Y := (⟨"OwnerRingsModel", "takes", "(II)Z"⟩, prog_6_method_38_code, 3, some .boolean, [])
abbrev Y_M_strands : ow_Y := (⟨"OwnerRingsModel", "strands", "()Z"⟩, prog_6_method_40_code, 5, some .boolean, [])
abbrev Y_M_heir : ow_Y := (⟨"OwnerRingsModel", "heir", "(I)I"⟩, prog_6_method_41_code, 4, some .int, [])
abbrev Y_M_sweep : ow_Y := (⟨"OwnerRingsModel", "sweep", "()I"⟩, prog_6_method_43_code, 4, some .int, [])
abbrev Y_M_members : ow_Y := (⟨"OwnerRingsModel", "members", "(I)I"⟩, prog_6_method_44_code, 5, some .int, [])
abbrev Y_M_owner : ow_Y := (⟨"OwnerRingsModel", "owner", "(II)I"⟩, prog_6_method_45_code, 4, some .int, [])
abbrev Y_M_keep : ow_Y := (⟨"OwnerRingsModel", "keep", "()I"⟩, prog_6_method_46_code, 2, some .int, [])
abbrev Y_M_records : ow_Y := (⟨"OwnerRingsModel", "records", "()I"⟩, prog_6_method_10_code, 3, some .int, [])
abbrev Y_M_rollBack : ow_Y := (⟨"OwnerRingsModel", "rollBack", "()I"⟩, prog_6_method_47_code, 2, some .int, [])
abbrev Y_M_count : ow_Y := (⟨"OwnerRingsModel", "count", "()I"⟩, prog_6_method_48_code, 1, some .int, [])
theorem cd_R_init : ow_Cd Y_R_init 0 := ⟨tb1 18 rfl rfl, tb1 1 rfl rfl, ⟨by decide, by decide⟩, by decide +kernel⟩
theorem cd_P_init : ow_Cd Y_P_init 0 := ⟨tb1 26 rfl rfl, tb1 2 rfl rfl, ⟨by decide, by decide⟩, by decide +kernel⟩
theorem cd_B_init : ow_Cd Y_B_init 0 := ⟨tb1 60 rfl rfl, tb1 3 rfl rfl, ⟨by decide, by decide⟩, by decide +kernel⟩
theorem cd_S_init : ow_Cd Y_S_init 0 := ⟨tb1 96 rfl rfl, tb1 4 rfl rfl, ⟨by decide, by decide⟩, by decide +kernel⟩
theorem cd_S_clear : ow_Cd Y_S_clear 0 := ⟨tb1 101 rfl rfl, tb1 4 rfl rfl, ⟨by decide, by decide⟩, by decide +kernel⟩
theorem cd_R_keep : ow_Cd Y_R_keep 0 := ⟨tb1 134 rfl rfl, tb1 1 rfl rfl, ⟨by decide, by decide⟩, by decide +kernel⟩
theorem cd_B_copyFrom : ow_Cd Y_B_copyFrom 1 := ⟨tb1 138 rfl rfl, tb1 3 rfl rfl, ⟨by decide, by decide⟩, by decide +kernel⟩
theorem cd_R_rollBack : ow_Cd Y_R_rollBack 0 := ⟨tb1 145 rfl rfl, tb1 1 rfl rfl, ⟨by decide, by decide⟩, by decide +kernel⟩
theorem cd_R_count : ow_Cd Y_R_count 0 := ⟨tb1 150 rfl rfl, tb1 1 rfl rfl, ⟨by decide, by decide⟩, by decide +kernel⟩
theorem cd_L_type : ow_Cd Y_L_type 3 := ⟨tb1 153 rfl rfl, tb1 0 rfl rfl, ⟨by decide, by decide⟩, by decide +kernel⟩
theorem cd_R_type : ow_Cd Y_R_type 1 := ⟨tb1 159 rfl rfl, tb1 1 rfl rfl, ⟨by decide, by decide⟩, by decide +kernel⟩
theorem cd_P_addType : ow_Cd Y_P_addType 1 := ⟨tb2 7 rfl rfl, tb1 2 rfl rfl, ⟨by decide, by decide⟩, by decide +kernel⟩
theorem cd_L_set : ow_Cd Y_L_set 6 := ⟨tb2 10 rfl rfl, tb1 0 rfl rfl, ⟨by decide, by decide⟩, by decide +kernel⟩
theorem cd_R_set : ow_Cd Y_R_set 4 := ⟨tb2 14 rfl rfl, tb1 1 rfl rfl, ⟨by decide, by decide⟩, by decide +kernel⟩
theorem cd_P_hasType : ow_Cd Y_P_hasType 1 := ⟨tb2 18 rfl rfl, tb1 2 rfl rfl, ⟨by decide, by decide⟩, by decide +kernel⟩
theorem cd_P_isOrder : ow_Cd Y_P_isOrder 2 := ⟨tb2 23 rfl rfl, tb1 2 rfl rfl, ⟨by decide, by decide⟩, by decide +kernel⟩
theorem cd_P_hasField : ow_Cd Y_P_hasField 2 := ⟨tb2 27 rfl rfl, tb1 2 rfl rfl, ⟨by decide, by decide⟩, by decide +kernel⟩
theorem cd_P_addSet : ow_Cd Y_P_addSet 4 := ⟨tb2 34 rfl rfl, tb1 2 rfl rfl, ⟨by decide, by decide⟩, by decide +kernel⟩
theorem cd_L_store : ow_Cd Y_L_store 6 := ⟨tb2 37 rfl rfl, tb1 0 rfl rfl, ⟨by decide, by decide⟩, by decide +kernel⟩
theorem cd_R_store : ow_Cd Y_R_store 4 := ⟨tb2 42 rfl rfl, tb1 1 rfl rfl, ⟨by decide, by decide⟩, by decide +kernel⟩
theorem cd_R_requireOwnersToJoin : ow_Cd Y_R_requireOwnersToJoin 1 := ⟨tb2 47 rfl rfl, tb1 1 rfl rfl, ⟨by decide, by decide⟩, by decide +kernel⟩
theorem cd_P_joinsWhenStored : ow_Cd Y_P_joinsWhenStored 2 := ⟨tb2 51 rfl rfl, tb1 2 rfl rfl, ⟨by decide, by decide⟩, by decide +kernel⟩
theorem cd_R_requireCurrentOwner : ow_Cd Y_R_requireCurrentOwner 1 := ⟨tb2 55 rfl rfl, tb1 1 rfl rfl, ⟨by decide, by decide⟩, by decide +kernel⟩
theorem cd_R_currentOwner : ow_Cd Y_R_currentOwner 1 := ⟨tb2 59 rfl rfl, tb1 1 rfl rfl, ⟨by decide, by decide⟩, by decide +kernel⟩
theorem cd_B_freePlace : ow_Cd Y_B_freePlace 0 := ⟨tb2 79 rfl rfl, tb1 3 rfl rfl, ⟨by decide, by decide⟩, by decide +kernel⟩
theorem cd_B_writeFields : ow_Cd Y_B_writeFields 4 := ⟨tb2 84 rfl rfl, tb1 3 rfl rfl, ⟨by decide, by decide⟩, by decide +kernel⟩
theorem cd_R_requireNoRefusalToJoin : ow_Cd Y_R_requireNoRefusalToJoin 2 := ⟨tb2 88 rfl rfl, tb1 1 rfl rfl, ⟨by decide, by decide⟩, by decide +kernel⟩
theorem cd_R_requireNoRefusal : ow_Cd Y_R_requireNoRefusal 3 := ⟨tb2 92 rfl rfl, tb1 1 rfl rfl, ⟨by decide, by decide⟩, by decide +kernel⟩
theorem cd_P_isSorted : ow_Cd Y_P_isSorted 1 := ⟨tb2 96 rfl rfl, tb1 2 rfl rfl, ⟨by decide, by decide⟩, by decide +kernel⟩
theorem cd_P_sortField : ow_Cd Y_P_sortField 1 := ⟨tb2 100 rfl rfl, tb1 2 rfl rfl, ⟨by decide, by decide⟩, by decide +kernel⟩
theorem cd_R_requireNoEqual : ow_Cd Y_R_requireNoEqual 4 := ⟨tb2 104 rfl rfl, tb1 1 rfl rfl, ⟨by decide, by decide⟩, by decide +kernel⟩
theorem cd_B_hasOtherWithValue : ow_Cd Y_B_hasOtherWithValue 5 := ⟨tb2 108 rfl rfl, tb1 3 rfl rfl, ⟨by decide, by decide⟩, by decide +kernel⟩
theorem cd_B_addRecord : ow_Cd Y_B_addRecord 2 := ⟨tb2 113 rfl rfl, tb1 3 rfl rfl, ⟨by decide, by decide⟩, by decide +kernel⟩
theorem cd_R_join : ow_Cd Y_R_join 3 := ⟨tb2 117 rfl rfl, tb1 1 rfl rfl, ⟨by decide, by decide⟩, by decide +kernel⟩
theorem cd_R_positionByOrder : ow_Cd Y_R_positionByOrder 3 := ⟨tb2 121 rfl rfl, tb1 1 rfl rfl, ⟨by decide, by decide⟩, by decide +kernel⟩
theorem cd_B_ringSize : ow_Cd Y_B_ringSize 2 := ⟨tb2 125 rfl rfl, tb1 3 rfl rfl, ⟨by decide, by decide⟩, by decide +kernel⟩
theorem cd_R_positionByValue : ow_Cd Y_R_positionByValue 3 := ⟨tb2 129 rfl rfl, tb1 1 rfl rfl, ⟨by decide, by decide⟩, by decide +kernel⟩
theorem cd_B_putIn : ow_Cd Y_B_putIn 4 := ⟨tb2 133 rfl rfl, tb1 3 rfl rfl, ⟨by decide, by decide⟩, by decide +kernel⟩
theorem cd_B_shiftRing : ow_Cd Y_B_shiftRing 4 := ⟨tb2 137 rfl rfl, tb1 3 rfl rfl, ⟨by decide, by decide⟩, by decide +kernel⟩
theorem cd_R_comeTo : ow_Cd Y_R_comeTo 2 := ⟨tb2 141 rfl rfl, tb1 1 rfl rfl, ⟨by decide, by decide⟩, by decide +kernel⟩
theorem cd_B_isMember : ow_Cd Y_B_isMember 2 := ⟨tb2 145 rfl rfl, tb1 3 rfl rfl, ⟨by decide, by decide⟩, by decide +kernel⟩
theorem cd_R_hasBit : ow_Cd Y_R_hasBit 2 := ⟨tb2 148 rfl rfl, tb1 1 rfl rfl, ⟨by decide, by decide⟩, by decide +kernel⟩
theorem cd_L_find : ow_Cd Y_L_find 3 := ⟨tb2 151 rfl rfl, tb1 0 rfl rfl, ⟨by decide, by decide⟩, by decide +kernel⟩
theorem cd_R_find : ow_Cd Y_R_find 2 := ⟨tb2 155 rfl rfl, tb1 1 rfl rfl, ⟨by decide, by decide⟩, by decide +kernel⟩
theorem cd_R_requireRecord : ow_Cd Y_R_requireRecord 1 := ⟨tb2 159 rfl rfl, tb1 1 rfl rfl, ⟨by decide, by decide⟩, by decide +kernel⟩
theorem cd_B_placeOf : ow_Cd Y_B_placeOf 1 := ⟨tb2 163 rfl rfl, tb1 3 rfl rfl, ⟨by decide, by decide⟩, by decide +kernel⟩
theorem cd_L_seek : ow_Cd Y_L_seek 5 := ⟨tb2 167 rfl rfl, tb1 0 rfl rfl, ⟨by decide, by decide⟩, by decide +kernel⟩
theorem cd_R_seek : ow_Cd Y_R_seek 3 := ⟨tb2 171 rfl rfl, tb1 1 rfl rfl, ⟨by decide, by decide⟩, by decide +kernel⟩
theorem cd_B_lowestKeyed : ow_Cd Y_B_lowestKeyed 3 := ⟨tb2 177 rfl rfl, tb1 3 rfl rfl, ⟨by decide, by decide⟩, by decide +kernel⟩
theorem cd_R_comeToExisting : ow_Cd Y_R_comeToExisting 1 := ⟨tb2 181 rfl rfl, tb1 1 rfl rfl, ⟨by decide, by decide⟩, by decide +kernel⟩
theorem cd_L_move : ow_Cd Y_L_move 4 := ⟨tb2 185 rfl rfl, tb1 0 rfl rfl, ⟨by decide, by decide⟩, by decide +kernel⟩
theorem cd_R_move : ow_Cd Y_R_move 2 := ⟨tb2 189 rfl rfl, tb1 1 rfl rfl, ⟨by decide, by decide⟩, by decide +kernel⟩
theorem cd_R_requireSet : ow_Cd Y_R_requireSet 1 := ⟨tb2 193 rfl rfl, tb1 1 rfl rfl, ⟨by decide, by decide⟩, by decide +kernel⟩
theorem cd_P_hasSet : ow_Cd Y_P_hasSet 1 := ⟨tb2 197 rfl rfl, tb1 2 rfl rfl, ⟨by decide, by decide⟩, by decide +kernel⟩
theorem cd_R_placeToMoveTo : ow_Cd Y_R_placeToMoveTo 2 := ⟨tb2 203 rfl rfl, tb1 1 rfl rfl, ⟨by decide, by decide⟩, by decide +kernel⟩
theorem cd_B_memberAt : ow_Cd Y_B_memberAt 3 := ⟨tb2 207 rfl rfl, tb1 3 rfl rfl, ⟨by decide, by decide⟩, by decide +kernel⟩
theorem cd_L_scan : ow_Cd Y_L_scan 5 := ⟨tb2 210 rfl rfl, tb1 0 rfl rfl, ⟨by decide, by decide⟩, by decide +kernel⟩
theorem cd_R_scan : ow_Cd Y_R_scan 3 := ⟨tb2 214 rfl rfl, tb1 1 rfl rfl, ⟨by decide, by decide⟩, by decide +kernel⟩
theorem cd_B_memberWithValue : ow_Cd Y_B_memberWithValue 5 := ⟨tb2 219 rfl rfl, tb1 3 rfl rfl, ⟨by decide, by decide⟩, by decide +kernel⟩
theorem cd_L_current : ow_Cd Y_L_current 4 := ⟨tb2 224 rfl rfl, tb1 0 rfl rfl, ⟨by decide, by decide⟩, by decide +kernel⟩
theorem cd_R_current : ow_Cd Y_R_current 2 := ⟨tb2 228 rfl rfl, tb1 1 rfl rfl, ⟨by decide, by decide⟩, by decide +kernel⟩
theorem cd_B_keyAt : ow_Cd Y_B_keyAt 1 := ⟨tb2 232 rfl rfl, tb1 3 rfl rfl, ⟨by decide, by decide⟩, by decide +kernel⟩
theorem cd_L_get : ow_Cd Y_L_get 3 := ⟨tb2 236 rfl rfl, tb1 0 rfl rfl, ⟨by decide, by decide⟩, by decide +kernel⟩
theorem cd_R_get : ow_Cd Y_R_get 1 := ⟨tb3 0 rfl rfl, tb1 1 rfl rfl, ⟨by decide, by decide⟩, by decide +kernel⟩
theorem cd_R_requireRunRecord : ow_Cd Y_R_requireRunRecord 0 := ⟨tb3 4 rfl rfl, tb1 1 rfl rfl, ⟨by decide, by decide⟩, by decide +kernel⟩
theorem cd_R_requireFieldOf : ow_Cd Y_R_requireFieldOf 2 := ⟨tb3 9 rfl rfl, tb1 1 rfl rfl, ⟨by decide, by decide⟩, by decide +kernel⟩
theorem cd_L_modify : ow_Cd Y_L_modify 3 := ⟨tb3 12 rfl rfl, tb1 0 rfl rfl, ⟨by decide, by decide⟩, by decide +kernel⟩
theorem cd_R_modify : ow_Cd Y_R_modify 2 := ⟨tb3 16 rfl rfl, tb1 1 rfl rfl, ⟨by decide, by decide⟩, by decide +kernel⟩
theorem cd_R_requireNoRefusalToSort : ow_Cd Y_R_requireNoRefusalToSort 3 := ⟨tb3 20 rfl rfl, tb1 1 rfl rfl, ⟨by decide, by decide⟩, by decide +kernel⟩
theorem cd_P_isSortedBy : ow_Cd Y_P_isSortedBy 2 := ⟨tb3 24 rfl rfl, tb1 2 rfl rfl, ⟨by decide, by decide⟩, by decide +kernel⟩
theorem cd_R_sortAgain : ow_Cd Y_R_sortAgain 2 := ⟨tb3 30 rfl rfl, tb1 1 rfl rfl, ⟨by decide, by decide⟩, by decide +kernel⟩
theorem cd_B_takeOut : ow_Cd Y_B_takeOut 2 := ⟨tb3 34 rfl rfl, tb1 3 rfl rfl, ⟨by decide, by decide⟩, by decide +kernel⟩
theorem cd_L_connect : ow_Cd Y_L_connect 2 := ⟨tb3 37 rfl rfl, tb1 0 rfl rfl, ⟨by decide, by decide⟩, by decide +kernel⟩
theorem cd_R_connect : ow_Cd Y_R_connect 1 := ⟨tb3 41 rfl rfl, tb1 1 rfl rfl, ⟨by decide, by decide⟩, by decide +kernel⟩
theorem cd_L_disconnect : ow_Cd Y_L_disconnect 2 := ⟨tb3 45 rfl rfl, tb1 0 rfl rfl, ⟨by decide, by decide⟩, by decide +kernel⟩
theorem cd_R_disconnect : ow_Cd Y_R_disconnect 1 := ⟨tb3 49 rfl rfl, tb1 1 rfl rfl, ⟨by decide, by decide⟩, by decide +kernel⟩
theorem cd_P_hold : ow_Cd Y_P_hold 1 := ⟨tb3 53 rfl rfl, tb1 2 rfl rfl, ⟨by decide, by decide⟩, by decide +kernel⟩
theorem cd_R_stepBack : ow_Cd Y_R_stepBack 2 := ⟨tb3 58 rfl rfl, tb1 1 rfl rfl, ⟨by decide, by decide⟩, by decide +kernel⟩
theorem cd_L_reconnect : ow_Cd Y_L_reconnect 2 := ⟨tb3 61 rfl rfl, tb1 0 rfl rfl, ⟨by decide, by decide⟩, by decide +kernel⟩
theorem cd_R_reconnect : ow_Cd Y_R_reconnect 1 := ⟨tb3 65 rfl rfl, tb1 1 rfl rfl, ⟨by decide, by decide⟩, by decide +kernel⟩
theorem cd_L_erase : ow_Cd Y_L_erase 3 := ⟨tb3 69 rfl rfl, tb1 0 rfl rfl, ⟨by decide, by decide⟩, by decide +kernel⟩
theorem cd_R_erase : ow_Cd Y_R_erase 1 := ⟨tb3 73 rfl rfl, tb1 1 rfl rfl, ⟨by decide, by decide⟩, by decide +kernel⟩
theorem cd_R_allThatGo : ow_Cd Y_R_allThatGo 2 := ⟨tb3 78 rfl rfl, tb1 1 rfl rfl, ⟨by decide, by decide⟩, by decide +kernel⟩
theorem cd_P_goesWithOwner : ow_Cd Y_P_goesWithOwner 2 := ⟨tb3 82 rfl rfl, tb1 2 rfl rfl, ⟨by decide, by decide⟩, by decide +kernel⟩
theorem cd_B_membersOwnedBy : ow_Cd Y_B_membersOwnedBy 2 := ⟨tb3 87 rfl rfl, tb1 3 rfl rfl, ⟨by decide, by decide⟩, by decide +kernel⟩
theorem cd_R_ownsMembers : ow_Cd Y_R_ownsMembers 1 := ⟨tb3 92 rfl rfl, tb1 1 rfl rfl, ⟨by decide, by decide⟩, by decide +kernel⟩
theorem cd_R_boundOneWouldStay : ow_Cd Y_R_boundOneWouldStay 1 := ⟨tb3 97 rfl rfl, tb1 1 rfl rfl, ⟨by decide, by decide⟩, by decide +kernel⟩
theorem cd_R_standWithout : ow_Cd Y_R_standWithout 1 := ⟨tb3 102 rfl rfl, tb1 1 rfl rfl, ⟨by decide, by decide⟩, by decide +kernel⟩
theorem cd_R_removeAll : ow_Cd Y_R_removeAll 1 := ⟨tb3 106 rfl rfl, tb1 1 rfl rfl, ⟨by decide, by decide⟩, by decide +kernel⟩
theorem cd_B_dropRecord : ow_Cd Y_B_dropRecord 1 := ⟨tb3 110 rfl rfl, tb1 3 rfl rfl, ⟨by decide, by decide⟩, by decide +kernel⟩
theorem cd_I_bitCount : ow_Cd Y_I_bitCount 1 := ⟨tb3 113 rfl rfl, tb1 12 rfl rfl, ⟨by decide, by decide⟩, by decide +kernel⟩
theorem cd_L_members : ow_Cd Y_L_members 3 := ⟨tb3 119 rfl rfl, tb1 0 rfl rfl, ⟨by decide, by decide⟩, by decide +kernel⟩
theorem cd_R_members : ow_Cd Y_R_members 1 := ⟨tb3 123 rfl rfl, tb1 1 rfl rfl, ⟨by decide, by decide⟩, by decide +kernel⟩
theorem cd_L_owner : ow_Cd Y_L_owner 4 := ⟨tb3 126 rfl rfl, tb1 0 rfl rfl, ⟨by decide, by decide⟩, by decide +kernel⟩
theorem cd_R_owner : ow_Cd Y_R_owner 2 := ⟨tb3 130 rfl rfl, tb1 1 rfl rfl, ⟨by decide, by decide⟩, by decide +kernel⟩
theorem cd_M_init : ow_Cd Y_M_init 0 := ⟨tb3 135 rfl rfl, tb1 5 rfl rfl, ⟨by decide, by decide⟩, by decide +kernel⟩
theorem cd_M_forget : ow_Cd Y_M_forget 0 := ⟨tb3 140 rfl rfl, tb1 5 rfl rfl, ⟨by decide, by decide⟩, by decide +kernel⟩
theorem cd_M_thrown : ow_Cd Y_M_thrown 0 := ⟨tb3 227 rfl rfl, tb1 5 rfl rfl, ⟨by decide, by decide⟩, by decide +kernel⟩
theorem cd_M_type : ow_Cd Y_M_type 1 := ⟨tb3 231 rfl rfl, tb1 5 rfl rfl, ⟨by decide, by decide⟩, by decide +kernel⟩
theorem cd_M_set : ow_Cd Y_M_set 4 := ⟨tb3 235 rfl rfl, tb1 5 rfl rfl, ⟨by decide, by decide⟩, by decide +kernel⟩
theorem cd_M_isType : ow_Cd Y_M_isType 1 := ⟨tb3 239 rfl rfl, tb1 5 rfl rfl, ⟨by decide, by decide⟩, by decide +kernel⟩
theorem cd_M_isOrder : ow_Cd Y_M_isOrder 2 := ⟨tb4 2 rfl rfl, tb1 5 rfl rfl, ⟨by decide, by decide⟩, by decide +kernel⟩
theorem cd_M_store : ow_Cd Y_M_store 4 := ⟨tb4 6 rfl rfl, tb1 5 rfl rfl, ⟨by decide, by decide⟩, by decide +kernel⟩
theorem cd_M_objection : ow_Cd Y_M_objection 2 := ⟨tb4 10 rfl rfl, tb1 5 rfl rfl, ⟨by decide, by decide⟩, by decide +kernel⟩
theorem cd_M_currentOwner : ow_Cd Y_M_currentOwner 1 := ⟨tb4 14 rfl rfl, tb1 5 rfl rfl, ⟨by decide, by decide⟩, by decide +kernel⟩
theorem cd_M_isRefused : ow_Cd Y_M_isRefused 4 := ⟨tb4 18 rfl rfl, tb1 5 rfl rfl, ⟨by decide, by decide⟩, by decide +kernel⟩
theorem cd_M_join : ow_Cd Y_M_join 3 := ⟨tb4 22 rfl rfl, tb1 5 rfl rfl, ⟨by decide, by decide⟩, by decide +kernel⟩
theorem cd_M_placeFor : ow_Cd Y_M_placeFor 3 := ⟨tb4 26 rfl rfl, tb1 5 rfl rfl, ⟨by decide, by decide⟩, by decide +kernel⟩
theorem cd_M_placeOf : ow_Cd Y_M_placeOf 2 := ⟨tb4 30 rfl rfl, tb1 5 rfl rfl, ⟨by decide, by decide⟩, by decide +kernel⟩
theorem cd_M_firstOf : ow_Cd Y_M_firstOf 2 := ⟨tb4 34 rfl rfl, tb1 5 rfl rfl, ⟨by decide, by decide⟩, by decide +kernel⟩
theorem cd_M_nextIn : ow_Cd Y_M_nextIn 4 := ⟨tb4 38 rfl rfl, tb1 5 rfl rfl, ⟨by decide, by decide⟩, by decide +kernel⟩
theorem cd_M_come : ow_Cd Y_M_come 2 := ⟨tb4 42 rfl rfl, tb1 5 rfl rfl, ⟨by decide, by decide⟩, by decide +kernel⟩
theorem cd_M_find : ow_Cd Y_M_find 2 := ⟨tb4 46 rfl rfl, tb1 5 rfl rfl, ⟨by decide, by decide⟩, by decide +kernel⟩
theorem cd_M_recordWith : ow_Cd Y_M_recordWith 1 := ⟨tb4 50 rfl rfl, tb1 5 rfl rfl, ⟨by decide, by decide⟩, by decide +kernel⟩
theorem cd_M_seek : ow_Cd Y_M_seek 3 := ⟨tb4 54 rfl rfl, tb1 5 rfl rfl, ⟨by decide, by decide⟩, by decide +kernel⟩
theorem cd_M_comeTo : ow_Cd Y_M_comeTo 2 := ⟨tb4 58 rfl rfl, tb1 5 rfl rfl, ⟨by decide, by decide⟩, by decide +kernel⟩
theorem cd_M_move : ow_Cd Y_M_move 2 := ⟨tb4 62 rfl rfl, tb1 5 rfl rfl, ⟨by decide, by decide⟩, by decide +kernel⟩
theorem cd_M_isSet : ow_Cd Y_M_isSet 1 := ⟨tb4 66 rfl rfl, tb1 5 rfl rfl, ⟨by decide, by decide⟩, by decide +kernel⟩
theorem cd_M_lastOf : ow_Cd Y_M_lastOf 2 := ⟨tb4 70 rfl rfl, tb1 5 rfl rfl, ⟨by decide, by decide⟩, by decide +kernel⟩
theorem cd_M_beside : ow_Cd Y_M_beside 2 := ⟨tb4 74 rfl rfl, tb1 5 rfl rfl, ⟨by decide, by decide⟩, by decide +kernel⟩
theorem cd_M_scan : ow_Cd Y_M_scan 3 := ⟨tb4 78 rfl rfl, tb1 5 rfl rfl, ⟨by decide, by decide⟩, by decide +kernel⟩
theorem cd_M_current : ow_Cd Y_M_current 2 := ⟨tb4 82 rfl rfl, tb1 5 rfl rfl, ⟨by decide, by decide⟩, by decide +kernel⟩
theorem cd_M_get : ow_Cd Y_M_get 1 := ⟨tb4 86 rfl rfl, tb1 5 rfl rfl, ⟨by decide, by decide⟩, by decide +kernel⟩
theorem cd_M_modify : ow_Cd Y_M_modify 2 := ⟨tb4 90 rfl rfl, tb1 5 rfl rfl, ⟨by decide, by decide⟩, by decide +kernel⟩
theorem cd_M_isSortedBy : ow_Cd Y_M_isSortedBy 2 := ⟨tb4 94 rfl rfl, tb1 5 rfl rfl, ⟨by decide, by decide⟩, by decide +kernel⟩
theorem cd_M_leave : ow_Cd Y_M_leave 2 := ⟨tb4 98 rfl rfl, tb1 5 rfl rfl, ⟨by decide, by decide⟩, by decide +kernel⟩
theorem cd_M_connect : ow_Cd Y_M_connect 1 := ⟨tb4 102 rfl rfl, tb1 5 rfl rfl, ⟨by decide, by decide⟩, by decide +kernel⟩
theorem cd_M_valueIn : ow_Cd Y_M_valueIn 2 := ⟨tb4 106 rfl rfl, tb1 5 rfl rfl, ⟨by decide, by decide⟩, by decide +kernel⟩
theorem cd_M_disconnect : ow_Cd Y_M_disconnect 1 := ⟨tb4 110 rfl rfl, tb1 5 rfl rfl, ⟨by decide, by decide⟩, by decide +kernel⟩
theorem cd_M_reconnect : ow_Cd Y_M_reconnect 1 := ⟨tb4 114 rfl rfl, tb1 5 rfl rfl, ⟨by decide, by decide⟩, by decide +kernel⟩
theorem cd_M_erase : ow_Cd Y_M_erase 1 := ⟨tb4 118 rfl rfl, tb1 5 rfl rfl, ⟨by decide, by decide⟩, by decide +kernel⟩
theorem cd_M_ownedMembers : ow_Cd Y_M_ownedMembers 1 := ⟨tb4 122 rfl rfl, tb1 5 rfl rfl, ⟨by decide, by decide⟩, by decide +kernel⟩
theorem cd_M_spread : ow_Cd Y_M_spread 1 := ⟨tb4 126 rfl rfl, tb1 5 rfl rfl, ⟨by decide, by decide⟩, by decide +kernel⟩
theorem cd_M_takes : ow_Cd Y_M_takes 2 := ⟨tb4 130 rfl rfl, tb1 5 rfl rfl, ⟨by decide, by decide⟩, by decide +kernel⟩
theorem cd_M_strands : ow_Cd Y_M_strands 0 := ⟨tb4 134 rfl rfl, tb1 5 rfl rfl, ⟨by decide, by decide⟩, by decide +kernel⟩
theorem cd_M_heir : ow_Cd Y_M_heir 1 := ⟨tb4 138 rfl rfl, tb1 5 rfl rfl, ⟨by decide, by decide⟩, by decide +kernel⟩
theorem cd_M_sweep : ow_Cd Y_M_sweep 0 := ⟨tb4 142 rfl rfl, tb1 5 rfl rfl, ⟨by decide, by decide⟩, by decide +kernel⟩
theorem cd_M_members : ow_Cd Y_M_members 1 := ⟨tb4 146 rfl rfl, tb1 5 rfl rfl, ⟨by decide, by decide⟩, by decide +kernel⟩
theorem cd_M_owner : ow_Cd Y_M_owner 2 := ⟨tb4 150 rfl rfl, tb1 5 rfl rfl, ⟨by decide, by decide⟩, by decide +kernel⟩
theorem cd_M_keep : ow_Cd Y_M_keep 0 := ⟨tb4 154 rfl rfl, tb1 5 rfl rfl, ⟨by decide, by decide⟩, by decide +kernel⟩
theorem cd_M_records : ow_Cd Y_M_records 0 := ⟨tb4 158 rfl rfl, tb1 5 rfl rfl, ⟨by decide, by decide⟩, by decide +kernel⟩
theorem cd_M_rollBack : ow_Cd Y_M_rollBack 0 := ⟨tb4 162 rfl rfl, tb1 5 rfl rfl, ⟨by decide, by decide⟩, by decide +kernel⟩
theorem cd_M_count : ow_Cd Y_M_count 0 := ⟨tb4 166 rfl rfl, tb1 5 rfl rfl, ⟨by decide, by decide⟩, by decide +kernel⟩
theorem lk_R_18 : ow_LI "OwnerRings" 18 Y_B_init := ⟨tb1 58 rfl rfl, tb1 59 rfl rfl, rfl⟩
theorem lk_R_28 : ow_LI "OwnerRings" 28 Y_S_init := ⟨tb1 94 rfl rfl, tb1 95 rfl rfl, rfl⟩
theorem lk_R_53 : ow_LV "OwnerRings" 53 Y_P_addType "OwnerRings$Plan" := ⟨tb2 4 rfl rfl, tb2 5 rfl rfl, tb2 6 rfl rfl⟩
theorem lk_R_57 : ow_LV "OwnerRings" 57 Y_P_hasType "OwnerRings$Plan" := ⟨tb2 15 rfl rfl, tb2 16 rfl rfl, tb2 17 rfl rfl⟩
theorem lk_R_63 : ow_LV "OwnerRings" 63 Y_P_isOrder "OwnerRings$Plan" := ⟨tb2 20 rfl rfl, tb2 21 rfl rfl, tb2 22 rfl rfl⟩
theorem lk_R_74 : ow_LV "OwnerRings" 74 Y_P_addSet "OwnerRings$Plan" := ⟨tb2 31 rfl rfl, tb2 32 rfl rfl, tb2 33 rfl rfl⟩
theorem lk_R_80 : ow_LV "OwnerRings" 80 Y_R_requireOwnersToJoin "OwnerRings" := ⟨tb2 44 rfl rfl, tb2 46 rfl rfl, tbs 1 rfl rfl⟩
theorem lk_R_84 : ow_LV "OwnerRings" 84 Y_B_freePlace "OwnerRings$Base" := ⟨tb2 76 rfl rfl, tb2 77 rfl rfl, tb2 78 rfl rfl⟩
theorem lk_R_90 : ow_LV "OwnerRings" 90 Y_B_writeFields "OwnerRings$Base" := ⟨tb2 81 rfl rfl, tb2 82 rfl rfl, tb2 83 rfl rfl⟩
theorem lk_R_94 : ow_LV "OwnerRings" 94 Y_R_requireNoRefusalToJoin "OwnerRings" := ⟨tb2 85 rfl rfl, tb2 87 rfl rfl, tbs 4 rfl rfl⟩
theorem lk_R_98 : ow_LV "OwnerRings" 98 Y_B_addRecord "OwnerRings$Base" := ⟨tb2 110 rfl rfl, tb2 111 rfl rfl, tb2 112 rfl rfl⟩
theorem lk_R_101 : ow_LV "OwnerRings" 101 Y_P_joinsWhenStored "OwnerRings$Plan" := ⟨tb2 48 rfl rfl, tb2 49 rfl rfl, tb2 50 rfl rfl⟩
theorem lk_R_104 : ow_LV "OwnerRings" 104 Y_R_currentOwner "OwnerRings" := ⟨tb2 56 rfl rfl, tb2 58 rfl rfl, tbs 3 rfl rfl⟩
theorem lk_R_107 : ow_LV "OwnerRings" 107 Y_R_join "OwnerRings" := ⟨tb2 114 rfl rfl, tb2 116 rfl rfl, tbs 7 rfl rfl⟩
theorem lk_R_111 : ow_LV "OwnerRings" 111 Y_R_comeTo "OwnerRings" := ⟨tb2 138 rfl rfl, tb2 140 rfl rfl, tbs 10 rfl rfl⟩
theorem lk_R_118 : ow_LV "OwnerRings" 118 Y_R_requireRecord "OwnerRings" := ⟨tb2 156 rfl rfl, tb2 158 rfl rfl, tbs 11 rfl rfl⟩
theorem lk_R_121 : ow_LV "OwnerRings" 121 Y_P_hasField "OwnerRings$Plan" := ⟨tb2 172 rfl rfl, tb2 25 rfl rfl, tb2 26 rfl rfl⟩
theorem lk_R_126 : ow_LV "OwnerRings" 126 Y_B_lowestKeyed "OwnerRings$Base" := ⟨tb2 174 rfl rfl, tb2 175 rfl rfl, tb2 176 rfl rfl⟩
theorem lk_R_130 : ow_LV "OwnerRings" 130 Y_R_comeToExisting "OwnerRings" := ⟨tb2 178 rfl rfl, tb2 180 rfl rfl, tbs 12 rfl rfl⟩
theorem lk_R_133 : ow_LV "OwnerRings" 133 Y_R_requireSet "OwnerRings" := ⟨tb2 190 rfl rfl, tb2 192 rfl rfl, tbs 13 rfl rfl⟩
theorem lk_R_138 : ow_LV "OwnerRings" 138 Y_R_placeToMoveTo "OwnerRings" := ⟨tb2 200 rfl rfl, tb2 202 rfl rfl, tbs 14 rfl rfl⟩
theorem lk_R_147 : ow_LV "OwnerRings" 147 Y_R_requireCurrentOwner "OwnerRings" := ⟨tb2 52 rfl rfl, tb2 54 rfl rfl, tbs 2 rfl rfl⟩
theorem lk_R_157 : ow_LV "OwnerRings" 157 Y_B_memberWithValue "OwnerRings$Base" := ⟨tb2 216 rfl rfl, tb2 217 rfl rfl, tb2 218 rfl rfl⟩
theorem lk_R_164 : ow_LV "OwnerRings" 164 Y_B_keyAt "OwnerRings$Base" := ⟨tb2 229 rfl rfl, tb2 230 rfl rfl, tb2 231 rfl rfl⟩
theorem lk_R_170 : ow_LV "OwnerRings" 170 Y_P_hasSet "OwnerRings$Plan" := ⟨tb2 194 rfl rfl, tb2 195 rfl rfl, tb2 196 rfl rfl⟩
theorem lk_R_175 : ow_LV "OwnerRings" 175 Y_R_requireRunRecord "OwnerRings" := ⟨tb3 1 rfl rfl, tb3 3 rfl rfl, tbs 15 rfl rfl⟩
theorem lk_R_178 : ow_LV "OwnerRings" 178 Y_R_requireFieldOf "OwnerRings" := ⟨tb3 6 rfl rfl, tb3 8 rfl rfl, tbs 16 rfl rfl⟩
theorem lk_R_184 : ow_LV "OwnerRings" 184 Y_R_requireNoRefusalToSort "OwnerRings" := ⟨tb3 17 rfl rfl, tb3 19 rfl rfl, tbs 17 rfl rfl⟩
theorem lk_R_187 : ow_LV "OwnerRings" 187 Y_R_sortAgain "OwnerRings" := ⟨tb3 27 rfl rfl, tb3 29 rfl rfl, tbs 18 rfl rfl⟩
theorem lk_R_193 : ow_LV "OwnerRings" 193 Y_B_isMember "OwnerRings$Base" := ⟨tb2 142 rfl rfl, tb2 143 rfl rfl, tb2 144 rfl rfl⟩
theorem lk_R_198 : ow_LV "OwnerRings" 198 Y_R_requireNoRefusal "OwnerRings" := ⟨tb2 89 rfl rfl, tb2 91 rfl rfl, tbs 5 rfl rfl⟩
theorem lk_R_201 : ow_LV "OwnerRings" 201 Y_P_hold "OwnerRings$Plan" := ⟨tb3 50 rfl rfl, tb3 51 rfl rfl, tb3 52 rfl rfl⟩
theorem lk_R_206 : ow_LV "OwnerRings" 206 Y_R_stepBack "OwnerRings" := ⟨tb3 55 rfl rfl, tb3 57 rfl rfl, tbs 19 rfl rfl⟩
theorem lk_R_209 : ow_LV "OwnerRings" 209 Y_B_takeOut "OwnerRings$Base" := ⟨tb3 31 rfl rfl, tb3 32 rfl rfl, tb3 33 rfl rfl⟩
theorem lk_R_216 : ow_LV "OwnerRings" 216 Y_R_allThatGo "OwnerRings" := ⟨tb3 75 rfl rfl, tb3 77 rfl rfl, tbs 20 rfl rfl⟩
theorem lk_R_219 : ow_LV "OwnerRings" 219 Y_R_ownsMembers "OwnerRings" := ⟨tb3 89 rfl rfl, tb3 91 rfl rfl, tbs 21 rfl rfl⟩
theorem lk_R_224 : ow_LV "OwnerRings" 224 Y_R_boundOneWouldStay "OwnerRings" := ⟨tb3 94 rfl rfl, tb3 96 rfl rfl, tbs 22 rfl rfl⟩
theorem lk_R_229 : ow_LV "OwnerRings" 229 Y_R_standWithout "OwnerRings" := ⟨tb3 99 rfl rfl, tb3 101 rfl rfl, tbs 23 rfl rfl⟩
theorem lk_R_232 : ow_LV "OwnerRings" 232 Y_R_removeAll "OwnerRings" := ⟨tb3 103 rfl rfl, tb3 105 rfl rfl, tbs 24 rfl rfl⟩
theorem lk_R_235 : ow_LS "OwnerRings" 235 Y_I_bitCount := ⟨tb3 111 rfl rfl, tb3 112 rfl rfl⟩
theorem lk_R_240 : ow_LV "OwnerRings" 240 Y_B_ringSize "OwnerRings$Base" := ⟨tb2 122 rfl rfl, tb2 123 rfl rfl, tb2 124 rfl rfl⟩
theorem lk_R_246 : ow_LV "OwnerRings" 246 Y_B_copyFrom "OwnerRings$Base" := ⟨tb1 135 rfl rfl, tb1 136 rfl rfl, tb1 137 rfl rfl⟩
theorem lk_R_253 : ow_LV "OwnerRings" 253 Y_S_clear "OwnerRings$Stand" := ⟨tb1 146 rfl rfl, tb1 99 rfl rfl, tb1 100 rfl rfl⟩
theorem lk_R_258 : ow_LV "OwnerRings" 258 Y_B_placeOf "OwnerRings$Base" := ⟨tb2 160 rfl rfl, tb2 161 rfl rfl, tb2 162 rfl rfl⟩
theorem lk_R_270 : ow_LV "OwnerRings" 270 Y_P_isSorted "OwnerRings$Plan" := ⟨tb2 93 rfl rfl, tb2 94 rfl rfl, tb2 95 rfl rfl⟩
theorem lk_R_273 : ow_LV "OwnerRings" 273 Y_P_sortField "OwnerRings$Plan" := ⟨tb2 97 rfl rfl, tb2 98 rfl rfl, tb2 99 rfl rfl⟩
theorem lk_R_276 : ow_LV "OwnerRings" 276 Y_R_requireNoEqual "OwnerRings" := ⟨tb2 101 rfl rfl, tb2 103 rfl rfl, tbs 6 rfl rfl⟩
theorem lk_R_279 : ow_LV "OwnerRings" 279 Y_P_isSortedBy "OwnerRings$Plan" := ⟨tb3 21 rfl rfl, tb3 22 rfl rfl, tb3 23 rfl rfl⟩
theorem lk_R_285 : ow_LV "OwnerRings" 285 Y_B_hasOtherWithValue "OwnerRings$Base" := ⟨tb2 105 rfl rfl, tb2 106 rfl rfl, tb2 107 rfl rfl⟩
theorem lk_R_296 : ow_LS "OwnerRings" 296 Y_R_hasBit := ⟨tb2 146 rfl rfl, tb2 147 rfl rfl⟩
theorem lk_R_299 : ow_LV "OwnerRings" 299 Y_B_memberAt "OwnerRings$Base" := ⟨tb2 204 rfl rfl, tb2 205 rfl rfl, tb2 206 rfl rfl⟩
theorem lk_R_302 : ow_LV "OwnerRings" 302 Y_R_positionByOrder "OwnerRings" := ⟨tb2 118 rfl rfl, tb2 120 rfl rfl, tbs 8 rfl rfl⟩
theorem lk_R_305 : ow_LV "OwnerRings" 305 Y_B_putIn "OwnerRings$Base" := ⟨tb2 130 rfl rfl, tb2 131 rfl rfl, tb2 132 rfl rfl⟩
theorem lk_R_308 : ow_LV "OwnerRings" 308 Y_R_positionByValue "OwnerRings" := ⟨tb2 126 rfl rfl, tb2 128 rfl rfl, tbs 9 rfl rfl⟩
theorem lk_R_311 : ow_LV "OwnerRings" 311 Y_P_goesWithOwner "OwnerRings$Plan" := ⟨tb3 79 rfl rfl, tb3 80 rfl rfl, tb3 81 rfl rfl⟩
theorem lk_R_314 : ow_LV "OwnerRings" 314 Y_B_membersOwnedBy "OwnerRings$Base" := ⟨tb3 84 rfl rfl, tb3 85 rfl rfl, tb3 86 rfl rfl⟩
theorem lk_R_317 : ow_LV "OwnerRings" 317 Y_B_dropRecord "OwnerRings$Base" := ⟨tb3 107 rfl rfl, tb3 108 rfl rfl, tb3 109 rfl rfl⟩
theorem lk_B_42 : ow_LV "OwnerRings$Base" 42 Y_B_ringSize "OwnerRings$Base" := ⟨tb2 220 rfl rfl, tb2 123 rfl rfl, tb2 124 rfl rfl⟩
theorem lk_B_46 : ow_LV "OwnerRings$Base" 46 Y_B_memberAt "OwnerRings$Base" := ⟨tb2 221 rfl rfl, tb2 205 rfl rfl, tb2 206 rfl rfl⟩
theorem lk_B_54 : ow_LV "OwnerRings$Base" 54 Y_B_shiftRing "OwnerRings$Base" := ⟨tb2 134 rfl rfl, tb2 135 rfl rfl, tb2 136 rfl rfl⟩
theorem lk_P_34 : ow_LV "OwnerRings$Plan" 34 Y_P_hasType "OwnerRings$Plan" := ⟨tb2 28 rfl rfl, tb2 16 rfl rfl, tb2 17 rfl rfl⟩
theorem lk_P_38 : ow_LV "OwnerRings$Plan" 38 Y_P_hasField "OwnerRings$Plan" := ⟨tb2 24 rfl rfl, tb2 25 rfl rfl, tb2 26 rfl rfl⟩
theorem lk_P_42 : ow_LV "OwnerRings$Plan" 42 Y_P_hold "OwnerRings$Plan" := ⟨tb3 83 rfl rfl, tb3 51 rfl rfl, tb3 52 rfl rfl⟩
theorem lk_P_46 : ow_LV "OwnerRings$Plan" 46 Y_P_isSorted "OwnerRings$Plan" := ⟨tb3 25 rfl rfl, tb2 94 rfl rfl, tb2 95 rfl rfl⟩
theorem lk_P_49 : ow_LV "OwnerRings$Plan" 49 Y_P_sortField "OwnerRings$Plan" := ⟨tb3 26 rfl rfl, tb2 98 rfl rfl, tb2 99 rfl rfl⟩
theorem lk_S_22 : ow_LV "OwnerRings$Stand" 22 Y_S_clear "OwnerRings$Stand" := ⟨tb1 98 rfl rfl, tb1 99 rfl rfl, tb1 100 rfl rfl⟩
theorem lk_L_7 : ow_LV "OwnerRingsLaw" 7 Y_R_type "OwnerRings" := ⟨tb1 156 rfl rfl, tb1 157 rfl rfl, tb1 158 rfl rfl⟩
theorem lk_L_17 : ow_LV "OwnerRingsLaw" 17 Y_R_set "OwnerRings" := ⟨tb2 11 rfl rfl, tb2 12 rfl rfl, tb2 13 rfl rfl⟩
theorem lk_L_21 : ow_LV "OwnerRingsLaw" 21 Y_R_store "OwnerRings" := ⟨tb2 39 rfl rfl, tb2 40 rfl rfl, tb2 41 rfl rfl⟩
theorem lk_L_26 : ow_LV "OwnerRingsLaw" 26 Y_R_find "OwnerRings" := ⟨tb2 152 rfl rfl, tb2 153 rfl rfl, tb2 154 rfl rfl⟩
theorem lk_L_30 : ow_LV "OwnerRingsLaw" 30 Y_R_seek "OwnerRings" := ⟨tb2 168 rfl rfl, tb2 169 rfl rfl, tb2 170 rfl rfl⟩
theorem lk_L_34 : ow_LV "OwnerRingsLaw" 34 Y_R_move "OwnerRings" := ⟨tb2 186 rfl rfl, tb2 187 rfl rfl, tb2 188 rfl rfl⟩
theorem lk_L_38 : ow_LV "OwnerRingsLaw" 38 Y_R_scan "OwnerRings" := ⟨tb2 211 rfl rfl, tb2 212 rfl rfl, tb2 213 rfl rfl⟩
theorem lk_L_41 : ow_LV "OwnerRingsLaw" 41 Y_R_current "OwnerRings" := ⟨tb2 225 rfl rfl, tb2 226 rfl rfl, tb2 227 rfl rfl⟩
theorem lk_L_44 : ow_LV "OwnerRingsLaw" 44 Y_R_get "OwnerRings" := ⟨tb2 237 rfl rfl, tb2 238 rfl rfl, tb2 239 rfl rfl⟩
theorem lk_L_47 : ow_LV "OwnerRingsLaw" 47 Y_R_modify "OwnerRings" := ⟨tb3 13 rfl rfl, tb3 14 rfl rfl, tb3 15 rfl rfl⟩
theorem lk_L_50 : ow_LV "OwnerRingsLaw" 50 Y_R_connect "OwnerRings" := ⟨tb3 38 rfl rfl, tb3 39 rfl rfl, tb3 40 rfl rfl⟩
theorem lk_L_54 : ow_LV "OwnerRingsLaw" 54 Y_R_disconnect "OwnerRings" := ⟨tb3 46 rfl rfl, tb3 47 rfl rfl, tb3 48 rfl rfl⟩
theorem lk_L_57 : ow_LV "OwnerRingsLaw" 57 Y_R_reconnect "OwnerRings" := ⟨tb3 62 rfl rfl, tb3 63 rfl rfl, tb3 64 rfl rfl⟩
theorem lk_L_60 : ow_LV "OwnerRingsLaw" 60 Y_R_erase "OwnerRings" := ⟨tb3 70 rfl rfl, tb3 71 rfl rfl, tb3 72 rfl rfl⟩
theorem lk_L_63 : ow_LV "OwnerRingsLaw" 63 Y_R_members "OwnerRings" := ⟨tb3 120 rfl rfl, tb3 121 rfl rfl, tb3 122 rfl rfl⟩
theorem lk_L_66 : ow_LV "OwnerRingsLaw" 66 Y_R_owner "OwnerRings" := ⟨tb3 127 rfl rfl, tb3 128 rfl rfl, tb3 129 rfl rfl⟩
theorem lk_L_69 : ow_LI "OwnerRingsLaw" 69 Y_R_init := ⟨tb1 16 rfl rfl, tb1 17 rfl rfl, rfl⟩
theorem lk_L_72 : ow_LI "OwnerRingsLaw" 72 Y_M_init := ⟨tb3 133 rfl rfl, tb3 134 rfl rfl, rfl⟩
theorem lk_L_73 : ow_LS "OwnerRingsLaw" 73 Y_L_type := ⟨tb1 151 rfl rfl, tb1 152 rfl rfl⟩
theorem lk_L_78 : ow_LV "OwnerRingsLaw" 78 Y_M_type "OwnerRingsModel" := ⟨tb3 228 rfl rfl, tb3 229 rfl rfl, tb3 230 rfl rfl⟩
theorem lk_L_79 : ow_LV "OwnerRingsLaw" 79 Y_M_thrown "OwnerRingsModel" := ⟨tb3 224 rfl rfl, tb3 225 rfl rfl, tb3 226 rfl rfl⟩
theorem lk_L_83 : ow_LS "OwnerRingsLaw" 83 Y_L_set := ⟨tb2 8 rfl rfl, tb2 9 rfl rfl⟩
theorem lk_L_86 : ow_LV "OwnerRingsLaw" 86 Y_M_set "OwnerRingsModel" := ⟨tb3 232 rfl rfl, tb3 233 rfl rfl, tb3 234 rfl rfl⟩
theorem lk_L_87 : ow_LS "OwnerRingsLaw" 87 Y_L_store := ⟨tb2 35 rfl rfl, tb2 36 rfl rfl⟩
theorem lk_L_89 : ow_LV "OwnerRingsLaw" 89 Y_M_store "OwnerRingsModel" := ⟨tb4 3 rfl rfl, tb4 4 rfl rfl, tb4 5 rfl rfl⟩
theorem lk_L_90 : ow_LS "OwnerRingsLaw" 90 Y_L_find := ⟨tb2 149 rfl rfl, tb2 150 rfl rfl⟩
theorem lk_L_93 : ow_LV "OwnerRingsLaw" 93 Y_M_find "OwnerRingsModel" := ⟨tb4 43 rfl rfl, tb4 44 rfl rfl, tb4 45 rfl rfl⟩
theorem lk_L_94 : ow_LS "OwnerRingsLaw" 94 Y_L_seek := ⟨tb2 165 rfl rfl, tb2 166 rfl rfl⟩
theorem lk_L_97 : ow_LV "OwnerRingsLaw" 97 Y_M_seek "OwnerRingsModel" := ⟨tb4 51 rfl rfl, tb4 52 rfl rfl, tb4 53 rfl rfl⟩
theorem lk_L_98 : ow_LS "OwnerRingsLaw" 98 Y_L_move := ⟨tb2 183 rfl rfl, tb2 184 rfl rfl⟩
theorem lk_L_101 : ow_LV "OwnerRingsLaw" 101 Y_M_move "OwnerRingsModel" := ⟨tb4 59 rfl rfl, tb4 60 rfl rfl, tb4 61 rfl rfl⟩
theorem lk_L_102 : ow_LS "OwnerRingsLaw" 102 Y_L_scan := ⟨tb2 208 rfl rfl, tb2 209 rfl rfl⟩
theorem lk_L_104 : ow_LV "OwnerRingsLaw" 104 Y_M_scan "OwnerRingsModel" := ⟨tb4 75 rfl rfl, tb4 76 rfl rfl, tb4 77 rfl rfl⟩
theorem lk_L_105 : ow_LS "OwnerRingsLaw" 105 Y_L_current := ⟨tb2 222 rfl rfl, tb2 223 rfl rfl⟩
theorem lk_L_107 : ow_LV "OwnerRingsLaw" 107 Y_M_current "OwnerRingsModel" := ⟨tb4 79 rfl rfl, tb4 80 rfl rfl, tb4 81 rfl rfl⟩
theorem lk_L_108 : ow_LS "OwnerRingsLaw" 108 Y_L_get := ⟨tb2 234 rfl rfl, tb2 235 rfl rfl⟩
theorem lk_L_110 : ow_LV "OwnerRingsLaw" 110 Y_M_get "OwnerRingsModel" := ⟨tb4 83 rfl rfl, tb4 84 rfl rfl, tb4 85 rfl rfl⟩
theorem lk_L_111 : ow_LS "OwnerRingsLaw" 111 Y_L_modify := ⟨tb3 10 rfl rfl, tb3 11 rfl rfl⟩
theorem lk_L_113 : ow_LV "OwnerRingsLaw" 113 Y_M_modify "OwnerRingsModel" := ⟨tb4 87 rfl rfl, tb4 88 rfl rfl, tb4 89 rfl rfl⟩
theorem lk_L_114 : ow_LS "OwnerRingsLaw" 114 Y_L_connect := ⟨tb3 35 rfl rfl, tb3 36 rfl rfl⟩
theorem lk_L_117 : ow_LV "OwnerRingsLaw" 117 Y_M_connect "OwnerRingsModel" := ⟨tb4 99 rfl rfl, tb4 100 rfl rfl, tb4 101 rfl rfl⟩
theorem lk_L_118 : ow_LS "OwnerRingsLaw" 118 Y_L_disconnect := ⟨tb3 43 rfl rfl, tb3 44 rfl rfl⟩
theorem lk_L_120 : ow_LV "OwnerRingsLaw" 120 Y_M_disconnect "OwnerRingsModel" := ⟨tb4 107 rfl rfl, tb4 108 rfl rfl, tb4 109 rfl rfl⟩
theorem lk_L_121 : ow_LS "OwnerRingsLaw" 121 Y_L_reconnect := ⟨tb3 59 rfl rfl, tb3 60 rfl rfl⟩
theorem lk_L_123 : ow_LV "OwnerRingsLaw" 123 Y_M_reconnect "OwnerRingsModel" := ⟨tb4 111 rfl rfl, tb4 112 rfl rfl, tb4 113 rfl rfl⟩
theorem lk_L_124 : ow_LS "OwnerRingsLaw" 124 Y_L_erase := ⟨tb3 67 rfl rfl, tb3 68 rfl rfl⟩
theorem lk_L_126 : ow_LV "OwnerRingsLaw" 126 Y_M_erase "OwnerRingsModel" := ⟨tb4 115 rfl rfl, tb4 116 rfl rfl, tb4 117 rfl rfl⟩
theorem lk_L_127 : ow_LS "OwnerRingsLaw" 127 Y_L_members := ⟨tb3 117 rfl rfl, tb3 118 rfl rfl⟩
theorem lk_L_129 : ow_LV "OwnerRingsLaw" 129 Y_M_members "OwnerRingsModel" := ⟨tb4 143 rfl rfl, tb4 144 rfl rfl, tb4 145 rfl rfl⟩
theorem lk_L_130 : ow_LS "OwnerRingsLaw" 130 Y_L_owner := ⟨tb3 124 rfl rfl, tb3 125 rfl rfl⟩
theorem lk_L_132 : ow_LV "OwnerRingsLaw" 132 Y_M_owner "OwnerRingsModel" := ⟨tb4 147 rfl rfl, tb4 148 rfl rfl, tb4 149 rfl rfl⟩
theorem lk_L_133 : ow_LV "OwnerRingsLaw" 133 Y_R_keep "OwnerRings" := ⟨tb1 131 rfl rfl, tb1 132 rfl rfl, tb1 133 rfl rfl⟩
theorem lk_L_136 : ow_LV "OwnerRingsLaw" 136 Y_M_keep "OwnerRingsModel" := ⟨tb4 151 rfl rfl, tb4 152 rfl rfl, tb4 153 rfl rfl⟩
theorem lk_L_137 : ow_LV "OwnerRingsLaw" 137 Y_R_rollBack "OwnerRings" := ⟨tb1 142 rfl rfl, tb1 143 rfl rfl, tb1 144 rfl rfl⟩
theorem lk_L_140 : ow_LV "OwnerRingsLaw" 140 Y_M_rollBack "OwnerRingsModel" := ⟨tb4 159 rfl rfl, tb4 160 rfl rfl, tb4 161 rfl rfl⟩
theorem lk_L_141 : ow_LV "OwnerRingsLaw" 141 Y_R_count "OwnerRings" := ⟨tb1 147 rfl rfl, tb1 148 rfl rfl, tb1 149 rfl rfl⟩
theorem lk_L_144 : ow_LV "OwnerRingsLaw" 144 Y_M_count "OwnerRingsModel" := ⟨tb4 163 rfl rfl, tb4 164 rfl rfl, tb4 165 rfl rfl⟩
theorem lk_M_81 : ow_LV "OwnerRingsModel" 81 Y_M_forget "OwnerRingsModel" := ⟨tb3 137 rfl rfl, tb3 139 rfl rfl, tbs 25 rfl rfl⟩
theorem lk_M_97 : ow_LV "OwnerRingsModel" 97 Y_M_isType "OwnerRingsModel" := ⟨tb3 236 rfl rfl, tb3 238 rfl rfl, tbs 26 rfl rfl⟩
theorem lk_M_101 : ow_LS "OwnerRingsModel" 101 Y_M_isOrder := ⟨tb4 0 rfl rfl, tb4 1 rfl rfl⟩
theorem lk_M_105 : ow_LV "OwnerRingsModel" 105 Y_M_nextIn "OwnerRingsModel" := ⟨tb4 35 rfl rfl, tb4 37 rfl rfl, tbs 34 rfl rfl⟩
theorem lk_M_109 : ow_LV "OwnerRingsModel" 109 Y_M_placeOf "OwnerRingsModel" := ⟨tb4 27 rfl rfl, tb4 29 rfl rfl, tbs 32 rfl rfl⟩
theorem lk_M_113 : ow_LV "OwnerRingsModel" 113 Y_M_firstOf "OwnerRingsModel" := ⟨tb4 31 rfl rfl, tb4 33 rfl rfl, tbs 33 rfl rfl⟩
theorem lk_M_116 : ow_LV "OwnerRingsModel" 116 Y_M_placeFor "OwnerRingsModel" := ⟨tb4 23 rfl rfl, tb4 25 rfl rfl, tbs 31 rfl rfl⟩
theorem lk_M_120 : ow_LV "OwnerRingsModel" 120 Y_M_currentOwner "OwnerRingsModel" := ⟨tb4 11 rfl rfl, tb4 13 rfl rfl, tbs 28 rfl rfl⟩
theorem lk_M_124 : ow_LV "OwnerRingsModel" 124 Y_M_isRefused "OwnerRingsModel" := ⟨tb4 15 rfl rfl, tb4 17 rfl rfl, tbs 29 rfl rfl⟩
theorem lk_M_128 : ow_LV "OwnerRingsModel" 128 Y_M_objection "OwnerRingsModel" := ⟨tb4 7 rfl rfl, tb4 9 rfl rfl, tbs 27 rfl rfl⟩
theorem lk_M_131 : ow_LV "OwnerRingsModel" 131 Y_M_join "OwnerRingsModel" := ⟨tb4 19 rfl rfl, tb4 21 rfl rfl, tbs 30 rfl rfl⟩
theorem lk_M_135 : ow_LV "OwnerRingsModel" 135 Y_M_come "OwnerRingsModel" := ⟨tb4 39 rfl rfl, tb4 41 rfl rfl, tbs 35 rfl rfl⟩
theorem lk_M_139 : ow_LV "OwnerRingsModel" 139 Y_M_recordWith "OwnerRingsModel" := ⟨tb4 47 rfl rfl, tb4 49 rfl rfl, tbs 36 rfl rfl⟩
theorem lk_M_142 : ow_LV "OwnerRingsModel" 142 Y_M_comeTo "OwnerRingsModel" := ⟨tb4 55 rfl rfl, tb4 57 rfl rfl, tbs 37 rfl rfl⟩
theorem lk_M_145 : ow_LV "OwnerRingsModel" 145 Y_M_lastOf "OwnerRingsModel" := ⟨tb4 67 rfl rfl, tb4 69 rfl rfl, tbs 39 rfl rfl⟩
theorem lk_M_148 : ow_LV "OwnerRingsModel" 148 Y_M_isSet "OwnerRingsModel" := ⟨tb4 63 rfl rfl, tb4 65 rfl rfl, tbs 38 rfl rfl⟩
theorem lk_M_151 : ow_LV "OwnerRingsModel" 151 Y_M_beside "OwnerRingsModel" := ⟨tb4 71 rfl rfl, tb4 73 rfl rfl, tbs 40 rfl rfl⟩
theorem lk_M_154 : ow_LV "OwnerRingsModel" 154 Y_M_isSortedBy "OwnerRingsModel" := ⟨tb4 91 rfl rfl, tb4 93 rfl rfl, tbs 41 rfl rfl⟩
theorem lk_M_157 : ow_LV "OwnerRingsModel" 157 Y_M_leave "OwnerRingsModel" := ⟨tb4 95 rfl rfl, tb4 97 rfl rfl, tbs 42 rfl rfl⟩
theorem lk_M_160 : ow_LV "OwnerRingsModel" 160 Y_M_valueIn "OwnerRingsModel" := ⟨tb4 103 rfl rfl, tb4 105 rfl rfl, tbs 43 rfl rfl⟩
theorem lk_M_163 : ow_LV "OwnerRingsModel" 163 Y_M_takes "OwnerRingsModel" := ⟨tb4 127 rfl rfl, tb4 129 rfl rfl, tbs 46 rfl rfl⟩
theorem lk_M_166 : ow_LV "OwnerRingsModel" 166 Y_M_ownedMembers "OwnerRingsModel" := ⟨tb4 119 rfl rfl, tb4 121 rfl rfl, tbs 44 rfl rfl⟩
theorem lk_M_169 : ow_LV "OwnerRingsModel" 169 Y_M_spread "OwnerRingsModel" := ⟨tb4 123 rfl rfl, tb4 125 rfl rfl, tbs 45 rfl rfl⟩
theorem lk_M_173 : ow_LV "OwnerRingsModel" 173 Y_M_strands "OwnerRingsModel" := ⟨tb4 131 rfl rfl, tb4 133 rfl rfl, tbs 47 rfl rfl⟩
theorem lk_M_177 : ow_LV "OwnerRingsModel" 177 Y_M_heir "OwnerRingsModel" := ⟨tb4 135 rfl rfl, tb4 137 rfl rfl, tbs 48 rfl rfl⟩
theorem lk_M_180 : ow_LV "OwnerRingsModel" 180 Y_M_sweep "OwnerRingsModel" := ⟨tb4 139 rfl rfl, tb4 141 rfl rfl, tbs 49 rfl rfl⟩
theorem lk_M_184 : ow_LV "OwnerRingsModel" 184 Y_M_records "OwnerRingsModel" := ⟨tb4 155 rfl rfl, tb4 157 rfl rfl, tbs 50 rfl rfl⟩
theorem f_R_10 : ow_F "OwnerRings" 10 0 0 := ⟨_, _, rfl, by decide, ow_in0, tb1 115 rfl rfl⟩
theorem fw_R_10 : ow_Fw "OwnerRings" 10 0 0 true (ow_ty0 0) := ⟨_, _, ow_ty0, rfl, by decide, ow_in0, tb1 115 rfl rfl, ow_tyo0, ow_nm0, rfl, (fun _ => rfl), ow_tyo0 _ (by decide)⟩
theorem f_R_19 : ow_F "OwnerRings" 19 0 1 := ⟨_, _, rfl, by decide, ow_in0, tb1 116 rfl rfl⟩
theorem fw_R_19 : ow_Fw "OwnerRings" 19 0 1 true (ow_ty0 1) := ⟨_, _, ow_ty0, rfl, by decide, ow_in0, tb1 116 rfl rfl, ow_tyo0, ow_nm0, rfl, (fun _ => rfl), ow_tyo0 _ (by decide)⟩
theorem f_R_23 : ow_F "OwnerRings" 23 0 2 := ⟨_, _, rfl, by decide, ow_in0, tb1 117 rfl rfl⟩
theorem fw_R_23 : ow_Fw "OwnerRings" 23 0 2 true (ow_ty0 2) := ⟨_, _, ow_ty0, rfl, by decide, ow_in0, tb1 117 rfl rfl, ow_tyo0, ow_nm0, rfl, (fun _ => rfl), ow_tyo0 _ (by decide)⟩
theorem f_R_29 : ow_F "OwnerRings" 29 0 3 := ⟨_, _, rfl, by decide, ow_in0, tb1 118 rfl rfl⟩
theorem fw_R_29 : ow_Fw "OwnerRings" 29 0 3 true (ow_ty0 3) := ⟨_, _, ow_ty0, rfl, by decide, ow_in0, tb1 118 rfl rfl, ow_tyo0, ow_nm0, rfl, (fun _ => rfl), ow_tyo0 _ (by decide)⟩
theorem f_R_33 : ow_F "OwnerRings" 33 0 4 := ⟨_, _, rfl, by decide, ow_in0, tb1 119 rfl rfl⟩
theorem fw_R_33 : ow_Fw "OwnerRings" 33 0 4 false (ow_ty0 4) := ⟨_, _, ow_ty0, rfl, by decide, ow_in0, tb1 119 rfl rfl, ow_tyo0, ow_nm0, rfl, (fun _ => rfl), ow_tyo0 _ (by decide)⟩
theorem f_R_44 : ow_F "OwnerRings" 44 1 0 := ⟨_, _, rfl, by decide, ow_in1, tb1 29 rfl rfl⟩
theorem fw_R_44 : ow_Fw "OwnerRings" 44 1 0 false (ow_ty1 0) := ⟨_, _, ow_ty1, rfl, by decide, ow_in1, tb1 29 rfl rfl, ow_tyo1, ow_nm1, rfl, (fun h => nomatch h), ow_tyo1 _ (by decide)⟩
theorem f_R_69 : ow_F "OwnerRings" 69 1 1 := ⟨_, _, rfl, by decide, ow_in1, tb1 31 rfl rfl⟩
theorem fw_R_69 : ow_Fw "OwnerRings" 69 1 1 false (ow_ty1 1) := ⟨_, _, ow_ty1, rfl, by decide, ow_in1, tb1 31 rfl rfl, ow_tyo1, ow_nm1, rfl, (fun h => nomatch h), ow_tyo1 _ (by decide)⟩
theorem f_R_114 : ow_F "OwnerRings" 114 2 2 := ⟨_, _, rfl, by decide, ow_in2, tb1 68 rfl rfl⟩
theorem f_R_142 : ow_F "OwnerRings" 142 1 4 := ⟨_, _, rfl, by decide, ow_in1, tb1 36 rfl rfl⟩
theorem f_R_150 : ow_F "OwnerRings" 150 2 6 := ⟨_, _, rfl, by decide, ow_in2, tb1 76 rfl rfl⟩
theorem f_R_154 : ow_F "OwnerRings" 154 3 2 := ⟨_, _, rfl, by decide, ow_in3, tb1 107 rfl rfl⟩
theorem f_R_161 : ow_F "OwnerRings" 161 3 0 := ⟨_, _, rfl, by decide, ow_in3, tb1 103 rfl rfl⟩
theorem fw_R_161 : ow_Fw "OwnerRings" 161 3 0 false (ow_ty3 0) := ⟨_, _, ow_ty3, rfl, by decide, ow_in3, tb1 103 rfl rfl, ow_tyo3, ow_nm3, rfl, (fun h => nomatch h), ow_tyo3 _ (by decide)⟩
theorem f_R_167 : ow_F "OwnerRings" 167 3 1 := ⟨_, _, rfl, by decide, ow_in3, tb1 105 rfl rfl⟩
theorem f_R_181 : ow_F "OwnerRings" 181 2 4 := ⟨_, _, rfl, by decide, ow_in2, tb1 72 rfl rfl⟩
theorem f_R_190 : ow_F "OwnerRings" 190 2 3 := ⟨_, _, rfl, by decide, ow_in2, tb1 70 rfl rfl⟩
theorem f_R_243 : ow_F "OwnerRings" 243 2 5 := ⟨_, _, rfl, by decide, ow_in2, tb1 74 rfl rfl⟩
theorem f_R_250 : ow_F "OwnerRings" 250 2 0 := ⟨_, _, rfl, by decide, ow_in2, tb1 65 rfl rfl⟩
theorem fw_R_250 : ow_Fw "OwnerRings" 250 2 0 false (ow_ty2 0) := ⟨_, _, ow_ty2, rfl, by decide, ow_in2, tb1 65 rfl rfl, ow_tyo2, ow_nm2, rfl, (fun h => nomatch h), ow_tyo2 _ (by decide)⟩
theorem f_R_282 : ow_F "OwnerRings" 282 1 5 := ⟨_, _, rfl, by decide, ow_in1, tb1 38 rfl rfl⟩
theorem f_R_291 : ow_F "OwnerRings" 291 1 3 := ⟨_, _, rfl, by decide, ow_in1, tb1 34 rfl rfl⟩
theorem f_B_9 : ow_F "OwnerRings$Base" 9 2 0 := ⟨_, _, rfl, by decide, ow_in2, tb1 64 rfl rfl⟩
theorem fw_B_9 : ow_Fw "OwnerRings$Base" 9 2 0 false (ow_ty2 0) := ⟨_, _, ow_ty2, rfl, by decide, ow_in2, tb1 64 rfl rfl, ow_tyo2, ow_nm2, rfl, (fun _ => rfl), ow_tyo2 _ (by decide)⟩
theorem f_B_15 : ow_F "OwnerRings$Base" 15 2 1 := ⟨_, _, rfl, by decide, ow_in2, tb1 66 rfl rfl⟩
theorem fw_B_15 : ow_Fw "OwnerRings$Base" 15 2 1 false (ow_ty2 1) := ⟨_, _, ow_ty2, rfl, by decide, ow_in2, tb1 66 rfl rfl, ow_tyo2, ow_nm2, rfl, (fun _ => rfl), ow_tyo2 _ (by decide)⟩
theorem f_B_18 : ow_F "OwnerRings$Base" 18 2 2 := ⟨_, _, rfl, by decide, ow_in2, tb1 67 rfl rfl⟩
theorem fw_B_18 : ow_Fw "OwnerRings$Base" 18 2 2 true (ow_ty2 2) := ⟨_, _, ow_ty2, rfl, by decide, ow_in2, tb1 67 rfl rfl, ow_tyo2, ow_nm2, rfl, (fun _ => rfl), ow_tyo2 _ (by decide)⟩
theorem f_B_22 : ow_F "OwnerRings$Base" 22 2 3 := ⟨_, _, rfl, by decide, ow_in2, tb1 69 rfl rfl⟩
theorem fw_B_22 : ow_Fw "OwnerRings$Base" 22 2 3 true (ow_ty2 3) := ⟨_, _, ow_ty2, rfl, by decide, ow_in2, tb1 69 rfl rfl, ow_tyo2, ow_nm2, rfl, (fun _ => rfl), ow_tyo2 _ (by decide)⟩
theorem f_B_27 : ow_F "OwnerRings$Base" 27 2 4 := ⟨_, _, rfl, by decide, ow_in2, tb1 71 rfl rfl⟩
theorem fw_B_27 : ow_Fw "OwnerRings$Base" 27 2 4 true (ow_ty2 4) := ⟨_, _, ow_ty2, rfl, by decide, ow_in2, tb1 71 rfl rfl, ow_tyo2, ow_nm2, rfl, (fun _ => rfl), ow_tyo2 _ (by decide)⟩
theorem f_B_30 : ow_F "OwnerRings$Base" 30 2 5 := ⟨_, _, rfl, by decide, ow_in2, tb1 73 rfl rfl⟩
theorem fw_B_30 : ow_Fw "OwnerRings$Base" 30 2 5 true (ow_ty2 5) := ⟨_, _, ow_ty2, rfl, by decide, ow_in2, tb1 73 rfl rfl, ow_tyo2, ow_nm2, rfl, (fun _ => rfl), ow_tyo2 _ (by decide)⟩
theorem f_B_33 : ow_F "OwnerRings$Base" 33 2 6 := ⟨_, _, rfl, by decide, ow_in2, tb1 75 rfl rfl⟩
theorem fw_B_33 : ow_Fw "OwnerRings$Base" 33 2 6 true (ow_ty2 6) := ⟨_, _, ow_ty2, rfl, by decide, ow_in2, tb1 75 rfl rfl, ow_tyo2, ow_nm2, rfl, (fun _ => rfl), ow_tyo2 _ (by decide)⟩
theorem f_P_9 : ow_F "OwnerRings$Plan" 9 1 0 := ⟨_, _, rfl, by decide, ow_in1, tb1 28 rfl rfl⟩
theorem fw_P_9 : ow_Fw "OwnerRings$Plan" 9 1 0 false (ow_ty1 0) := ⟨_, _, ow_ty1, rfl, by decide, ow_in1, tb1 28 rfl rfl, ow_tyo1, ow_nm1, rfl, (fun _ => rfl), ow_tyo1 _ (by decide)⟩
theorem f_P_15 : ow_F "OwnerRings$Plan" 15 1 1 := ⟨_, _, rfl, by decide, ow_in1, tb1 30 rfl rfl⟩
theorem fw_P_15 : ow_Fw "OwnerRings$Plan" 15 1 1 false (ow_ty1 1) := ⟨_, _, ow_ty1, rfl, by decide, ow_in1, tb1 30 rfl rfl, ow_tyo1, ow_nm1, rfl, (fun _ => rfl), ow_tyo1 _ (by decide)⟩
theorem f_P_18 : ow_F "OwnerRings$Plan" 18 1 2 := ⟨_, _, rfl, by decide, ow_in1, tb1 32 rfl rfl⟩
theorem fw_P_18 : ow_Fw "OwnerRings$Plan" 18 1 2 true (ow_ty1 2) := ⟨_, _, ow_ty1, rfl, by decide, ow_in1, tb1 32 rfl rfl, ow_tyo1, ow_nm1, rfl, (fun _ => rfl), ow_tyo1 _ (by decide)⟩
theorem f_P_22 : ow_F "OwnerRings$Plan" 22 1 3 := ⟨_, _, rfl, by decide, ow_in1, tb1 33 rfl rfl⟩
theorem fw_P_22 : ow_Fw "OwnerRings$Plan" 22 1 3 true (ow_ty1 3) := ⟨_, _, ow_ty1, rfl, by decide, ow_in1, tb1 33 rfl rfl, ow_tyo1, ow_nm1, rfl, (fun _ => rfl), ow_tyo1 _ (by decide)⟩
theorem f_P_25 : ow_F "OwnerRings$Plan" 25 1 4 := ⟨_, _, rfl, by decide, ow_in1, tb1 35 rfl rfl⟩
theorem fw_P_25 : ow_Fw "OwnerRings$Plan" 25 1 4 true (ow_ty1 4) := ⟨_, _, ow_ty1, rfl, by decide, ow_in1, tb1 35 rfl rfl, ow_tyo1, ow_nm1, rfl, (fun _ => rfl), ow_tyo1 _ (by decide)⟩
theorem f_P_28 : ow_F "OwnerRings$Plan" 28 1 5 := ⟨_, _, rfl, by decide, ow_in1, tb1 37 rfl rfl⟩
theorem fw_P_28 : ow_Fw "OwnerRings$Plan" 28 1 5 true (ow_ty1 5) := ⟨_, _, ow_ty1, rfl, by decide, ow_in1, tb1 37 rfl rfl, ow_tyo1, ow_nm1, rfl, (fun _ => rfl), ow_tyo1 _ (by decide)⟩
theorem f_P_31 : ow_F "OwnerRings$Plan" 31 1 6 := ⟨_, _, rfl, by decide, ow_in1, tb1 39 rfl rfl⟩
theorem fw_P_31 : ow_Fw "OwnerRings$Plan" 31 1 6 true (ow_ty1 6) := ⟨_, _, ow_ty1, rfl, by decide, ow_in1, tb1 39 rfl rfl, ow_tyo1, ow_nm1, rfl, (fun _ => rfl), ow_tyo1 _ (by decide)⟩
theorem f_S_9 : ow_F "OwnerRings$Stand" 9 3 0 := ⟨_, _, rfl, by decide, ow_in3, tb1 102 rfl rfl⟩
theorem fw_S_9 : ow_Fw "OwnerRings$Stand" 9 3 0 false (ow_ty3 0) := ⟨_, _, ow_ty3, rfl, by decide, ow_in3, tb1 102 rfl rfl, ow_tyo3, ow_nm3, rfl, (fun _ => rfl), ow_tyo3 _ (by decide)⟩
theorem f_S_15 : ow_F "OwnerRings$Stand" 15 3 1 := ⟨_, _, rfl, by decide, ow_in3, tb1 104 rfl rfl⟩
theorem fw_S_15 : ow_Fw "OwnerRings$Stand" 15 3 1 true (ow_ty3 1) := ⟨_, _, ow_ty3, rfl, by decide, ow_in3, tb1 104 rfl rfl, ow_tyo3, ow_nm3, rfl, (fun _ => rfl), ow_tyo3 _ (by decide)⟩
theorem f_S_19 : ow_F "OwnerRings$Stand" 19 3 2 := ⟨_, _, rfl, by decide, ow_in3, tb1 106 rfl rfl⟩
theorem fw_S_19 : ow_Fw "OwnerRings$Stand" 19 3 2 true (ow_ty3 2) := ⟨_, _, ow_ty3, rfl, by decide, ow_in3, tb1 106 rfl rfl, ow_tyo3, ow_nm3, rfl, (fun _ => rfl), ow_tyo3 _ (by decide)⟩
theorem f_M_7 : ow_F "OwnerRingsModel" 7 4 2 := ⟨_, _, rfl, by decide, ow_in4, tb3 143 rfl rfl⟩
theorem fw_M_7 : ow_Fw "OwnerRingsModel" 7 4 2 true (ow_ty4 2) := ⟨_, _, ow_ty4, rfl, by decide, ow_in4, tb3 143 rfl rfl, ow_tyo4, ow_nm4, rfl, (fun _ => rfl), ow_tyo4 _ (by decide)⟩
theorem f_M_13 : ow_F "OwnerRingsModel" 13 4 4 := ⟨_, _, rfl, by decide, ow_in4, tb3 145 rfl rfl⟩
theorem fw_M_13 : ow_Fw "OwnerRingsModel" 13 4 4 true (ow_ty4 4) := ⟨_, _, ow_ty4, rfl, by decide, ow_in4, tb3 145 rfl rfl, ow_tyo4, ow_nm4, rfl, (fun _ => rfl), ow_tyo4 _ (by decide)⟩
theorem f_M_16 : ow_F "OwnerRingsModel" 16 4 5 := ⟨_, _, rfl, by decide, ow_in4, tb3 146 rfl rfl⟩
theorem fw_M_16 : ow_Fw "OwnerRingsModel" 16 4 5 true (ow_ty4 5) := ⟨_, _, ow_ty4, rfl, by decide, ow_in4, tb3 146 rfl rfl, ow_tyo4, ow_nm4, rfl, (fun _ => rfl), ow_tyo4 _ (by decide)⟩
theorem f_M_19 : ow_F "OwnerRingsModel" 19 4 6 := ⟨_, _, rfl, by decide, ow_in4, tb3 147 rfl rfl⟩
theorem fw_M_19 : ow_Fw "OwnerRingsModel" 19 4 6 true (ow_ty4 6) := ⟨_, _, ow_ty4, rfl, by decide, ow_in4, tb3 147 rfl rfl, ow_tyo4, ow_nm4, rfl, (fun _ => rfl), ow_tyo4 _ (by decide)⟩
theorem f_M_22 : ow_F "OwnerRingsModel" 22 4 7 := ⟨_, _, rfl, by decide, ow_in4, tb3 148 rfl rfl⟩
theorem fw_M_22 : ow_Fw "OwnerRingsModel" 22 4 7 true (ow_ty4 7) := ⟨_, _, ow_ty4, rfl, by decide, ow_in4, tb3 148 rfl rfl, ow_tyo4, ow_nm4, rfl, (fun _ => rfl), ow_tyo4 _ (by decide)⟩
theorem f_M_25 : ow_F "OwnerRingsModel" 25 4 9 := ⟨_, _, rfl, by decide, ow_in4, tb3 150 rfl rfl⟩
theorem fw_M_25 : ow_Fw "OwnerRingsModel" 25 4 9 false (ow_ty4 9) := ⟨_, _, ow_ty4, rfl, by decide, ow_in4, tb3 150 rfl rfl, ow_tyo4, ow_nm4, rfl, (fun _ => rfl), ow_tyo4 _ (by decide)⟩
theorem f_M_29 : ow_F "OwnerRingsModel" 29 4 10 := ⟨_, _, rfl, by decide, ow_in4, tb3 151 rfl rfl⟩
theorem fw_M_29 : ow_Fw "OwnerRingsModel" 29 4 10 true (ow_ty4 10) := ⟨_, _, ow_ty4, rfl, by decide, ow_in4, tb3 151 rfl rfl, ow_tyo4, ow_nm4, rfl, (fun _ => rfl), ow_tyo4 _ (by decide)⟩
theorem f_M_32 : ow_F "OwnerRingsModel" 32 4 11 := ⟨_, _, rfl, by decide, ow_in4, tb3 152 rfl rfl⟩
theorem fw_M_32 : ow_Fw "OwnerRingsModel" 32 4 11 true (ow_ty4 11) := ⟨_, _, ow_ty4, rfl, by decide, ow_in4, tb3 152 rfl rfl, ow_tyo4, ow_nm4, rfl, (fun _ => rfl), ow_tyo4 _ (by decide)⟩
theorem f_M_35 : ow_F "OwnerRingsModel" 35 4 12 := ⟨_, _, rfl, by decide, ow_in4, tb3 153 rfl rfl⟩
theorem fw_M_35 : ow_Fw "OwnerRingsModel" 35 4 12 true (ow_ty4 12) := ⟨_, _, ow_ty4, rfl, by decide, ow_in4, tb3 153 rfl rfl, ow_tyo4, ow_nm4, rfl, (fun _ => rfl), ow_tyo4 _ (by decide)⟩
theorem f_M_38 : ow_F "OwnerRingsModel" 38 4 13 := ⟨_, _, rfl, by decide, ow_in4, tb3 154 rfl rfl⟩
theorem fw_M_38 : ow_Fw "OwnerRingsModel" 38 4 13 true (ow_ty4 13) := ⟨_, _, ow_ty4, rfl, by decide, ow_in4, tb3 154 rfl rfl, ow_tyo4, ow_nm4, rfl, (fun _ => rfl), ow_tyo4 _ (by decide)⟩
theorem f_M_41 : ow_F "OwnerRingsModel" 41 4 14 := ⟨_, _, rfl, by decide, ow_in4, tb3 155 rfl rfl⟩
theorem fw_M_41 : ow_Fw "OwnerRingsModel" 41 4 14 true (ow_ty4 14) := ⟨_, _, ow_ty4, rfl, by decide, ow_in4, tb3 155 rfl rfl, ow_tyo4, ow_nm4, rfl, (fun _ => rfl), ow_tyo4 _ (by decide)⟩
theorem f_M_44 : ow_F "OwnerRingsModel" 44 4 15 := ⟨_, _, rfl, by decide, ow_in4, tb3 156 rfl rfl⟩
theorem fw_M_44 : ow_Fw "OwnerRingsModel" 44 4 15 true (ow_ty4 15) := ⟨_, _, ow_ty4, rfl, by decide, ow_in4, tb3 156 rfl rfl, ow_tyo4, ow_nm4, rfl, (fun _ => rfl), ow_tyo4 _ (by decide)⟩
theorem f_M_47 : ow_F "OwnerRingsModel" 47 4 16 := ⟨_, _, rfl, by decide, ow_in4, tb3 157 rfl rfl⟩
theorem fw_M_47 : ow_Fw "OwnerRingsModel" 47 4 16 false (ow_ty4 16) := ⟨_, _, ow_ty4, rfl, by decide, ow_in4, tb3 157 rfl rfl, ow_tyo4, ow_nm4, rfl, (fun _ => rfl), ow_tyo4 _ (by decide)⟩
theorem f_M_50 : ow_F "OwnerRingsModel" 50 4 17 := ⟨_, _, rfl, by decide, ow_in4, tb3 158 rfl rfl⟩
theorem fw_M_50 : ow_Fw "OwnerRingsModel" 50 4 17 true (ow_ty4 17) := ⟨_, _, ow_ty4, rfl, by decide, ow_in4, tb3 158 rfl rfl, ow_tyo4, ow_nm4, rfl, (fun _ => rfl), ow_tyo4 _ (by decide)⟩
theorem f_M_53 : ow_F "OwnerRingsModel" 53 4 18 := ⟨_, _, rfl, by decide, ow_in4, tb3 159 rfl rfl⟩
theorem fw_M_53 : ow_Fw "OwnerRingsModel" 53 4 18 true (ow_ty4 18) := ⟨_, _, ow_ty4, rfl, by decide, ow_in4, tb3 159 rfl rfl, ow_tyo4, ow_nm4, rfl, (fun _ => rfl), ow_tyo4 _ (by decide)⟩
theorem f_M_56 : ow_F "OwnerRingsModel" 56 4 19 := ⟨_, _, rfl, by decide, ow_in4, tb3 160 rfl rfl⟩
theorem fw_M_56 : ow_Fw "OwnerRingsModel" 56 4 19 true (ow_ty4 19) := ⟨_, _, ow_ty4, rfl, by decide, ow_in4, tb3 160 rfl rfl, ow_tyo4, ow_nm4, rfl, (fun _ => rfl), ow_tyo4 _ (by decide)⟩
theorem f_M_60 : ow_F "OwnerRingsModel" 60 4 20 := ⟨_, _, rfl, by decide, ow_in4, tb3 161 rfl rfl⟩
theorem fw_M_60 : ow_Fw "OwnerRingsModel" 60 4 20 false (ow_ty4 20) := ⟨_, _, ow_ty4, rfl, by decide, ow_in4, tb3 161 rfl rfl, ow_tyo4, ow_nm4, rfl, (fun _ => rfl), ow_tyo4 _ (by decide)⟩
theorem f_M_63 : ow_F "OwnerRingsModel" 63 4 21 := ⟨_, _, rfl, by decide, ow_in4, tb3 162 rfl rfl⟩
theorem fw_M_63 : ow_Fw "OwnerRingsModel" 63 4 21 true (ow_ty4 21) := ⟨_, _, ow_ty4, rfl, by decide, ow_in4, tb3 162 rfl rfl, ow_tyo4, ow_nm4, rfl, (fun _ => rfl), ow_tyo4 _ (by decide)⟩
theorem f_M_66 : ow_F "OwnerRingsModel" 66 4 22 := ⟨_, _, rfl, by decide, ow_in4, tb3 163 rfl rfl⟩
theorem fw_M_66 : ow_Fw "OwnerRingsModel" 66 4 22 true (ow_ty4 22) := ⟨_, _, ow_ty4, rfl, by decide, ow_in4, tb3 163 rfl rfl, ow_tyo4, ow_nm4, rfl, (fun _ => rfl), ow_tyo4 _ (by decide)⟩
theorem f_M_69 : ow_F "OwnerRingsModel" 69 4 23 := ⟨_, _, rfl, by decide, ow_in4, tb3 164 rfl rfl⟩
theorem fw_M_69 : ow_Fw "OwnerRingsModel" 69 4 23 true (ow_ty4 23) := ⟨_, _, ow_ty4, rfl, by decide, ow_in4, tb3 164 rfl rfl, ow_tyo4, ow_nm4, rfl, (fun _ => rfl), ow_tyo4 _ (by decide)⟩
theorem f_M_72 : ow_F "OwnerRingsModel" 72 4 24 := ⟨_, _, rfl, by decide, ow_in4, tb3 165 rfl rfl⟩
theorem fw_M_72 : ow_Fw "OwnerRingsModel" 72 4 24 true (ow_ty4 24) := ⟨_, _, ow_ty4, rfl, by decide, ow_in4, tb3 165 rfl rfl, ow_tyo4, ow_nm4, rfl, (fun _ => rfl), ow_tyo4 _ (by decide)⟩
theorem f_M_75 : ow_F "OwnerRingsModel" 75 4 25 := ⟨_, _, rfl, by decide, ow_in4, tb3 166 rfl rfl⟩
theorem fw_M_75 : ow_Fw "OwnerRingsModel" 75 4 25 true (ow_ty4 25) := ⟨_, _, ow_ty4, rfl, by decide, ow_in4, tb3 166 rfl rfl, ow_tyo4, ow_nm4, rfl, (fun _ => rfl), ow_tyo4 _ (by decide)⟩
theorem f_M_78 : ow_F "OwnerRingsModel" 78 4 26 := ⟨_, _, rfl, by decide, ow_in4, tb3 167 rfl rfl⟩
theorem fw_M_78 : ow_Fw "OwnerRingsModel" 78 4 26 true (ow_ty4 26) := ⟨_, _, ow_ty4, rfl, by decide, ow_in4, tb3 167 rfl rfl, ow_tyo4, ow_nm4, rfl, (fun _ => rfl), ow_tyo4 _ (by decide)⟩
theorem f_M_84 : ow_F "OwnerRingsModel" 84 4 0 := ⟨_, _, rfl, by decide, ow_in4, tb3 141 rfl rfl⟩
theorem fw_M_84 : ow_Fw "OwnerRingsModel" 84 4 0 false (ow_ty4 0) := ⟨_, _, ow_ty4, rfl, by decide, ow_in4, tb3 141 rfl rfl, ow_tyo4, ow_nm4, rfl, (fun _ => rfl), ow_tyo4 _ (by decide)⟩
theorem f_M_87 : ow_F "OwnerRingsModel" 87 4 1 := ⟨_, _, rfl, by decide, ow_in4, tb3 142 rfl rfl⟩
theorem fw_M_87 : ow_Fw "OwnerRingsModel" 87 4 1 false (ow_ty4 1) := ⟨_, _, ow_ty4, rfl, by decide, ow_in4, tb3 142 rfl rfl, ow_tyo4, ow_nm4, rfl, (fun _ => rfl), ow_tyo4 _ (by decide)⟩
theorem f_M_90 : ow_F "OwnerRingsModel" 90 4 3 := ⟨_, _, rfl, by decide, ow_in4, tb3 144 rfl rfl⟩
theorem fw_M_90 : ow_Fw "OwnerRingsModel" 90 4 3 false (ow_ty4 3) := ⟨_, _, ow_ty4, rfl, by decide, ow_in4, tb3 144 rfl rfl, ow_tyo4, ow_nm4, rfl, (fun _ => rfl), ow_tyo4 _ (by decide)⟩
theorem f_M_93 : ow_F "OwnerRingsModel" 93 4 8 := ⟨_, _, rfl, by decide, ow_in4, tb3 149 rfl rfl⟩
theorem fw_M_93 : ow_Fw "OwnerRingsModel" 93 4 8 false (ow_ty4 8) := ⟨_, _, ow_ty4, rfl, by decide, ow_in4, tb3 149 rfl rfl, ow_tyo4, ow_nm4, rfl, (fun _ => rfl), ow_tyo4 _ (by decide)⟩
theorem nw_R_7 : ow_N "OwnerRings" 7 1 := ⟨_, _, ow_ty1, rfl, ow_in1, ow_tyo1, tb1 22 rfl rfl, tb1 23 rfl rfl, tb1 2 rfl rfl, by decide⟩
theorem nw_R_16 : ow_N "OwnerRings" 16 2 := ⟨_, _, ow_ty2, rfl, ow_in2, ow_tyo2, tb1 56 rfl rfl, tb1 57 rfl rfl, tb1 3 rfl rfl, by decide⟩
theorem nw_R_26 : ow_N "OwnerRings" 26 3 := ⟨_, _, ow_ty3, rfl, ow_in3, ow_tyo3, tb1 92 rfl rfl, tb1 93 rfl rfl, tb1 4 rfl rfl, by decide⟩
theorem nw_L_8 : ow_N "OwnerRingsLaw" 8 0 := ⟨_, _, ow_ty0, rfl, ow_in0, ow_tyo0, tb1 14 rfl rfl, tb1 15 rfl rfl, tb1 1 rfl rfl, by decide⟩
theorem nw_L_70 : ow_N "OwnerRingsLaw" 70 4 := ⟨_, _, ow_ty4, rfl, ow_in4, ow_tyo4, tb3 131 rfl rfl, tb3 132 rfl rfl, tb1 5 rfl rfl, by decide⟩
theorem th_R_0 : ow_Th "OwnerRings" 0 37 41 := ⟨tb1 160 rfl rfl, tb1 9 rfl rfl, by decide +kernel, by decide +kernel, by decide +kernel, by decide +kernel⟩
theorem th_R_1 : ow_Th "OwnerRings" 1 48 52 := ⟨tb1 228 rfl rfl, tb1 10 rfl rfl, by decide +kernel, by decide +kernel, by decide +kernel, by decide +kernel⟩
theorem th_R_2 : nx_Th "OwnerRings" 261 265 := ⟨tb2 60 rfl rfl, tb1 11 rfl rfl, by decide +kernel, by decide +kernel⟩
theorem ob_i : Cond.instanceMethod Lib.objectInit ∈ ow_ws := tb1 20 rfl rfl
theorem ob_c : Cond.code Lib.objectInit ⟨#[0xb1]⟩ 1 none ∈ ow_ws := tb1 21 rfl rfl
theorem ob_R_1 : Cond.methodLink "OwnerRings" 1 Lib.objectInit ∈ ow_ws := tb1 19 rfl rfl
theorem ob_B_3 : Cond.methodLink "OwnerRings$Base" 3 Lib.objectInit ∈ ow_ws := tb1 61 rfl rfl
theorem ac_B_36 : Cond.methodLink "OwnerRings$Base" 36 arraycopyName ∈ ow_ws := tb1 139 rfl rfl
theorem ob_P_3 : Cond.methodLink "OwnerRings$Plan" 3 Lib.objectInit ∈ ow_ws := tb1 27 rfl rfl
theorem ob_S_3 : Cond.methodLink "OwnerRings$Stand" 3 Lib.objectInit ∈ ow_ws := tb1 97 rfl rfl
theorem ob_M_1 : Cond.methodLink "OwnerRingsModel" 1 Lib.objectInit ∈ ow_ws := tb3 136 rfl rfl
theorem ac_n : Cond.native arraycopyName ∈ ow_ws := tb1 141 rfl rfl
theorem ac_s : Cond.static arraycopyName ∈ ow_ws := tb1 140 rfl rfl
theorem ac_i : Cond.initialized "java/lang/System" ∈ ow_ws := tb1 13 rfl rfl
theorem ar_int : Cond.arrayClass .int ∈ ow_ws := tb1 55 rfl rfl
theorem ar_boolean : Cond.arrayClass .boolean ∈ ow_ws := tb3 223 rfl rfl
theorem ar_long : Cond.arrayClass .long ∈ ow_ws := tb4 167 rfl rfl
theorem rw_B_25 : Cond.classLink "OwnerRings$Base" 25 "[[I" ∈ ow_ws := tb1 62 rfl rfl
theorem k_I_265 : Cond.constant "java/lang/Integer" 265 1431655765 ∈ ow_ws := tb3 114 rfl rfl
theorem k_I_266 : Cond.constant "java/lang/Integer" 266 858993459 ∈ ow_ws := tb3 115 rfl rfl
theorem k_I_267 : Cond.constant "java/lang/Integer" 267 252645135 ∈ ow_ws := tb3 116 rfl rfl
theorem ct_L_13 : Cond.classLink "OwnerRingsLaw" 13 (ow_exn 0) ∈ ow_ws := tb1 154 rfl rfl
theorem ct_L_15 : Cond.classLink "OwnerRingsLaw" 15 (ow_exn 1) ∈ ow_ws := tb1 155 rfl rfl
theorem ct_L_24 : Cond.classLink "OwnerRingsLaw" 24 (ow_exn 2) ∈ ow_ws := tb2 38 rfl rfl
theorem cx_0 : Cond.castable (ow_exn 0) (ow_exn 0) ∈ ow_fw := by decide +kernel
theorem cx_1 : Cond.castable (ow_exn 1) (ow_exn 1) ∈ ow_fw := by decide +kernel
theorem cx_2 : Cond.castable (ow_exn 2) (ow_exn 2) ∈ ow_fw := by decide +kernel
end
section
theorem d_B_init_0 : decode prog_2_method_1_code 0 = .ok (.aload_n 0, 1) := by decide +kernel
theorem d_B_init_1 : decode prog_2_method_1_code 1 = .ok (.invokespecial 3, 3) := by decide +kernel
theorem d_B_init_4 : decode prog_2_method_1_code 4 = .ok (.aload_n 0, 1) := by decide +kernel
theorem d_B_init_5 : decode prog_2_method_1_code 5 = .ok (.iconst 0, 1) := by decide +kernel
theorem d_B_init_6 : decode prog_2_method_1_code 6 = .ok (.putfield 9, 3) := by decide +kernel
theorem d_B_init_9 : decode prog_2_method_1_code 9 = .ok (.aload_n 0, 1) := by decide +kernel
theorem d_B_init_10 : decode prog_2_method_1_code 10 = .ok (.iconst 1, 1) := by decide +kernel
theorem d_B_init_11 : decode prog_2_method_1_code 11 = .ok (.putfield 15, 3) := by decide +kernel
theorem d_B_init_14 : decode prog_2_method_1_code 14 = .ok (.aload_n 0, 1) := by decide +kernel
theorem d_B_init_15 : decode prog_2_method_1_code 15 = .ok (.bipush 24, 2) := by decide +kernel
theorem d_B_init_17 : decode prog_2_method_1_code 17 = .ok (.newarray .int, 2) := by decide +kernel
theorem d_B_init_19 : decode prog_2_method_1_code 19 = .ok (.putfield 18, 3) := by decide +kernel
theorem d_B_init_22 : decode prog_2_method_1_code 22 = .ok (.aload_n 0, 1) := by decide +kernel
theorem d_B_init_23 : decode prog_2_method_1_code 23 = .ok (.bipush 24, 2) := by decide +kernel
theorem d_B_init_25 : decode prog_2_method_1_code 25 = .ok (.newarray .int, 2) := by decide +kernel
theorem d_B_init_27 : decode prog_2_method_1_code 27 = .ok (.putfield 22, 3) := by decide +kernel
theorem d_B_init_30 : decode prog_2_method_1_code 30 = .ok (.aload_n 0, 1) := by decide +kernel
theorem d_B_init_31 : decode prog_2_method_1_code 31 = .ok (.iconst 3, 1) := by decide +kernel
theorem d_B_init_32 : decode prog_2_method_1_code 32 = .ok (.bipush 24, 2) := by decide +kernel
theorem d_B_init_34 : decode prog_2_method_1_code 34 = .ok (.multianewarray 25 2, 4) := by decide +kernel
theorem d_B_init_38 : decode prog_2_method_1_code 38 = .ok (.putfield 27, 3) := by decide +kernel
theorem d_B_init_41 : decode prog_2_method_1_code 41 = .ok (.aload_n 0, 1) := by decide +kernel
theorem d_B_init_42 : decode prog_2_method_1_code 42 = .ok (.iconst 5, 1) := by decide +kernel
theorem d_B_init_43 : decode prog_2_method_1_code 43 = .ok (.bipush 24, 2) := by decide +kernel
theorem d_B_init_45 : decode prog_2_method_1_code 45 = .ok (.multianewarray 25 2, 4) := by decide +kernel
theorem d_B_init_49 : decode prog_2_method_1_code 49 = .ok (.putfield 30, 3) := by decide +kernel
theorem d_B_init_52 : decode prog_2_method_1_code 52 = .ok (.aload_n 0, 1) := by decide +kernel
theorem d_B_init_53 : decode prog_2_method_1_code 53 = .ok (.iconst 5, 1) := by decide +kernel
theorem d_B_init_54 : decode prog_2_method_1_code 54 = .ok (.bipush 24, 2) := by decide +kernel
theorem d_B_init_56 : decode prog_2_method_1_code 56 = .ok (.multianewarray 25 2, 4) := by decide +kernel
theorem d_B_init_60 : decode prog_2_method_1_code 60 = .ok (.putfield 33, 3) := by decide +kernel
theorem d_B_init_63 : decode prog_2_method_1_code 63 = .ok (.iconst 0, 1) := by decide +kernel
theorem d_B_init_64 : decode prog_2_method_1_code 64 = .ok (.istore_n 1, 1) := by decide +kernel
theorem d_B_init_65 : decode prog_2_method_1_code 65 = .ok (.iload_n 1, 1) := by decide +kernel
theorem d_B_init_66 : decode prog_2_method_1_code 66 = .ok (.iconst 5, 1) := by decide +kernel
theorem d_B_init_67 : decode prog_2_method_1_code 67 = .ok (.if_icmp .ge 41, 3) := by decide +kernel
theorem d_B_init_70 : decode prog_2_method_1_code 70 = .ok (.iconst 0, 1) := by decide +kernel
theorem d_B_init_71 : decode prog_2_method_1_code 71 = .ok (.istore_n 2, 1) := by decide +kernel
theorem d_B_init_72 : decode prog_2_method_1_code 72 = .ok (.iload_n 2, 1) := by decide +kernel
theorem d_B_init_73 : decode prog_2_method_1_code 73 = .ok (.bipush 24, 2) := by decide +kernel
theorem d_B_init_75 : decode prog_2_method_1_code 75 = .ok (.if_icmp .ge 27, 3) := by decide +kernel
theorem d_B_init_78 : decode prog_2_method_1_code 78 = .ok (.aload_n 0, 1) := by decide +kernel
theorem d_B_init_79 : decode prog_2_method_1_code 79 = .ok (.getfield 30, 3) := by decide +kernel
theorem d_B_init_82 : decode prog_2_method_1_code 82 = .ok (.iload_n 1, 1) := by decide +kernel
theorem d_B_init_83 : decode prog_2_method_1_code 83 = .ok (.aaload, 1) := by decide +kernel
theorem d_B_init_84 : decode prog_2_method_1_code 84 = .ok (.iload_n 2, 1) := by decide +kernel
theorem d_B_init_85 : decode prog_2_method_1_code 85 = .ok (.iconst (-1), 1) := by decide +kernel
theorem d_B_init_86 : decode prog_2_method_1_code 86 = .ok (.iastore, 1) := by decide +kernel
theorem d_B_init_87 : decode prog_2_method_1_code 87 = .ok (.aload_n 0, 1) := by decide +kernel
theorem d_B_init_88 : decode prog_2_method_1_code 88 = .ok (.getfield 33, 3) := by decide +kernel
theorem d_B_init_91 : decode prog_2_method_1_code 91 = .ok (.iload_n 1, 1) := by decide +kernel
theorem d_B_init_92 : decode prog_2_method_1_code 92 = .ok (.aaload, 1) := by decide +kernel
theorem d_B_init_93 : decode prog_2_method_1_code 93 = .ok (.iload_n 2, 1) := by decide +kernel
theorem d_B_init_94 : decode prog_2_method_1_code 94 = .ok (.iconst (-1), 1) := by decide +kernel
theorem d_B_init_95 : decode prog_2_method_1_code 95 = .ok (.iastore, 1) := by decide +kernel
theorem d_B_init_96 : decode prog_2_method_1_code 96 = .ok (.iinc 2 1, 3) := by decide +kernel
theorem d_B_init_99 : decode prog_2_method_1_code 99 = .ok (.goto (-27), 3) := by decide +kernel
theorem d_B_init_102 : decode prog_2_method_1_code 102 = .ok (.iinc 1 1, 3) := by decide +kernel
theorem d_B_init_105 : decode prog_2_method_1_code 105 = .ok (.goto (-40), 3) := by decide +kernel
theorem d_B_init_108 : decode prog_2_method_1_code 108 = .ok (.return_, 1) := by decide +kernel
theorem d_B_copyFrom_0 : decode prog_2_method_2_code 0 = .ok (.aload_n 0, 1) := by decide +kernel
theorem d_B_copyFrom_1 : decode prog_2_method_2_code 1 = .ok (.aload_n 1, 1) := by decide +kernel
theorem d_B_copyFrom_2 : decode prog_2_method_2_code 2 = .ok (.getfield 9, 3) := by decide +kernel
theorem d_B_copyFrom_5 : decode prog_2_method_2_code 5 = .ok (.putfield 9, 3) := by decide +kernel
theorem d_B_copyFrom_8 : decode prog_2_method_2_code 8 = .ok (.aload_n 0, 1) := by decide +kernel
theorem d_B_copyFrom_9 : decode prog_2_method_2_code 9 = .ok (.aload_n 1, 1) := by decide +kernel
theorem d_B_copyFrom_10 : decode prog_2_method_2_code 10 = .ok (.getfield 15, 3) := by decide +kernel
theorem d_B_copyFrom_13 : decode prog_2_method_2_code 13 = .ok (.putfield 15, 3) := by decide +kernel
theorem d_B_copyFrom_16 : decode prog_2_method_2_code 16 = .ok (.aload_n 1, 1) := by decide +kernel
theorem d_B_copyFrom_17 : decode prog_2_method_2_code 17 = .ok (.getfield 18, 3) := by decide +kernel
theorem d_B_copyFrom_20 : decode prog_2_method_2_code 20 = .ok (.iconst 0, 1) := by decide +kernel
theorem d_B_copyFrom_21 : decode prog_2_method_2_code 21 = .ok (.aload_n 0, 1) := by decide +kernel
theorem d_B_copyFrom_22 : decode prog_2_method_2_code 22 = .ok (.getfield 18, 3) := by decide +kernel
theorem d_B_copyFrom_25 : decode prog_2_method_2_code 25 = .ok (.iconst 0, 1) := by decide +kernel
theorem d_B_copyFrom_26 : decode prog_2_method_2_code 26 = .ok (.bipush 24, 2) := by decide +kernel
theorem d_B_copyFrom_28 : decode prog_2_method_2_code 28 = .ok (.invokestatic 36, 3) := by decide +kernel
theorem d_B_copyFrom_31 : decode prog_2_method_2_code 31 = .ok (.aload_n 1, 1) := by decide +kernel
theorem d_B_copyFrom_32 : decode prog_2_method_2_code 32 = .ok (.getfield 22, 3) := by decide +kernel
theorem d_B_copyFrom_35 : decode prog_2_method_2_code 35 = .ok (.iconst 0, 1) := by decide +kernel
theorem d_B_copyFrom_36 : decode prog_2_method_2_code 36 = .ok (.aload_n 0, 1) := by decide +kernel
theorem d_B_copyFrom_37 : decode prog_2_method_2_code 37 = .ok (.getfield 22, 3) := by decide +kernel
theorem d_B_copyFrom_40 : decode prog_2_method_2_code 40 = .ok (.iconst 0, 1) := by decide +kernel
theorem d_B_copyFrom_41 : decode prog_2_method_2_code 41 = .ok (.bipush 24, 2) := by decide +kernel
theorem d_B_copyFrom_43 : decode prog_2_method_2_code 43 = .ok (.invokestatic 36, 3) := by decide +kernel
theorem d_B_copyFrom_46 : decode prog_2_method_2_code 46 = .ok (.iconst 0, 1) := by decide +kernel
theorem d_B_copyFrom_47 : decode prog_2_method_2_code 47 = .ok (.istore_n 2, 1) := by decide +kernel
theorem d_B_copyFrom_48 : decode prog_2_method_2_code 48 = .ok (.iload_n 2, 1) := by decide +kernel
theorem d_B_copyFrom_49 : decode prog_2_method_2_code 49 = .ok (.iconst 3, 1) := by decide +kernel
theorem d_B_copyFrom_50 : decode prog_2_method_2_code 50 = .ok (.if_icmp .ge 28, 3) := by decide +kernel
theorem d_B_copyFrom_53 : decode prog_2_method_2_code 53 = .ok (.aload_n 1, 1) := by decide +kernel
theorem d_B_copyFrom_54 : decode prog_2_method_2_code 54 = .ok (.getfield 27, 3) := by decide +kernel
theorem d_B_copyFrom_57 : decode prog_2_method_2_code 57 = .ok (.iload_n 2, 1) := by decide +kernel
theorem d_B_copyFrom_58 : decode prog_2_method_2_code 58 = .ok (.aaload, 1) := by decide +kernel
theorem d_B_copyFrom_59 : decode prog_2_method_2_code 59 = .ok (.iconst 0, 1) := by decide +kernel
theorem d_B_copyFrom_60 : decode prog_2_method_2_code 60 = .ok (.aload_n 0, 1) := by decide +kernel
theorem d_B_copyFrom_61 : decode prog_2_method_2_code 61 = .ok (.getfield 27, 3) := by decide +kernel
theorem d_B_copyFrom_64 : decode prog_2_method_2_code 64 = .ok (.iload_n 2, 1) := by decide +kernel
theorem d_B_copyFrom_65 : decode prog_2_method_2_code 65 = .ok (.aaload, 1) := by decide +kernel
theorem d_B_copyFrom_66 : decode prog_2_method_2_code 66 = .ok (.iconst 0, 1) := by decide +kernel
theorem d_B_copyFrom_67 : decode prog_2_method_2_code 67 = .ok (.bipush 24, 2) := by decide +kernel
theorem d_B_copyFrom_69 : decode prog_2_method_2_code 69 = .ok (.invokestatic 36, 3) := by decide +kernel
theorem d_B_copyFrom_72 : decode prog_2_method_2_code 72 = .ok (.iinc 2 1, 3) := by decide +kernel
theorem d_B_copyFrom_75 : decode prog_2_method_2_code 75 = .ok (.goto (-27), 3) := by decide +kernel
theorem d_B_copyFrom_78 : decode prog_2_method_2_code 78 = .ok (.iconst 0, 1) := by decide +kernel
theorem d_B_copyFrom_79 : decode prog_2_method_2_code 79 = .ok (.istore_n 2, 1) := by decide +kernel
theorem d_B_copyFrom_80 : decode prog_2_method_2_code 80 = .ok (.iload_n 2, 1) := by decide +kernel
theorem d_B_copyFrom_81 : decode prog_2_method_2_code 81 = .ok (.iconst 5, 1) := by decide +kernel
theorem d_B_copyFrom_82 : decode prog_2_method_2_code 82 = .ok (.if_icmp .ge 47, 3) := by decide +kernel
theorem d_B_copyFrom_85 : decode prog_2_method_2_code 85 = .ok (.aload_n 1, 1) := by decide +kernel
theorem d_B_copyFrom_86 : decode prog_2_method_2_code 86 = .ok (.getfield 30, 3) := by decide +kernel
theorem d_B_copyFrom_89 : decode prog_2_method_2_code 89 = .ok (.iload_n 2, 1) := by decide +kernel
theorem d_B_copyFrom_90 : decode prog_2_method_2_code 90 = .ok (.aaload, 1) := by decide +kernel
theorem d_B_copyFrom_91 : decode prog_2_method_2_code 91 = .ok (.iconst 0, 1) := by decide +kernel
theorem d_B_copyFrom_92 : decode prog_2_method_2_code 92 = .ok (.aload_n 0, 1) := by decide +kernel
theorem d_B_copyFrom_93 : decode prog_2_method_2_code 93 = .ok (.getfield 30, 3) := by decide +kernel
theorem d_B_copyFrom_96 : decode prog_2_method_2_code 96 = .ok (.iload_n 2, 1) := by decide +kernel
theorem d_B_copyFrom_97 : decode prog_2_method_2_code 97 = .ok (.aaload, 1) := by decide +kernel
theorem d_B_copyFrom_98 : decode prog_2_method_2_code 98 = .ok (.iconst 0, 1) := by decide +kernel
theorem d_B_copyFrom_99 : decode prog_2_method_2_code 99 = .ok (.bipush 24, 2) := by decide +kernel
theorem d_B_copyFrom_101 : decode prog_2_method_2_code 101 = .ok (.invokestatic 36, 3) := by decide +kernel
theorem d_B_copyFrom_104 : decode prog_2_method_2_code 104 = .ok (.aload_n 1, 1) := by decide +kernel
theorem d_B_copyFrom_105 : decode prog_2_method_2_code 105 = .ok (.getfield 33, 3) := by decide +kernel
theorem d_B_copyFrom_108 : decode prog_2_method_2_code 108 = .ok (.iload_n 2, 1) := by decide +kernel
theorem d_B_copyFrom_109 : decode prog_2_method_2_code 109 = .ok (.aaload, 1) := by decide +kernel
theorem d_B_copyFrom_110 : decode prog_2_method_2_code 110 = .ok (.iconst 0, 1) := by decide +kernel
theorem d_B_copyFrom_111 : decode prog_2_method_2_code 111 = .ok (.aload_n 0, 1) := by decide +kernel
theorem d_B_copyFrom_112 : decode prog_2_method_2_code 112 = .ok (.getfield 33, 3) := by decide +kernel
theorem d_B_copyFrom_115 : decode prog_2_method_2_code 115 = .ok (.iload_n 2, 1) := by decide +kernel
theorem d_B_copyFrom_116 : decode prog_2_method_2_code 116 = .ok (.aaload, 1) := by decide +kernel
theorem d_B_copyFrom_117 : decode prog_2_method_2_code 117 = .ok (.iconst 0, 1) := by decide +kernel
theorem d_B_copyFrom_118 : decode prog_2_method_2_code 118 = .ok (.bipush 24, 2) := by decide +kernel
theorem d_B_copyFrom_120 : decode prog_2_method_2_code 120 = .ok (.invokestatic 36, 3) := by decide +kernel
theorem d_B_copyFrom_123 : decode prog_2_method_2_code 123 = .ok (.iinc 2 1, 3) := by decide +kernel
theorem d_B_copyFrom_126 : decode prog_2_method_2_code 126 = .ok (.goto (-46), 3) := by decide +kernel
theorem d_B_copyFrom_129 : decode prog_2_method_2_code 129 = .ok (.return_, 1) := by decide +kernel
theorem d_B_freePlace_0 : decode prog_2_method_3_code 0 = .ok (.iconst 0, 1) := by decide +kernel
theorem d_B_freePlace_1 : decode prog_2_method_3_code 1 = .ok (.istore_n 1, 1) := by decide +kernel
theorem d_B_freePlace_2 : decode prog_2_method_3_code 2 = .ok (.iload_n 1, 1) := by decide +kernel
theorem d_B_freePlace_3 : decode prog_2_method_3_code 3 = .ok (.bipush 24, 2) := by decide +kernel
theorem d_B_freePlace_5 : decode prog_2_method_3_code 5 = .ok (.if_icmp .ge 20, 3) := by decide +kernel
theorem d_B_freePlace_8 : decode prog_2_method_3_code 8 = .ok (.aload_n 0, 1) := by decide +kernel
theorem d_B_freePlace_9 : decode prog_2_method_3_code 9 = .ok (.getfield 18, 3) := by decide +kernel
theorem d_B_freePlace_12 : decode prog_2_method_3_code 12 = .ok (.iload_n 1, 1) := by decide +kernel
theorem d_B_freePlace_13 : decode prog_2_method_3_code 13 = .ok (.iaload, 1) := by decide +kernel
theorem d_B_freePlace_14 : decode prog_2_method_3_code 14 = .ok (.ifCond .ne 5, 3) := by decide +kernel
theorem d_B_freePlace_17 : decode prog_2_method_3_code 17 = .ok (.iload_n 1, 1) := by decide +kernel
theorem d_B_freePlace_18 : decode prog_2_method_3_code 18 = .ok (.ireturn, 1) := by decide +kernel
theorem d_B_freePlace_19 : decode prog_2_method_3_code 19 = .ok (.iinc 1 1, 3) := by decide +kernel
theorem d_B_freePlace_22 : decode prog_2_method_3_code 22 = .ok (.goto (-20), 3) := by decide +kernel
theorem d_B_freePlace_25 : decode prog_2_method_3_code 25 = .ok (.iconst (-1), 1) := by decide +kernel
theorem d_B_freePlace_26 : decode prog_2_method_3_code 26 = .ok (.ireturn, 1) := by decide +kernel
theorem d_B_writeFields_0 : decode prog_2_method_6_code 0 = .ok (.aload_n 0, 1) := by decide +kernel
theorem d_B_writeFields_1 : decode prog_2_method_6_code 1 = .ok (.getfield 27, 3) := by decide +kernel
theorem d_B_writeFields_4 : decode prog_2_method_6_code 4 = .ok (.iconst 0, 1) := by decide +kernel
theorem d_B_writeFields_5 : decode prog_2_method_6_code 5 = .ok (.aaload, 1) := by decide +kernel
theorem d_B_writeFields_6 : decode prog_2_method_6_code 6 = .ok (.iload_n 1, 1) := by decide +kernel
theorem d_B_writeFields_7 : decode prog_2_method_6_code 7 = .ok (.iload_n 2, 1) := by decide +kernel
theorem d_B_writeFields_8 : decode prog_2_method_6_code 8 = .ok (.iastore, 1) := by decide +kernel
theorem d_B_writeFields_9 : decode prog_2_method_6_code 9 = .ok (.aload_n 0, 1) := by decide +kernel
theorem d_B_writeFields_10 : decode prog_2_method_6_code 10 = .ok (.getfield 27, 3) := by decide +kernel
theorem d_B_writeFields_13 : decode prog_2_method_6_code 13 = .ok (.iconst 1, 1) := by decide +kernel
theorem d_B_writeFields_14 : decode prog_2_method_6_code 14 = .ok (.aaload, 1) := by decide +kernel
theorem d_B_writeFields_15 : decode prog_2_method_6_code 15 = .ok (.iload_n 1, 1) := by decide +kernel
theorem d_B_writeFields_16 : decode prog_2_method_6_code 16 = .ok (.iload_n 3, 1) := by decide +kernel
theorem d_B_writeFields_17 : decode prog_2_method_6_code 17 = .ok (.iastore, 1) := by decide +kernel
theorem d_B_writeFields_18 : decode prog_2_method_6_code 18 = .ok (.aload_n 0, 1) := by decide +kernel
theorem d_B_writeFields_19 : decode prog_2_method_6_code 19 = .ok (.getfield 27, 3) := by decide +kernel
theorem d_B_writeFields_22 : decode prog_2_method_6_code 22 = .ok (.iconst 2, 1) := by decide +kernel
theorem d_B_writeFields_23 : decode prog_2_method_6_code 23 = .ok (.aaload, 1) := by decide +kernel
theorem d_B_writeFields_24 : decode prog_2_method_6_code 24 = .ok (.iload_n 1, 1) := by decide +kernel
theorem d_B_writeFields_25 : decode prog_2_method_6_code 25 = .ok (.iload 4, 2) := by decide +kernel
theorem d_B_writeFields_27 : decode prog_2_method_6_code 27 = .ok (.iastore, 1) := by decide +kernel
theorem d_B_writeFields_28 : decode prog_2_method_6_code 28 = .ok (.return_, 1) := by decide +kernel
theorem d_B_hasOtherWithValue_0 : decode prog_2_method_14_code 0 = .ok (.iconst 0, 1) := by decide +kernel
theorem d_B_hasOtherWithValue_1 : decode prog_2_method_14_code 1 = .ok (.istore 6, 2) := by decide +kernel
theorem d_B_hasOtherWithValue_3 : decode prog_2_method_14_code 3 = .ok (.iload 6, 2) := by decide +kernel
theorem d_B_hasOtherWithValue_5 : decode prog_2_method_14_code 5 = .ok (.bipush 24, 2) := by decide +kernel
theorem d_B_hasOtherWithValue_7 : decode prog_2_method_14_code 7 = .ok (.if_icmp .ge 45, 3) := by decide +kernel
theorem d_B_hasOtherWithValue_10 : decode prog_2_method_14_code 10 = .ok (.iload 6, 2) := by decide +kernel
theorem d_B_hasOtherWithValue_12 : decode prog_2_method_14_code 12 = .ok (.iload_n 3, 1) := by decide +kernel
theorem d_B_hasOtherWithValue_13 : decode prog_2_method_14_code 13 = .ok (.if_icmp .eq 33, 3) := by decide +kernel
theorem d_B_hasOtherWithValue_16 : decode prog_2_method_14_code 16 = .ok (.aload_n 0, 1) := by decide +kernel
theorem d_B_hasOtherWithValue_17 : decode prog_2_method_14_code 17 = .ok (.getfield 30, 3) := by decide +kernel
theorem d_B_hasOtherWithValue_20 : decode prog_2_method_14_code 20 = .ok (.iload_n 1, 1) := by decide +kernel
theorem d_B_hasOtherWithValue_21 : decode prog_2_method_14_code 21 = .ok (.aaload, 1) := by decide +kernel
theorem d_B_hasOtherWithValue_22 : decode prog_2_method_14_code 22 = .ok (.iload 6, 2) := by decide +kernel
theorem d_B_hasOtherWithValue_24 : decode prog_2_method_14_code 24 = .ok (.iaload, 1) := by decide +kernel
theorem d_B_hasOtherWithValue_25 : decode prog_2_method_14_code 25 = .ok (.iload_n 2, 1) := by decide +kernel
theorem d_B_hasOtherWithValue_26 : decode prog_2_method_14_code 26 = .ok (.if_icmp .ne 20, 3) := by decide +kernel
theorem d_B_hasOtherWithValue_29 : decode prog_2_method_14_code 29 = .ok (.aload_n 0, 1) := by decide +kernel
theorem d_B_hasOtherWithValue_30 : decode prog_2_method_14_code 30 = .ok (.getfield 27, 3) := by decide +kernel
theorem d_B_hasOtherWithValue_33 : decode prog_2_method_14_code 33 = .ok (.iload 4, 2) := by decide +kernel
theorem d_B_hasOtherWithValue_35 : decode prog_2_method_14_code 35 = .ok (.aaload, 1) := by decide +kernel
theorem d_B_hasOtherWithValue_36 : decode prog_2_method_14_code 36 = .ok (.iload 6, 2) := by decide +kernel
theorem d_B_hasOtherWithValue_38 : decode prog_2_method_14_code 38 = .ok (.iaload, 1) := by decide +kernel
theorem d_B_hasOtherWithValue_39 : decode prog_2_method_14_code 39 = .ok (.iload 5, 2) := by decide +kernel
theorem d_B_hasOtherWithValue_41 : decode prog_2_method_14_code 41 = .ok (.if_icmp .ne 5, 3) := by decide +kernel
theorem d_B_hasOtherWithValue_44 : decode prog_2_method_14_code 44 = .ok (.iconst 1, 1) := by decide +kernel
theorem d_B_hasOtherWithValue_45 : decode prog_2_method_14_code 45 = .ok (.ireturn, 1) := by decide +kernel
theorem d_B_hasOtherWithValue_46 : decode prog_2_method_14_code 46 = .ok (.iinc 6 1, 3) := by decide +kernel
theorem d_B_hasOtherWithValue_49 : decode prog_2_method_14_code 49 = .ok (.goto (-46), 3) := by decide +kernel
theorem d_B_hasOtherWithValue_52 : decode prog_2_method_14_code 52 = .ok (.iconst 0, 1) := by decide +kernel
theorem d_B_hasOtherWithValue_53 : decode prog_2_method_14_code 53 = .ok (.ireturn, 1) := by decide +kernel
theorem d_B_addRecord_0 : decode prog_2_method_7_code 0 = .ok (.aload_n 0, 1) := by decide +kernel
theorem d_B_addRecord_1 : decode prog_2_method_7_code 1 = .ok (.getfield 18, 3) := by decide +kernel
theorem d_B_addRecord_4 : decode prog_2_method_7_code 4 = .ok (.iload_n 1, 1) := by decide +kernel
theorem d_B_addRecord_5 : decode prog_2_method_7_code 5 = .ok (.aload_n 0, 1) := by decide +kernel
theorem d_B_addRecord_6 : decode prog_2_method_7_code 6 = .ok (.getfield 15, 3) := by decide +kernel
theorem d_B_addRecord_9 : decode prog_2_method_7_code 9 = .ok (.iastore, 1) := by decide +kernel
theorem d_B_addRecord_10 : decode prog_2_method_7_code 10 = .ok (.aload_n 0, 1) := by decide +kernel
theorem d_B_addRecord_11 : decode prog_2_method_7_code 11 = .ok (.getfield 22, 3) := by decide +kernel
theorem d_B_addRecord_14 : decode prog_2_method_7_code 14 = .ok (.iload_n 1, 1) := by decide +kernel
theorem d_B_addRecord_15 : decode prog_2_method_7_code 15 = .ok (.iload_n 2, 1) := by decide +kernel
theorem d_B_addRecord_16 : decode prog_2_method_7_code 16 = .ok (.iastore, 1) := by decide +kernel
theorem d_B_addRecord_17 : decode prog_2_method_7_code 17 = .ok (.aload_n 0, 1) := by decide +kernel
theorem d_B_addRecord_18 : decode prog_2_method_7_code 18 = .ok (.dup, 1) := by decide +kernel
theorem d_B_addRecord_19 : decode prog_2_method_7_code 19 = .ok (.getfield 15, 3) := by decide +kernel
theorem d_B_addRecord_22 : decode prog_2_method_7_code 22 = .ok (.iconst 1, 1) := by decide +kernel
theorem d_B_addRecord_23 : decode prog_2_method_7_code 23 = .ok (.iadd, 1) := by decide +kernel
theorem d_B_addRecord_24 : decode prog_2_method_7_code 24 = .ok (.putfield 15, 3) := by decide +kernel
theorem d_B_addRecord_27 : decode prog_2_method_7_code 27 = .ok (.aload_n 0, 1) := by decide +kernel
theorem d_B_addRecord_28 : decode prog_2_method_7_code 28 = .ok (.dup, 1) := by decide +kernel
theorem d_B_addRecord_29 : decode prog_2_method_7_code 29 = .ok (.getfield 9, 3) := by decide +kernel
theorem d_B_addRecord_32 : decode prog_2_method_7_code 32 = .ok (.iconst 1, 1) := by decide +kernel
theorem d_B_addRecord_33 : decode prog_2_method_7_code 33 = .ok (.iadd, 1) := by decide +kernel
theorem d_B_addRecord_34 : decode prog_2_method_7_code 34 = .ok (.putfield 9, 3) := by decide +kernel
theorem d_B_addRecord_37 : decode prog_2_method_7_code 37 = .ok (.return_, 1) := by decide +kernel
theorem d_B_ringSize_0 : decode prog_2_method_11_code 0 = .ok (.iconst 0, 1) := by decide +kernel
theorem d_B_ringSize_1 : decode prog_2_method_11_code 1 = .ok (.istore_n 3, 1) := by decide +kernel
theorem d_B_ringSize_2 : decode prog_2_method_11_code 2 = .ok (.iconst 0, 1) := by decide +kernel
theorem d_B_ringSize_3 : decode prog_2_method_11_code 3 = .ok (.istore 4, 2) := by decide +kernel
theorem d_B_ringSize_5 : decode prog_2_method_11_code 5 = .ok (.iload 4, 2) := by decide +kernel
theorem d_B_ringSize_7 : decode prog_2_method_11_code 7 = .ok (.bipush 24, 2) := by decide +kernel
theorem d_B_ringSize_9 : decode prog_2_method_11_code 9 = .ok (.if_icmp .ge 25, 3) := by decide +kernel
theorem d_B_ringSize_12 : decode prog_2_method_11_code 12 = .ok (.aload_n 0, 1) := by decide +kernel
theorem d_B_ringSize_13 : decode prog_2_method_11_code 13 = .ok (.getfield 30, 3) := by decide +kernel
theorem d_B_ringSize_16 : decode prog_2_method_11_code 16 = .ok (.iload_n 1, 1) := by decide +kernel
theorem d_B_ringSize_17 : decode prog_2_method_11_code 17 = .ok (.aaload, 1) := by decide +kernel
theorem d_B_ringSize_18 : decode prog_2_method_11_code 18 = .ok (.iload 4, 2) := by decide +kernel
theorem d_B_ringSize_20 : decode prog_2_method_11_code 20 = .ok (.iaload, 1) := by decide +kernel
theorem d_B_ringSize_21 : decode prog_2_method_11_code 21 = .ok (.iload_n 2, 1) := by decide +kernel
theorem d_B_ringSize_22 : decode prog_2_method_11_code 22 = .ok (.if_icmp .ne 6, 3) := by decide +kernel
theorem d_B_ringSize_25 : decode prog_2_method_11_code 25 = .ok (.iinc 3 1, 3) := by decide +kernel
theorem d_B_ringSize_28 : decode prog_2_method_11_code 28 = .ok (.iinc 4 1, 3) := by decide +kernel
theorem d_B_ringSize_31 : decode prog_2_method_11_code 31 = .ok (.goto (-26), 3) := by decide +kernel
theorem d_B_ringSize_34 : decode prog_2_method_11_code 34 = .ok (.iload_n 3, 1) := by decide +kernel
theorem d_B_ringSize_35 : decode prog_2_method_11_code 35 = .ok (.ireturn, 1) := by decide +kernel
theorem d_B_putIn_0 : decode prog_2_method_16_code 0 = .ok (.aload_n 0, 1) := by decide +kernel
theorem d_B_putIn_1 : decode prog_2_method_16_code 1 = .ok (.iload_n 1, 1) := by decide +kernel
theorem d_B_putIn_2 : decode prog_2_method_16_code 2 = .ok (.iload_n 3, 1) := by decide +kernel
theorem d_B_putIn_3 : decode prog_2_method_16_code 3 = .ok (.iload 4, 2) := by decide +kernel
theorem d_B_putIn_5 : decode prog_2_method_16_code 5 = .ok (.iconst 1, 1) := by decide +kernel
theorem d_B_putIn_6 : decode prog_2_method_16_code 6 = .ok (.invokevirtual 54, 3) := by decide +kernel
theorem d_B_putIn_9 : decode prog_2_method_16_code 9 = .ok (.aload_n 0, 1) := by decide +kernel
theorem d_B_putIn_10 : decode prog_2_method_16_code 10 = .ok (.getfield 30, 3) := by decide +kernel
theorem d_B_putIn_13 : decode prog_2_method_16_code 13 = .ok (.iload_n 1, 1) := by decide +kernel
theorem d_B_putIn_14 : decode prog_2_method_16_code 14 = .ok (.aaload, 1) := by decide +kernel
theorem d_B_putIn_15 : decode prog_2_method_16_code 15 = .ok (.iload_n 2, 1) := by decide +kernel
theorem d_B_putIn_16 : decode prog_2_method_16_code 16 = .ok (.iload_n 3, 1) := by decide +kernel
theorem d_B_putIn_17 : decode prog_2_method_16_code 17 = .ok (.iastore, 1) := by decide +kernel
theorem d_B_putIn_18 : decode prog_2_method_16_code 18 = .ok (.aload_n 0, 1) := by decide +kernel
theorem d_B_putIn_19 : decode prog_2_method_16_code 19 = .ok (.getfield 33, 3) := by decide +kernel
theorem d_B_putIn_22 : decode prog_2_method_16_code 22 = .ok (.iload_n 1, 1) := by decide +kernel
theorem d_B_putIn_23 : decode prog_2_method_16_code 23 = .ok (.aaload, 1) := by decide +kernel
theorem d_B_putIn_24 : decode prog_2_method_16_code 24 = .ok (.iload_n 2, 1) := by decide +kernel
theorem d_B_putIn_25 : decode prog_2_method_16_code 25 = .ok (.iload 4, 2) := by decide +kernel
theorem d_B_putIn_27 : decode prog_2_method_16_code 27 = .ok (.iastore, 1) := by decide +kernel
theorem d_B_putIn_28 : decode prog_2_method_16_code 28 = .ok (.return_, 1) := by decide +kernel
theorem d_B_shiftRing_0 : decode prog_2_method_18_code 0 = .ok (.iconst 0, 1) := by decide +kernel
theorem d_B_shiftRing_1 : decode prog_2_method_18_code 1 = .ok (.istore 5, 2) := by decide +kernel
theorem d_B_shiftRing_3 : decode prog_2_method_18_code 3 = .ok (.iload 5, 2) := by decide +kernel
theorem d_B_shiftRing_5 : decode prog_2_method_18_code 5 = .ok (.bipush 24, 2) := by decide +kernel
theorem d_B_shiftRing_7 : decode prog_2_method_18_code 7 = .ok (.if_icmp .ge 49, 3) := by decide +kernel
theorem d_B_shiftRing_10 : decode prog_2_method_18_code 10 = .ok (.aload_n 0, 1) := by decide +kernel
theorem d_B_shiftRing_11 : decode prog_2_method_18_code 11 = .ok (.getfield 30, 3) := by decide +kernel
theorem d_B_shiftRing_14 : decode prog_2_method_18_code 14 = .ok (.iload_n 1, 1) := by decide +kernel
theorem d_B_shiftRing_15 : decode prog_2_method_18_code 15 = .ok (.aaload, 1) := by decide +kernel
theorem d_B_shiftRing_16 : decode prog_2_method_18_code 16 = .ok (.iload 5, 2) := by decide +kernel
theorem d_B_shiftRing_18 : decode prog_2_method_18_code 18 = .ok (.iaload, 1) := by decide +kernel
theorem d_B_shiftRing_19 : decode prog_2_method_18_code 19 = .ok (.iload_n 2, 1) := by decide +kernel
theorem d_B_shiftRing_20 : decode prog_2_method_18_code 20 = .ok (.if_icmp .ne 30, 3) := by decide +kernel
theorem d_B_shiftRing_23 : decode prog_2_method_18_code 23 = .ok (.aload_n 0, 1) := by decide +kernel
theorem d_B_shiftRing_24 : decode prog_2_method_18_code 24 = .ok (.getfield 33, 3) := by decide +kernel
theorem d_B_shiftRing_27 : decode prog_2_method_18_code 27 = .ok (.iload_n 1, 1) := by decide +kernel
theorem d_B_shiftRing_28 : decode prog_2_method_18_code 28 = .ok (.aaload, 1) := by decide +kernel
theorem d_B_shiftRing_29 : decode prog_2_method_18_code 29 = .ok (.iload 5, 2) := by decide +kernel
theorem d_B_shiftRing_31 : decode prog_2_method_18_code 31 = .ok (.iaload, 1) := by decide +kernel
theorem d_B_shiftRing_32 : decode prog_2_method_18_code 32 = .ok (.iload_n 3, 1) := by decide +kernel
theorem d_B_shiftRing_33 : decode prog_2_method_18_code 33 = .ok (.if_icmp .lt 17, 3) := by decide +kernel
theorem d_B_shiftRing_36 : decode prog_2_method_18_code 36 = .ok (.aload_n 0, 1) := by decide +kernel
theorem d_B_shiftRing_37 : decode prog_2_method_18_code 37 = .ok (.getfield 33, 3) := by decide +kernel
theorem d_B_shiftRing_40 : decode prog_2_method_18_code 40 = .ok (.iload_n 1, 1) := by decide +kernel
theorem d_B_shiftRing_41 : decode prog_2_method_18_code 41 = .ok (.aaload, 1) := by decide +kernel
theorem d_B_shiftRing_42 : decode prog_2_method_18_code 42 = .ok (.iload 5, 2) := by decide +kernel
theorem d_B_shiftRing_44 : decode prog_2_method_18_code 44 = .ok (.dup2, 1) := by decide +kernel
theorem d_B_shiftRing_45 : decode prog_2_method_18_code 45 = .ok (.iaload, 1) := by decide +kernel
theorem d_B_shiftRing_46 : decode prog_2_method_18_code 46 = .ok (.iload 4, 2) := by decide +kernel
theorem d_B_shiftRing_48 : decode prog_2_method_18_code 48 = .ok (.iadd, 1) := by decide +kernel
theorem d_B_shiftRing_49 : decode prog_2_method_18_code 49 = .ok (.iastore, 1) := by decide +kernel
theorem d_B_shiftRing_50 : decode prog_2_method_18_code 50 = .ok (.iinc 5 1, 3) := by decide +kernel
theorem d_B_shiftRing_53 : decode prog_2_method_18_code 53 = .ok (.goto (-50), 3) := by decide +kernel
theorem d_B_shiftRing_56 : decode prog_2_method_18_code 56 = .ok (.return_, 1) := by decide +kernel
theorem d_B_isMember_0 : decode prog_2_method_10_code 0 = .ok (.aload_n 0, 1) := by decide +kernel
theorem d_B_isMember_1 : decode prog_2_method_10_code 1 = .ok (.getfield 30, 3) := by decide +kernel
theorem d_B_isMember_4 : decode prog_2_method_10_code 4 = .ok (.iload_n 1, 1) := by decide +kernel
theorem d_B_isMember_5 : decode prog_2_method_10_code 5 = .ok (.aaload, 1) := by decide +kernel
theorem d_B_isMember_6 : decode prog_2_method_10_code 6 = .ok (.iload_n 2, 1) := by decide +kernel
theorem d_B_isMember_7 : decode prog_2_method_10_code 7 = .ok (.iaload, 1) := by decide +kernel
theorem d_B_isMember_8 : decode prog_2_method_10_code 8 = .ok (.iconst (-1), 1) := by decide +kernel
theorem d_B_isMember_9 : decode prog_2_method_10_code 9 = .ok (.if_icmp .eq 7, 3) := by decide +kernel
theorem d_B_isMember_12 : decode prog_2_method_10_code 12 = .ok (.iconst 1, 1) := by decide +kernel
theorem d_B_isMember_13 : decode prog_2_method_10_code 13 = .ok (.goto 4, 3) := by decide +kernel
theorem d_B_isMember_16 : decode prog_2_method_10_code 16 = .ok (.iconst 0, 1) := by decide +kernel
theorem d_B_isMember_17 : decode prog_2_method_10_code 17 = .ok (.ireturn, 1) := by decide +kernel
theorem d_B_placeOf_0 : decode prog_2_method_4_code 0 = .ok (.iconst 0, 1) := by decide +kernel
theorem d_B_placeOf_1 : decode prog_2_method_4_code 1 = .ok (.istore_n 2, 1) := by decide +kernel
theorem d_B_placeOf_2 : decode prog_2_method_4_code 2 = .ok (.iload_n 2, 1) := by decide +kernel
theorem d_B_placeOf_3 : decode prog_2_method_4_code 3 = .ok (.bipush 24, 2) := by decide +kernel
theorem d_B_placeOf_5 : decode prog_2_method_4_code 5 = .ok (.if_icmp .ge 30, 3) := by decide +kernel
theorem d_B_placeOf_8 : decode prog_2_method_4_code 8 = .ok (.aload_n 0, 1) := by decide +kernel
theorem d_B_placeOf_9 : decode prog_2_method_4_code 9 = .ok (.getfield 18, 3) := by decide +kernel
theorem d_B_placeOf_12 : decode prog_2_method_4_code 12 = .ok (.iload_n 2, 1) := by decide +kernel
theorem d_B_placeOf_13 : decode prog_2_method_4_code 13 = .ok (.iaload, 1) := by decide +kernel
theorem d_B_placeOf_14 : decode prog_2_method_4_code 14 = .ok (.ifCond .eq 15, 3) := by decide +kernel
theorem d_B_placeOf_17 : decode prog_2_method_4_code 17 = .ok (.aload_n 0, 1) := by decide +kernel
theorem d_B_placeOf_18 : decode prog_2_method_4_code 18 = .ok (.getfield 18, 3) := by decide +kernel
theorem d_B_placeOf_21 : decode prog_2_method_4_code 21 = .ok (.iload_n 2, 1) := by decide +kernel
theorem d_B_placeOf_22 : decode prog_2_method_4_code 22 = .ok (.iaload, 1) := by decide +kernel
theorem d_B_placeOf_23 : decode prog_2_method_4_code 23 = .ok (.iload_n 1, 1) := by decide +kernel
theorem d_B_placeOf_24 : decode prog_2_method_4_code 24 = .ok (.if_icmp .ne 5, 3) := by decide +kernel
theorem d_B_placeOf_27 : decode prog_2_method_4_code 27 = .ok (.iload_n 2, 1) := by decide +kernel
theorem d_B_placeOf_28 : decode prog_2_method_4_code 28 = .ok (.ireturn, 1) := by decide +kernel
theorem d_B_placeOf_29 : decode prog_2_method_4_code 29 = .ok (.iinc 2 1, 3) := by decide +kernel
theorem d_B_placeOf_32 : decode prog_2_method_4_code 32 = .ok (.goto (-30), 3) := by decide +kernel
theorem d_B_placeOf_35 : decode prog_2_method_4_code 35 = .ok (.iconst (-1), 1) := by decide +kernel
theorem d_B_placeOf_36 : decode prog_2_method_4_code 36 = .ok (.ireturn, 1) := by decide +kernel
theorem d_B_lowestKeyed_0 : decode prog_2_method_9_code 0 = .ok (.iconst (-1), 1) := by decide +kernel
theorem d_B_lowestKeyed_1 : decode prog_2_method_9_code 1 = .ok (.istore 4, 2) := by decide +kernel
theorem d_B_lowestKeyed_3 : decode prog_2_method_9_code 3 = .ok (.iconst 0, 1) := by decide +kernel
theorem d_B_lowestKeyed_4 : decode prog_2_method_9_code 4 = .ok (.istore 5, 2) := by decide +kernel
theorem d_B_lowestKeyed_6 : decode prog_2_method_9_code 6 = .ok (.iload 5, 2) := by decide +kernel
theorem d_B_lowestKeyed_8 : decode prog_2_method_9_code 8 = .ok (.bipush 24, 2) := by decide +kernel
theorem d_B_lowestKeyed_10 : decode prog_2_method_9_code 10 = .ok (.if_icmp .ge 82, 3) := by decide +kernel
theorem d_B_lowestKeyed_13 : decode prog_2_method_9_code 13 = .ok (.aload_n 0, 1) := by decide +kernel
theorem d_B_lowestKeyed_14 : decode prog_2_method_9_code 14 = .ok (.getfield 18, 3) := by decide +kernel
theorem d_B_lowestKeyed_17 : decode prog_2_method_9_code 17 = .ok (.iload 5, 2) := by decide +kernel
theorem d_B_lowestKeyed_19 : decode prog_2_method_9_code 19 = .ok (.iaload, 1) := by decide +kernel
theorem d_B_lowestKeyed_20 : decode prog_2_method_9_code 20 = .ok (.ifCond .eq 31, 3) := by decide +kernel
theorem d_B_lowestKeyed_23 : decode prog_2_method_9_code 23 = .ok (.aload_n 0, 1) := by decide +kernel
theorem d_B_lowestKeyed_24 : decode prog_2_method_9_code 24 = .ok (.getfield 22, 3) := by decide +kernel
theorem d_B_lowestKeyed_27 : decode prog_2_method_9_code 27 = .ok (.iload 5, 2) := by decide +kernel
theorem d_B_lowestKeyed_29 : decode prog_2_method_9_code 29 = .ok (.iaload, 1) := by decide +kernel
theorem d_B_lowestKeyed_30 : decode prog_2_method_9_code 30 = .ok (.iload_n 1, 1) := by decide +kernel
theorem d_B_lowestKeyed_31 : decode prog_2_method_9_code 31 = .ok (.if_icmp .ne 20, 3) := by decide +kernel
theorem d_B_lowestKeyed_34 : decode prog_2_method_9_code 34 = .ok (.aload_n 0, 1) := by decide +kernel
theorem d_B_lowestKeyed_35 : decode prog_2_method_9_code 35 = .ok (.getfield 27, 3) := by decide +kernel
theorem d_B_lowestKeyed_38 : decode prog_2_method_9_code 38 = .ok (.iload_n 2, 1) := by decide +kernel
theorem d_B_lowestKeyed_39 : decode prog_2_method_9_code 39 = .ok (.aaload, 1) := by decide +kernel
theorem d_B_lowestKeyed_40 : decode prog_2_method_9_code 40 = .ok (.iload 5, 2) := by decide +kernel
theorem d_B_lowestKeyed_42 : decode prog_2_method_9_code 42 = .ok (.iaload, 1) := by decide +kernel
theorem d_B_lowestKeyed_43 : decode prog_2_method_9_code 43 = .ok (.iload_n 3, 1) := by decide +kernel
theorem d_B_lowestKeyed_44 : decode prog_2_method_9_code 44 = .ok (.if_icmp .ne 7, 3) := by decide +kernel
theorem d_B_lowestKeyed_47 : decode prog_2_method_9_code 47 = .ok (.iconst 1, 1) := by decide +kernel
theorem d_B_lowestKeyed_48 : decode prog_2_method_9_code 48 = .ok (.goto 4, 3) := by decide +kernel
theorem d_B_lowestKeyed_51 : decode prog_2_method_9_code 51 = .ok (.iconst 0, 1) := by decide +kernel
theorem d_B_lowestKeyed_52 : decode prog_2_method_9_code 52 = .ok (.istore 6, 2) := by decide +kernel
theorem d_B_lowestKeyed_54 : decode prog_2_method_9_code 54 = .ok (.iload 6, 2) := by decide +kernel
theorem d_B_lowestKeyed_56 : decode prog_2_method_9_code 56 = .ok (.ifCond .eq 30, 3) := by decide +kernel
theorem d_B_lowestKeyed_59 : decode prog_2_method_9_code 59 = .ok (.iload 4, 2) := by decide +kernel
theorem d_B_lowestKeyed_61 : decode prog_2_method_9_code 61 = .ok (.iconst (-1), 1) := by decide +kernel
theorem d_B_lowestKeyed_62 : decode prog_2_method_9_code 62 = .ok (.if_icmp .eq 20, 3) := by decide +kernel
theorem d_B_lowestKeyed_65 : decode prog_2_method_9_code 65 = .ok (.aload_n 0, 1) := by decide +kernel
theorem d_B_lowestKeyed_66 : decode prog_2_method_9_code 66 = .ok (.getfield 18, 3) := by decide +kernel
theorem d_B_lowestKeyed_69 : decode prog_2_method_9_code 69 = .ok (.iload 5, 2) := by decide +kernel
theorem d_B_lowestKeyed_71 : decode prog_2_method_9_code 71 = .ok (.iaload, 1) := by decide +kernel
theorem d_B_lowestKeyed_72 : decode prog_2_method_9_code 72 = .ok (.aload_n 0, 1) := by decide +kernel
theorem d_B_lowestKeyed_73 : decode prog_2_method_9_code 73 = .ok (.getfield 18, 3) := by decide +kernel
theorem d_B_lowestKeyed_76 : decode prog_2_method_9_code 76 = .ok (.iload 4, 2) := by decide +kernel
theorem d_B_lowestKeyed_78 : decode prog_2_method_9_code 78 = .ok (.iaload, 1) := by decide +kernel
theorem d_B_lowestKeyed_79 : decode prog_2_method_9_code 79 = .ok (.if_icmp .ge 7, 3) := by decide +kernel
theorem d_B_lowestKeyed_82 : decode prog_2_method_9_code 82 = .ok (.iload 5, 2) := by decide +kernel
theorem d_B_lowestKeyed_84 : decode prog_2_method_9_code 84 = .ok (.istore 4, 2) := by decide +kernel
theorem d_B_lowestKeyed_86 : decode prog_2_method_9_code 86 = .ok (.iinc 5 1, 3) := by decide +kernel
theorem d_B_lowestKeyed_89 : decode prog_2_method_9_code 89 = .ok (.goto (-83), 3) := by decide +kernel
theorem d_B_lowestKeyed_92 : decode prog_2_method_9_code 92 = .ok (.iload 4, 2) := by decide +kernel
theorem d_B_lowestKeyed_94 : decode prog_2_method_9_code 94 = .ok (.ireturn, 1) := by decide +kernel
theorem d_B_memberAt_0 : decode prog_2_method_12_code 0 = .ok (.iconst 0, 1) := by decide +kernel
theorem d_B_memberAt_1 : decode prog_2_method_12_code 1 = .ok (.istore 4, 2) := by decide +kernel
theorem d_B_memberAt_3 : decode prog_2_method_12_code 3 = .ok (.iload 4, 2) := by decide +kernel
theorem d_B_memberAt_5 : decode prog_2_method_12_code 5 = .ok (.bipush 24, 2) := by decide +kernel
theorem d_B_memberAt_7 : decode prog_2_method_12_code 7 = .ok (.if_icmp .ge 38, 3) := by decide +kernel
theorem d_B_memberAt_10 : decode prog_2_method_12_code 10 = .ok (.aload_n 0, 1) := by decide +kernel
theorem d_B_memberAt_11 : decode prog_2_method_12_code 11 = .ok (.getfield 30, 3) := by decide +kernel
theorem d_B_memberAt_14 : decode prog_2_method_12_code 14 = .ok (.iload_n 1, 1) := by decide +kernel
theorem d_B_memberAt_15 : decode prog_2_method_12_code 15 = .ok (.aaload, 1) := by decide +kernel
theorem d_B_memberAt_16 : decode prog_2_method_12_code 16 = .ok (.iload 4, 2) := by decide +kernel
theorem d_B_memberAt_18 : decode prog_2_method_12_code 18 = .ok (.iaload, 1) := by decide +kernel
theorem d_B_memberAt_19 : decode prog_2_method_12_code 19 = .ok (.iload_n 2, 1) := by decide +kernel
theorem d_B_memberAt_20 : decode prog_2_method_12_code 20 = .ok (.if_icmp .ne 19, 3) := by decide +kernel
theorem d_B_memberAt_23 : decode prog_2_method_12_code 23 = .ok (.aload_n 0, 1) := by decide +kernel
theorem d_B_memberAt_24 : decode prog_2_method_12_code 24 = .ok (.getfield 33, 3) := by decide +kernel
theorem d_B_memberAt_27 : decode prog_2_method_12_code 27 = .ok (.iload_n 1, 1) := by decide +kernel
theorem d_B_memberAt_28 : decode prog_2_method_12_code 28 = .ok (.aaload, 1) := by decide +kernel
theorem d_B_memberAt_29 : decode prog_2_method_12_code 29 = .ok (.iload 4, 2) := by decide +kernel
theorem d_B_memberAt_31 : decode prog_2_method_12_code 31 = .ok (.iaload, 1) := by decide +kernel
theorem d_B_memberAt_32 : decode prog_2_method_12_code 32 = .ok (.iload_n 3, 1) := by decide +kernel
theorem d_B_memberAt_33 : decode prog_2_method_12_code 33 = .ok (.if_icmp .ne 6, 3) := by decide +kernel
theorem d_B_memberAt_36 : decode prog_2_method_12_code 36 = .ok (.iload 4, 2) := by decide +kernel
theorem d_B_memberAt_38 : decode prog_2_method_12_code 38 = .ok (.ireturn, 1) := by decide +kernel
theorem d_B_memberAt_39 : decode prog_2_method_12_code 39 = .ok (.iinc 4 1, 3) := by decide +kernel
theorem d_B_memberAt_42 : decode prog_2_method_12_code 42 = .ok (.goto (-39), 3) := by decide +kernel
theorem d_B_memberAt_45 : decode prog_2_method_12_code 45 = .ok (.iconst (-1), 1) := by decide +kernel
theorem d_B_memberAt_46 : decode prog_2_method_12_code 46 = .ok (.ireturn, 1) := by decide +kernel
theorem d_B_memberWithValue_0 : decode prog_2_method_13_code 0 = .ok (.aload_n 0, 1) := by decide +kernel
theorem d_B_memberWithValue_1 : decode prog_2_method_13_code 1 = .ok (.iload_n 1, 1) := by decide +kernel
theorem d_B_memberWithValue_2 : decode prog_2_method_13_code 2 = .ok (.iload_n 2, 1) := by decide +kernel
theorem d_B_memberWithValue_3 : decode prog_2_method_13_code 3 = .ok (.invokevirtual 42, 3) := by decide +kernel
theorem d_B_memberWithValue_6 : decode prog_2_method_13_code 6 = .ok (.istore 6, 2) := by decide +kernel
theorem d_B_memberWithValue_8 : decode prog_2_method_13_code 8 = .ok (.iload_n 3, 1) := by decide +kernel
theorem d_B_memberWithValue_9 : decode prog_2_method_13_code 9 = .ok (.istore 7, 2) := by decide +kernel
theorem d_B_memberWithValue_11 : decode prog_2_method_13_code 11 = .ok (.iload 7, 2) := by decide +kernel
theorem d_B_memberWithValue_13 : decode prog_2_method_13_code 13 = .ok (.iload 6, 2) := by decide +kernel
theorem d_B_memberWithValue_15 : decode prog_2_method_13_code 15 = .ok (.if_icmp .ge 43, 3) := by decide +kernel
theorem d_B_memberWithValue_18 : decode prog_2_method_13_code 18 = .ok (.aload_n 0, 1) := by decide +kernel
theorem d_B_memberWithValue_19 : decode prog_2_method_13_code 19 = .ok (.iload_n 1, 1) := by decide +kernel
theorem d_B_memberWithValue_20 : decode prog_2_method_13_code 20 = .ok (.iload_n 2, 1) := by decide +kernel
theorem d_B_memberWithValue_21 : decode prog_2_method_13_code 21 = .ok (.iload 7, 2) := by decide +kernel
theorem d_B_memberWithValue_23 : decode prog_2_method_13_code 23 = .ok (.invokevirtual 46, 3) := by decide +kernel
theorem d_B_memberWithValue_26 : decode prog_2_method_13_code 26 = .ok (.istore 8, 2) := by decide +kernel
theorem d_B_memberWithValue_28 : decode prog_2_method_13_code 28 = .ok (.iload 8, 2) := by decide +kernel
theorem d_B_memberWithValue_30 : decode prog_2_method_13_code 30 = .ok (.iconst (-1), 1) := by decide +kernel
theorem d_B_memberWithValue_31 : decode prog_2_method_13_code 31 = .ok (.if_icmp .eq 21, 3) := by decide +kernel
theorem d_B_memberWithValue_34 : decode prog_2_method_13_code 34 = .ok (.aload_n 0, 1) := by decide +kernel
theorem d_B_memberWithValue_35 : decode prog_2_method_13_code 35 = .ok (.getfield 27, 3) := by decide +kernel
theorem d_B_memberWithValue_38 : decode prog_2_method_13_code 38 = .ok (.iload 4, 2) := by decide +kernel
theorem d_B_memberWithValue_40 : decode prog_2_method_13_code 40 = .ok (.aaload, 1) := by decide +kernel
theorem d_B_memberWithValue_41 : decode prog_2_method_13_code 41 = .ok (.iload 8, 2) := by decide +kernel
theorem d_B_memberWithValue_43 : decode prog_2_method_13_code 43 = .ok (.iaload, 1) := by decide +kernel
theorem d_B_memberWithValue_44 : decode prog_2_method_13_code 44 = .ok (.iload 5, 2) := by decide +kernel
theorem d_B_memberWithValue_46 : decode prog_2_method_13_code 46 = .ok (.if_icmp .ne 6, 3) := by decide +kernel
theorem d_B_memberWithValue_49 : decode prog_2_method_13_code 49 = .ok (.iload 8, 2) := by decide +kernel
theorem d_B_memberWithValue_51 : decode prog_2_method_13_code 51 = .ok (.ireturn, 1) := by decide +kernel
theorem d_B_memberWithValue_52 : decode prog_2_method_13_code 52 = .ok (.iinc 7 1, 3) := by decide +kernel
theorem d_B_memberWithValue_55 : decode prog_2_method_13_code 55 = .ok (.goto (-44), 3) := by decide +kernel
theorem d_B_memberWithValue_58 : decode prog_2_method_13_code 58 = .ok (.iconst (-1), 1) := by decide +kernel
theorem d_B_memberWithValue_59 : decode prog_2_method_13_code 59 = .ok (.ireturn, 1) := by decide +kernel
theorem d_B_keyAt_0 : decode prog_2_method_5_code 0 = .ok (.iload_n 1, 1) := by decide +kernel
theorem d_B_keyAt_1 : decode prog_2_method_5_code 1 = .ok (.iconst (-1), 1) := by decide +kernel
theorem d_B_keyAt_2 : decode prog_2_method_5_code 2 = .ok (.if_icmp .ne 7, 3) := by decide +kernel
theorem d_B_keyAt_5 : decode prog_2_method_5_code 5 = .ok (.iconst 0, 1) := by decide +kernel
theorem d_B_keyAt_6 : decode prog_2_method_5_code 6 = .ok (.goto 9, 3) := by decide +kernel
theorem d_B_keyAt_9 : decode prog_2_method_5_code 9 = .ok (.aload_n 0, 1) := by decide +kernel
theorem d_B_keyAt_10 : decode prog_2_method_5_code 10 = .ok (.getfield 18, 3) := by decide +kernel
theorem d_B_keyAt_13 : decode prog_2_method_5_code 13 = .ok (.iload_n 1, 1) := by decide +kernel
theorem d_B_keyAt_14 : decode prog_2_method_5_code 14 = .ok (.iaload, 1) := by decide +kernel
theorem d_B_keyAt_15 : decode prog_2_method_5_code 15 = .ok (.ireturn, 1) := by decide +kernel
theorem d_B_takeOut_0 : decode prog_2_method_17_code 0 = .ok (.aload_n 0, 1) := by decide +kernel
theorem d_B_takeOut_1 : decode prog_2_method_17_code 1 = .ok (.getfield 30, 3) := by decide +kernel
theorem d_B_takeOut_4 : decode prog_2_method_17_code 4 = .ok (.iload_n 1, 1) := by decide +kernel
theorem d_B_takeOut_5 : decode prog_2_method_17_code 5 = .ok (.aaload, 1) := by decide +kernel
theorem d_B_takeOut_6 : decode prog_2_method_17_code 6 = .ok (.iload_n 2, 1) := by decide +kernel
theorem d_B_takeOut_7 : decode prog_2_method_17_code 7 = .ok (.iaload, 1) := by decide +kernel
theorem d_B_takeOut_8 : decode prog_2_method_17_code 8 = .ok (.istore_n 3, 1) := by decide +kernel
theorem d_B_takeOut_9 : decode prog_2_method_17_code 9 = .ok (.iload_n 3, 1) := by decide +kernel
theorem d_B_takeOut_10 : decode prog_2_method_17_code 10 = .ok (.iconst (-1), 1) := by decide +kernel
theorem d_B_takeOut_11 : decode prog_2_method_17_code 11 = .ok (.if_icmp .ne 4, 3) := by decide +kernel
theorem d_B_takeOut_14 : decode prog_2_method_17_code 14 = .ok (.return_, 1) := by decide +kernel
theorem d_B_takeOut_15 : decode prog_2_method_17_code 15 = .ok (.aload_n 0, 1) := by decide +kernel
theorem d_B_takeOut_16 : decode prog_2_method_17_code 16 = .ok (.getfield 33, 3) := by decide +kernel
theorem d_B_takeOut_19 : decode prog_2_method_17_code 19 = .ok (.iload_n 1, 1) := by decide +kernel
theorem d_B_takeOut_20 : decode prog_2_method_17_code 20 = .ok (.aaload, 1) := by decide +kernel
theorem d_B_takeOut_21 : decode prog_2_method_17_code 21 = .ok (.iload_n 2, 1) := by decide +kernel
theorem d_B_takeOut_22 : decode prog_2_method_17_code 22 = .ok (.iaload, 1) := by decide +kernel
theorem d_B_takeOut_23 : decode prog_2_method_17_code 23 = .ok (.istore 4, 2) := by decide +kernel
theorem d_B_takeOut_25 : decode prog_2_method_17_code 25 = .ok (.aload_n 0, 1) := by decide +kernel
theorem d_B_takeOut_26 : decode prog_2_method_17_code 26 = .ok (.getfield 30, 3) := by decide +kernel
theorem d_B_takeOut_29 : decode prog_2_method_17_code 29 = .ok (.iload_n 1, 1) := by decide +kernel
theorem d_B_takeOut_30 : decode prog_2_method_17_code 30 = .ok (.aaload, 1) := by decide +kernel
theorem d_B_takeOut_31 : decode prog_2_method_17_code 31 = .ok (.iload_n 2, 1) := by decide +kernel
theorem d_B_takeOut_32 : decode prog_2_method_17_code 32 = .ok (.iconst (-1), 1) := by decide +kernel
theorem d_B_takeOut_33 : decode prog_2_method_17_code 33 = .ok (.iastore, 1) := by decide +kernel
theorem d_B_takeOut_34 : decode prog_2_method_17_code 34 = .ok (.aload_n 0, 1) := by decide +kernel
theorem d_B_takeOut_35 : decode prog_2_method_17_code 35 = .ok (.getfield 33, 3) := by decide +kernel
theorem d_B_takeOut_38 : decode prog_2_method_17_code 38 = .ok (.iload_n 1, 1) := by decide +kernel
theorem d_B_takeOut_39 : decode prog_2_method_17_code 39 = .ok (.aaload, 1) := by decide +kernel
theorem d_B_takeOut_40 : decode prog_2_method_17_code 40 = .ok (.iload_n 2, 1) := by decide +kernel
theorem d_B_takeOut_41 : decode prog_2_method_17_code 41 = .ok (.iconst (-1), 1) := by decide +kernel
theorem d_B_takeOut_42 : decode prog_2_method_17_code 42 = .ok (.iastore, 1) := by decide +kernel
theorem d_B_takeOut_43 : decode prog_2_method_17_code 43 = .ok (.aload_n 0, 1) := by decide +kernel
theorem d_B_takeOut_44 : decode prog_2_method_17_code 44 = .ok (.iload_n 1, 1) := by decide +kernel
theorem d_B_takeOut_45 : decode prog_2_method_17_code 45 = .ok (.iload_n 3, 1) := by decide +kernel
theorem d_B_takeOut_46 : decode prog_2_method_17_code 46 = .ok (.iload 4, 2) := by decide +kernel
theorem d_B_takeOut_48 : decode prog_2_method_17_code 48 = .ok (.iconst (-1), 1) := by decide +kernel
theorem d_B_takeOut_49 : decode prog_2_method_17_code 49 = .ok (.invokevirtual 54, 3) := by decide +kernel
theorem d_B_takeOut_52 : decode prog_2_method_17_code 52 = .ok (.return_, 1) := by decide +kernel
theorem d_B_membersOwnedBy_0 : decode prog_2_method_15_code 0 = .ok (.iconst 0, 1) := by decide +kernel
theorem d_B_membersOwnedBy_1 : decode prog_2_method_15_code 1 = .ok (.istore_n 3, 1) := by decide +kernel
theorem d_B_membersOwnedBy_2 : decode prog_2_method_15_code 2 = .ok (.iconst 0, 1) := by decide +kernel
theorem d_B_membersOwnedBy_3 : decode prog_2_method_15_code 3 = .ok (.istore 4, 2) := by decide +kernel
theorem d_B_membersOwnedBy_5 : decode prog_2_method_15_code 5 = .ok (.iload 4, 2) := by decide +kernel
theorem d_B_membersOwnedBy_7 : decode prog_2_method_15_code 7 = .ok (.bipush 24, 2) := by decide +kernel
theorem d_B_membersOwnedBy_9 : decode prog_2_method_15_code 9 = .ok (.if_icmp .ge 32, 3) := by decide +kernel
theorem d_B_membersOwnedBy_12 : decode prog_2_method_15_code 12 = .ok (.iload_n 2, 1) := by decide +kernel
theorem d_B_membersOwnedBy_13 : decode prog_2_method_15_code 13 = .ok (.aload_n 0, 1) := by decide +kernel
theorem d_B_membersOwnedBy_14 : decode prog_2_method_15_code 14 = .ok (.getfield 30, 3) := by decide +kernel
theorem d_B_membersOwnedBy_17 : decode prog_2_method_15_code 17 = .ok (.iload_n 1, 1) := by decide +kernel
theorem d_B_membersOwnedBy_18 : decode prog_2_method_15_code 18 = .ok (.aaload, 1) := by decide +kernel
theorem d_B_membersOwnedBy_19 : decode prog_2_method_15_code 19 = .ok (.iload 4, 2) := by decide +kernel
theorem d_B_membersOwnedBy_21 : decode prog_2_method_15_code 21 = .ok (.iaload, 1) := by decide +kernel
theorem d_B_membersOwnedBy_22 : decode prog_2_method_15_code 22 = .ok (.invokestatic 50, 3) := by decide +kernel
theorem d_B_membersOwnedBy_25 : decode prog_2_method_15_code 25 = .ok (.ifCond .eq 10, 3) := by decide +kernel
theorem d_B_membersOwnedBy_28 : decode prog_2_method_15_code 28 = .ok (.iload_n 3, 1) := by decide +kernel
theorem d_B_membersOwnedBy_29 : decode prog_2_method_15_code 29 = .ok (.iconst 1, 1) := by decide +kernel
theorem d_B_membersOwnedBy_30 : decode prog_2_method_15_code 30 = .ok (.iload 4, 2) := by decide +kernel
theorem d_B_membersOwnedBy_32 : decode prog_2_method_15_code 32 = .ok (.ishl, 1) := by decide +kernel
theorem d_B_membersOwnedBy_33 : decode prog_2_method_15_code 33 = .ok (.ior, 1) := by decide +kernel
theorem d_B_membersOwnedBy_34 : decode prog_2_method_15_code 34 = .ok (.istore_n 3, 1) := by decide +kernel
theorem d_B_membersOwnedBy_35 : decode prog_2_method_15_code 35 = .ok (.iinc 4 1, 3) := by decide +kernel
theorem d_B_membersOwnedBy_38 : decode prog_2_method_15_code 38 = .ok (.goto (-33), 3) := by decide +kernel
theorem d_B_membersOwnedBy_41 : decode prog_2_method_15_code 41 = .ok (.iload_n 3, 1) := by decide +kernel
theorem d_B_membersOwnedBy_42 : decode prog_2_method_15_code 42 = .ok (.ireturn, 1) := by decide +kernel
theorem d_B_dropRecord_0 : decode prog_2_method_8_code 0 = .ok (.aload_n 0, 1) := by decide +kernel
theorem d_B_dropRecord_1 : decode prog_2_method_8_code 1 = .ok (.getfield 18, 3) := by decide +kernel
theorem d_B_dropRecord_4 : decode prog_2_method_8_code 4 = .ok (.iload_n 1, 1) := by decide +kernel
theorem d_B_dropRecord_5 : decode prog_2_method_8_code 5 = .ok (.iconst 0, 1) := by decide +kernel
theorem d_B_dropRecord_6 : decode prog_2_method_8_code 6 = .ok (.iastore, 1) := by decide +kernel
theorem d_B_dropRecord_7 : decode prog_2_method_8_code 7 = .ok (.aload_n 0, 1) := by decide +kernel
theorem d_B_dropRecord_8 : decode prog_2_method_8_code 8 = .ok (.dup, 1) := by decide +kernel
theorem d_B_dropRecord_9 : decode prog_2_method_8_code 9 = .ok (.getfield 9, 3) := by decide +kernel
theorem d_B_dropRecord_12 : decode prog_2_method_8_code 12 = .ok (.iconst 1, 1) := by decide +kernel
theorem d_B_dropRecord_13 : decode prog_2_method_8_code 13 = .ok (.isub, 1) := by decide +kernel
theorem d_B_dropRecord_14 : decode prog_2_method_8_code 14 = .ok (.putfield 9, 3) := by decide +kernel
theorem d_B_dropRecord_17 : decode prog_2_method_8_code 17 = .ok (.return_, 1) := by decide +kernel
end
section
theorem d_I_bitCount_0 : decode prog_10_method_49_code 0 = .ok (.iload_n 0, 1) := by decide +kernel
theorem d_I_bitCount_1 : decode prog_10_method_49_code 1 = .ok (.iload_n 0, 1) := by decide +kernel
theorem d_I_bitCount_2 : decode prog_10_method_49_code 2 = .ok (.iconst 1, 1) := by decide +kernel
theorem d_I_bitCount_3 : decode prog_10_method_49_code 3 = .ok (.iushr, 1) := by decide +kernel
theorem d_I_bitCount_4 : decode prog_10_method_49_code 4 = .ok (.ldc_w 265, 3) := by decide +kernel
theorem d_I_bitCount_7 : decode prog_10_method_49_code 7 = .ok (.iand, 1) := by decide +kernel
theorem d_I_bitCount_8 : decode prog_10_method_49_code 8 = .ok (.isub, 1) := by decide +kernel
theorem d_I_bitCount_9 : decode prog_10_method_49_code 9 = .ok (.istore_n 0, 1) := by decide +kernel
theorem d_I_bitCount_10 : decode prog_10_method_49_code 10 = .ok (.iload_n 0, 1) := by decide +kernel
theorem d_I_bitCount_11 : decode prog_10_method_49_code 11 = .ok (.ldc_w 266, 3) := by decide +kernel
theorem d_I_bitCount_14 : decode prog_10_method_49_code 14 = .ok (.iand, 1) := by decide +kernel
theorem d_I_bitCount_15 : decode prog_10_method_49_code 15 = .ok (.iload_n 0, 1) := by decide +kernel
theorem d_I_bitCount_16 : decode prog_10_method_49_code 16 = .ok (.iconst 2, 1) := by decide +kernel
theorem d_I_bitCount_17 : decode prog_10_method_49_code 17 = .ok (.iushr, 1) := by decide +kernel
theorem d_I_bitCount_18 : decode prog_10_method_49_code 18 = .ok (.ldc_w 266, 3) := by decide +kernel
theorem d_I_bitCount_21 : decode prog_10_method_49_code 21 = .ok (.iand, 1) := by decide +kernel
theorem d_I_bitCount_22 : decode prog_10_method_49_code 22 = .ok (.iadd, 1) := by decide +kernel
theorem d_I_bitCount_23 : decode prog_10_method_49_code 23 = .ok (.istore_n 0, 1) := by decide +kernel
theorem d_I_bitCount_24 : decode prog_10_method_49_code 24 = .ok (.iload_n 0, 1) := by decide +kernel
theorem d_I_bitCount_25 : decode prog_10_method_49_code 25 = .ok (.iload_n 0, 1) := by decide +kernel
theorem d_I_bitCount_26 : decode prog_10_method_49_code 26 = .ok (.iconst 4, 1) := by decide +kernel
theorem d_I_bitCount_27 : decode prog_10_method_49_code 27 = .ok (.iushr, 1) := by decide +kernel
theorem d_I_bitCount_28 : decode prog_10_method_49_code 28 = .ok (.iadd, 1) := by decide +kernel
theorem d_I_bitCount_29 : decode prog_10_method_49_code 29 = .ok (.ldc_w 267, 3) := by decide +kernel
theorem d_I_bitCount_32 : decode prog_10_method_49_code 32 = .ok (.iand, 1) := by decide +kernel
theorem d_I_bitCount_33 : decode prog_10_method_49_code 33 = .ok (.istore_n 0, 1) := by decide +kernel
theorem d_I_bitCount_34 : decode prog_10_method_49_code 34 = .ok (.iload_n 0, 1) := by decide +kernel
theorem d_I_bitCount_35 : decode prog_10_method_49_code 35 = .ok (.iload_n 0, 1) := by decide +kernel
theorem d_I_bitCount_36 : decode prog_10_method_49_code 36 = .ok (.bipush 8, 2) := by decide +kernel
theorem d_I_bitCount_38 : decode prog_10_method_49_code 38 = .ok (.iushr, 1) := by decide +kernel
theorem d_I_bitCount_39 : decode prog_10_method_49_code 39 = .ok (.iadd, 1) := by decide +kernel
theorem d_I_bitCount_40 : decode prog_10_method_49_code 40 = .ok (.istore_n 0, 1) := by decide +kernel
theorem d_I_bitCount_41 : decode prog_10_method_49_code 41 = .ok (.iload_n 0, 1) := by decide +kernel
theorem d_I_bitCount_42 : decode prog_10_method_49_code 42 = .ok (.iload_n 0, 1) := by decide +kernel
theorem d_I_bitCount_43 : decode prog_10_method_49_code 43 = .ok (.bipush 16, 2) := by decide +kernel
theorem d_I_bitCount_45 : decode prog_10_method_49_code 45 = .ok (.iushr, 1) := by decide +kernel
theorem d_I_bitCount_46 : decode prog_10_method_49_code 46 = .ok (.iadd, 1) := by decide +kernel
theorem d_I_bitCount_47 : decode prog_10_method_49_code 47 = .ok (.istore_n 0, 1) := by decide +kernel
theorem d_I_bitCount_48 : decode prog_10_method_49_code 48 = .ok (.iload_n 0, 1) := by decide +kernel
theorem d_I_bitCount_49 : decode prog_10_method_49_code 49 = .ok (.bipush 63, 2) := by decide +kernel
theorem d_I_bitCount_51 : decode prog_10_method_49_code 51 = .ok (.iand, 1) := by decide +kernel
theorem d_I_bitCount_52 : decode prog_10_method_49_code 52 = .ok (.ireturn, 1) := by decide +kernel
end
section
theorem d_L_type_0 : decode method_3_code 0 = .ok (.aload_n 2, 1) := by decide +kernel
theorem d_L_type_1 : decode method_3_code 1 = .ok (.iconst 0, 1) := by decide +kernel
theorem d_L_type_2 : decode method_3_code 2 = .ok (.aload_n 0, 1) := by decide +kernel
theorem d_L_type_3 : decode method_3_code 3 = .ok (.iload_n 1, 1) := by decide +kernel
theorem d_L_type_4 : decode method_3_code 4 = .ok (.invokevirtual 7, 3) := by decide +kernel
theorem d_L_type_7 : decode method_3_code 7 = .ok (.i2l, 1) := by decide +kernel
theorem d_L_type_8 : decode method_3_code 8 = .ok (.lastore, 1) := by decide +kernel
theorem d_L_type_9 : decode method_3_code 9 = .ok (.goto 9, 3) := by decide +kernel
theorem d_L_type_12 : decode method_3_code 12 = .ok (.astore_n 3, 1) := by decide +kernel
theorem d_L_type_13 : decode method_3_code 13 = .ok (.iconst 1, 1) := by decide +kernel
theorem d_L_type_14 : decode method_3_code 14 = .ok (.ireturn, 1) := by decide +kernel
theorem d_L_type_15 : decode method_3_code 15 = .ok (.astore_n 3, 1) := by decide +kernel
theorem d_L_type_16 : decode method_3_code 16 = .ok (.iconst 2, 1) := by decide +kernel
theorem d_L_type_17 : decode method_3_code 17 = .ok (.ireturn, 1) := by decide +kernel
theorem d_L_type_18 : decode method_3_code 18 = .ok (.iconst 0, 1) := by decide +kernel
theorem d_L_type_19 : decode method_3_code 19 = .ok (.ireturn, 1) := by decide +kernel
theorem d_L_set_0 : decode method_4_code 0 = .ok (.aload 5, 2) := by decide +kernel
theorem d_L_set_2 : decode method_4_code 2 = .ok (.iconst 0, 1) := by decide +kernel
theorem d_L_set_3 : decode method_4_code 3 = .ok (.aload_n 0, 1) := by decide +kernel
theorem d_L_set_4 : decode method_4_code 4 = .ok (.iload_n 1, 1) := by decide +kernel
theorem d_L_set_5 : decode method_4_code 5 = .ok (.iload_n 2, 1) := by decide +kernel
theorem d_L_set_6 : decode method_4_code 6 = .ok (.iload_n 3, 1) := by decide +kernel
theorem d_L_set_7 : decode method_4_code 7 = .ok (.iload 4, 2) := by decide +kernel
theorem d_L_set_9 : decode method_4_code 9 = .ok (.invokevirtual 17, 3) := by decide +kernel
theorem d_L_set_12 : decode method_4_code 12 = .ok (.i2l, 1) := by decide +kernel
theorem d_L_set_13 : decode method_4_code 13 = .ok (.lastore, 1) := by decide +kernel
theorem d_L_set_14 : decode method_4_code 14 = .ok (.goto 11, 3) := by decide +kernel
theorem d_L_set_17 : decode method_4_code 17 = .ok (.astore 6, 2) := by decide +kernel
theorem d_L_set_19 : decode method_4_code 19 = .ok (.iconst 1, 1) := by decide +kernel
theorem d_L_set_20 : decode method_4_code 20 = .ok (.ireturn, 1) := by decide +kernel
theorem d_L_set_21 : decode method_4_code 21 = .ok (.astore 6, 2) := by decide +kernel
theorem d_L_set_23 : decode method_4_code 23 = .ok (.iconst 2, 1) := by decide +kernel
theorem d_L_set_24 : decode method_4_code 24 = .ok (.ireturn, 1) := by decide +kernel
theorem d_L_set_25 : decode method_4_code 25 = .ok (.iconst 0, 1) := by decide +kernel
theorem d_L_set_26 : decode method_4_code 26 = .ok (.ireturn, 1) := by decide +kernel
theorem d_L_store_0 : decode method_5_code 0 = .ok (.aload 5, 2) := by decide +kernel
theorem d_L_store_2 : decode method_5_code 2 = .ok (.iconst 0, 1) := by decide +kernel
theorem d_L_store_3 : decode method_5_code 3 = .ok (.aload_n 0, 1) := by decide +kernel
theorem d_L_store_4 : decode method_5_code 4 = .ok (.iload_n 1, 1) := by decide +kernel
theorem d_L_store_5 : decode method_5_code 5 = .ok (.iload_n 2, 1) := by decide +kernel
theorem d_L_store_6 : decode method_5_code 6 = .ok (.iload_n 3, 1) := by decide +kernel
theorem d_L_store_7 : decode method_5_code 7 = .ok (.iload 4, 2) := by decide +kernel
theorem d_L_store_9 : decode method_5_code 9 = .ok (.invokevirtual 21, 3) := by decide +kernel
theorem d_L_store_12 : decode method_5_code 12 = .ok (.i2l, 1) := by decide +kernel
theorem d_L_store_13 : decode method_5_code 13 = .ok (.lastore, 1) := by decide +kernel
theorem d_L_store_14 : decode method_5_code 14 = .ok (.goto 15, 3) := by decide +kernel
theorem d_L_store_17 : decode method_5_code 17 = .ok (.astore 6, 2) := by decide +kernel
theorem d_L_store_19 : decode method_5_code 19 = .ok (.iconst 1, 1) := by decide +kernel
theorem d_L_store_20 : decode method_5_code 20 = .ok (.ireturn, 1) := by decide +kernel
theorem d_L_store_21 : decode method_5_code 21 = .ok (.astore 6, 2) := by decide +kernel
theorem d_L_store_23 : decode method_5_code 23 = .ok (.iconst 2, 1) := by decide +kernel
theorem d_L_store_24 : decode method_5_code 24 = .ok (.ireturn, 1) := by decide +kernel
theorem d_L_store_25 : decode method_5_code 25 = .ok (.astore 6, 2) := by decide +kernel
theorem d_L_store_27 : decode method_5_code 27 = .ok (.iconst 3, 1) := by decide +kernel
theorem d_L_store_28 : decode method_5_code 28 = .ok (.ireturn, 1) := by decide +kernel
theorem d_L_store_29 : decode method_5_code 29 = .ok (.iconst 0, 1) := by decide +kernel
theorem d_L_store_30 : decode method_5_code 30 = .ok (.ireturn, 1) := by decide +kernel
theorem d_L_find_0 : decode method_6_code 0 = .ok (.aload_n 0, 1) := by decide +kernel
theorem d_L_find_1 : decode method_6_code 1 = .ok (.iload_n 1, 1) := by decide +kernel
theorem d_L_find_2 : decode method_6_code 2 = .ok (.iload_n 2, 1) := by decide +kernel
theorem d_L_find_3 : decode method_6_code 3 = .ok (.invokevirtual 26, 3) := by decide +kernel
theorem d_L_find_6 : decode method_6_code 6 = .ok (.goto 6, 3) := by decide +kernel
theorem d_L_find_9 : decode method_6_code 9 = .ok (.astore_n 3, 1) := by decide +kernel
theorem d_L_find_10 : decode method_6_code 10 = .ok (.iconst 1, 1) := by decide +kernel
theorem d_L_find_11 : decode method_6_code 11 = .ok (.ireturn, 1) := by decide +kernel
theorem d_L_find_12 : decode method_6_code 12 = .ok (.iconst 0, 1) := by decide +kernel
theorem d_L_find_13 : decode method_6_code 13 = .ok (.ireturn, 1) := by decide +kernel
theorem d_L_seek_0 : decode method_7_code 0 = .ok (.aload 4, 2) := by decide +kernel
theorem d_L_seek_2 : decode method_7_code 2 = .ok (.iconst 0, 1) := by decide +kernel
theorem d_L_seek_3 : decode method_7_code 3 = .ok (.aload_n 0, 1) := by decide +kernel
theorem d_L_seek_4 : decode method_7_code 4 = .ok (.iload_n 1, 1) := by decide +kernel
theorem d_L_seek_5 : decode method_7_code 5 = .ok (.iload_n 2, 1) := by decide +kernel
theorem d_L_seek_6 : decode method_7_code 6 = .ok (.iload_n 3, 1) := by decide +kernel
theorem d_L_seek_7 : decode method_7_code 7 = .ok (.invokevirtual 30, 3) := by decide +kernel
theorem d_L_seek_10 : decode method_7_code 10 = .ok (.i2l, 1) := by decide +kernel
theorem d_L_seek_11 : decode method_7_code 11 = .ok (.lastore, 1) := by decide +kernel
theorem d_L_seek_12 : decode method_7_code 12 = .ok (.goto 11, 3) := by decide +kernel
theorem d_L_seek_15 : decode method_7_code 15 = .ok (.astore 5, 2) := by decide +kernel
theorem d_L_seek_17 : decode method_7_code 17 = .ok (.iconst 1, 1) := by decide +kernel
theorem d_L_seek_18 : decode method_7_code 18 = .ok (.ireturn, 1) := by decide +kernel
theorem d_L_seek_19 : decode method_7_code 19 = .ok (.astore 5, 2) := by decide +kernel
theorem d_L_seek_21 : decode method_7_code 21 = .ok (.iconst 2, 1) := by decide +kernel
theorem d_L_seek_22 : decode method_7_code 22 = .ok (.ireturn, 1) := by decide +kernel
theorem d_L_seek_23 : decode method_7_code 23 = .ok (.iconst 0, 1) := by decide +kernel
theorem d_L_seek_24 : decode method_7_code 24 = .ok (.ireturn, 1) := by decide +kernel
theorem d_L_move_0 : decode method_8_code 0 = .ok (.aload_n 3, 1) := by decide +kernel
theorem d_L_move_1 : decode method_8_code 1 = .ok (.iconst 0, 1) := by decide +kernel
theorem d_L_move_2 : decode method_8_code 2 = .ok (.aload_n 0, 1) := by decide +kernel
theorem d_L_move_3 : decode method_8_code 3 = .ok (.iload_n 1, 1) := by decide +kernel
theorem d_L_move_4 : decode method_8_code 4 = .ok (.iload_n 2, 1) := by decide +kernel
theorem d_L_move_5 : decode method_8_code 5 = .ok (.invokevirtual 34, 3) := by decide +kernel
theorem d_L_move_8 : decode method_8_code 8 = .ok (.i2l, 1) := by decide +kernel
theorem d_L_move_9 : decode method_8_code 9 = .ok (.lastore, 1) := by decide +kernel
theorem d_L_move_10 : decode method_8_code 10 = .ok (.goto 11, 3) := by decide +kernel
theorem d_L_move_13 : decode method_8_code 13 = .ok (.astore 4, 2) := by decide +kernel
theorem d_L_move_15 : decode method_8_code 15 = .ok (.iconst 1, 1) := by decide +kernel
theorem d_L_move_16 : decode method_8_code 16 = .ok (.ireturn, 1) := by decide +kernel
theorem d_L_move_17 : decode method_8_code 17 = .ok (.astore 4, 2) := by decide +kernel
theorem d_L_move_19 : decode method_8_code 19 = .ok (.iconst 2, 1) := by decide +kernel
theorem d_L_move_20 : decode method_8_code 20 = .ok (.ireturn, 1) := by decide +kernel
theorem d_L_move_21 : decode method_8_code 21 = .ok (.iconst 0, 1) := by decide +kernel
theorem d_L_move_22 : decode method_8_code 22 = .ok (.ireturn, 1) := by decide +kernel
theorem d_L_scan_0 : decode method_9_code 0 = .ok (.aload 4, 2) := by decide +kernel
theorem d_L_scan_2 : decode method_9_code 2 = .ok (.iconst 0, 1) := by decide +kernel
theorem d_L_scan_3 : decode method_9_code 3 = .ok (.aload_n 0, 1) := by decide +kernel
theorem d_L_scan_4 : decode method_9_code 4 = .ok (.iload_n 1, 1) := by decide +kernel
theorem d_L_scan_5 : decode method_9_code 5 = .ok (.iload_n 2, 1) := by decide +kernel
theorem d_L_scan_6 : decode method_9_code 6 = .ok (.iload_n 3, 1) := by decide +kernel
theorem d_L_scan_7 : decode method_9_code 7 = .ok (.invokevirtual 38, 3) := by decide +kernel
theorem d_L_scan_10 : decode method_9_code 10 = .ok (.i2l, 1) := by decide +kernel
theorem d_L_scan_11 : decode method_9_code 11 = .ok (.lastore, 1) := by decide +kernel
theorem d_L_scan_12 : decode method_9_code 12 = .ok (.goto 11, 3) := by decide +kernel
theorem d_L_scan_15 : decode method_9_code 15 = .ok (.astore 5, 2) := by decide +kernel
theorem d_L_scan_17 : decode method_9_code 17 = .ok (.iconst 1, 1) := by decide +kernel
theorem d_L_scan_18 : decode method_9_code 18 = .ok (.ireturn, 1) := by decide +kernel
theorem d_L_scan_19 : decode method_9_code 19 = .ok (.astore 5, 2) := by decide +kernel
theorem d_L_scan_21 : decode method_9_code 21 = .ok (.iconst 2, 1) := by decide +kernel
theorem d_L_scan_22 : decode method_9_code 22 = .ok (.ireturn, 1) := by decide +kernel
theorem d_L_scan_23 : decode method_9_code 23 = .ok (.iconst 0, 1) := by decide +kernel
theorem d_L_scan_24 : decode method_9_code 24 = .ok (.ireturn, 1) := by decide +kernel
theorem d_L_current_0 : decode method_10_code 0 = .ok (.aload_n 3, 1) := by decide +kernel
theorem d_L_current_1 : decode method_10_code 1 = .ok (.iconst 0, 1) := by decide +kernel
theorem d_L_current_2 : decode method_10_code 2 = .ok (.aload_n 0, 1) := by decide +kernel
theorem d_L_current_3 : decode method_10_code 3 = .ok (.iload_n 1, 1) := by decide +kernel
theorem d_L_current_4 : decode method_10_code 4 = .ok (.iload_n 2, 1) := by decide +kernel
theorem d_L_current_5 : decode method_10_code 5 = .ok (.invokevirtual 41, 3) := by decide +kernel
theorem d_L_current_8 : decode method_10_code 8 = .ok (.i2l, 1) := by decide +kernel
theorem d_L_current_9 : decode method_10_code 9 = .ok (.lastore, 1) := by decide +kernel
theorem d_L_current_10 : decode method_10_code 10 = .ok (.goto 7, 3) := by decide +kernel
theorem d_L_current_13 : decode method_10_code 13 = .ok (.astore 4, 2) := by decide +kernel
theorem d_L_current_15 : decode method_10_code 15 = .ok (.iconst 1, 1) := by decide +kernel
theorem d_L_current_16 : decode method_10_code 16 = .ok (.ireturn, 1) := by decide +kernel
theorem d_L_current_17 : decode method_10_code 17 = .ok (.iconst 0, 1) := by decide +kernel
theorem d_L_current_18 : decode method_10_code 18 = .ok (.ireturn, 1) := by decide +kernel
theorem d_L_get_0 : decode method_11_code 0 = .ok (.aload_n 2, 1) := by decide +kernel
theorem d_L_get_1 : decode method_11_code 1 = .ok (.iconst 0, 1) := by decide +kernel
theorem d_L_get_2 : decode method_11_code 2 = .ok (.aload_n 0, 1) := by decide +kernel
theorem d_L_get_3 : decode method_11_code 3 = .ok (.iload_n 1, 1) := by decide +kernel
theorem d_L_get_4 : decode method_11_code 4 = .ok (.invokevirtual 44, 3) := by decide +kernel
theorem d_L_get_7 : decode method_11_code 7 = .ok (.i2l, 1) := by decide +kernel
theorem d_L_get_8 : decode method_11_code 8 = .ok (.lastore, 1) := by decide +kernel
theorem d_L_get_9 : decode method_11_code 9 = .ok (.goto 9, 3) := by decide +kernel
theorem d_L_get_12 : decode method_11_code 12 = .ok (.astore_n 3, 1) := by decide +kernel
theorem d_L_get_13 : decode method_11_code 13 = .ok (.iconst 1, 1) := by decide +kernel
theorem d_L_get_14 : decode method_11_code 14 = .ok (.ireturn, 1) := by decide +kernel
theorem d_L_get_15 : decode method_11_code 15 = .ok (.astore_n 3, 1) := by decide +kernel
theorem d_L_get_16 : decode method_11_code 16 = .ok (.iconst 2, 1) := by decide +kernel
theorem d_L_get_17 : decode method_11_code 17 = .ok (.ireturn, 1) := by decide +kernel
theorem d_L_get_18 : decode method_11_code 18 = .ok (.iconst 0, 1) := by decide +kernel
theorem d_L_get_19 : decode method_11_code 19 = .ok (.ireturn, 1) := by decide +kernel
theorem d_L_modify_0 : decode method_12_code 0 = .ok (.aload_n 0, 1) := by decide +kernel
theorem d_L_modify_1 : decode method_12_code 1 = .ok (.iload_n 1, 1) := by decide +kernel
theorem d_L_modify_2 : decode method_12_code 2 = .ok (.iload_n 2, 1) := by decide +kernel
theorem d_L_modify_3 : decode method_12_code 3 = .ok (.invokevirtual 47, 3) := by decide +kernel
theorem d_L_modify_6 : decode method_12_code 6 = .ok (.goto 12, 3) := by decide +kernel
theorem d_L_modify_9 : decode method_12_code 9 = .ok (.astore_n 3, 1) := by decide +kernel
theorem d_L_modify_10 : decode method_12_code 10 = .ok (.iconst 1, 1) := by decide +kernel
theorem d_L_modify_11 : decode method_12_code 11 = .ok (.ireturn, 1) := by decide +kernel
theorem d_L_modify_12 : decode method_12_code 12 = .ok (.astore_n 3, 1) := by decide +kernel
theorem d_L_modify_13 : decode method_12_code 13 = .ok (.iconst 2, 1) := by decide +kernel
theorem d_L_modify_14 : decode method_12_code 14 = .ok (.ireturn, 1) := by decide +kernel
theorem d_L_modify_15 : decode method_12_code 15 = .ok (.astore_n 3, 1) := by decide +kernel
theorem d_L_modify_16 : decode method_12_code 16 = .ok (.iconst 3, 1) := by decide +kernel
theorem d_L_modify_17 : decode method_12_code 17 = .ok (.ireturn, 1) := by decide +kernel
theorem d_L_modify_18 : decode method_12_code 18 = .ok (.iconst 0, 1) := by decide +kernel
theorem d_L_modify_19 : decode method_12_code 19 = .ok (.ireturn, 1) := by decide +kernel
theorem d_L_connect_0 : decode method_13_code 0 = .ok (.aload_n 0, 1) := by decide +kernel
theorem d_L_connect_1 : decode method_13_code 1 = .ok (.iload_n 1, 1) := by decide +kernel
theorem d_L_connect_2 : decode method_13_code 2 = .ok (.invokevirtual 50, 3) := by decide +kernel
theorem d_L_connect_5 : decode method_13_code 5 = .ok (.goto 12, 3) := by decide +kernel
theorem d_L_connect_8 : decode method_13_code 8 = .ok (.astore_n 2, 1) := by decide +kernel
theorem d_L_connect_9 : decode method_13_code 9 = .ok (.iconst 1, 1) := by decide +kernel
theorem d_L_connect_10 : decode method_13_code 10 = .ok (.ireturn, 1) := by decide +kernel
theorem d_L_connect_11 : decode method_13_code 11 = .ok (.astore_n 2, 1) := by decide +kernel
theorem d_L_connect_12 : decode method_13_code 12 = .ok (.iconst 2, 1) := by decide +kernel
theorem d_L_connect_13 : decode method_13_code 13 = .ok (.ireturn, 1) := by decide +kernel
theorem d_L_connect_14 : decode method_13_code 14 = .ok (.astore_n 2, 1) := by decide +kernel
theorem d_L_connect_15 : decode method_13_code 15 = .ok (.iconst 3, 1) := by decide +kernel
theorem d_L_connect_16 : decode method_13_code 16 = .ok (.ireturn, 1) := by decide +kernel
theorem d_L_connect_17 : decode method_13_code 17 = .ok (.iconst 0, 1) := by decide +kernel
theorem d_L_connect_18 : decode method_13_code 18 = .ok (.ireturn, 1) := by decide +kernel
theorem d_L_disconnect_0 : decode method_14_code 0 = .ok (.aload_n 0, 1) := by decide +kernel
theorem d_L_disconnect_1 : decode method_14_code 1 = .ok (.iload_n 1, 1) := by decide +kernel
theorem d_L_disconnect_2 : decode method_14_code 2 = .ok (.invokevirtual 54, 3) := by decide +kernel
theorem d_L_disconnect_5 : decode method_14_code 5 = .ok (.goto 12, 3) := by decide +kernel
theorem d_L_disconnect_8 : decode method_14_code 8 = .ok (.astore_n 2, 1) := by decide +kernel
theorem d_L_disconnect_9 : decode method_14_code 9 = .ok (.iconst 1, 1) := by decide +kernel
theorem d_L_disconnect_10 : decode method_14_code 10 = .ok (.ireturn, 1) := by decide +kernel
theorem d_L_disconnect_11 : decode method_14_code 11 = .ok (.astore_n 2, 1) := by decide +kernel
theorem d_L_disconnect_12 : decode method_14_code 12 = .ok (.iconst 2, 1) := by decide +kernel
theorem d_L_disconnect_13 : decode method_14_code 13 = .ok (.ireturn, 1) := by decide +kernel
theorem d_L_disconnect_14 : decode method_14_code 14 = .ok (.astore_n 2, 1) := by decide +kernel
theorem d_L_disconnect_15 : decode method_14_code 15 = .ok (.iconst 3, 1) := by decide +kernel
theorem d_L_disconnect_16 : decode method_14_code 16 = .ok (.ireturn, 1) := by decide +kernel
theorem d_L_disconnect_17 : decode method_14_code 17 = .ok (.iconst 0, 1) := by decide +kernel
theorem d_L_disconnect_18 : decode method_14_code 18 = .ok (.ireturn, 1) := by decide +kernel
theorem d_L_reconnect_0 : decode method_15_code 0 = .ok (.aload_n 0, 1) := by decide +kernel
theorem d_L_reconnect_1 : decode method_15_code 1 = .ok (.iload_n 1, 1) := by decide +kernel
theorem d_L_reconnect_2 : decode method_15_code 2 = .ok (.invokevirtual 57, 3) := by decide +kernel
theorem d_L_reconnect_5 : decode method_15_code 5 = .ok (.goto 12, 3) := by decide +kernel
theorem d_L_reconnect_8 : decode method_15_code 8 = .ok (.astore_n 2, 1) := by decide +kernel
theorem d_L_reconnect_9 : decode method_15_code 9 = .ok (.iconst 1, 1) := by decide +kernel
theorem d_L_reconnect_10 : decode method_15_code 10 = .ok (.ireturn, 1) := by decide +kernel
theorem d_L_reconnect_11 : decode method_15_code 11 = .ok (.astore_n 2, 1) := by decide +kernel
theorem d_L_reconnect_12 : decode method_15_code 12 = .ok (.iconst 2, 1) := by decide +kernel
theorem d_L_reconnect_13 : decode method_15_code 13 = .ok (.ireturn, 1) := by decide +kernel
theorem d_L_reconnect_14 : decode method_15_code 14 = .ok (.astore_n 2, 1) := by decide +kernel
theorem d_L_reconnect_15 : decode method_15_code 15 = .ok (.iconst 3, 1) := by decide +kernel
theorem d_L_reconnect_16 : decode method_15_code 16 = .ok (.ireturn, 1) := by decide +kernel
theorem d_L_reconnect_17 : decode method_15_code 17 = .ok (.iconst 0, 1) := by decide +kernel
theorem d_L_reconnect_18 : decode method_15_code 18 = .ok (.ireturn, 1) := by decide +kernel
theorem d_L_erase_0 : decode method_16_code 0 = .ok (.aload_n 2, 1) := by decide +kernel
theorem d_L_erase_1 : decode method_16_code 1 = .ok (.iconst 0, 1) := by decide +kernel
theorem d_L_erase_2 : decode method_16_code 2 = .ok (.aload_n 0, 1) := by decide +kernel
theorem d_L_erase_3 : decode method_16_code 3 = .ok (.iload_n 1, 1) := by decide +kernel
theorem d_L_erase_4 : decode method_16_code 4 = .ok (.invokevirtual 60, 3) := by decide +kernel
theorem d_L_erase_7 : decode method_16_code 7 = .ok (.i2l, 1) := by decide +kernel
theorem d_L_erase_8 : decode method_16_code 8 = .ok (.lastore, 1) := by decide +kernel
theorem d_L_erase_9 : decode method_16_code 9 = .ok (.goto 12, 3) := by decide +kernel
theorem d_L_erase_12 : decode method_16_code 12 = .ok (.astore_n 3, 1) := by decide +kernel
theorem d_L_erase_13 : decode method_16_code 13 = .ok (.iconst 1, 1) := by decide +kernel
theorem d_L_erase_14 : decode method_16_code 14 = .ok (.ireturn, 1) := by decide +kernel
theorem d_L_erase_15 : decode method_16_code 15 = .ok (.astore_n 3, 1) := by decide +kernel
theorem d_L_erase_16 : decode method_16_code 16 = .ok (.iconst 2, 1) := by decide +kernel
theorem d_L_erase_17 : decode method_16_code 17 = .ok (.ireturn, 1) := by decide +kernel
theorem d_L_erase_18 : decode method_16_code 18 = .ok (.astore_n 3, 1) := by decide +kernel
theorem d_L_erase_19 : decode method_16_code 19 = .ok (.iconst 3, 1) := by decide +kernel
theorem d_L_erase_20 : decode method_16_code 20 = .ok (.ireturn, 1) := by decide +kernel
theorem d_L_erase_21 : decode method_16_code 21 = .ok (.iconst 0, 1) := by decide +kernel
theorem d_L_erase_22 : decode method_16_code 22 = .ok (.ireturn, 1) := by decide +kernel
theorem d_L_members_0 : decode method_17_code 0 = .ok (.aload_n 2, 1) := by decide +kernel
theorem d_L_members_1 : decode method_17_code 1 = .ok (.iconst 0, 1) := by decide +kernel
theorem d_L_members_2 : decode method_17_code 2 = .ok (.aload_n 0, 1) := by decide +kernel
theorem d_L_members_3 : decode method_17_code 3 = .ok (.iload_n 1, 1) := by decide +kernel
theorem d_L_members_4 : decode method_17_code 4 = .ok (.invokevirtual 63, 3) := by decide +kernel
theorem d_L_members_7 : decode method_17_code 7 = .ok (.i2l, 1) := by decide +kernel
theorem d_L_members_8 : decode method_17_code 8 = .ok (.lastore, 1) := by decide +kernel
theorem d_L_members_9 : decode method_17_code 9 = .ok (.goto 9, 3) := by decide +kernel
theorem d_L_members_12 : decode method_17_code 12 = .ok (.astore_n 3, 1) := by decide +kernel
theorem d_L_members_13 : decode method_17_code 13 = .ok (.iconst 1, 1) := by decide +kernel
theorem d_L_members_14 : decode method_17_code 14 = .ok (.ireturn, 1) := by decide +kernel
theorem d_L_members_15 : decode method_17_code 15 = .ok (.astore_n 3, 1) := by decide +kernel
theorem d_L_members_16 : decode method_17_code 16 = .ok (.iconst 2, 1) := by decide +kernel
theorem d_L_members_17 : decode method_17_code 17 = .ok (.ireturn, 1) := by decide +kernel
theorem d_L_members_18 : decode method_17_code 18 = .ok (.iconst 0, 1) := by decide +kernel
theorem d_L_members_19 : decode method_17_code 19 = .ok (.ireturn, 1) := by decide +kernel
theorem d_L_owner_0 : decode method_18_code 0 = .ok (.aload_n 3, 1) := by decide +kernel
theorem d_L_owner_1 : decode method_18_code 1 = .ok (.iconst 0, 1) := by decide +kernel
theorem d_L_owner_2 : decode method_18_code 2 = .ok (.aload_n 0, 1) := by decide +kernel
theorem d_L_owner_3 : decode method_18_code 3 = .ok (.iload_n 1, 1) := by decide +kernel
theorem d_L_owner_4 : decode method_18_code 4 = .ok (.iload_n 2, 1) := by decide +kernel
theorem d_L_owner_5 : decode method_18_code 5 = .ok (.invokevirtual 66, 3) := by decide +kernel
theorem d_L_owner_8 : decode method_18_code 8 = .ok (.i2l, 1) := by decide +kernel
theorem d_L_owner_9 : decode method_18_code 9 = .ok (.lastore, 1) := by decide +kernel
theorem d_L_owner_10 : decode method_18_code 10 = .ok (.goto 11, 3) := by decide +kernel
theorem d_L_owner_13 : decode method_18_code 13 = .ok (.astore 4, 2) := by decide +kernel
theorem d_L_owner_15 : decode method_18_code 15 = .ok (.iconst 1, 1) := by decide +kernel
theorem d_L_owner_16 : decode method_18_code 16 = .ok (.ireturn, 1) := by decide +kernel
theorem d_L_owner_17 : decode method_18_code 17 = .ok (.astore 4, 2) := by decide +kernel
theorem d_L_owner_19 : decode method_18_code 19 = .ok (.iconst 2, 1) := by decide +kernel
theorem d_L_owner_20 : decode method_18_code 20 = .ok (.ireturn, 1) := by decide +kernel
theorem d_L_owner_21 : decode method_18_code 21 = .ok (.iconst 0, 1) := by decide +kernel
theorem d_L_owner_22 : decode method_18_code 22 = .ok (.ireturn, 1) := by decide +kernel
end
section
theorem d_M_init_0 : decode prog_6_method_1_code 0 = .ok (.aload_n 0, 1) := by decide +kernel
theorem d_M_init_1 : decode prog_6_method_1_code 1 = .ok (.invokespecial 1, 3) := by decide +kernel
theorem d_M_init_4 : decode prog_6_method_1_code 4 = .ok (.aload_n 0, 1) := by decide +kernel
theorem d_M_init_5 : decode prog_6_method_1_code 5 = .ok (.iconst 4, 1) := by decide +kernel
theorem d_M_init_6 : decode prog_6_method_1_code 6 = .ok (.newarray .int, 2) := by decide +kernel
theorem d_M_init_8 : decode prog_6_method_1_code 8 = .ok (.putfield 7, 3) := by decide +kernel
theorem d_M_init_11 : decode prog_6_method_1_code 11 = .ok (.aload_n 0, 1) := by decide +kernel
theorem d_M_init_12 : decode prog_6_method_1_code 12 = .ok (.iconst 5, 1) := by decide +kernel
theorem d_M_init_13 : decode prog_6_method_1_code 13 = .ok (.newarray .int, 2) := by decide +kernel
theorem d_M_init_15 : decode prog_6_method_1_code 15 = .ok (.putfield 13, 3) := by decide +kernel
theorem d_M_init_18 : decode prog_6_method_1_code 18 = .ok (.aload_n 0, 1) := by decide +kernel
theorem d_M_init_19 : decode prog_6_method_1_code 19 = .ok (.iconst 5, 1) := by decide +kernel
theorem d_M_init_20 : decode prog_6_method_1_code 20 = .ok (.newarray .int, 2) := by decide +kernel
theorem d_M_init_22 : decode prog_6_method_1_code 22 = .ok (.putfield 16, 3) := by decide +kernel
theorem d_M_init_25 : decode prog_6_method_1_code 25 = .ok (.aload_n 0, 1) := by decide +kernel
theorem d_M_init_26 : decode prog_6_method_1_code 26 = .ok (.iconst 5, 1) := by decide +kernel
theorem d_M_init_27 : decode prog_6_method_1_code 27 = .ok (.newarray .int, 2) := by decide +kernel
theorem d_M_init_29 : decode prog_6_method_1_code 29 = .ok (.putfield 19, 3) := by decide +kernel
theorem d_M_init_32 : decode prog_6_method_1_code 32 = .ok (.aload_n 0, 1) := by decide +kernel
theorem d_M_init_33 : decode prog_6_method_1_code 33 = .ok (.iconst 5, 1) := by decide +kernel
theorem d_M_init_34 : decode prog_6_method_1_code 34 = .ok (.newarray .int, 2) := by decide +kernel
theorem d_M_init_36 : decode prog_6_method_1_code 36 = .ok (.putfield 22, 3) := by decide +kernel
theorem d_M_init_39 : decode prog_6_method_1_code 39 = .ok (.aload_n 0, 1) := by decide +kernel
theorem d_M_init_40 : decode prog_6_method_1_code 40 = .ok (.iconst 1, 1) := by decide +kernel
theorem d_M_init_41 : decode prog_6_method_1_code 41 = .ok (.putfield 25, 3) := by decide +kernel
theorem d_M_init_44 : decode prog_6_method_1_code 44 = .ok (.aload_n 0, 1) := by decide +kernel
theorem d_M_init_45 : decode prog_6_method_1_code 45 = .ok (.bipush 24, 2) := by decide +kernel
theorem d_M_init_47 : decode prog_6_method_1_code 47 = .ok (.newarray .int, 2) := by decide +kernel
theorem d_M_init_49 : decode prog_6_method_1_code 49 = .ok (.putfield 29, 3) := by decide +kernel
theorem d_M_init_52 : decode prog_6_method_1_code 52 = .ok (.aload_n 0, 1) := by decide +kernel
theorem d_M_init_53 : decode prog_6_method_1_code 53 = .ok (.bipush 24, 2) := by decide +kernel
theorem d_M_init_55 : decode prog_6_method_1_code 55 = .ok (.newarray .int, 2) := by decide +kernel
theorem d_M_init_57 : decode prog_6_method_1_code 57 = .ok (.putfield 32, 3) := by decide +kernel
theorem d_M_init_60 : decode prog_6_method_1_code 60 = .ok (.aload_n 0, 1) := by decide +kernel
theorem d_M_init_61 : decode prog_6_method_1_code 61 = .ok (.bipush 72, 2) := by decide +kernel
theorem d_M_init_63 : decode prog_6_method_1_code 63 = .ok (.newarray .int, 2) := by decide +kernel
theorem d_M_init_65 : decode prog_6_method_1_code 65 = .ok (.putfield 35, 3) := by decide +kernel
theorem d_M_init_68 : decode prog_6_method_1_code 68 = .ok (.aload_n 0, 1) := by decide +kernel
theorem d_M_init_69 : decode prog_6_method_1_code 69 = .ok (.bipush 120, 2) := by decide +kernel
theorem d_M_init_71 : decode prog_6_method_1_code 71 = .ok (.newarray .int, 2) := by decide +kernel
theorem d_M_init_73 : decode prog_6_method_1_code 73 = .ok (.putfield 38, 3) := by decide +kernel
theorem d_M_init_76 : decode prog_6_method_1_code 76 = .ok (.aload_n 0, 1) := by decide +kernel
theorem d_M_init_77 : decode prog_6_method_1_code 77 = .ok (.bipush 120, 2) := by decide +kernel
theorem d_M_init_79 : decode prog_6_method_1_code 79 = .ok (.newarray .int, 2) := by decide +kernel
theorem d_M_init_81 : decode prog_6_method_1_code 81 = .ok (.putfield 41, 3) := by decide +kernel
theorem d_M_init_84 : decode prog_6_method_1_code 84 = .ok (.aload_n 0, 1) := by decide +kernel
theorem d_M_init_85 : decode prog_6_method_1_code 85 = .ok (.iconst 5, 1) := by decide +kernel
theorem d_M_init_86 : decode prog_6_method_1_code 86 = .ok (.newarray .int, 2) := by decide +kernel
theorem d_M_init_88 : decode prog_6_method_1_code 88 = .ok (.putfield 44, 3) := by decide +kernel
theorem d_M_init_91 : decode prog_6_method_1_code 91 = .ok (.aload_n 0, 1) := by decide +kernel
theorem d_M_init_92 : decode prog_6_method_1_code 92 = .ok (.iconst (-1), 1) := by decide +kernel
theorem d_M_init_93 : decode prog_6_method_1_code 93 = .ok (.putfield 47, 3) := by decide +kernel
theorem d_M_init_96 : decode prog_6_method_1_code 96 = .ok (.aload_n 0, 1) := by decide +kernel
theorem d_M_init_97 : decode prog_6_method_1_code 97 = .ok (.iconst 4, 1) := by decide +kernel
theorem d_M_init_98 : decode prog_6_method_1_code 98 = .ok (.newarray .int, 2) := by decide +kernel
theorem d_M_init_100 : decode prog_6_method_1_code 100 = .ok (.putfield 50, 3) := by decide +kernel
theorem d_M_init_103 : decode prog_6_method_1_code 103 = .ok (.aload_n 0, 1) := by decide +kernel
theorem d_M_init_104 : decode prog_6_method_1_code 104 = .ok (.iconst 5, 1) := by decide +kernel
theorem d_M_init_105 : decode prog_6_method_1_code 105 = .ok (.newarray .int, 2) := by decide +kernel
theorem d_M_init_107 : decode prog_6_method_1_code 107 = .ok (.putfield 53, 3) := by decide +kernel
theorem d_M_init_110 : decode prog_6_method_1_code 110 = .ok (.aload_n 0, 1) := by decide +kernel
theorem d_M_init_111 : decode prog_6_method_1_code 111 = .ok (.bipush 24, 2) := by decide +kernel
theorem d_M_init_113 : decode prog_6_method_1_code 113 = .ok (.newarray .boolean, 2) := by decide +kernel
theorem d_M_init_115 : decode prog_6_method_1_code 115 = .ok (.putfield 56, 3) := by decide +kernel
theorem d_M_init_118 : decode prog_6_method_1_code 118 = .ok (.aload_n 0, 1) := by decide +kernel
theorem d_M_init_119 : decode prog_6_method_1_code 119 = .ok (.iconst 1, 1) := by decide +kernel
theorem d_M_init_120 : decode prog_6_method_1_code 120 = .ok (.putfield 60, 3) := by decide +kernel
theorem d_M_init_123 : decode prog_6_method_1_code 123 = .ok (.aload_n 0, 1) := by decide +kernel
theorem d_M_init_124 : decode prog_6_method_1_code 124 = .ok (.bipush 24, 2) := by decide +kernel
theorem d_M_init_126 : decode prog_6_method_1_code 126 = .ok (.newarray .int, 2) := by decide +kernel
theorem d_M_init_128 : decode prog_6_method_1_code 128 = .ok (.putfield 63, 3) := by decide +kernel
theorem d_M_init_131 : decode prog_6_method_1_code 131 = .ok (.aload_n 0, 1) := by decide +kernel
theorem d_M_init_132 : decode prog_6_method_1_code 132 = .ok (.bipush 24, 2) := by decide +kernel
theorem d_M_init_134 : decode prog_6_method_1_code 134 = .ok (.newarray .int, 2) := by decide +kernel
theorem d_M_init_136 : decode prog_6_method_1_code 136 = .ok (.putfield 66, 3) := by decide +kernel
theorem d_M_init_139 : decode prog_6_method_1_code 139 = .ok (.aload_n 0, 1) := by decide +kernel
theorem d_M_init_140 : decode prog_6_method_1_code 140 = .ok (.bipush 72, 2) := by decide +kernel
theorem d_M_init_142 : decode prog_6_method_1_code 142 = .ok (.newarray .int, 2) := by decide +kernel
theorem d_M_init_144 : decode prog_6_method_1_code 144 = .ok (.putfield 69, 3) := by decide +kernel
theorem d_M_init_147 : decode prog_6_method_1_code 147 = .ok (.aload_n 0, 1) := by decide +kernel
theorem d_M_init_148 : decode prog_6_method_1_code 148 = .ok (.bipush 120, 2) := by decide +kernel
theorem d_M_init_150 : decode prog_6_method_1_code 150 = .ok (.newarray .int, 2) := by decide +kernel
theorem d_M_init_152 : decode prog_6_method_1_code 152 = .ok (.putfield 72, 3) := by decide +kernel
theorem d_M_init_155 : decode prog_6_method_1_code 155 = .ok (.aload_n 0, 1) := by decide +kernel
theorem d_M_init_156 : decode prog_6_method_1_code 156 = .ok (.bipush 120, 2) := by decide +kernel
theorem d_M_init_158 : decode prog_6_method_1_code 158 = .ok (.newarray .int, 2) := by decide +kernel
theorem d_M_init_160 : decode prog_6_method_1_code 160 = .ok (.putfield 75, 3) := by decide +kernel
theorem d_M_init_163 : decode prog_6_method_1_code 163 = .ok (.aload_n 0, 1) := by decide +kernel
theorem d_M_init_164 : decode prog_6_method_1_code 164 = .ok (.iconst 5, 1) := by decide +kernel
theorem d_M_init_165 : decode prog_6_method_1_code 165 = .ok (.newarray .int, 2) := by decide +kernel
theorem d_M_init_167 : decode prog_6_method_1_code 167 = .ok (.putfield 78, 3) := by decide +kernel
theorem d_M_init_170 : decode prog_6_method_1_code 170 = .ok (.iconst 0, 1) := by decide +kernel
theorem d_M_init_171 : decode prog_6_method_1_code 171 = .ok (.istore_n 1, 1) := by decide +kernel
theorem d_M_init_172 : decode prog_6_method_1_code 172 = .ok (.iload_n 1, 1) := by decide +kernel
theorem d_M_init_173 : decode prog_6_method_1_code 173 = .ok (.bipush 120, 2) := by decide +kernel
theorem d_M_init_175 : decode prog_6_method_1_code 175 = .ok (.if_icmp .ge 23, 3) := by decide +kernel
theorem d_M_init_178 : decode prog_6_method_1_code 178 = .ok (.aload_n 0, 1) := by decide +kernel
theorem d_M_init_179 : decode prog_6_method_1_code 179 = .ok (.getfield 38, 3) := by decide +kernel
theorem d_M_init_182 : decode prog_6_method_1_code 182 = .ok (.iload_n 1, 1) := by decide +kernel
theorem d_M_init_183 : decode prog_6_method_1_code 183 = .ok (.iconst (-1), 1) := by decide +kernel
theorem d_M_init_184 : decode prog_6_method_1_code 184 = .ok (.iastore, 1) := by decide +kernel
theorem d_M_init_185 : decode prog_6_method_1_code 185 = .ok (.aload_n 0, 1) := by decide +kernel
theorem d_M_init_186 : decode prog_6_method_1_code 186 = .ok (.getfield 72, 3) := by decide +kernel
theorem d_M_init_189 : decode prog_6_method_1_code 189 = .ok (.iload_n 1, 1) := by decide +kernel
theorem d_M_init_190 : decode prog_6_method_1_code 190 = .ok (.iconst (-1), 1) := by decide +kernel
theorem d_M_init_191 : decode prog_6_method_1_code 191 = .ok (.iastore, 1) := by decide +kernel
theorem d_M_init_192 : decode prog_6_method_1_code 192 = .ok (.iinc 1 1, 3) := by decide +kernel
theorem d_M_init_195 : decode prog_6_method_1_code 195 = .ok (.goto (-23), 3) := by decide +kernel
theorem d_M_init_198 : decode prog_6_method_1_code 198 = .ok (.aload_n 0, 1) := by decide +kernel
theorem d_M_init_199 : decode prog_6_method_1_code 199 = .ok (.invokevirtual 81, 3) := by decide +kernel
theorem d_M_init_202 : decode prog_6_method_1_code 202 = .ok (.return_, 1) := by decide +kernel
theorem d_M_forget_0 : decode prog_6_method_2_code 0 = .ok (.aload_n 0, 1) := by decide +kernel
theorem d_M_forget_1 : decode prog_6_method_2_code 1 = .ok (.iconst (-1), 1) := by decide +kernel
theorem d_M_forget_2 : decode prog_6_method_2_code 2 = .ok (.putfield 47, 3) := by decide +kernel
theorem d_M_forget_5 : decode prog_6_method_2_code 5 = .ok (.iconst 0, 1) := by decide +kernel
theorem d_M_forget_6 : decode prog_6_method_2_code 6 = .ok (.istore_n 1, 1) := by decide +kernel
theorem d_M_forget_7 : decode prog_6_method_2_code 7 = .ok (.iload_n 1, 1) := by decide +kernel
theorem d_M_forget_8 : decode prog_6_method_2_code 8 = .ok (.iconst 4, 1) := by decide +kernel
theorem d_M_forget_9 : decode prog_6_method_2_code 9 = .ok (.if_icmp .ge 16, 3) := by decide +kernel
theorem d_M_forget_12 : decode prog_6_method_2_code 12 = .ok (.aload_n 0, 1) := by decide +kernel
theorem d_M_forget_13 : decode prog_6_method_2_code 13 = .ok (.getfield 50, 3) := by decide +kernel
theorem d_M_forget_16 : decode prog_6_method_2_code 16 = .ok (.iload_n 1, 1) := by decide +kernel
theorem d_M_forget_17 : decode prog_6_method_2_code 17 = .ok (.iconst (-1), 1) := by decide +kernel
theorem d_M_forget_18 : decode prog_6_method_2_code 18 = .ok (.iastore, 1) := by decide +kernel
theorem d_M_forget_19 : decode prog_6_method_2_code 19 = .ok (.iinc 1 1, 3) := by decide +kernel
theorem d_M_forget_22 : decode prog_6_method_2_code 22 = .ok (.goto (-15), 3) := by decide +kernel
theorem d_M_forget_25 : decode prog_6_method_2_code 25 = .ok (.iconst 0, 1) := by decide +kernel
theorem d_M_forget_26 : decode prog_6_method_2_code 26 = .ok (.istore_n 1, 1) := by decide +kernel
theorem d_M_forget_27 : decode prog_6_method_2_code 27 = .ok (.iload_n 1, 1) := by decide +kernel
theorem d_M_forget_28 : decode prog_6_method_2_code 28 = .ok (.iconst 5, 1) := by decide +kernel
theorem d_M_forget_29 : decode prog_6_method_2_code 29 = .ok (.if_icmp .ge 16, 3) := by decide +kernel
theorem d_M_forget_32 : decode prog_6_method_2_code 32 = .ok (.aload_n 0, 1) := by decide +kernel
theorem d_M_forget_33 : decode prog_6_method_2_code 33 = .ok (.getfield 53, 3) := by decide +kernel
theorem d_M_forget_36 : decode prog_6_method_2_code 36 = .ok (.iload_n 1, 1) := by decide +kernel
theorem d_M_forget_37 : decode prog_6_method_2_code 37 = .ok (.iconst (-1), 1) := by decide +kernel
theorem d_M_forget_38 : decode prog_6_method_2_code 38 = .ok (.iastore, 1) := by decide +kernel
theorem d_M_forget_39 : decode prog_6_method_2_code 39 = .ok (.iinc 1 1, 3) := by decide +kernel
theorem d_M_forget_42 : decode prog_6_method_2_code 42 = .ok (.goto (-15), 3) := by decide +kernel
theorem d_M_forget_45 : decode prog_6_method_2_code 45 = .ok (.return_, 1) := by decide +kernel
theorem d_M_thrown_0 : decode prog_6_method_3_code 0 = .ok (.aload_n 0, 1) := by decide +kernel
theorem d_M_thrown_1 : decode prog_6_method_3_code 1 = .ok (.getfield 84, 3) := by decide +kernel
theorem d_M_thrown_4 : decode prog_6_method_3_code 4 = .ok (.ireturn, 1) := by decide +kernel
theorem d_M_type_0 : decode prog_6_method_6_code 0 = .ok (.aload_n 0, 1) := by decide +kernel
theorem d_M_type_1 : decode prog_6_method_6_code 1 = .ok (.iload_n 1, 1) := by decide +kernel
theorem d_M_type_2 : decode prog_6_method_6_code 2 = .ok (.iconst 1, 1) := by decide +kernel
theorem d_M_type_3 : decode prog_6_method_6_code 3 = .ok (.if_icmp .lt 8, 3) := by decide +kernel
theorem d_M_type_6 : decode prog_6_method_6_code 6 = .ok (.iload_n 1, 1) := by decide +kernel
theorem d_M_type_7 : decode prog_6_method_6_code 7 = .ok (.iconst 3, 1) := by decide +kernel
theorem d_M_type_8 : decode prog_6_method_6_code 8 = .ok (.if_icmp .le 7, 3) := by decide +kernel
theorem d_M_type_11 : decode prog_6_method_6_code 11 = .ok (.iconst 1, 1) := by decide +kernel
theorem d_M_type_12 : decode prog_6_method_6_code 12 = .ok (.goto 23, 3) := by decide +kernel
theorem d_M_type_15 : decode prog_6_method_6_code 15 = .ok (.aload_n 0, 1) := by decide +kernel
theorem d_M_type_16 : decode prog_6_method_6_code 16 = .ok (.getfield 87, 3) := by decide +kernel
theorem d_M_type_19 : decode prog_6_method_6_code 19 = .ok (.iconst 4, 1) := by decide +kernel
theorem d_M_type_20 : decode prog_6_method_6_code 20 = .ok (.if_icmp .eq 10, 3) := by decide +kernel
theorem d_M_type_23 : decode prog_6_method_6_code 23 = .ok (.aload_n 0, 1) := by decide +kernel
theorem d_M_type_24 : decode prog_6_method_6_code 24 = .ok (.getfield 93, 3) := by decide +kernel
theorem d_M_type_27 : decode prog_6_method_6_code 27 = .ok (.ifCond .eq 7, 3) := by decide +kernel
theorem d_M_type_30 : decode prog_6_method_6_code 30 = .ok (.iconst 2, 1) := by decide +kernel
theorem d_M_type_31 : decode prog_6_method_6_code 31 = .ok (.goto 4, 3) := by decide +kernel
theorem d_M_type_34 : decode prog_6_method_6_code 34 = .ok (.iconst 0, 1) := by decide +kernel
theorem d_M_type_35 : decode prog_6_method_6_code 35 = .ok (.putfield 84, 3) := by decide +kernel
theorem d_M_type_38 : decode prog_6_method_6_code 38 = .ok (.aload_n 0, 1) := by decide +kernel
theorem d_M_type_39 : decode prog_6_method_6_code 39 = .ok (.getfield 84, 3) := by decide +kernel
theorem d_M_type_42 : decode prog_6_method_6_code 42 = .ok (.ifCond .le 5, 3) := by decide +kernel
theorem d_M_type_45 : decode prog_6_method_6_code 45 = .ok (.iconst 0, 1) := by decide +kernel
theorem d_M_type_46 : decode prog_6_method_6_code 46 = .ok (.ireturn, 1) := by decide +kernel
theorem d_M_type_47 : decode prog_6_method_6_code 47 = .ok (.aload_n 0, 1) := by decide +kernel
theorem d_M_type_48 : decode prog_6_method_6_code 48 = .ok (.getfield 7, 3) := by decide +kernel
theorem d_M_type_51 : decode prog_6_method_6_code 51 = .ok (.aload_n 0, 1) := by decide +kernel
theorem d_M_type_52 : decode prog_6_method_6_code 52 = .ok (.getfield 87, 3) := by decide +kernel
theorem d_M_type_55 : decode prog_6_method_6_code 55 = .ok (.iload_n 1, 1) := by decide +kernel
theorem d_M_type_56 : decode prog_6_method_6_code 56 = .ok (.iastore, 1) := by decide +kernel
theorem d_M_type_57 : decode prog_6_method_6_code 57 = .ok (.aload_n 0, 1) := by decide +kernel
theorem d_M_type_58 : decode prog_6_method_6_code 58 = .ok (.dup, 1) := by decide +kernel
theorem d_M_type_59 : decode prog_6_method_6_code 59 = .ok (.getfield 87, 3) := by decide +kernel
theorem d_M_type_62 : decode prog_6_method_6_code 62 = .ok (.iconst 1, 1) := by decide +kernel
theorem d_M_type_63 : decode prog_6_method_6_code 63 = .ok (.iadd, 1) := by decide +kernel
theorem d_M_type_64 : decode prog_6_method_6_code 64 = .ok (.putfield 87, 3) := by decide +kernel
theorem d_M_type_67 : decode prog_6_method_6_code 67 = .ok (.aload_n 0, 1) := by decide +kernel
theorem d_M_type_68 : decode prog_6_method_6_code 68 = .ok (.getfield 87, 3) := by decide +kernel
theorem d_M_type_71 : decode prog_6_method_6_code 71 = .ok (.iconst 1, 1) := by decide +kernel
theorem d_M_type_72 : decode prog_6_method_6_code 72 = .ok (.isub, 1) := by decide +kernel
theorem d_M_type_73 : decode prog_6_method_6_code 73 = .ok (.ireturn, 1) := by decide +kernel
theorem d_M_set_0 : decode prog_6_method_8_code 0 = .ok (.aload_n 0, 1) := by decide +kernel
theorem d_M_set_1 : decode prog_6_method_8_code 1 = .ok (.iload_n 1, 1) := by decide +kernel
theorem d_M_set_2 : decode prog_6_method_8_code 2 = .ok (.invokevirtual 97, 3) := by decide +kernel
theorem d_M_set_5 : decode prog_6_method_8_code 5 = .ok (.ifCond .eq 31, 3) := by decide +kernel
theorem d_M_set_8 : decode prog_6_method_8_code 8 = .ok (.aload_n 0, 1) := by decide +kernel
theorem d_M_set_9 : decode prog_6_method_8_code 9 = .ok (.iload_n 2, 1) := by decide +kernel
theorem d_M_set_10 : decode prog_6_method_8_code 10 = .ok (.invokevirtual 97, 3) := by decide +kernel
theorem d_M_set_13 : decode prog_6_method_8_code 13 = .ok (.ifCond .eq 23, 3) := by decide +kernel
theorem d_M_set_16 : decode prog_6_method_8_code 16 = .ok (.iload_n 1, 1) := by decide +kernel
theorem d_M_set_17 : decode prog_6_method_8_code 17 = .ok (.iload_n 2, 1) := by decide +kernel
theorem d_M_set_18 : decode prog_6_method_8_code 18 = .ok (.if_icmp .eq 18, 3) := by decide +kernel
theorem d_M_set_21 : decode prog_6_method_8_code 21 = .ok (.iload 4, 2) := by decide +kernel
theorem d_M_set_23 : decode prog_6_method_8_code 23 = .ok (.ifCond .lt 13, 3) := by decide +kernel
theorem d_M_set_26 : decode prog_6_method_8_code 26 = .ok (.iload 4, 2) := by decide +kernel
theorem d_M_set_28 : decode prog_6_method_8_code 28 = .ok (.iconst 5, 1) := by decide +kernel
theorem d_M_set_29 : decode prog_6_method_8_code 29 = .ok (.if_icmp .gt 7, 3) := by decide +kernel
theorem d_M_set_32 : decode prog_6_method_8_code 32 = .ok (.iconst 1, 1) := by decide +kernel
theorem d_M_set_33 : decode prog_6_method_8_code 33 = .ok (.goto 4, 3) := by decide +kernel
theorem d_M_set_36 : decode prog_6_method_8_code 36 = .ok (.iconst 0, 1) := by decide +kernel
theorem d_M_set_37 : decode prog_6_method_8_code 37 = .ok (.istore 5, 2) := by decide +kernel
theorem d_M_set_39 : decode prog_6_method_8_code 39 = .ok (.aload_n 0, 1) := by decide +kernel
theorem d_M_set_40 : decode prog_6_method_8_code 40 = .ok (.iload 5, 2) := by decide +kernel
theorem d_M_set_42 : decode prog_6_method_8_code 42 = .ok (.ifCond .ne 7, 3) := by decide +kernel
theorem d_M_set_45 : decode prog_6_method_8_code 45 = .ok (.iconst 1, 1) := by decide +kernel
theorem d_M_set_46 : decode prog_6_method_8_code 46 = .ok (.goto 40, 3) := by decide +kernel
theorem d_M_set_49 : decode prog_6_method_8_code 49 = .ok (.iload_n 3, 1) := by decide +kernel
theorem d_M_set_50 : decode prog_6_method_8_code 50 = .ok (.aload_n 0, 1) := by decide +kernel
theorem d_M_set_51 : decode prog_6_method_8_code 51 = .ok (.getfield 7, 3) := by decide +kernel
theorem d_M_set_54 : decode prog_6_method_8_code 54 = .ok (.iload_n 2, 1) := by decide +kernel
theorem d_M_set_55 : decode prog_6_method_8_code 55 = .ok (.iaload, 1) := by decide +kernel
theorem d_M_set_56 : decode prog_6_method_8_code 56 = .ok (.invokestatic 101, 3) := by decide +kernel
theorem d_M_set_59 : decode prog_6_method_8_code 59 = .ok (.ifCond .ne 7, 3) := by decide +kernel
theorem d_M_set_62 : decode prog_6_method_8_code 62 = .ok (.iconst 1, 1) := by decide +kernel
theorem d_M_set_63 : decode prog_6_method_8_code 63 = .ok (.goto 23, 3) := by decide +kernel
theorem d_M_set_66 : decode prog_6_method_8_code 66 = .ok (.aload_n 0, 1) := by decide +kernel
theorem d_M_set_67 : decode prog_6_method_8_code 67 = .ok (.getfield 90, 3) := by decide +kernel
theorem d_M_set_70 : decode prog_6_method_8_code 70 = .ok (.iconst 5, 1) := by decide +kernel
theorem d_M_set_71 : decode prog_6_method_8_code 71 = .ok (.if_icmp .eq 10, 3) := by decide +kernel
theorem d_M_set_74 : decode prog_6_method_8_code 74 = .ok (.aload_n 0, 1) := by decide +kernel
theorem d_M_set_75 : decode prog_6_method_8_code 75 = .ok (.getfield 93, 3) := by decide +kernel
theorem d_M_set_78 : decode prog_6_method_8_code 78 = .ok (.ifCond .eq 7, 3) := by decide +kernel
theorem d_M_set_81 : decode prog_6_method_8_code 81 = .ok (.iconst 2, 1) := by decide +kernel
theorem d_M_set_82 : decode prog_6_method_8_code 82 = .ok (.goto 4, 3) := by decide +kernel
theorem d_M_set_85 : decode prog_6_method_8_code 85 = .ok (.iconst 0, 1) := by decide +kernel
theorem d_M_set_86 : decode prog_6_method_8_code 86 = .ok (.putfield 84, 3) := by decide +kernel
theorem d_M_set_89 : decode prog_6_method_8_code 89 = .ok (.aload_n 0, 1) := by decide +kernel
theorem d_M_set_90 : decode prog_6_method_8_code 90 = .ok (.getfield 84, 3) := by decide +kernel
theorem d_M_set_93 : decode prog_6_method_8_code 93 = .ok (.ifCond .le 5, 3) := by decide +kernel
theorem d_M_set_96 : decode prog_6_method_8_code 96 = .ok (.iconst 0, 1) := by decide +kernel
theorem d_M_set_97 : decode prog_6_method_8_code 97 = .ok (.ireturn, 1) := by decide +kernel
theorem d_M_set_98 : decode prog_6_method_8_code 98 = .ok (.aload_n 0, 1) := by decide +kernel
theorem d_M_set_99 : decode prog_6_method_8_code 99 = .ok (.getfield 13, 3) := by decide +kernel
theorem d_M_set_102 : decode prog_6_method_8_code 102 = .ok (.aload_n 0, 1) := by decide +kernel
theorem d_M_set_103 : decode prog_6_method_8_code 103 = .ok (.getfield 90, 3) := by decide +kernel
theorem d_M_set_106 : decode prog_6_method_8_code 106 = .ok (.iload_n 1, 1) := by decide +kernel
theorem d_M_set_107 : decode prog_6_method_8_code 107 = .ok (.iastore, 1) := by decide +kernel
theorem d_M_set_108 : decode prog_6_method_8_code 108 = .ok (.aload_n 0, 1) := by decide +kernel
theorem d_M_set_109 : decode prog_6_method_8_code 109 = .ok (.getfield 16, 3) := by decide +kernel
theorem d_M_set_112 : decode prog_6_method_8_code 112 = .ok (.aload_n 0, 1) := by decide +kernel
theorem d_M_set_113 : decode prog_6_method_8_code 113 = .ok (.getfield 90, 3) := by decide +kernel
theorem d_M_set_116 : decode prog_6_method_8_code 116 = .ok (.iload_n 2, 1) := by decide +kernel
theorem d_M_set_117 : decode prog_6_method_8_code 117 = .ok (.iastore, 1) := by decide +kernel
theorem d_M_set_118 : decode prog_6_method_8_code 118 = .ok (.aload_n 0, 1) := by decide +kernel
theorem d_M_set_119 : decode prog_6_method_8_code 119 = .ok (.getfield 19, 3) := by decide +kernel
theorem d_M_set_122 : decode prog_6_method_8_code 122 = .ok (.aload_n 0, 1) := by decide +kernel
theorem d_M_set_123 : decode prog_6_method_8_code 123 = .ok (.getfield 90, 3) := by decide +kernel
theorem d_M_set_126 : decode prog_6_method_8_code 126 = .ok (.iload_n 3, 1) := by decide +kernel
theorem d_M_set_127 : decode prog_6_method_8_code 127 = .ok (.iastore, 1) := by decide +kernel
theorem d_M_set_128 : decode prog_6_method_8_code 128 = .ok (.aload_n 0, 1) := by decide +kernel
theorem d_M_set_129 : decode prog_6_method_8_code 129 = .ok (.getfield 22, 3) := by decide +kernel
theorem d_M_set_132 : decode prog_6_method_8_code 132 = .ok (.aload_n 0, 1) := by decide +kernel
theorem d_M_set_133 : decode prog_6_method_8_code 133 = .ok (.getfield 90, 3) := by decide +kernel
theorem d_M_set_136 : decode prog_6_method_8_code 136 = .ok (.iload 4, 2) := by decide +kernel
theorem d_M_set_138 : decode prog_6_method_8_code 138 = .ok (.iastore, 1) := by decide +kernel
theorem d_M_set_139 : decode prog_6_method_8_code 139 = .ok (.aload_n 0, 1) := by decide +kernel
theorem d_M_set_140 : decode prog_6_method_8_code 140 = .ok (.dup, 1) := by decide +kernel
theorem d_M_set_141 : decode prog_6_method_8_code 141 = .ok (.getfield 90, 3) := by decide +kernel
theorem d_M_set_144 : decode prog_6_method_8_code 144 = .ok (.iconst 1, 1) := by decide +kernel
theorem d_M_set_145 : decode prog_6_method_8_code 145 = .ok (.iadd, 1) := by decide +kernel
theorem d_M_set_146 : decode prog_6_method_8_code 146 = .ok (.putfield 90, 3) := by decide +kernel
theorem d_M_set_149 : decode prog_6_method_8_code 149 = .ok (.aload_n 0, 1) := by decide +kernel
theorem d_M_set_150 : decode prog_6_method_8_code 150 = .ok (.getfield 90, 3) := by decide +kernel
theorem d_M_set_153 : decode prog_6_method_8_code 153 = .ok (.iconst 1, 1) := by decide +kernel
theorem d_M_set_154 : decode prog_6_method_8_code 154 = .ok (.isub, 1) := by decide +kernel
theorem d_M_set_155 : decode prog_6_method_8_code 155 = .ok (.ireturn, 1) := by decide +kernel
theorem d_M_isType_0 : decode prog_6_method_4_code 0 = .ok (.iload_n 1, 1) := by decide +kernel
theorem d_M_isType_1 : decode prog_6_method_4_code 1 = .ok (.ifCond .lt 15, 3) := by decide +kernel
theorem d_M_isType_4 : decode prog_6_method_4_code 4 = .ok (.iload_n 1, 1) := by decide +kernel
theorem d_M_isType_5 : decode prog_6_method_4_code 5 = .ok (.aload_n 0, 1) := by decide +kernel
theorem d_M_isType_6 : decode prog_6_method_4_code 6 = .ok (.getfield 87, 3) := by decide +kernel
theorem d_M_isType_9 : decode prog_6_method_4_code 9 = .ok (.if_icmp .ge 7, 3) := by decide +kernel
theorem d_M_isType_12 : decode prog_6_method_4_code 12 = .ok (.iconst 1, 1) := by decide +kernel
theorem d_M_isType_13 : decode prog_6_method_4_code 13 = .ok (.goto 4, 3) := by decide +kernel
theorem d_M_isType_16 : decode prog_6_method_4_code 16 = .ok (.iconst 0, 1) := by decide +kernel
theorem d_M_isType_17 : decode prog_6_method_4_code 17 = .ok (.ireturn, 1) := by decide +kernel
theorem d_M_isOrder_0 : decode prog_6_method_7_code 0 = .ok (.iload_n 0, 1) := by decide +kernel
theorem d_M_isOrder_1 : decode prog_6_method_7_code 1 = .ok (.bipush 10, 2) := by decide +kernel
theorem d_M_isOrder_3 : decode prog_6_method_7_code 3 = .ok (.if_icmp .lt 29, 3) := by decide +kernel
theorem d_M_isOrder_6 : decode prog_6_method_7_code 6 = .ok (.iload_n 0, 1) := by decide +kernel
theorem d_M_isOrder_7 : decode prog_6_method_7_code 7 = .ok (.bipush 32, 2) := by decide +kernel
theorem d_M_isOrder_9 : decode prog_6_method_7_code 9 = .ok (.if_icmp .gt 23, 3) := by decide +kernel
theorem d_M_isOrder_12 : decode prog_6_method_7_code 12 = .ok (.iload_n 0, 1) := by decide +kernel
theorem d_M_isOrder_13 : decode prog_6_method_7_code 13 = .ok (.bipush 10, 2) := by decide +kernel
theorem d_M_isOrder_15 : decode prog_6_method_7_code 15 = .ok (.irem, 1) := by decide +kernel
theorem d_M_isOrder_16 : decode prog_6_method_7_code 16 = .ok (.iconst 3, 1) := by decide +kernel
theorem d_M_isOrder_17 : decode prog_6_method_7_code 17 = .ok (.if_icmp .ge 15, 3) := by decide +kernel
theorem d_M_isOrder_20 : decode prog_6_method_7_code 20 = .ok (.iload_n 0, 1) := by decide +kernel
theorem d_M_isOrder_21 : decode prog_6_method_7_code 21 = .ok (.bipush 10, 2) := by decide +kernel
theorem d_M_isOrder_23 : decode prog_6_method_7_code 23 = .ok (.irem, 1) := by decide +kernel
theorem d_M_isOrder_24 : decode prog_6_method_7_code 24 = .ok (.iload_n 1, 1) := by decide +kernel
theorem d_M_isOrder_25 : decode prog_6_method_7_code 25 = .ok (.if_icmp .ge 7, 3) := by decide +kernel
theorem d_M_isOrder_28 : decode prog_6_method_7_code 28 = .ok (.iconst 1, 1) := by decide +kernel
theorem d_M_isOrder_29 : decode prog_6_method_7_code 29 = .ok (.goto 4, 3) := by decide +kernel
theorem d_M_isOrder_32 : decode prog_6_method_7_code 32 = .ok (.iconst 0, 1) := by decide +kernel
theorem d_M_isOrder_33 : decode prog_6_method_7_code 33 = .ok (.istore_n 2, 1) := by decide +kernel
theorem d_M_isOrder_34 : decode prog_6_method_7_code 34 = .ok (.iload_n 0, 1) := by decide +kernel
theorem d_M_isOrder_35 : decode prog_6_method_7_code 35 = .ok (.ifCond .lt 8, 3) := by decide +kernel
theorem d_M_isOrder_38 : decode prog_6_method_7_code 38 = .ok (.iload_n 0, 1) := by decide +kernel
theorem d_M_isOrder_39 : decode prog_6_method_7_code 39 = .ok (.iconst 3, 1) := by decide +kernel
theorem d_M_isOrder_40 : decode prog_6_method_7_code 40 = .ok (.if_icmp .le 7, 3) := by decide +kernel
theorem d_M_isOrder_43 : decode prog_6_method_7_code 43 = .ok (.iload_n 2, 1) := by decide +kernel
theorem d_M_isOrder_44 : decode prog_6_method_7_code 44 = .ok (.ifCond .eq 7, 3) := by decide +kernel
theorem d_M_isOrder_47 : decode prog_6_method_7_code 47 = .ok (.iconst 1, 1) := by decide +kernel
theorem d_M_isOrder_48 : decode prog_6_method_7_code 48 = .ok (.goto 4, 3) := by decide +kernel
theorem d_M_isOrder_51 : decode prog_6_method_7_code 51 = .ok (.iconst 0, 1) := by decide +kernel
theorem d_M_isOrder_52 : decode prog_6_method_7_code 52 = .ok (.ireturn, 1) := by decide +kernel
theorem d_M_store_0 : decode prog_6_method_22_code 0 = .ok (.aload_n 0, 1) := by decide +kernel
theorem d_M_store_1 : decode prog_6_method_22_code 1 = .ok (.aload_n 0, 1) := by decide +kernel
theorem d_M_store_2 : decode prog_6_method_22_code 2 = .ok (.iload_n 1, 1) := by decide +kernel
theorem d_M_store_3 : decode prog_6_method_22_code 3 = .ok (.invokevirtual 97, 3) := by decide +kernel
theorem d_M_store_6 : decode prog_6_method_22_code 6 = .ok (.ifCond .eq 7, 3) := by decide +kernel
theorem d_M_store_9 : decode prog_6_method_22_code 9 = .ok (.iconst 0, 1) := by decide +kernel
theorem d_M_store_10 : decode prog_6_method_22_code 10 = .ok (.goto 4, 3) := by decide +kernel
theorem d_M_store_13 : decode prog_6_method_22_code 13 = .ok (.iconst 1, 1) := by decide +kernel
theorem d_M_store_14 : decode prog_6_method_22_code 14 = .ok (.putfield 84, 3) := by decide +kernel
theorem d_M_store_17 : decode prog_6_method_22_code 17 = .ok (.aload_n 0, 1) := by decide +kernel
theorem d_M_store_18 : decode prog_6_method_22_code 18 = .ok (.getfield 84, 3) := by decide +kernel
theorem d_M_store_21 : decode prog_6_method_22_code 21 = .ok (.ifCond .le 5, 3) := by decide +kernel
theorem d_M_store_24 : decode prog_6_method_22_code 24 = .ok (.iconst 0, 1) := by decide +kernel
theorem d_M_store_25 : decode prog_6_method_22_code 25 = .ok (.ireturn, 1) := by decide +kernel
theorem d_M_store_26 : decode prog_6_method_22_code 26 = .ok (.iconst 0, 1) := by decide +kernel
theorem d_M_store_27 : decode prog_6_method_22_code 27 = .ok (.istore 5, 2) := by decide +kernel
theorem d_M_store_29 : decode prog_6_method_22_code 29 = .ok (.iload 5, 2) := by decide +kernel
theorem d_M_store_31 : decode prog_6_method_22_code 31 = .ok (.bipush 23, 2) := by decide +kernel
theorem d_M_store_33 : decode prog_6_method_22_code 33 = .ok (.if_icmp .ge 19, 3) := by decide +kernel
theorem d_M_store_36 : decode prog_6_method_22_code 36 = .ok (.aload_n 0, 1) := by decide +kernel
theorem d_M_store_37 : decode prog_6_method_22_code 37 = .ok (.getfield 29, 3) := by decide +kernel
theorem d_M_store_40 : decode prog_6_method_22_code 40 = .ok (.iload 5, 2) := by decide +kernel
theorem d_M_store_42 : decode prog_6_method_22_code 42 = .ok (.iaload, 1) := by decide +kernel
theorem d_M_store_43 : decode prog_6_method_22_code 43 = .ok (.ifCond .le 9, 3) := by decide +kernel
theorem d_M_store_46 : decode prog_6_method_22_code 46 = .ok (.iinc 5 1, 3) := by decide +kernel
theorem d_M_store_49 : decode prog_6_method_22_code 49 = .ok (.goto (-20), 3) := by decide +kernel
theorem d_M_store_52 : decode prog_6_method_22_code 52 = .ok (.aload_n 0, 1) := by decide +kernel
theorem d_M_store_53 : decode prog_6_method_22_code 53 = .ok (.getfield 29, 3) := by decide +kernel
theorem d_M_store_56 : decode prog_6_method_22_code 56 = .ok (.iload 5, 2) := by decide +kernel
theorem d_M_store_58 : decode prog_6_method_22_code 58 = .ok (.iaload, 1) := by decide +kernel
theorem d_M_store_59 : decode prog_6_method_22_code 59 = .ok (.ifCond .le 7, 3) := by decide +kernel
theorem d_M_store_62 : decode prog_6_method_22_code 62 = .ok (.iconst 1, 1) := by decide +kernel
theorem d_M_store_63 : decode prog_6_method_22_code 63 = .ok (.goto 4, 3) := by decide +kernel
theorem d_M_store_66 : decode prog_6_method_22_code 66 = .ok (.iconst 0, 1) := by decide +kernel
theorem d_M_store_67 : decode prog_6_method_22_code 67 = .ok (.istore 6, 2) := by decide +kernel
theorem d_M_store_69 : decode prog_6_method_22_code 69 = .ok (.aload_n 0, 1) := by decide +kernel
theorem d_M_store_70 : decode prog_6_method_22_code 70 = .ok (.getfield 35, 3) := by decide +kernel
theorem d_M_store_73 : decode prog_6_method_22_code 73 = .ok (.iconst 3, 1) := by decide +kernel
theorem d_M_store_74 : decode prog_6_method_22_code 74 = .ok (.iload 5, 2) := by decide +kernel
theorem d_M_store_76 : decode prog_6_method_22_code 76 = .ok (.imul, 1) := by decide +kernel
theorem d_M_store_77 : decode prog_6_method_22_code 77 = .ok (.iaload, 1) := by decide +kernel
theorem d_M_store_78 : decode prog_6_method_22_code 78 = .ok (.istore 7, 2) := by decide +kernel
theorem d_M_store_80 : decode prog_6_method_22_code 80 = .ok (.aload_n 0, 1) := by decide +kernel
theorem d_M_store_81 : decode prog_6_method_22_code 81 = .ok (.getfield 35, 3) := by decide +kernel
theorem d_M_store_84 : decode prog_6_method_22_code 84 = .ok (.iconst 3, 1) := by decide +kernel
theorem d_M_store_85 : decode prog_6_method_22_code 85 = .ok (.iload 5, 2) := by decide +kernel
theorem d_M_store_87 : decode prog_6_method_22_code 87 = .ok (.imul, 1) := by decide +kernel
theorem d_M_store_88 : decode prog_6_method_22_code 88 = .ok (.iconst 1, 1) := by decide +kernel
theorem d_M_store_89 : decode prog_6_method_22_code 89 = .ok (.iadd, 1) := by decide +kernel
theorem d_M_store_90 : decode prog_6_method_22_code 90 = .ok (.iaload, 1) := by decide +kernel
theorem d_M_store_91 : decode prog_6_method_22_code 91 = .ok (.istore 8, 2) := by decide +kernel
theorem d_M_store_93 : decode prog_6_method_22_code 93 = .ok (.aload_n 0, 1) := by decide +kernel
theorem d_M_store_94 : decode prog_6_method_22_code 94 = .ok (.getfield 35, 3) := by decide +kernel
theorem d_M_store_97 : decode prog_6_method_22_code 97 = .ok (.iconst 3, 1) := by decide +kernel
theorem d_M_store_98 : decode prog_6_method_22_code 98 = .ok (.iload 5, 2) := by decide +kernel
theorem d_M_store_100 : decode prog_6_method_22_code 100 = .ok (.imul, 1) := by decide +kernel
theorem d_M_store_101 : decode prog_6_method_22_code 101 = .ok (.iconst 2, 1) := by decide +kernel
theorem d_M_store_102 : decode prog_6_method_22_code 102 = .ok (.iadd, 1) := by decide +kernel
theorem d_M_store_103 : decode prog_6_method_22_code 103 = .ok (.iaload, 1) := by decide +kernel
theorem d_M_store_104 : decode prog_6_method_22_code 104 = .ok (.istore 9, 2) := by decide +kernel
theorem d_M_store_106 : decode prog_6_method_22_code 106 = .ok (.aload_n 0, 1) := by decide +kernel
theorem d_M_store_107 : decode prog_6_method_22_code 107 = .ok (.getfield 35, 3) := by decide +kernel
theorem d_M_store_110 : decode prog_6_method_22_code 110 = .ok (.iconst 3, 1) := by decide +kernel
theorem d_M_store_111 : decode prog_6_method_22_code 111 = .ok (.iload 5, 2) := by decide +kernel
theorem d_M_store_113 : decode prog_6_method_22_code 113 = .ok (.imul, 1) := by decide +kernel
theorem d_M_store_114 : decode prog_6_method_22_code 114 = .ok (.iload_n 2, 1) := by decide +kernel
theorem d_M_store_115 : decode prog_6_method_22_code 115 = .ok (.iastore, 1) := by decide +kernel
theorem d_M_store_116 : decode prog_6_method_22_code 116 = .ok (.aload_n 0, 1) := by decide +kernel
theorem d_M_store_117 : decode prog_6_method_22_code 117 = .ok (.getfield 35, 3) := by decide +kernel
theorem d_M_store_120 : decode prog_6_method_22_code 120 = .ok (.iconst 3, 1) := by decide +kernel
theorem d_M_store_121 : decode prog_6_method_22_code 121 = .ok (.iload 5, 2) := by decide +kernel
theorem d_M_store_123 : decode prog_6_method_22_code 123 = .ok (.imul, 1) := by decide +kernel
theorem d_M_store_124 : decode prog_6_method_22_code 124 = .ok (.iconst 1, 1) := by decide +kernel
theorem d_M_store_125 : decode prog_6_method_22_code 125 = .ok (.iadd, 1) := by decide +kernel
theorem d_M_store_126 : decode prog_6_method_22_code 126 = .ok (.aload_n 0, 1) := by decide +kernel
theorem d_M_store_127 : decode prog_6_method_22_code 127 = .ok (.getfield 7, 3) := by decide +kernel
theorem d_M_store_130 : decode prog_6_method_22_code 130 = .ok (.iload_n 1, 1) := by decide +kernel
theorem d_M_store_131 : decode prog_6_method_22_code 131 = .ok (.iaload, 1) := by decide +kernel
theorem d_M_store_132 : decode prog_6_method_22_code 132 = .ok (.iconst 1, 1) := by decide +kernel
theorem d_M_store_133 : decode prog_6_method_22_code 133 = .ok (.if_icmp .le 7, 3) := by decide +kernel
theorem d_M_store_136 : decode prog_6_method_22_code 136 = .ok (.iload_n 3, 1) := by decide +kernel
theorem d_M_store_137 : decode prog_6_method_22_code 137 = .ok (.goto 4, 3) := by decide +kernel
theorem d_M_store_140 : decode prog_6_method_22_code 140 = .ok (.iconst 0, 1) := by decide +kernel
theorem d_M_store_141 : decode prog_6_method_22_code 141 = .ok (.iastore, 1) := by decide +kernel
theorem d_M_store_142 : decode prog_6_method_22_code 142 = .ok (.aload_n 0, 1) := by decide +kernel
theorem d_M_store_143 : decode prog_6_method_22_code 143 = .ok (.getfield 35, 3) := by decide +kernel
theorem d_M_store_146 : decode prog_6_method_22_code 146 = .ok (.iconst 3, 1) := by decide +kernel
theorem d_M_store_147 : decode prog_6_method_22_code 147 = .ok (.iload 5, 2) := by decide +kernel
theorem d_M_store_149 : decode prog_6_method_22_code 149 = .ok (.imul, 1) := by decide +kernel
theorem d_M_store_150 : decode prog_6_method_22_code 150 = .ok (.iconst 2, 1) := by decide +kernel
theorem d_M_store_151 : decode prog_6_method_22_code 151 = .ok (.iadd, 1) := by decide +kernel
theorem d_M_store_152 : decode prog_6_method_22_code 152 = .ok (.aload_n 0, 1) := by decide +kernel
theorem d_M_store_153 : decode prog_6_method_22_code 153 = .ok (.getfield 7, 3) := by decide +kernel
theorem d_M_store_156 : decode prog_6_method_22_code 156 = .ok (.iload_n 1, 1) := by decide +kernel
theorem d_M_store_157 : decode prog_6_method_22_code 157 = .ok (.iaload, 1) := by decide +kernel
theorem d_M_store_158 : decode prog_6_method_22_code 158 = .ok (.iconst 2, 1) := by decide +kernel
theorem d_M_store_159 : decode prog_6_method_22_code 159 = .ok (.if_icmp .le 8, 3) := by decide +kernel
theorem d_M_store_162 : decode prog_6_method_22_code 162 = .ok (.iload 4, 2) := by decide +kernel
theorem d_M_store_164 : decode prog_6_method_22_code 164 = .ok (.goto 4, 3) := by decide +kernel
theorem d_M_store_167 : decode prog_6_method_22_code 167 = .ok (.iconst 0, 1) := by decide +kernel
theorem d_M_store_168 : decode prog_6_method_22_code 168 = .ok (.iastore, 1) := by decide +kernel
theorem d_M_store_169 : decode prog_6_method_22_code 169 = .ok (.aload_n 0, 1) := by decide +kernel
theorem d_M_store_170 : decode prog_6_method_22_code 170 = .ok (.iload_n 1, 1) := by decide +kernel
theorem d_M_store_171 : decode prog_6_method_22_code 171 = .ok (.iload 5, 2) := by decide +kernel
theorem d_M_store_173 : decode prog_6_method_22_code 173 = .ok (.invokevirtual 128, 3) := by decide +kernel
theorem d_M_store_176 : decode prog_6_method_22_code 176 = .ok (.istore 10, 2) := by decide +kernel
theorem d_M_store_178 : decode prog_6_method_22_code 178 = .ok (.aload_n 0, 1) := by decide +kernel
theorem d_M_store_179 : decode prog_6_method_22_code 179 = .ok (.iload 10, 2) := by decide +kernel
theorem d_M_store_181 : decode prog_6_method_22_code 181 = .ok (.iconst 2, 1) := by decide +kernel
theorem d_M_store_182 : decode prog_6_method_22_code 182 = .ok (.if_icmp .ne 7, 3) := by decide +kernel
theorem d_M_store_185 : decode prog_6_method_22_code 185 = .ok (.iconst 2, 1) := by decide +kernel
theorem d_M_store_186 : decode prog_6_method_22_code 186 = .ok (.goto 19, 3) := by decide +kernel
theorem d_M_store_189 : decode prog_6_method_22_code 189 = .ok (.iload 6, 2) := by decide +kernel
theorem d_M_store_191 : decode prog_6_method_22_code 191 = .ok (.ifCond .ne 9, 3) := by decide +kernel
theorem d_M_store_194 : decode prog_6_method_22_code 194 = .ok (.iload 10, 2) := by decide +kernel
theorem d_M_store_196 : decode prog_6_method_22_code 196 = .ok (.iconst 3, 1) := by decide +kernel
theorem d_M_store_197 : decode prog_6_method_22_code 197 = .ok (.if_icmp .ne 7, 3) := by decide +kernel
theorem d_M_store_200 : decode prog_6_method_22_code 200 = .ok (.iconst 3, 1) := by decide +kernel
theorem d_M_store_201 : decode prog_6_method_22_code 201 = .ok (.goto 4, 3) := by decide +kernel
theorem d_M_store_204 : decode prog_6_method_22_code 204 = .ok (.iconst 0, 1) := by decide +kernel
theorem d_M_store_205 : decode prog_6_method_22_code 205 = .ok (.putfield 84, 3) := by decide +kernel
theorem d_M_store_208 : decode prog_6_method_22_code 208 = .ok (.aload_n 0, 1) := by decide +kernel
theorem d_M_store_209 : decode prog_6_method_22_code 209 = .ok (.getfield 84, 3) := by decide +kernel
theorem d_M_store_212 : decode prog_6_method_22_code 212 = .ok (.ifCond .le 42, 3) := by decide +kernel
theorem d_M_store_215 : decode prog_6_method_22_code 215 = .ok (.aload_n 0, 1) := by decide +kernel
theorem d_M_store_216 : decode prog_6_method_22_code 216 = .ok (.getfield 35, 3) := by decide +kernel
theorem d_M_store_219 : decode prog_6_method_22_code 219 = .ok (.iconst 3, 1) := by decide +kernel
theorem d_M_store_220 : decode prog_6_method_22_code 220 = .ok (.iload 5, 2) := by decide +kernel
theorem d_M_store_222 : decode prog_6_method_22_code 222 = .ok (.imul, 1) := by decide +kernel
theorem d_M_store_223 : decode prog_6_method_22_code 223 = .ok (.iload 7, 2) := by decide +kernel
theorem d_M_store_225 : decode prog_6_method_22_code 225 = .ok (.iastore, 1) := by decide +kernel
theorem d_M_store_226 : decode prog_6_method_22_code 226 = .ok (.aload_n 0, 1) := by decide +kernel
theorem d_M_store_227 : decode prog_6_method_22_code 227 = .ok (.getfield 35, 3) := by decide +kernel
theorem d_M_store_230 : decode prog_6_method_22_code 230 = .ok (.iconst 3, 1) := by decide +kernel
theorem d_M_store_231 : decode prog_6_method_22_code 231 = .ok (.iload 5, 2) := by decide +kernel
theorem d_M_store_233 : decode prog_6_method_22_code 233 = .ok (.imul, 1) := by decide +kernel
theorem d_M_store_234 : decode prog_6_method_22_code 234 = .ok (.iconst 1, 1) := by decide +kernel
theorem d_M_store_235 : decode prog_6_method_22_code 235 = .ok (.iadd, 1) := by decide +kernel
theorem d_M_store_236 : decode prog_6_method_22_code 236 = .ok (.iload 8, 2) := by decide +kernel
theorem d_M_store_238 : decode prog_6_method_22_code 238 = .ok (.iastore, 1) := by decide +kernel
theorem d_M_store_239 : decode prog_6_method_22_code 239 = .ok (.aload_n 0, 1) := by decide +kernel
theorem d_M_store_240 : decode prog_6_method_22_code 240 = .ok (.getfield 35, 3) := by decide +kernel
theorem d_M_store_243 : decode prog_6_method_22_code 243 = .ok (.iconst 3, 1) := by decide +kernel
theorem d_M_store_244 : decode prog_6_method_22_code 244 = .ok (.iload 5, 2) := by decide +kernel
theorem d_M_store_246 : decode prog_6_method_22_code 246 = .ok (.imul, 1) := by decide +kernel
theorem d_M_store_247 : decode prog_6_method_22_code 247 = .ok (.iconst 2, 1) := by decide +kernel
theorem d_M_store_248 : decode prog_6_method_22_code 248 = .ok (.iadd, 1) := by decide +kernel
theorem d_M_store_249 : decode prog_6_method_22_code 249 = .ok (.iload 9, 2) := by decide +kernel
theorem d_M_store_251 : decode prog_6_method_22_code 251 = .ok (.iastore, 1) := by decide +kernel
theorem d_M_store_252 : decode prog_6_method_22_code 252 = .ok (.iconst 0, 1) := by decide +kernel
theorem d_M_store_253 : decode prog_6_method_22_code 253 = .ok (.ireturn, 1) := by decide +kernel
theorem d_M_store_254 : decode prog_6_method_22_code 254 = .ok (.aload_n 0, 1) := by decide +kernel
theorem d_M_store_255 : decode prog_6_method_22_code 255 = .ok (.getfield 29, 3) := by decide +kernel
theorem d_M_store_258 : decode prog_6_method_22_code 258 = .ok (.iload 5, 2) := by decide +kernel
theorem d_M_store_260 : decode prog_6_method_22_code 260 = .ok (.aload_n 0, 1) := by decide +kernel
theorem d_M_store_261 : decode prog_6_method_22_code 261 = .ok (.getfield 25, 3) := by decide +kernel
theorem d_M_store_264 : decode prog_6_method_22_code 264 = .ok (.iastore, 1) := by decide +kernel
theorem d_M_store_265 : decode prog_6_method_22_code 265 = .ok (.aload_n 0, 1) := by decide +kernel
theorem d_M_store_266 : decode prog_6_method_22_code 266 = .ok (.dup, 1) := by decide +kernel
theorem d_M_store_267 : decode prog_6_method_22_code 267 = .ok (.getfield 25, 3) := by decide +kernel
theorem d_M_store_270 : decode prog_6_method_22_code 270 = .ok (.iconst 1, 1) := by decide +kernel
theorem d_M_store_271 : decode prog_6_method_22_code 271 = .ok (.iadd, 1) := by decide +kernel
theorem d_M_store_272 : decode prog_6_method_22_code 272 = .ok (.putfield 25, 3) := by decide +kernel
theorem d_M_store_275 : decode prog_6_method_22_code 275 = .ok (.aload_n 0, 1) := by decide +kernel
theorem d_M_store_276 : decode prog_6_method_22_code 276 = .ok (.getfield 32, 3) := by decide +kernel
theorem d_M_store_279 : decode prog_6_method_22_code 279 = .ok (.iload 5, 2) := by decide +kernel
theorem d_M_store_281 : decode prog_6_method_22_code 281 = .ok (.iload_n 1, 1) := by decide +kernel
theorem d_M_store_282 : decode prog_6_method_22_code 282 = .ok (.iastore, 1) := by decide +kernel
theorem d_M_store_283 : decode prog_6_method_22_code 283 = .ok (.aload_n 0, 1) := by decide +kernel
theorem d_M_store_284 : decode prog_6_method_22_code 284 = .ok (.iconst 1, 1) := by decide +kernel
theorem d_M_store_285 : decode prog_6_method_22_code 285 = .ok (.putfield 93, 3) := by decide +kernel
theorem d_M_store_288 : decode prog_6_method_22_code 288 = .ok (.iconst 0, 1) := by decide +kernel
theorem d_M_store_289 : decode prog_6_method_22_code 289 = .ok (.istore 11, 2) := by decide +kernel
theorem d_M_store_291 : decode prog_6_method_22_code 291 = .ok (.iload 11, 2) := by decide +kernel
theorem d_M_store_293 : decode prog_6_method_22_code 293 = .ok (.aload_n 0, 1) := by decide +kernel
theorem d_M_store_294 : decode prog_6_method_22_code 294 = .ok (.getfield 90, 3) := by decide +kernel
theorem d_M_store_297 : decode prog_6_method_22_code 297 = .ok (.if_icmp .ge 45, 3) := by decide +kernel
theorem d_M_store_300 : decode prog_6_method_22_code 300 = .ok (.aload_n 0, 1) := by decide +kernel
theorem d_M_store_301 : decode prog_6_method_22_code 301 = .ok (.getfield 16, 3) := by decide +kernel
theorem d_M_store_304 : decode prog_6_method_22_code 304 = .ok (.iload 11, 2) := by decide +kernel
theorem d_M_store_306 : decode prog_6_method_22_code 306 = .ok (.iaload, 1) := by decide +kernel
theorem d_M_store_307 : decode prog_6_method_22_code 307 = .ok (.iload_n 1, 1) := by decide +kernel
theorem d_M_store_308 : decode prog_6_method_22_code 308 = .ok (.if_icmp .ne 28, 3) := by decide +kernel
theorem d_M_store_311 : decode prog_6_method_22_code 311 = .ok (.aload_n 0, 1) := by decide +kernel
theorem d_M_store_312 : decode prog_6_method_22_code 312 = .ok (.getfield 22, 3) := by decide +kernel
theorem d_M_store_315 : decode prog_6_method_22_code 315 = .ok (.iload 11, 2) := by decide +kernel
theorem d_M_store_317 : decode prog_6_method_22_code 317 = .ok (.iaload, 1) := by decide +kernel
theorem d_M_store_318 : decode prog_6_method_22_code 318 = .ok (.iconst 2, 1) := by decide +kernel
theorem d_M_store_319 : decode prog_6_method_22_code 319 = .ok (.if_icmp .le 17, 3) := by decide +kernel
theorem d_M_store_322 : decode prog_6_method_22_code 322 = .ok (.aload_n 0, 1) := by decide +kernel
theorem d_M_store_323 : decode prog_6_method_22_code 323 = .ok (.iload 11, 2) := by decide +kernel
theorem d_M_store_325 : decode prog_6_method_22_code 325 = .ok (.aload_n 0, 1) := by decide +kernel
theorem d_M_store_326 : decode prog_6_method_22_code 326 = .ok (.iload 11, 2) := by decide +kernel
theorem d_M_store_328 : decode prog_6_method_22_code 328 = .ok (.invokevirtual 120, 3) := by decide +kernel
theorem d_M_store_331 : decode prog_6_method_22_code 331 = .ok (.iload 5, 2) := by decide +kernel
theorem d_M_store_333 : decode prog_6_method_22_code 333 = .ok (.invokevirtual 131, 3) := by decide +kernel
theorem d_M_store_336 : decode prog_6_method_22_code 336 = .ok (.iinc 11 1, 3) := by decide +kernel
theorem d_M_store_339 : decode prog_6_method_22_code 339 = .ok (.goto (-48), 3) := by decide +kernel
theorem d_M_store_342 : decode prog_6_method_22_code 342 = .ok (.aload_n 0, 1) := by decide +kernel
theorem d_M_store_343 : decode prog_6_method_22_code 343 = .ok (.iload 5, 2) := by decide +kernel
theorem d_M_store_345 : decode prog_6_method_22_code 345 = .ok (.iconst 0, 1) := by decide +kernel
theorem d_M_store_346 : decode prog_6_method_22_code 346 = .ok (.invokevirtual 135, 3) := by decide +kernel
theorem d_M_store_349 : decode prog_6_method_22_code 349 = .ok (.aload_n 0, 1) := by decide +kernel
theorem d_M_store_350 : decode prog_6_method_22_code 350 = .ok (.getfield 29, 3) := by decide +kernel
theorem d_M_store_353 : decode prog_6_method_22_code 353 = .ok (.iload 5, 2) := by decide +kernel
theorem d_M_store_355 : decode prog_6_method_22_code 355 = .ok (.iaload, 1) := by decide +kernel
theorem d_M_store_356 : decode prog_6_method_22_code 356 = .ok (.ireturn, 1) := by decide +kernel
theorem d_M_objection_0 : decode prog_6_method_21_code 0 = .ok (.iconst 0, 1) := by decide +kernel
theorem d_M_objection_1 : decode prog_6_method_21_code 1 = .ok (.istore_n 3, 1) := by decide +kernel
theorem d_M_objection_2 : decode prog_6_method_21_code 2 = .ok (.iconst 0, 1) := by decide +kernel
theorem d_M_objection_3 : decode prog_6_method_21_code 3 = .ok (.istore 4, 2) := by decide +kernel
theorem d_M_objection_5 : decode prog_6_method_21_code 5 = .ok (.iload 4, 2) := by decide +kernel
theorem d_M_objection_7 : decode prog_6_method_21_code 7 = .ok (.aload_n 0, 1) := by decide +kernel
theorem d_M_objection_8 : decode prog_6_method_21_code 8 = .ok (.getfield 90, 3) := by decide +kernel
theorem d_M_objection_11 : decode prog_6_method_21_code 11 = .ok (.if_icmp .ge 110, 3) := by decide +kernel
theorem d_M_objection_14 : decode prog_6_method_21_code 14 = .ok (.aload_n 0, 1) := by decide +kernel
theorem d_M_objection_15 : decode prog_6_method_21_code 15 = .ok (.getfield 16, 3) := by decide +kernel
theorem d_M_objection_18 : decode prog_6_method_21_code 18 = .ok (.iload 4, 2) := by decide +kernel
theorem d_M_objection_20 : decode prog_6_method_21_code 20 = .ok (.iaload, 1) := by decide +kernel
theorem d_M_objection_21 : decode prog_6_method_21_code 21 = .ok (.iload_n 1, 1) := by decide +kernel
theorem d_M_objection_22 : decode prog_6_method_21_code 22 = .ok (.if_icmp .ne 93, 3) := by decide +kernel
theorem d_M_objection_25 : decode prog_6_method_21_code 25 = .ok (.aload_n 0, 1) := by decide +kernel
theorem d_M_objection_26 : decode prog_6_method_21_code 26 = .ok (.getfield 22, 3) := by decide +kernel
theorem d_M_objection_29 : decode prog_6_method_21_code 29 = .ok (.iload 4, 2) := by decide +kernel
theorem d_M_objection_31 : decode prog_6_method_21_code 31 = .ok (.iaload, 1) := by decide +kernel
theorem d_M_objection_32 : decode prog_6_method_21_code 32 = .ok (.iconst 2, 1) := by decide +kernel
theorem d_M_objection_33 : decode prog_6_method_21_code 33 = .ok (.if_icmp .le 82, 3) := by decide +kernel
theorem d_M_objection_36 : decode prog_6_method_21_code 36 = .ok (.aload_n 0, 1) := by decide +kernel
theorem d_M_objection_37 : decode prog_6_method_21_code 37 = .ok (.iload 4, 2) := by decide +kernel
theorem d_M_objection_39 : decode prog_6_method_21_code 39 = .ok (.invokevirtual 120, 3) := by decide +kernel
theorem d_M_objection_42 : decode prog_6_method_21_code 42 = .ok (.istore 5, 2) := by decide +kernel
theorem d_M_objection_44 : decode prog_6_method_21_code 44 = .ok (.aload_n 0, 1) := by decide +kernel
theorem d_M_objection_45 : decode prog_6_method_21_code 45 = .ok (.getfield 19, 3) := by decide +kernel
theorem d_M_objection_48 : decode prog_6_method_21_code 48 = .ok (.iload 4, 2) := by decide +kernel
theorem d_M_objection_50 : decode prog_6_method_21_code 50 = .ok (.iaload, 1) := by decide +kernel
theorem d_M_objection_51 : decode prog_6_method_21_code 51 = .ok (.bipush 10, 2) := by decide +kernel
theorem d_M_objection_53 : decode prog_6_method_21_code 53 = .ok (.if_icmp .ge 7, 3) := by decide +kernel
theorem d_M_objection_56 : decode prog_6_method_21_code 56 = .ok (.iconst 0, 1) := by decide +kernel
theorem d_M_objection_57 : decode prog_6_method_21_code 57 = .ok (.goto 22, 3) := by decide +kernel
theorem d_M_objection_60 : decode prog_6_method_21_code 60 = .ok (.aload_n 0, 1) := by decide +kernel
theorem d_M_objection_61 : decode prog_6_method_21_code 61 = .ok (.getfield 35, 3) := by decide +kernel
theorem d_M_objection_64 : decode prog_6_method_21_code 64 = .ok (.iconst 3, 1) := by decide +kernel
theorem d_M_objection_65 : decode prog_6_method_21_code 65 = .ok (.iload_n 2, 1) := by decide +kernel
theorem d_M_objection_66 : decode prog_6_method_21_code 66 = .ok (.imul, 1) := by decide +kernel
theorem d_M_objection_67 : decode prog_6_method_21_code 67 = .ok (.aload_n 0, 1) := by decide +kernel
theorem d_M_objection_68 : decode prog_6_method_21_code 68 = .ok (.getfield 19, 3) := by decide +kernel
theorem d_M_objection_71 : decode prog_6_method_21_code 71 = .ok (.iload 4, 2) := by decide +kernel
theorem d_M_objection_73 : decode prog_6_method_21_code 73 = .ok (.iaload, 1) := by decide +kernel
theorem d_M_objection_74 : decode prog_6_method_21_code 74 = .ok (.bipush 10, 2) := by decide +kernel
theorem d_M_objection_76 : decode prog_6_method_21_code 76 = .ok (.irem, 1) := by decide +kernel
theorem d_M_objection_77 : decode prog_6_method_21_code 77 = .ok (.iadd, 1) := by decide +kernel
theorem d_M_objection_78 : decode prog_6_method_21_code 78 = .ok (.iaload, 1) := by decide +kernel
theorem d_M_objection_79 : decode prog_6_method_21_code 79 = .ok (.istore 6, 2) := by decide +kernel
theorem d_M_objection_81 : decode prog_6_method_21_code 81 = .ok (.iload 5, 2) := by decide +kernel
theorem d_M_objection_83 : decode prog_6_method_21_code 83 = .ok (.ifCond .lt 8, 3) := by decide +kernel
theorem d_M_objection_86 : decode prog_6_method_21_code 86 = .ok (.iload_n 3, 1) := by decide +kernel
theorem d_M_objection_87 : decode prog_6_method_21_code 87 = .ok (.iconst 2, 1) := by decide +kernel
theorem d_M_objection_88 : decode prog_6_method_21_code 88 = .ok (.if_icmp .ne 7, 3) := by decide +kernel
theorem d_M_objection_91 : decode prog_6_method_21_code 91 = .ok (.iconst 2, 1) := by decide +kernel
theorem d_M_objection_92 : decode prog_6_method_21_code 92 = .ok (.goto 22, 3) := by decide +kernel
theorem d_M_objection_95 : decode prog_6_method_21_code 95 = .ok (.aload_n 0, 1) := by decide +kernel
theorem d_M_objection_96 : decode prog_6_method_21_code 96 = .ok (.iload 4, 2) := by decide +kernel
theorem d_M_objection_98 : decode prog_6_method_21_code 98 = .ok (.iload 5, 2) := by decide +kernel
theorem d_M_objection_100 : decode prog_6_method_21_code 100 = .ok (.iload_n 2, 1) := by decide +kernel
theorem d_M_objection_101 : decode prog_6_method_21_code 101 = .ok (.iload 6, 2) := by decide +kernel
theorem d_M_objection_103 : decode prog_6_method_21_code 103 = .ok (.invokevirtual 124, 3) := by decide +kernel
theorem d_M_objection_106 : decode prog_6_method_21_code 106 = .ok (.ifCond .eq 7, 3) := by decide +kernel
theorem d_M_objection_109 : decode prog_6_method_21_code 109 = .ok (.iconst 3, 1) := by decide +kernel
theorem d_M_objection_110 : decode prog_6_method_21_code 110 = .ok (.goto 4, 3) := by decide +kernel
theorem d_M_objection_113 : decode prog_6_method_21_code 113 = .ok (.iload_n 3, 1) := by decide +kernel
theorem d_M_objection_114 : decode prog_6_method_21_code 114 = .ok (.istore_n 3, 1) := by decide +kernel
theorem d_M_objection_115 : decode prog_6_method_21_code 115 = .ok (.iinc 4 1, 3) := by decide +kernel
theorem d_M_objection_118 : decode prog_6_method_21_code 118 = .ok (.goto (-113), 3) := by decide +kernel
theorem d_M_objection_121 : decode prog_6_method_21_code 121 = .ok (.iload_n 3, 1) := by decide +kernel
theorem d_M_objection_122 : decode prog_6_method_21_code 122 = .ok (.ireturn, 1) := by decide +kernel
theorem d_M_currentOwner_0 : decode prog_6_method_11_code 0 = .ok (.aload_n 0, 1) := by decide +kernel
theorem d_M_currentOwner_1 : decode prog_6_method_11_code 1 = .ok (.getfield 53, 3) := by decide +kernel
theorem d_M_currentOwner_4 : decode prog_6_method_11_code 4 = .ok (.iload_n 1, 1) := by decide +kernel
theorem d_M_currentOwner_5 : decode prog_6_method_11_code 5 = .ok (.iaload, 1) := by decide +kernel
theorem d_M_currentOwner_6 : decode prog_6_method_11_code 6 = .ok (.istore_n 2, 1) := by decide +kernel
theorem d_M_currentOwner_7 : decode prog_6_method_11_code 7 = .ok (.iload_n 2, 1) := by decide +kernel
theorem d_M_currentOwner_8 : decode prog_6_method_11_code 8 = .ok (.ifCond .lt 18, 3) := by decide +kernel
theorem d_M_currentOwner_11 : decode prog_6_method_11_code 11 = .ok (.aload_n 0, 1) := by decide +kernel
theorem d_M_currentOwner_12 : decode prog_6_method_11_code 12 = .ok (.getfield 32, 3) := by decide +kernel
theorem d_M_currentOwner_15 : decode prog_6_method_11_code 15 = .ok (.iload_n 2, 1) := by decide +kernel
theorem d_M_currentOwner_16 : decode prog_6_method_11_code 16 = .ok (.iaload, 1) := by decide +kernel
theorem d_M_currentOwner_17 : decode prog_6_method_11_code 17 = .ok (.aload_n 0, 1) := by decide +kernel
theorem d_M_currentOwner_18 : decode prog_6_method_11_code 18 = .ok (.getfield 13, 3) := by decide +kernel
theorem d_M_currentOwner_21 : decode prog_6_method_11_code 21 = .ok (.iload_n 1, 1) := by decide +kernel
theorem d_M_currentOwner_22 : decode prog_6_method_11_code 22 = .ok (.iaload, 1) := by decide +kernel
theorem d_M_currentOwner_23 : decode prog_6_method_11_code 23 = .ok (.if_icmp .ne 7, 3) := by decide +kernel
theorem d_M_currentOwner_26 : decode prog_6_method_11_code 26 = .ok (.iload_n 2, 1) := by decide +kernel
theorem d_M_currentOwner_27 : decode prog_6_method_11_code 27 = .ok (.goto 14, 3) := by decide +kernel
theorem d_M_currentOwner_30 : decode prog_6_method_11_code 30 = .ok (.aload_n 0, 1) := by decide +kernel
theorem d_M_currentOwner_31 : decode prog_6_method_11_code 31 = .ok (.getfield 38, 3) := by decide +kernel
theorem d_M_currentOwner_34 : decode prog_6_method_11_code 34 = .ok (.bipush 24, 2) := by decide +kernel
theorem d_M_currentOwner_36 : decode prog_6_method_11_code 36 = .ok (.iload_n 1, 1) := by decide +kernel
theorem d_M_currentOwner_37 : decode prog_6_method_11_code 37 = .ok (.imul, 1) := by decide +kernel
theorem d_M_currentOwner_38 : decode prog_6_method_11_code 38 = .ok (.iload_n 2, 1) := by decide +kernel
theorem d_M_currentOwner_39 : decode prog_6_method_11_code 39 = .ok (.iadd, 1) := by decide +kernel
theorem d_M_currentOwner_40 : decode prog_6_method_11_code 40 = .ok (.iaload, 1) := by decide +kernel
theorem d_M_currentOwner_41 : decode prog_6_method_11_code 41 = .ok (.ireturn, 1) := by decide +kernel
theorem d_M_isRefused_0 : decode prog_6_method_17_code 0 = .ok (.iconst 0, 1) := by decide +kernel
theorem d_M_isRefused_1 : decode prog_6_method_17_code 1 = .ok (.istore 5, 2) := by decide +kernel
theorem d_M_isRefused_3 : decode prog_6_method_17_code 3 = .ok (.iconst 0, 1) := by decide +kernel
theorem d_M_isRefused_4 : decode prog_6_method_17_code 4 = .ok (.istore 6, 2) := by decide +kernel
theorem d_M_isRefused_6 : decode prog_6_method_17_code 6 = .ok (.iload 6, 2) := by decide +kernel
theorem d_M_isRefused_8 : decode prog_6_method_17_code 8 = .ok (.bipush 24, 2) := by decide +kernel
theorem d_M_isRefused_10 : decode prog_6_method_17_code 10 = .ok (.if_icmp .ge 88, 3) := by decide +kernel
theorem d_M_isRefused_13 : decode prog_6_method_17_code 13 = .ok (.iload 5, 2) := by decide +kernel
theorem d_M_isRefused_15 : decode prog_6_method_17_code 15 = .ok (.ifCond .ne 70, 3) := by decide +kernel
theorem d_M_isRefused_18 : decode prog_6_method_17_code 18 = .ok (.aload_n 0, 1) := by decide +kernel
theorem d_M_isRefused_19 : decode prog_6_method_17_code 19 = .ok (.getfield 19, 3) := by decide +kernel
theorem d_M_isRefused_22 : decode prog_6_method_17_code 22 = .ok (.iload_n 1, 1) := by decide +kernel
theorem d_M_isRefused_23 : decode prog_6_method_17_code 23 = .ok (.iaload, 1) := by decide +kernel
theorem d_M_isRefused_24 : decode prog_6_method_17_code 24 = .ok (.bipush 30, 2) := by decide +kernel
theorem d_M_isRefused_26 : decode prog_6_method_17_code 26 = .ok (.if_icmp .lt 63, 3) := by decide +kernel
theorem d_M_isRefused_29 : decode prog_6_method_17_code 29 = .ok (.aload_n 0, 1) := by decide +kernel
theorem d_M_isRefused_30 : decode prog_6_method_17_code 30 = .ok (.getfield 29, 3) := by decide +kernel
theorem d_M_isRefused_33 : decode prog_6_method_17_code 33 = .ok (.iload 6, 2) := by decide +kernel
theorem d_M_isRefused_35 : decode prog_6_method_17_code 35 = .ok (.iaload, 1) := by decide +kernel
theorem d_M_isRefused_36 : decode prog_6_method_17_code 36 = .ok (.ifCond .le 53, 3) := by decide +kernel
theorem d_M_isRefused_39 : decode prog_6_method_17_code 39 = .ok (.iload 6, 2) := by decide +kernel
theorem d_M_isRefused_41 : decode prog_6_method_17_code 41 = .ok (.iload_n 3, 1) := by decide +kernel
theorem d_M_isRefused_42 : decode prog_6_method_17_code 42 = .ok (.if_icmp .eq 47, 3) := by decide +kernel
theorem d_M_isRefused_45 : decode prog_6_method_17_code 45 = .ok (.aload_n 0, 1) := by decide +kernel
theorem d_M_isRefused_46 : decode prog_6_method_17_code 46 = .ok (.getfield 38, 3) := by decide +kernel
theorem d_M_isRefused_49 : decode prog_6_method_17_code 49 = .ok (.bipush 24, 2) := by decide +kernel
theorem d_M_isRefused_51 : decode prog_6_method_17_code 51 = .ok (.iload_n 1, 1) := by decide +kernel
theorem d_M_isRefused_52 : decode prog_6_method_17_code 52 = .ok (.imul, 1) := by decide +kernel
theorem d_M_isRefused_53 : decode prog_6_method_17_code 53 = .ok (.iload 6, 2) := by decide +kernel
theorem d_M_isRefused_55 : decode prog_6_method_17_code 55 = .ok (.iadd, 1) := by decide +kernel
theorem d_M_isRefused_56 : decode prog_6_method_17_code 56 = .ok (.iaload, 1) := by decide +kernel
theorem d_M_isRefused_57 : decode prog_6_method_17_code 57 = .ok (.iload_n 2, 1) := by decide +kernel
theorem d_M_isRefused_58 : decode prog_6_method_17_code 58 = .ok (.if_icmp .ne 31, 3) := by decide +kernel
theorem d_M_isRefused_61 : decode prog_6_method_17_code 61 = .ok (.aload_n 0, 1) := by decide +kernel
theorem d_M_isRefused_62 : decode prog_6_method_17_code 62 = .ok (.getfield 35, 3) := by decide +kernel
theorem d_M_isRefused_65 : decode prog_6_method_17_code 65 = .ok (.iconst 3, 1) := by decide +kernel
theorem d_M_isRefused_66 : decode prog_6_method_17_code 66 = .ok (.iload 6, 2) := by decide +kernel
theorem d_M_isRefused_68 : decode prog_6_method_17_code 68 = .ok (.imul, 1) := by decide +kernel
theorem d_M_isRefused_69 : decode prog_6_method_17_code 69 = .ok (.aload_n 0, 1) := by decide +kernel
theorem d_M_isRefused_70 : decode prog_6_method_17_code 70 = .ok (.getfield 19, 3) := by decide +kernel
theorem d_M_isRefused_73 : decode prog_6_method_17_code 73 = .ok (.iload_n 1, 1) := by decide +kernel
theorem d_M_isRefused_74 : decode prog_6_method_17_code 74 = .ok (.iaload, 1) := by decide +kernel
theorem d_M_isRefused_75 : decode prog_6_method_17_code 75 = .ok (.bipush 10, 2) := by decide +kernel
theorem d_M_isRefused_77 : decode prog_6_method_17_code 77 = .ok (.irem, 1) := by decide +kernel
theorem d_M_isRefused_78 : decode prog_6_method_17_code 78 = .ok (.iadd, 1) := by decide +kernel
theorem d_M_isRefused_79 : decode prog_6_method_17_code 79 = .ok (.iaload, 1) := by decide +kernel
theorem d_M_isRefused_80 : decode prog_6_method_17_code 80 = .ok (.iload 4, 2) := by decide +kernel
theorem d_M_isRefused_82 : decode prog_6_method_17_code 82 = .ok (.if_icmp .ne 7, 3) := by decide +kernel
theorem d_M_isRefused_85 : decode prog_6_method_17_code 85 = .ok (.iconst 1, 1) := by decide +kernel
theorem d_M_isRefused_86 : decode prog_6_method_17_code 86 = .ok (.goto 4, 3) := by decide +kernel
theorem d_M_isRefused_89 : decode prog_6_method_17_code 89 = .ok (.iconst 0, 1) := by decide +kernel
theorem d_M_isRefused_90 : decode prog_6_method_17_code 90 = .ok (.istore 5, 2) := by decide +kernel
theorem d_M_isRefused_92 : decode prog_6_method_17_code 92 = .ok (.iinc 6 1, 3) := by decide +kernel
theorem d_M_isRefused_95 : decode prog_6_method_17_code 95 = .ok (.goto (-89), 3) := by decide +kernel
theorem d_M_isRefused_98 : decode prog_6_method_17_code 98 = .ok (.iload 5, 2) := by decide +kernel
theorem d_M_isRefused_100 : decode prog_6_method_17_code 100 = .ok (.ireturn, 1) := by decide +kernel
theorem d_M_join_0 : decode prog_6_method_19_code 0 = .ok (.aload_n 0, 1) := by decide +kernel
theorem d_M_join_1 : decode prog_6_method_19_code 1 = .ok (.iload_n 1, 1) := by decide +kernel
theorem d_M_join_2 : decode prog_6_method_19_code 2 = .ok (.iload_n 2, 1) := by decide +kernel
theorem d_M_join_3 : decode prog_6_method_19_code 3 = .ok (.iload_n 3, 1) := by decide +kernel
theorem d_M_join_4 : decode prog_6_method_19_code 4 = .ok (.invokevirtual 116, 3) := by decide +kernel
theorem d_M_join_7 : decode prog_6_method_19_code 7 = .ok (.istore 4, 2) := by decide +kernel
theorem d_M_join_9 : decode prog_6_method_19_code 9 = .ok (.aload_n 0, 1) := by decide +kernel
theorem d_M_join_10 : decode prog_6_method_19_code 10 = .ok (.getfield 44, 3) := by decide +kernel
theorem d_M_join_13 : decode prog_6_method_19_code 13 = .ok (.iload_n 1, 1) := by decide +kernel
theorem d_M_join_14 : decode prog_6_method_19_code 14 = .ok (.iaload, 1) := by decide +kernel
theorem d_M_join_15 : decode prog_6_method_19_code 15 = .ok (.istore 5, 2) := by decide +kernel
theorem d_M_join_17 : decode prog_6_method_19_code 17 = .ok (.iload 5, 2) := by decide +kernel
theorem d_M_join_19 : decode prog_6_method_19_code 19 = .ok (.iload 4, 2) := by decide +kernel
theorem d_M_join_21 : decode prog_6_method_19_code 21 = .ok (.if_icmp .le 35, 3) := by decide +kernel
theorem d_M_join_24 : decode prog_6_method_19_code 24 = .ok (.aload_n 0, 1) := by decide +kernel
theorem d_M_join_25 : decode prog_6_method_19_code 25 = .ok (.getfield 41, 3) := by decide +kernel
theorem d_M_join_28 : decode prog_6_method_19_code 28 = .ok (.bipush 24, 2) := by decide +kernel
theorem d_M_join_30 : decode prog_6_method_19_code 30 = .ok (.iload_n 1, 1) := by decide +kernel
theorem d_M_join_31 : decode prog_6_method_19_code 31 = .ok (.imul, 1) := by decide +kernel
theorem d_M_join_32 : decode prog_6_method_19_code 32 = .ok (.iload 5, 2) := by decide +kernel
theorem d_M_join_34 : decode prog_6_method_19_code 34 = .ok (.iadd, 1) := by decide +kernel
theorem d_M_join_35 : decode prog_6_method_19_code 35 = .ok (.aload_n 0, 1) := by decide +kernel
theorem d_M_join_36 : decode prog_6_method_19_code 36 = .ok (.getfield 41, 3) := by decide +kernel
theorem d_M_join_39 : decode prog_6_method_19_code 39 = .ok (.bipush 24, 2) := by decide +kernel
theorem d_M_join_41 : decode prog_6_method_19_code 41 = .ok (.iload_n 1, 1) := by decide +kernel
theorem d_M_join_42 : decode prog_6_method_19_code 42 = .ok (.imul, 1) := by decide +kernel
theorem d_M_join_43 : decode prog_6_method_19_code 43 = .ok (.iload 5, 2) := by decide +kernel
theorem d_M_join_45 : decode prog_6_method_19_code 45 = .ok (.iadd, 1) := by decide +kernel
theorem d_M_join_46 : decode prog_6_method_19_code 46 = .ok (.iconst 1, 1) := by decide +kernel
theorem d_M_join_47 : decode prog_6_method_19_code 47 = .ok (.isub, 1) := by decide +kernel
theorem d_M_join_48 : decode prog_6_method_19_code 48 = .ok (.iaload, 1) := by decide +kernel
theorem d_M_join_49 : decode prog_6_method_19_code 49 = .ok (.iastore, 1) := by decide +kernel
theorem d_M_join_50 : decode prog_6_method_19_code 50 = .ok (.iinc 5 (-1), 3) := by decide +kernel
theorem d_M_join_53 : decode prog_6_method_19_code 53 = .ok (.goto (-36), 3) := by decide +kernel
theorem d_M_join_56 : decode prog_6_method_19_code 56 = .ok (.aload_n 0, 1) := by decide +kernel
theorem d_M_join_57 : decode prog_6_method_19_code 57 = .ok (.getfield 41, 3) := by decide +kernel
theorem d_M_join_60 : decode prog_6_method_19_code 60 = .ok (.bipush 24, 2) := by decide +kernel
theorem d_M_join_62 : decode prog_6_method_19_code 62 = .ok (.iload_n 1, 1) := by decide +kernel
theorem d_M_join_63 : decode prog_6_method_19_code 63 = .ok (.imul, 1) := by decide +kernel
theorem d_M_join_64 : decode prog_6_method_19_code 64 = .ok (.iload 4, 2) := by decide +kernel
theorem d_M_join_66 : decode prog_6_method_19_code 66 = .ok (.iadd, 1) := by decide +kernel
theorem d_M_join_67 : decode prog_6_method_19_code 67 = .ok (.iload_n 3, 1) := by decide +kernel
theorem d_M_join_68 : decode prog_6_method_19_code 68 = .ok (.iastore, 1) := by decide +kernel
theorem d_M_join_69 : decode prog_6_method_19_code 69 = .ok (.aload_n 0, 1) := by decide +kernel
theorem d_M_join_70 : decode prog_6_method_19_code 70 = .ok (.getfield 44, 3) := by decide +kernel
theorem d_M_join_73 : decode prog_6_method_19_code 73 = .ok (.iload_n 1, 1) := by decide +kernel
theorem d_M_join_74 : decode prog_6_method_19_code 74 = .ok (.dup2, 1) := by decide +kernel
theorem d_M_join_75 : decode prog_6_method_19_code 75 = .ok (.iaload, 1) := by decide +kernel
theorem d_M_join_76 : decode prog_6_method_19_code 76 = .ok (.iconst 1, 1) := by decide +kernel
theorem d_M_join_77 : decode prog_6_method_19_code 77 = .ok (.iadd, 1) := by decide +kernel
theorem d_M_join_78 : decode prog_6_method_19_code 78 = .ok (.iastore, 1) := by decide +kernel
theorem d_M_join_79 : decode prog_6_method_19_code 79 = .ok (.aload_n 0, 1) := by decide +kernel
theorem d_M_join_80 : decode prog_6_method_19_code 80 = .ok (.getfield 38, 3) := by decide +kernel
theorem d_M_join_83 : decode prog_6_method_19_code 83 = .ok (.bipush 24, 2) := by decide +kernel
theorem d_M_join_85 : decode prog_6_method_19_code 85 = .ok (.iload_n 1, 1) := by decide +kernel
theorem d_M_join_86 : decode prog_6_method_19_code 86 = .ok (.imul, 1) := by decide +kernel
theorem d_M_join_87 : decode prog_6_method_19_code 87 = .ok (.iload_n 3, 1) := by decide +kernel
theorem d_M_join_88 : decode prog_6_method_19_code 88 = .ok (.iadd, 1) := by decide +kernel
theorem d_M_join_89 : decode prog_6_method_19_code 89 = .ok (.iload_n 2, 1) := by decide +kernel
theorem d_M_join_90 : decode prog_6_method_19_code 90 = .ok (.iastore, 1) := by decide +kernel
theorem d_M_join_91 : decode prog_6_method_19_code 91 = .ok (.return_, 1) := by decide +kernel
theorem d_M_placeFor_0 : decode prog_6_method_18_code 0 = .ok (.aload_n 0, 1) := by decide +kernel
theorem d_M_placeFor_1 : decode prog_6_method_18_code 1 = .ok (.getfield 19, 3) := by decide +kernel
theorem d_M_placeFor_4 : decode prog_6_method_18_code 4 = .ok (.iload_n 1, 1) := by decide +kernel
theorem d_M_placeFor_5 : decode prog_6_method_18_code 5 = .ok (.iaload, 1) := by decide +kernel
theorem d_M_placeFor_6 : decode prog_6_method_18_code 6 = .ok (.istore 4, 2) := by decide +kernel
theorem d_M_placeFor_8 : decode prog_6_method_18_code 8 = .ok (.aload_n 0, 1) := by decide +kernel
theorem d_M_placeFor_9 : decode prog_6_method_18_code 9 = .ok (.getfield 53, 3) := by decide +kernel
theorem d_M_placeFor_12 : decode prog_6_method_18_code 12 = .ok (.iload_n 1, 1) := by decide +kernel
theorem d_M_placeFor_13 : decode prog_6_method_18_code 13 = .ok (.iaload, 1) := by decide +kernel
theorem d_M_placeFor_14 : decode prog_6_method_18_code 14 = .ok (.istore 5, 2) := by decide +kernel
theorem d_M_placeFor_16 : decode prog_6_method_18_code 16 = .ok (.iload 5, 2) := by decide +kernel
theorem d_M_placeFor_18 : decode prog_6_method_18_code 18 = .ok (.ifCond .lt 23, 3) := by decide +kernel
theorem d_M_placeFor_21 : decode prog_6_method_18_code 21 = .ok (.aload_n 0, 1) := by decide +kernel
theorem d_M_placeFor_22 : decode prog_6_method_18_code 22 = .ok (.getfield 38, 3) := by decide +kernel
theorem d_M_placeFor_25 : decode prog_6_method_18_code 25 = .ok (.bipush 24, 2) := by decide +kernel
theorem d_M_placeFor_27 : decode prog_6_method_18_code 27 = .ok (.iload_n 1, 1) := by decide +kernel
theorem d_M_placeFor_28 : decode prog_6_method_18_code 28 = .ok (.imul, 1) := by decide +kernel
theorem d_M_placeFor_29 : decode prog_6_method_18_code 29 = .ok (.iload 5, 2) := by decide +kernel
theorem d_M_placeFor_31 : decode prog_6_method_18_code 31 = .ok (.iadd, 1) := by decide +kernel
theorem d_M_placeFor_32 : decode prog_6_method_18_code 32 = .ok (.iaload, 1) := by decide +kernel
theorem d_M_placeFor_33 : decode prog_6_method_18_code 33 = .ok (.iload_n 2, 1) := by decide +kernel
theorem d_M_placeFor_34 : decode prog_6_method_18_code 34 = .ok (.if_icmp .ne 7, 3) := by decide +kernel
theorem d_M_placeFor_37 : decode prog_6_method_18_code 37 = .ok (.iconst 1, 1) := by decide +kernel
theorem d_M_placeFor_38 : decode prog_6_method_18_code 38 = .ok (.goto 4, 3) := by decide +kernel
theorem d_M_placeFor_41 : decode prog_6_method_18_code 41 = .ok (.iconst 0, 1) := by decide +kernel
theorem d_M_placeFor_42 : decode prog_6_method_18_code 42 = .ok (.istore 6, 2) := by decide +kernel
theorem d_M_placeFor_44 : decode prog_6_method_18_code 44 = .ok (.iload 6, 2) := by decide +kernel
theorem d_M_placeFor_46 : decode prog_6_method_18_code 46 = .ok (.ifCond .eq 35, 3) := by decide +kernel
theorem d_M_placeFor_49 : decode prog_6_method_18_code 49 = .ok (.iload 4, 2) := by decide +kernel
theorem d_M_placeFor_51 : decode prog_6_method_18_code 51 = .ok (.iconst 2, 1) := by decide +kernel
theorem d_M_placeFor_52 : decode prog_6_method_18_code 52 = .ok (.if_icmp .eq 9, 3) := by decide +kernel
theorem d_M_placeFor_55 : decode prog_6_method_18_code 55 = .ok (.iload 4, 2) := by decide +kernel
theorem d_M_placeFor_57 : decode prog_6_method_18_code 57 = .ok (.iconst 3, 1) := by decide +kernel
theorem d_M_placeFor_58 : decode prog_6_method_18_code 58 = .ok (.if_icmp .ne 23, 3) := by decide +kernel
theorem d_M_placeFor_61 : decode prog_6_method_18_code 61 = .ok (.aload_n 0, 1) := by decide +kernel
theorem d_M_placeFor_62 : decode prog_6_method_18_code 62 = .ok (.iload_n 1, 1) := by decide +kernel
theorem d_M_placeFor_63 : decode prog_6_method_18_code 63 = .ok (.iload 5, 2) := by decide +kernel
theorem d_M_placeFor_65 : decode prog_6_method_18_code 65 = .ok (.invokevirtual 109, 3) := by decide +kernel
theorem d_M_placeFor_68 : decode prog_6_method_18_code 68 = .ok (.iload 4, 2) := by decide +kernel
theorem d_M_placeFor_70 : decode prog_6_method_18_code 70 = .ok (.iconst 2, 1) := by decide +kernel
theorem d_M_placeFor_71 : decode prog_6_method_18_code 71 = .ok (.if_icmp .ne 7, 3) := by decide +kernel
theorem d_M_placeFor_74 : decode prog_6_method_18_code 74 = .ok (.iconst 1, 1) := by decide +kernel
theorem d_M_placeFor_75 : decode prog_6_method_18_code 75 = .ok (.goto 4, 3) := by decide +kernel
theorem d_M_placeFor_78 : decode prog_6_method_18_code 78 = .ok (.iconst 0, 1) := by decide +kernel
theorem d_M_placeFor_79 : decode prog_6_method_18_code 79 = .ok (.iadd, 1) := by decide +kernel
theorem d_M_placeFor_80 : decode prog_6_method_18_code 80 = .ok (.ireturn, 1) := by decide +kernel
theorem d_M_placeFor_81 : decode prog_6_method_18_code 81 = .ok (.iload 4, 2) := by decide +kernel
theorem d_M_placeFor_83 : decode prog_6_method_18_code 83 = .ok (.ifCond .eq 9, 3) := by decide +kernel
theorem d_M_placeFor_86 : decode prog_6_method_18_code 86 = .ok (.iload 4, 2) := by decide +kernel
theorem d_M_placeFor_88 : decode prog_6_method_18_code 88 = .ok (.iconst 2, 1) := by decide +kernel
theorem d_M_placeFor_89 : decode prog_6_method_18_code 89 = .ok (.if_icmp .ne 33, 3) := by decide +kernel
theorem d_M_placeFor_92 : decode prog_6_method_18_code 92 = .ok (.aload_n 0, 1) := by decide +kernel
theorem d_M_placeFor_93 : decode prog_6_method_18_code 93 = .ok (.iload_n 1, 1) := by decide +kernel
theorem d_M_placeFor_94 : decode prog_6_method_18_code 94 = .ok (.iload_n 2, 1) := by decide +kernel
theorem d_M_placeFor_95 : decode prog_6_method_18_code 95 = .ok (.invokevirtual 113, 3) := by decide +kernel
theorem d_M_placeFor_98 : decode prog_6_method_18_code 98 = .ok (.istore 7, 2) := by decide +kernel
theorem d_M_placeFor_100 : decode prog_6_method_18_code 100 = .ok (.iload 7, 2) := by decide +kernel
theorem d_M_placeFor_102 : decode prog_6_method_18_code 102 = .ok (.ifCond .ge 12, 3) := by decide +kernel
theorem d_M_placeFor_105 : decode prog_6_method_18_code 105 = .ok (.aload_n 0, 1) := by decide +kernel
theorem d_M_placeFor_106 : decode prog_6_method_18_code 106 = .ok (.getfield 44, 3) := by decide +kernel
theorem d_M_placeFor_109 : decode prog_6_method_18_code 109 = .ok (.iload_n 1, 1) := by decide +kernel
theorem d_M_placeFor_110 : decode prog_6_method_18_code 110 = .ok (.iaload, 1) := by decide +kernel
theorem d_M_placeFor_111 : decode prog_6_method_18_code 111 = .ok (.goto 10, 3) := by decide +kernel
theorem d_M_placeFor_114 : decode prog_6_method_18_code 114 = .ok (.aload_n 0, 1) := by decide +kernel
theorem d_M_placeFor_115 : decode prog_6_method_18_code 115 = .ok (.iload_n 1, 1) := by decide +kernel
theorem d_M_placeFor_116 : decode prog_6_method_18_code 116 = .ok (.iload 7, 2) := by decide +kernel
theorem d_M_placeFor_118 : decode prog_6_method_18_code 118 = .ok (.invokevirtual 109, 3) := by decide +kernel
theorem d_M_placeFor_121 : decode prog_6_method_18_code 121 = .ok (.ireturn, 1) := by decide +kernel
theorem d_M_placeFor_122 : decode prog_6_method_18_code 122 = .ok (.iload 4, 2) := by decide +kernel
theorem d_M_placeFor_124 : decode prog_6_method_18_code 124 = .ok (.bipush 10, 2) := by decide +kernel
theorem d_M_placeFor_126 : decode prog_6_method_18_code 126 = .ok (.if_icmp .ge 10, 3) := by decide +kernel
theorem d_M_placeFor_129 : decode prog_6_method_18_code 129 = .ok (.aload_n 0, 1) := by decide +kernel
theorem d_M_placeFor_130 : decode prog_6_method_18_code 130 = .ok (.getfield 44, 3) := by decide +kernel
theorem d_M_placeFor_133 : decode prog_6_method_18_code 133 = .ok (.iload_n 1, 1) := by decide +kernel
theorem d_M_placeFor_134 : decode prog_6_method_18_code 134 = .ok (.iaload, 1) := by decide +kernel
theorem d_M_placeFor_135 : decode prog_6_method_18_code 135 = .ok (.ireturn, 1) := by decide +kernel
theorem d_M_placeFor_136 : decode prog_6_method_18_code 136 = .ok (.aload_n 0, 1) := by decide +kernel
theorem d_M_placeFor_137 : decode prog_6_method_18_code 137 = .ok (.getfield 35, 3) := by decide +kernel
theorem d_M_placeFor_140 : decode prog_6_method_18_code 140 = .ok (.iconst 3, 1) := by decide +kernel
theorem d_M_placeFor_141 : decode prog_6_method_18_code 141 = .ok (.iload_n 3, 1) := by decide +kernel
theorem d_M_placeFor_142 : decode prog_6_method_18_code 142 = .ok (.imul, 1) := by decide +kernel
theorem d_M_placeFor_143 : decode prog_6_method_18_code 143 = .ok (.iload 4, 2) := by decide +kernel
theorem d_M_placeFor_145 : decode prog_6_method_18_code 145 = .ok (.bipush 10, 2) := by decide +kernel
theorem d_M_placeFor_147 : decode prog_6_method_18_code 147 = .ok (.irem, 1) := by decide +kernel
theorem d_M_placeFor_148 : decode prog_6_method_18_code 148 = .ok (.iadd, 1) := by decide +kernel
theorem d_M_placeFor_149 : decode prog_6_method_18_code 149 = .ok (.iaload, 1) := by decide +kernel
theorem d_M_placeFor_150 : decode prog_6_method_18_code 150 = .ok (.istore 7, 2) := by decide +kernel
theorem d_M_placeFor_152 : decode prog_6_method_18_code 152 = .ok (.iconst 0, 1) := by decide +kernel
theorem d_M_placeFor_153 : decode prog_6_method_18_code 153 = .ok (.istore 8, 2) := by decide +kernel
theorem d_M_placeFor_155 : decode prog_6_method_18_code 155 = .ok (.iload 8, 2) := by decide +kernel
theorem d_M_placeFor_157 : decode prog_6_method_18_code 157 = .ok (.aload_n 0, 1) := by decide +kernel
theorem d_M_placeFor_158 : decode prog_6_method_18_code 158 = .ok (.getfield 44, 3) := by decide +kernel
theorem d_M_placeFor_161 : decode prog_6_method_18_code 161 = .ok (.iload_n 1, 1) := by decide +kernel
theorem d_M_placeFor_162 : decode prog_6_method_18_code 162 = .ok (.iaload, 1) := by decide +kernel
theorem d_M_placeFor_163 : decode prog_6_method_18_code 163 = .ok (.if_icmp .ge 80, 3) := by decide +kernel
theorem d_M_placeFor_166 : decode prog_6_method_18_code 166 = .ok (.aload_n 0, 1) := by decide +kernel
theorem d_M_placeFor_167 : decode prog_6_method_18_code 167 = .ok (.getfield 41, 3) := by decide +kernel
theorem d_M_placeFor_170 : decode prog_6_method_18_code 170 = .ok (.bipush 24, 2) := by decide +kernel
theorem d_M_placeFor_172 : decode prog_6_method_18_code 172 = .ok (.iload_n 1, 1) := by decide +kernel
theorem d_M_placeFor_173 : decode prog_6_method_18_code 173 = .ok (.imul, 1) := by decide +kernel
theorem d_M_placeFor_174 : decode prog_6_method_18_code 174 = .ok (.iload 8, 2) := by decide +kernel
theorem d_M_placeFor_176 : decode prog_6_method_18_code 176 = .ok (.iadd, 1) := by decide +kernel
theorem d_M_placeFor_177 : decode prog_6_method_18_code 177 = .ok (.iaload, 1) := by decide +kernel
theorem d_M_placeFor_178 : decode prog_6_method_18_code 178 = .ok (.istore 9, 2) := by decide +kernel
theorem d_M_placeFor_180 : decode prog_6_method_18_code 180 = .ok (.aload_n 0, 1) := by decide +kernel
theorem d_M_placeFor_181 : decode prog_6_method_18_code 181 = .ok (.getfield 35, 3) := by decide +kernel
theorem d_M_placeFor_184 : decode prog_6_method_18_code 184 = .ok (.iconst 3, 1) := by decide +kernel
theorem d_M_placeFor_185 : decode prog_6_method_18_code 185 = .ok (.iload 9, 2) := by decide +kernel
theorem d_M_placeFor_187 : decode prog_6_method_18_code 187 = .ok (.imul, 1) := by decide +kernel
theorem d_M_placeFor_188 : decode prog_6_method_18_code 188 = .ok (.iload 4, 2) := by decide +kernel
theorem d_M_placeFor_190 : decode prog_6_method_18_code 190 = .ok (.bipush 10, 2) := by decide +kernel
theorem d_M_placeFor_192 : decode prog_6_method_18_code 192 = .ok (.irem, 1) := by decide +kernel
theorem d_M_placeFor_193 : decode prog_6_method_18_code 193 = .ok (.iadd, 1) := by decide +kernel
theorem d_M_placeFor_194 : decode prog_6_method_18_code 194 = .ok (.iaload, 1) := by decide +kernel
theorem d_M_placeFor_195 : decode prog_6_method_18_code 195 = .ok (.istore 10, 2) := by decide +kernel
theorem d_M_placeFor_197 : decode prog_6_method_18_code 197 = .ok (.aload_n 0, 1) := by decide +kernel
theorem d_M_placeFor_198 : decode prog_6_method_18_code 198 = .ok (.getfield 38, 3) := by decide +kernel
theorem d_M_placeFor_201 : decode prog_6_method_18_code 201 = .ok (.bipush 24, 2) := by decide +kernel
theorem d_M_placeFor_203 : decode prog_6_method_18_code 203 = .ok (.iload_n 1, 1) := by decide +kernel
theorem d_M_placeFor_204 : decode prog_6_method_18_code 204 = .ok (.imul, 1) := by decide +kernel
theorem d_M_placeFor_205 : decode prog_6_method_18_code 205 = .ok (.iload 9, 2) := by decide +kernel
theorem d_M_placeFor_207 : decode prog_6_method_18_code 207 = .ok (.iadd, 1) := by decide +kernel
theorem d_M_placeFor_208 : decode prog_6_method_18_code 208 = .ok (.iaload, 1) := by decide +kernel
theorem d_M_placeFor_209 : decode prog_6_method_18_code 209 = .ok (.iload_n 2, 1) := by decide +kernel
theorem d_M_placeFor_210 : decode prog_6_method_18_code 210 = .ok (.if_icmp .ne 27, 3) := by decide +kernel
theorem d_M_placeFor_213 : decode prog_6_method_18_code 213 = .ok (.iload 10, 2) := by decide +kernel
theorem d_M_placeFor_215 : decode prog_6_method_18_code 215 = .ok (.iload 7, 2) := by decide +kernel
theorem d_M_placeFor_217 : decode prog_6_method_18_code 217 = .ok (.if_icmp .gt 17, 3) := by decide +kernel
theorem d_M_placeFor_220 : decode prog_6_method_18_code 220 = .ok (.iload 10, 2) := by decide +kernel
theorem d_M_placeFor_222 : decode prog_6_method_18_code 222 = .ok (.iload 7, 2) := by decide +kernel
theorem d_M_placeFor_224 : decode prog_6_method_18_code 224 = .ok (.if_icmp .ne 13, 3) := by decide +kernel
theorem d_M_placeFor_227 : decode prog_6_method_18_code 227 = .ok (.iload 4, 2) := by decide +kernel
theorem d_M_placeFor_229 : decode prog_6_method_18_code 229 = .ok (.bipush 20, 2) := by decide +kernel
theorem d_M_placeFor_231 : decode prog_6_method_18_code 231 = .ok (.if_icmp .ge 6, 3) := by decide +kernel
theorem d_M_placeFor_234 : decode prog_6_method_18_code 234 = .ok (.iload 8, 2) := by decide +kernel
theorem d_M_placeFor_236 : decode prog_6_method_18_code 236 = .ok (.ireturn, 1) := by decide +kernel
theorem d_M_placeFor_237 : decode prog_6_method_18_code 237 = .ok (.iinc 8 1, 3) := by decide +kernel
theorem d_M_placeFor_240 : decode prog_6_method_18_code 240 = .ok (.goto (-85), 3) := by decide +kernel
theorem d_M_placeFor_243 : decode prog_6_method_18_code 243 = .ok (.aload_n 0, 1) := by decide +kernel
theorem d_M_placeFor_244 : decode prog_6_method_18_code 244 = .ok (.getfield 44, 3) := by decide +kernel
theorem d_M_placeFor_247 : decode prog_6_method_18_code 247 = .ok (.iload_n 1, 1) := by decide +kernel
theorem d_M_placeFor_248 : decode prog_6_method_18_code 248 = .ok (.iaload, 1) := by decide +kernel
theorem d_M_placeFor_249 : decode prog_6_method_18_code 249 = .ok (.ireturn, 1) := by decide +kernel
theorem d_M_placeOf_0 : decode prog_6_method_13_code 0 = .ok (.iconst (-1), 1) := by decide +kernel
theorem d_M_placeOf_1 : decode prog_6_method_13_code 1 = .ok (.istore_n 3, 1) := by decide +kernel
theorem d_M_placeOf_2 : decode prog_6_method_13_code 2 = .ok (.iconst 0, 1) := by decide +kernel
theorem d_M_placeOf_3 : decode prog_6_method_13_code 3 = .ok (.istore 4, 2) := by decide +kernel
theorem d_M_placeOf_5 : decode prog_6_method_13_code 5 = .ok (.iload 4, 2) := by decide +kernel
theorem d_M_placeOf_7 : decode prog_6_method_13_code 7 = .ok (.aload_n 0, 1) := by decide +kernel
theorem d_M_placeOf_8 : decode prog_6_method_13_code 8 = .ok (.getfield 44, 3) := by decide +kernel
theorem d_M_placeOf_11 : decode prog_6_method_13_code 11 = .ok (.iload_n 1, 1) := by decide +kernel
theorem d_M_placeOf_12 : decode prog_6_method_13_code 12 = .ok (.iaload, 1) := by decide +kernel
theorem d_M_placeOf_13 : decode prog_6_method_13_code 13 = .ok (.if_icmp .ge 32, 3) := by decide +kernel
theorem d_M_placeOf_16 : decode prog_6_method_13_code 16 = .ok (.aload_n 0, 1) := by decide +kernel
theorem d_M_placeOf_17 : decode prog_6_method_13_code 17 = .ok (.getfield 41, 3) := by decide +kernel
theorem d_M_placeOf_20 : decode prog_6_method_13_code 20 = .ok (.bipush 24, 2) := by decide +kernel
theorem d_M_placeOf_22 : decode prog_6_method_13_code 22 = .ok (.iload_n 1, 1) := by decide +kernel
theorem d_M_placeOf_23 : decode prog_6_method_13_code 23 = .ok (.imul, 1) := by decide +kernel
theorem d_M_placeOf_24 : decode prog_6_method_13_code 24 = .ok (.iload 4, 2) := by decide +kernel
theorem d_M_placeOf_26 : decode prog_6_method_13_code 26 = .ok (.iadd, 1) := by decide +kernel
theorem d_M_placeOf_27 : decode prog_6_method_13_code 27 = .ok (.iaload, 1) := by decide +kernel
theorem d_M_placeOf_28 : decode prog_6_method_13_code 28 = .ok (.iload_n 2, 1) := by decide +kernel
theorem d_M_placeOf_29 : decode prog_6_method_13_code 29 = .ok (.if_icmp .ne 8, 3) := by decide +kernel
theorem d_M_placeOf_32 : decode prog_6_method_13_code 32 = .ok (.iload 4, 2) := by decide +kernel
theorem d_M_placeOf_34 : decode prog_6_method_13_code 34 = .ok (.goto 4, 3) := by decide +kernel
theorem d_M_placeOf_37 : decode prog_6_method_13_code 37 = .ok (.iload_n 3, 1) := by decide +kernel
theorem d_M_placeOf_38 : decode prog_6_method_13_code 38 = .ok (.istore_n 3, 1) := by decide +kernel
theorem d_M_placeOf_39 : decode prog_6_method_13_code 39 = .ok (.iinc 4 1, 3) := by decide +kernel
theorem d_M_placeOf_42 : decode prog_6_method_13_code 42 = .ok (.goto (-37), 3) := by decide +kernel
theorem d_M_placeOf_45 : decode prog_6_method_13_code 45 = .ok (.iload_n 3, 1) := by decide +kernel
theorem d_M_placeOf_46 : decode prog_6_method_13_code 46 = .ok (.ireturn, 1) := by decide +kernel
theorem d_M_firstOf_0 : decode prog_6_method_15_code 0 = .ok (.aload_n 0, 1) := by decide +kernel
theorem d_M_firstOf_1 : decode prog_6_method_15_code 1 = .ok (.iload_n 1, 1) := by decide +kernel
theorem d_M_firstOf_2 : decode prog_6_method_15_code 2 = .ok (.iload_n 2, 1) := by decide +kernel
theorem d_M_firstOf_3 : decode prog_6_method_15_code 3 = .ok (.iconst 0, 1) := by decide +kernel
theorem d_M_firstOf_4 : decode prog_6_method_15_code 4 = .ok (.iconst 1, 1) := by decide +kernel
theorem d_M_firstOf_5 : decode prog_6_method_15_code 5 = .ok (.invokevirtual 105, 3) := by decide +kernel
theorem d_M_firstOf_8 : decode prog_6_method_15_code 8 = .ok (.ireturn, 1) := by decide +kernel
theorem d_M_nextIn_0 : decode prog_6_method_14_code 0 = .ok (.iload_n 3, 1) := by decide +kernel
theorem d_M_nextIn_1 : decode prog_6_method_14_code 1 = .ok (.istore 5, 2) := by decide +kernel
theorem d_M_nextIn_3 : decode prog_6_method_14_code 3 = .ok (.iload 5, 2) := by decide +kernel
theorem d_M_nextIn_5 : decode prog_6_method_14_code 5 = .ok (.ifCond .lt 63, 3) := by decide +kernel
theorem d_M_nextIn_8 : decode prog_6_method_14_code 8 = .ok (.iload 5, 2) := by decide +kernel
theorem d_M_nextIn_10 : decode prog_6_method_14_code 10 = .ok (.aload_n 0, 1) := by decide +kernel
theorem d_M_nextIn_11 : decode prog_6_method_14_code 11 = .ok (.getfield 44, 3) := by decide +kernel
theorem d_M_nextIn_14 : decode prog_6_method_14_code 14 = .ok (.iload_n 1, 1) := by decide +kernel
theorem d_M_nextIn_15 : decode prog_6_method_14_code 15 = .ok (.iaload, 1) := by decide +kernel
theorem d_M_nextIn_16 : decode prog_6_method_14_code 16 = .ok (.if_icmp .ge 52, 3) := by decide +kernel
theorem d_M_nextIn_19 : decode prog_6_method_14_code 19 = .ok (.aload_n 0, 1) := by decide +kernel
theorem d_M_nextIn_20 : decode prog_6_method_14_code 20 = .ok (.getfield 38, 3) := by decide +kernel
theorem d_M_nextIn_23 : decode prog_6_method_14_code 23 = .ok (.bipush 24, 2) := by decide +kernel
theorem d_M_nextIn_25 : decode prog_6_method_14_code 25 = .ok (.iload_n 1, 1) := by decide +kernel
theorem d_M_nextIn_26 : decode prog_6_method_14_code 26 = .ok (.imul, 1) := by decide +kernel
theorem d_M_nextIn_27 : decode prog_6_method_14_code 27 = .ok (.aload_n 0, 1) := by decide +kernel
theorem d_M_nextIn_28 : decode prog_6_method_14_code 28 = .ok (.getfield 41, 3) := by decide +kernel
theorem d_M_nextIn_31 : decode prog_6_method_14_code 31 = .ok (.bipush 24, 2) := by decide +kernel
theorem d_M_nextIn_33 : decode prog_6_method_14_code 33 = .ok (.iload_n 1, 1) := by decide +kernel
theorem d_M_nextIn_34 : decode prog_6_method_14_code 34 = .ok (.imul, 1) := by decide +kernel
theorem d_M_nextIn_35 : decode prog_6_method_14_code 35 = .ok (.iload 5, 2) := by decide +kernel
theorem d_M_nextIn_37 : decode prog_6_method_14_code 37 = .ok (.iadd, 1) := by decide +kernel
theorem d_M_nextIn_38 : decode prog_6_method_14_code 38 = .ok (.iaload, 1) := by decide +kernel
theorem d_M_nextIn_39 : decode prog_6_method_14_code 39 = .ok (.iadd, 1) := by decide +kernel
theorem d_M_nextIn_40 : decode prog_6_method_14_code 40 = .ok (.iaload, 1) := by decide +kernel
theorem d_M_nextIn_41 : decode prog_6_method_14_code 41 = .ok (.iload_n 2, 1) := by decide +kernel
theorem d_M_nextIn_42 : decode prog_6_method_14_code 42 = .ok (.if_icmp .ne 16, 3) := by decide +kernel
theorem d_M_nextIn_45 : decode prog_6_method_14_code 45 = .ok (.aload_n 0, 1) := by decide +kernel
theorem d_M_nextIn_46 : decode prog_6_method_14_code 46 = .ok (.getfield 41, 3) := by decide +kernel
theorem d_M_nextIn_49 : decode prog_6_method_14_code 49 = .ok (.bipush 24, 2) := by decide +kernel
theorem d_M_nextIn_51 : decode prog_6_method_14_code 51 = .ok (.iload_n 1, 1) := by decide +kernel
theorem d_M_nextIn_52 : decode prog_6_method_14_code 52 = .ok (.imul, 1) := by decide +kernel
theorem d_M_nextIn_53 : decode prog_6_method_14_code 53 = .ok (.iload 5, 2) := by decide +kernel
theorem d_M_nextIn_55 : decode prog_6_method_14_code 55 = .ok (.iadd, 1) := by decide +kernel
theorem d_M_nextIn_56 : decode prog_6_method_14_code 56 = .ok (.iaload, 1) := by decide +kernel
theorem d_M_nextIn_57 : decode prog_6_method_14_code 57 = .ok (.ireturn, 1) := by decide +kernel
theorem d_M_nextIn_58 : decode prog_6_method_14_code 58 = .ok (.iload 5, 2) := by decide +kernel
theorem d_M_nextIn_60 : decode prog_6_method_14_code 60 = .ok (.iload 4, 2) := by decide +kernel
theorem d_M_nextIn_62 : decode prog_6_method_14_code 62 = .ok (.iadd, 1) := by decide +kernel
theorem d_M_nextIn_63 : decode prog_6_method_14_code 63 = .ok (.istore 5, 2) := by decide +kernel
theorem d_M_nextIn_65 : decode prog_6_method_14_code 65 = .ok (.goto (-62), 3) := by decide +kernel
theorem d_M_nextIn_68 : decode prog_6_method_14_code 68 = .ok (.iconst (-1), 1) := by decide +kernel
theorem d_M_nextIn_69 : decode prog_6_method_14_code 69 = .ok (.ireturn, 1) := by decide +kernel
theorem d_M_come_0 : decode prog_6_method_12_code 0 = .ok (.aload_n 0, 1) := by decide +kernel
theorem d_M_come_1 : decode prog_6_method_12_code 1 = .ok (.iload_n 1, 1) := by decide +kernel
theorem d_M_come_2 : decode prog_6_method_12_code 2 = .ok (.putfield 47, 3) := by decide +kernel
theorem d_M_come_5 : decode prog_6_method_12_code 5 = .ok (.aload_n 0, 1) := by decide +kernel
theorem d_M_come_6 : decode prog_6_method_12_code 6 = .ok (.getfield 50, 3) := by decide +kernel
theorem d_M_come_9 : decode prog_6_method_12_code 9 = .ok (.aload_n 0, 1) := by decide +kernel
theorem d_M_come_10 : decode prog_6_method_12_code 10 = .ok (.getfield 32, 3) := by decide +kernel
theorem d_M_come_13 : decode prog_6_method_12_code 13 = .ok (.iload_n 1, 1) := by decide +kernel
theorem d_M_come_14 : decode prog_6_method_12_code 14 = .ok (.iaload, 1) := by decide +kernel
theorem d_M_come_15 : decode prog_6_method_12_code 15 = .ok (.iload_n 1, 1) := by decide +kernel
theorem d_M_come_16 : decode prog_6_method_12_code 16 = .ok (.iastore, 1) := by decide +kernel
theorem d_M_come_17 : decode prog_6_method_12_code 17 = .ok (.iconst 0, 1) := by decide +kernel
theorem d_M_come_18 : decode prog_6_method_12_code 18 = .ok (.istore_n 3, 1) := by decide +kernel
theorem d_M_come_19 : decode prog_6_method_12_code 19 = .ok (.iload_n 3, 1) := by decide +kernel
theorem d_M_come_20 : decode prog_6_method_12_code 20 = .ok (.aload_n 0, 1) := by decide +kernel
theorem d_M_come_21 : decode prog_6_method_12_code 21 = .ok (.getfield 90, 3) := by decide +kernel
theorem d_M_come_24 : decode prog_6_method_12_code 24 = .ok (.if_icmp .ge 74, 3) := by decide +kernel
theorem d_M_come_27 : decode prog_6_method_12_code 27 = .ok (.aload_n 0, 1) := by decide +kernel
theorem d_M_come_28 : decode prog_6_method_12_code 28 = .ok (.getfield 32, 3) := by decide +kernel
theorem d_M_come_31 : decode prog_6_method_12_code 31 = .ok (.iload_n 1, 1) := by decide +kernel
theorem d_M_come_32 : decode prog_6_method_12_code 32 = .ok (.iaload, 1) := by decide +kernel
theorem d_M_come_33 : decode prog_6_method_12_code 33 = .ok (.aload_n 0, 1) := by decide +kernel
theorem d_M_come_34 : decode prog_6_method_12_code 34 = .ok (.getfield 13, 3) := by decide +kernel
theorem d_M_come_37 : decode prog_6_method_12_code 37 = .ok (.iload_n 3, 1) := by decide +kernel
theorem d_M_come_38 : decode prog_6_method_12_code 38 = .ok (.iaload, 1) := by decide +kernel
theorem d_M_come_39 : decode prog_6_method_12_code 39 = .ok (.if_icmp .eq 17, 3) := by decide +kernel
theorem d_M_come_42 : decode prog_6_method_12_code 42 = .ok (.aload_n 0, 1) := by decide +kernel
theorem d_M_come_43 : decode prog_6_method_12_code 43 = .ok (.getfield 38, 3) := by decide +kernel
theorem d_M_come_46 : decode prog_6_method_12_code 46 = .ok (.bipush 24, 2) := by decide +kernel
theorem d_M_come_48 : decode prog_6_method_12_code 48 = .ok (.iload_n 3, 1) := by decide +kernel
theorem d_M_come_49 : decode prog_6_method_12_code 49 = .ok (.imul, 1) := by decide +kernel
theorem d_M_come_50 : decode prog_6_method_12_code 50 = .ok (.iload_n 1, 1) := by decide +kernel
theorem d_M_come_51 : decode prog_6_method_12_code 51 = .ok (.iadd, 1) := by decide +kernel
theorem d_M_come_52 : decode prog_6_method_12_code 52 = .ok (.iaload, 1) := by decide +kernel
theorem d_M_come_53 : decode prog_6_method_12_code 53 = .ok (.ifCond .lt 7, 3) := by decide +kernel
theorem d_M_come_56 : decode prog_6_method_12_code 56 = .ok (.iconst 1, 1) := by decide +kernel
theorem d_M_come_57 : decode prog_6_method_12_code 57 = .ok (.goto 4, 3) := by decide +kernel
theorem d_M_come_60 : decode prog_6_method_12_code 60 = .ok (.iconst 0, 1) := by decide +kernel
theorem d_M_come_61 : decode prog_6_method_12_code 61 = .ok (.istore 4, 2) := by decide +kernel
theorem d_M_come_63 : decode prog_6_method_12_code 63 = .ok (.aload_n 0, 1) := by decide +kernel
theorem d_M_come_64 : decode prog_6_method_12_code 64 = .ok (.getfield 53, 3) := by decide +kernel
theorem d_M_come_67 : decode prog_6_method_12_code 67 = .ok (.iload_n 3, 1) := by decide +kernel
theorem d_M_come_68 : decode prog_6_method_12_code 68 = .ok (.iload 4, 2) := by decide +kernel
theorem d_M_come_70 : decode prog_6_method_12_code 70 = .ok (.ifCond .eq 15, 3) := by decide +kernel
theorem d_M_come_73 : decode prog_6_method_12_code 73 = .ok (.iload_n 2, 1) := by decide +kernel
theorem d_M_come_74 : decode prog_6_method_12_code 74 = .ok (.iload_n 3, 1) := by decide +kernel
theorem d_M_come_75 : decode prog_6_method_12_code 75 = .ok (.ishr, 1) := by decide +kernel
theorem d_M_come_76 : decode prog_6_method_12_code 76 = .ok (.iconst 1, 1) := by decide +kernel
theorem d_M_come_77 : decode prog_6_method_12_code 77 = .ok (.iand, 1) := by decide +kernel
theorem d_M_come_78 : decode prog_6_method_12_code 78 = .ok (.ifCond .ne 7, 3) := by decide +kernel
theorem d_M_come_81 : decode prog_6_method_12_code 81 = .ok (.iload_n 1, 1) := by decide +kernel
theorem d_M_come_82 : decode prog_6_method_12_code 82 = .ok (.goto 9, 3) := by decide +kernel
theorem d_M_come_85 : decode prog_6_method_12_code 85 = .ok (.aload_n 0, 1) := by decide +kernel
theorem d_M_come_86 : decode prog_6_method_12_code 86 = .ok (.getfield 53, 3) := by decide +kernel
theorem d_M_come_89 : decode prog_6_method_12_code 89 = .ok (.iload_n 3, 1) := by decide +kernel
theorem d_M_come_90 : decode prog_6_method_12_code 90 = .ok (.iaload, 1) := by decide +kernel
theorem d_M_come_91 : decode prog_6_method_12_code 91 = .ok (.iastore, 1) := by decide +kernel
theorem d_M_come_92 : decode prog_6_method_12_code 92 = .ok (.iinc 3 1, 3) := by decide +kernel
theorem d_M_come_95 : decode prog_6_method_12_code 95 = .ok (.goto (-76), 3) := by decide +kernel
theorem d_M_come_98 : decode prog_6_method_12_code 98 = .ok (.return_, 1) := by decide +kernel
theorem d_M_find_0 : decode prog_6_method_23_code 0 = .ok (.aload_n 0, 1) := by decide +kernel
theorem d_M_find_1 : decode prog_6_method_23_code 1 = .ok (.aload_n 0, 1) := by decide +kernel
theorem d_M_find_2 : decode prog_6_method_23_code 2 = .ok (.iload_n 1, 1) := by decide +kernel
theorem d_M_find_3 : decode prog_6_method_23_code 3 = .ok (.invokevirtual 139, 3) := by decide +kernel
theorem d_M_find_6 : decode prog_6_method_23_code 6 = .ok (.ifCond .ge 7, 3) := by decide +kernel
theorem d_M_find_9 : decode prog_6_method_23_code 9 = .ok (.iconst 1, 1) := by decide +kernel
theorem d_M_find_10 : decode prog_6_method_23_code 10 = .ok (.goto 4, 3) := by decide +kernel
theorem d_M_find_13 : decode prog_6_method_23_code 13 = .ok (.iconst 0, 1) := by decide +kernel
theorem d_M_find_14 : decode prog_6_method_23_code 14 = .ok (.putfield 84, 3) := by decide +kernel
theorem d_M_find_17 : decode prog_6_method_23_code 17 = .ok (.aload_n 0, 1) := by decide +kernel
theorem d_M_find_18 : decode prog_6_method_23_code 18 = .ok (.getfield 84, 3) := by decide +kernel
theorem d_M_find_21 : decode prog_6_method_23_code 21 = .ok (.ifCond .ne 13, 3) := by decide +kernel
theorem d_M_find_24 : decode prog_6_method_23_code 24 = .ok (.aload_n 0, 1) := by decide +kernel
theorem d_M_find_25 : decode prog_6_method_23_code 25 = .ok (.aload_n 0, 1) := by decide +kernel
theorem d_M_find_26 : decode prog_6_method_23_code 26 = .ok (.iload_n 1, 1) := by decide +kernel
theorem d_M_find_27 : decode prog_6_method_23_code 27 = .ok (.invokevirtual 139, 3) := by decide +kernel
theorem d_M_find_30 : decode prog_6_method_23_code 30 = .ok (.iload_n 2, 1) := by decide +kernel
theorem d_M_find_31 : decode prog_6_method_23_code 31 = .ok (.invokevirtual 135, 3) := by decide +kernel
theorem d_M_find_34 : decode prog_6_method_23_code 34 = .ok (.return_, 1) := by decide +kernel
theorem d_M_recordWith_0 : decode prog_6_method_9_code 0 = .ok (.iconst (-1), 1) := by decide +kernel
theorem d_M_recordWith_1 : decode prog_6_method_9_code 1 = .ok (.istore_n 2, 1) := by decide +kernel
theorem d_M_recordWith_2 : decode prog_6_method_9_code 2 = .ok (.iconst 0, 1) := by decide +kernel
theorem d_M_recordWith_3 : decode prog_6_method_9_code 3 = .ok (.istore_n 3, 1) := by decide +kernel
theorem d_M_recordWith_4 : decode prog_6_method_9_code 4 = .ok (.iload_n 3, 1) := by decide +kernel
theorem d_M_recordWith_5 : decode prog_6_method_9_code 5 = .ok (.bipush 24, 2) := by decide +kernel
theorem d_M_recordWith_7 : decode prog_6_method_9_code 7 = .ok (.if_icmp .ge 29, 3) := by decide +kernel
theorem d_M_recordWith_10 : decode prog_6_method_9_code 10 = .ok (.iload_n 1, 1) := by decide +kernel
theorem d_M_recordWith_11 : decode prog_6_method_9_code 11 = .ok (.ifCond .le 17, 3) := by decide +kernel
theorem d_M_recordWith_14 : decode prog_6_method_9_code 14 = .ok (.aload_n 0, 1) := by decide +kernel
theorem d_M_recordWith_15 : decode prog_6_method_9_code 15 = .ok (.getfield 29, 3) := by decide +kernel
theorem d_M_recordWith_18 : decode prog_6_method_9_code 18 = .ok (.iload_n 3, 1) := by decide +kernel
theorem d_M_recordWith_19 : decode prog_6_method_9_code 19 = .ok (.iaload, 1) := by decide +kernel
theorem d_M_recordWith_20 : decode prog_6_method_9_code 20 = .ok (.iload_n 1, 1) := by decide +kernel
theorem d_M_recordWith_21 : decode prog_6_method_9_code 21 = .ok (.if_icmp .ne 7, 3) := by decide +kernel
theorem d_M_recordWith_24 : decode prog_6_method_9_code 24 = .ok (.iload_n 3, 1) := by decide +kernel
theorem d_M_recordWith_25 : decode prog_6_method_9_code 25 = .ok (.goto 4, 3) := by decide +kernel
theorem d_M_recordWith_28 : decode prog_6_method_9_code 28 = .ok (.iload_n 2, 1) := by decide +kernel
theorem d_M_recordWith_29 : decode prog_6_method_9_code 29 = .ok (.istore_n 2, 1) := by decide +kernel
theorem d_M_recordWith_30 : decode prog_6_method_9_code 30 = .ok (.iinc 3 1, 3) := by decide +kernel
theorem d_M_recordWith_33 : decode prog_6_method_9_code 33 = .ok (.goto (-29), 3) := by decide +kernel
theorem d_M_recordWith_36 : decode prog_6_method_9_code 36 = .ok (.iload_n 2, 1) := by decide +kernel
theorem d_M_recordWith_37 : decode prog_6_method_9_code 37 = .ok (.ireturn, 1) := by decide +kernel
theorem d_M_seek_0 : decode prog_6_method_25_code 0 = .ok (.aload_n 0, 1) := by decide +kernel
theorem d_M_seek_1 : decode prog_6_method_25_code 1 = .ok (.aload_n 0, 1) := by decide +kernel
theorem d_M_seek_2 : decode prog_6_method_25_code 2 = .ok (.iload_n 1, 1) := by decide +kernel
theorem d_M_seek_3 : decode prog_6_method_25_code 3 = .ok (.invokevirtual 97, 3) := by decide +kernel
theorem d_M_seek_6 : decode prog_6_method_25_code 6 = .ok (.ifCond .eq 17, 3) := by decide +kernel
theorem d_M_seek_9 : decode prog_6_method_25_code 9 = .ok (.iload_n 2, 1) := by decide +kernel
theorem d_M_seek_10 : decode prog_6_method_25_code 10 = .ok (.ifCond .lt 13, 3) := by decide +kernel
theorem d_M_seek_13 : decode prog_6_method_25_code 13 = .ok (.iload_n 2, 1) := by decide +kernel
theorem d_M_seek_14 : decode prog_6_method_25_code 14 = .ok (.aload_n 0, 1) := by decide +kernel
theorem d_M_seek_15 : decode prog_6_method_25_code 15 = .ok (.getfield 7, 3) := by decide +kernel
theorem d_M_seek_18 : decode prog_6_method_25_code 18 = .ok (.iload_n 1, 1) := by decide +kernel
theorem d_M_seek_19 : decode prog_6_method_25_code 19 = .ok (.iaload, 1) := by decide +kernel
theorem d_M_seek_20 : decode prog_6_method_25_code 20 = .ok (.if_icmp .lt 7, 3) := by decide +kernel
theorem d_M_seek_23 : decode prog_6_method_25_code 23 = .ok (.iconst 1, 1) := by decide +kernel
theorem d_M_seek_24 : decode prog_6_method_25_code 24 = .ok (.goto 4, 3) := by decide +kernel
theorem d_M_seek_27 : decode prog_6_method_25_code 27 = .ok (.iconst 0, 1) := by decide +kernel
theorem d_M_seek_28 : decode prog_6_method_25_code 28 = .ok (.putfield 84, 3) := by decide +kernel
theorem d_M_seek_31 : decode prog_6_method_25_code 31 = .ok (.aload_n 0, 1) := by decide +kernel
theorem d_M_seek_32 : decode prog_6_method_25_code 32 = .ok (.getfield 84, 3) := by decide +kernel
theorem d_M_seek_35 : decode prog_6_method_25_code 35 = .ok (.ifCond .le 5, 3) := by decide +kernel
theorem d_M_seek_38 : decode prog_6_method_25_code 38 = .ok (.iconst 0, 1) := by decide +kernel
theorem d_M_seek_39 : decode prog_6_method_25_code 39 = .ok (.ireturn, 1) := by decide +kernel
theorem d_M_seek_40 : decode prog_6_method_25_code 40 = .ok (.iconst (-1), 1) := by decide +kernel
theorem d_M_seek_41 : decode prog_6_method_25_code 41 = .ok (.istore 4, 2) := by decide +kernel
theorem d_M_seek_43 : decode prog_6_method_25_code 43 = .ok (.iconst 0, 1) := by decide +kernel
theorem d_M_seek_44 : decode prog_6_method_25_code 44 = .ok (.istore 5, 2) := by decide +kernel
theorem d_M_seek_46 : decode prog_6_method_25_code 46 = .ok (.iload 5, 2) := by decide +kernel
theorem d_M_seek_48 : decode prog_6_method_25_code 48 = .ok (.bipush 24, 2) := by decide +kernel
theorem d_M_seek_50 : decode prog_6_method_25_code 50 = .ok (.if_icmp .ge 88, 3) := by decide +kernel
theorem d_M_seek_53 : decode prog_6_method_25_code 53 = .ok (.aload_n 0, 1) := by decide +kernel
theorem d_M_seek_54 : decode prog_6_method_25_code 54 = .ok (.getfield 29, 3) := by decide +kernel
theorem d_M_seek_57 : decode prog_6_method_25_code 57 = .ok (.iload 5, 2) := by decide +kernel
theorem d_M_seek_59 : decode prog_6_method_25_code 59 = .ok (.iaload, 1) := by decide +kernel
theorem d_M_seek_60 : decode prog_6_method_25_code 60 = .ok (.ifCond .le 33, 3) := by decide +kernel
theorem d_M_seek_63 : decode prog_6_method_25_code 63 = .ok (.aload_n 0, 1) := by decide +kernel
theorem d_M_seek_64 : decode prog_6_method_25_code 64 = .ok (.getfield 32, 3) := by decide +kernel
theorem d_M_seek_67 : decode prog_6_method_25_code 67 = .ok (.iload 5, 2) := by decide +kernel
theorem d_M_seek_69 : decode prog_6_method_25_code 69 = .ok (.iaload, 1) := by decide +kernel
theorem d_M_seek_70 : decode prog_6_method_25_code 70 = .ok (.iload_n 1, 1) := by decide +kernel
theorem d_M_seek_71 : decode prog_6_method_25_code 71 = .ok (.if_icmp .ne 22, 3) := by decide +kernel
theorem d_M_seek_74 : decode prog_6_method_25_code 74 = .ok (.aload_n 0, 1) := by decide +kernel
theorem d_M_seek_75 : decode prog_6_method_25_code 75 = .ok (.getfield 35, 3) := by decide +kernel
theorem d_M_seek_78 : decode prog_6_method_25_code 78 = .ok (.iconst 3, 1) := by decide +kernel
theorem d_M_seek_79 : decode prog_6_method_25_code 79 = .ok (.iload 5, 2) := by decide +kernel
theorem d_M_seek_81 : decode prog_6_method_25_code 81 = .ok (.imul, 1) := by decide +kernel
theorem d_M_seek_82 : decode prog_6_method_25_code 82 = .ok (.iload_n 2, 1) := by decide +kernel
theorem d_M_seek_83 : decode prog_6_method_25_code 83 = .ok (.iadd, 1) := by decide +kernel
theorem d_M_seek_84 : decode prog_6_method_25_code 84 = .ok (.iaload, 1) := by decide +kernel
theorem d_M_seek_85 : decode prog_6_method_25_code 85 = .ok (.iload_n 3, 1) := by decide +kernel
theorem d_M_seek_86 : decode prog_6_method_25_code 86 = .ok (.if_icmp .ne 7, 3) := by decide +kernel
theorem d_M_seek_89 : decode prog_6_method_25_code 89 = .ok (.iconst 1, 1) := by decide +kernel
theorem d_M_seek_90 : decode prog_6_method_25_code 90 = .ok (.goto 4, 3) := by decide +kernel
theorem d_M_seek_93 : decode prog_6_method_25_code 93 = .ok (.iconst 0, 1) := by decide +kernel
theorem d_M_seek_94 : decode prog_6_method_25_code 94 = .ok (.istore 6, 2) := by decide +kernel
theorem d_M_seek_96 : decode prog_6_method_25_code 96 = .ok (.iload 6, 2) := by decide +kernel
theorem d_M_seek_98 : decode prog_6_method_25_code 98 = .ok (.ifCond .eq 30, 3) := by decide +kernel
theorem d_M_seek_101 : decode prog_6_method_25_code 101 = .ok (.iload 4, 2) := by decide +kernel
theorem d_M_seek_103 : decode prog_6_method_25_code 103 = .ok (.ifCond .lt 20, 3) := by decide +kernel
theorem d_M_seek_106 : decode prog_6_method_25_code 106 = .ok (.aload_n 0, 1) := by decide +kernel
theorem d_M_seek_107 : decode prog_6_method_25_code 107 = .ok (.getfield 29, 3) := by decide +kernel
theorem d_M_seek_110 : decode prog_6_method_25_code 110 = .ok (.iload 5, 2) := by decide +kernel
theorem d_M_seek_112 : decode prog_6_method_25_code 112 = .ok (.iaload, 1) := by decide +kernel
theorem d_M_seek_113 : decode prog_6_method_25_code 113 = .ok (.aload_n 0, 1) := by decide +kernel
theorem d_M_seek_114 : decode prog_6_method_25_code 114 = .ok (.getfield 29, 3) := by decide +kernel
theorem d_M_seek_117 : decode prog_6_method_25_code 117 = .ok (.iload 4, 2) := by decide +kernel
theorem d_M_seek_119 : decode prog_6_method_25_code 119 = .ok (.iaload, 1) := by decide +kernel
theorem d_M_seek_120 : decode prog_6_method_25_code 120 = .ok (.if_icmp .ge 8, 3) := by decide +kernel
theorem d_M_seek_123 : decode prog_6_method_25_code 123 = .ok (.iload 5, 2) := by decide +kernel
theorem d_M_seek_125 : decode prog_6_method_25_code 125 = .ok (.goto 5, 3) := by decide +kernel
theorem d_M_seek_128 : decode prog_6_method_25_code 128 = .ok (.iload 4, 2) := by decide +kernel
theorem d_M_seek_130 : decode prog_6_method_25_code 130 = .ok (.istore 4, 2) := by decide +kernel
theorem d_M_seek_132 : decode prog_6_method_25_code 132 = .ok (.iinc 5 1, 3) := by decide +kernel
theorem d_M_seek_135 : decode prog_6_method_25_code 135 = .ok (.goto (-89), 3) := by decide +kernel
theorem d_M_seek_138 : decode prog_6_method_25_code 138 = .ok (.aload_n 0, 1) := by decide +kernel
theorem d_M_seek_139 : decode prog_6_method_25_code 139 = .ok (.iload 4, 2) := by decide +kernel
theorem d_M_seek_141 : decode prog_6_method_25_code 141 = .ok (.iconst 2, 1) := by decide +kernel
theorem d_M_seek_142 : decode prog_6_method_25_code 142 = .ok (.invokevirtual 142, 3) := by decide +kernel
theorem d_M_seek_145 : decode prog_6_method_25_code 145 = .ok (.ireturn, 1) := by decide +kernel
theorem d_M_comeTo_0 : decode prog_6_method_24_code 0 = .ok (.aload_n 0, 1) := by decide +kernel
theorem d_M_comeTo_1 : decode prog_6_method_24_code 1 = .ok (.iload_n 1, 1) := by decide +kernel
theorem d_M_comeTo_2 : decode prog_6_method_24_code 2 = .ok (.ifCond .ge 7, 3) := by decide +kernel
theorem d_M_comeTo_5 : decode prog_6_method_24_code 5 = .ok (.iload_n 2, 1) := by decide +kernel
theorem d_M_comeTo_6 : decode prog_6_method_24_code 6 = .ok (.goto 4, 3) := by decide +kernel
theorem d_M_comeTo_9 : decode prog_6_method_24_code 9 = .ok (.iconst 0, 1) := by decide +kernel
theorem d_M_comeTo_10 : decode prog_6_method_24_code 10 = .ok (.putfield 84, 3) := by decide +kernel
theorem d_M_comeTo_13 : decode prog_6_method_24_code 13 = .ok (.aload_n 0, 1) := by decide +kernel
theorem d_M_comeTo_14 : decode prog_6_method_24_code 14 = .ok (.getfield 84, 3) := by decide +kernel
theorem d_M_comeTo_17 : decode prog_6_method_24_code 17 = .ok (.ifCond .le 5, 3) := by decide +kernel
theorem d_M_comeTo_20 : decode prog_6_method_24_code 20 = .ok (.iconst 0, 1) := by decide +kernel
theorem d_M_comeTo_21 : decode prog_6_method_24_code 21 = .ok (.ireturn, 1) := by decide +kernel
theorem d_M_comeTo_22 : decode prog_6_method_24_code 22 = .ok (.aload_n 0, 1) := by decide +kernel
theorem d_M_comeTo_23 : decode prog_6_method_24_code 23 = .ok (.iload_n 1, 1) := by decide +kernel
theorem d_M_comeTo_24 : decode prog_6_method_24_code 24 = .ok (.iconst 0, 1) := by decide +kernel
theorem d_M_comeTo_25 : decode prog_6_method_24_code 25 = .ok (.invokevirtual 135, 3) := by decide +kernel
theorem d_M_comeTo_28 : decode prog_6_method_24_code 28 = .ok (.aload_n 0, 1) := by decide +kernel
theorem d_M_comeTo_29 : decode prog_6_method_24_code 29 = .ok (.getfield 29, 3) := by decide +kernel
theorem d_M_comeTo_32 : decode prog_6_method_24_code 32 = .ok (.iload_n 1, 1) := by decide +kernel
theorem d_M_comeTo_33 : decode prog_6_method_24_code 33 = .ok (.iaload, 1) := by decide +kernel
theorem d_M_comeTo_34 : decode prog_6_method_24_code 34 = .ok (.ireturn, 1) := by decide +kernel
theorem d_M_move_0 : decode prog_6_method_27_code 0 = .ok (.aload_n 0, 1) := by decide +kernel
theorem d_M_move_1 : decode prog_6_method_27_code 1 = .ok (.aload_n 0, 1) := by decide +kernel
theorem d_M_move_2 : decode prog_6_method_27_code 2 = .ok (.iload_n 1, 1) := by decide +kernel
theorem d_M_move_3 : decode prog_6_method_27_code 3 = .ok (.invokevirtual 148, 3) := by decide +kernel
theorem d_M_move_6 : decode prog_6_method_27_code 6 = .ok (.ifCond .eq 12, 3) := by decide +kernel
theorem d_M_move_9 : decode prog_6_method_27_code 9 = .ok (.iload_n 2, 1) := by decide +kernel
theorem d_M_move_10 : decode prog_6_method_27_code 10 = .ok (.ifCond .lt 8, 3) := by decide +kernel
theorem d_M_move_13 : decode prog_6_method_27_code 13 = .ok (.iload_n 2, 1) := by decide +kernel
theorem d_M_move_14 : decode prog_6_method_27_code 14 = .ok (.iconst 4, 1) := by decide +kernel
theorem d_M_move_15 : decode prog_6_method_27_code 15 = .ok (.if_icmp .le 7, 3) := by decide +kernel
theorem d_M_move_18 : decode prog_6_method_27_code 18 = .ok (.iconst 1, 1) := by decide +kernel
theorem d_M_move_19 : decode prog_6_method_27_code 19 = .ok (.goto 4, 3) := by decide +kernel
theorem d_M_move_22 : decode prog_6_method_27_code 22 = .ok (.iconst 0, 1) := by decide +kernel
theorem d_M_move_23 : decode prog_6_method_27_code 23 = .ok (.putfield 84, 3) := by decide +kernel
theorem d_M_move_26 : decode prog_6_method_27_code 26 = .ok (.aload_n 0, 1) := by decide +kernel
theorem d_M_move_27 : decode prog_6_method_27_code 27 = .ok (.getfield 84, 3) := by decide +kernel
theorem d_M_move_30 : decode prog_6_method_27_code 30 = .ok (.ifCond .le 5, 3) := by decide +kernel
theorem d_M_move_33 : decode prog_6_method_27_code 33 = .ok (.iconst 0, 1) := by decide +kernel
theorem d_M_move_34 : decode prog_6_method_27_code 34 = .ok (.ireturn, 1) := by decide +kernel
theorem d_M_move_35 : decode prog_6_method_27_code 35 = .ok (.aload_n 0, 1) := by decide +kernel
theorem d_M_move_36 : decode prog_6_method_27_code 36 = .ok (.iload_n 1, 1) := by decide +kernel
theorem d_M_move_37 : decode prog_6_method_27_code 37 = .ok (.invokevirtual 120, 3) := by decide +kernel
theorem d_M_move_40 : decode prog_6_method_27_code 40 = .ok (.istore_n 3, 1) := by decide +kernel
theorem d_M_move_41 : decode prog_6_method_27_code 41 = .ok (.iconst (-1), 1) := by decide +kernel
theorem d_M_move_42 : decode prog_6_method_27_code 42 = .ok (.istore 4, 2) := by decide +kernel
theorem d_M_move_44 : decode prog_6_method_27_code 44 = .ok (.iload_n 3, 1) := by decide +kernel
theorem d_M_move_45 : decode prog_6_method_27_code 45 = .ok (.ifCond .lt 56, 3) := by decide +kernel
theorem d_M_move_48 : decode prog_6_method_27_code 48 = .ok (.iload_n 2, 1) := by decide +kernel
theorem d_M_move_49 : decode prog_6_method_27_code 49 = .ok (.ifCond .ne 12, 3) := by decide +kernel
theorem d_M_move_52 : decode prog_6_method_27_code 52 = .ok (.aload_n 0, 1) := by decide +kernel
theorem d_M_move_53 : decode prog_6_method_27_code 53 = .ok (.iload_n 1, 1) := by decide +kernel
theorem d_M_move_54 : decode prog_6_method_27_code 54 = .ok (.iload_n 3, 1) := by decide +kernel
theorem d_M_move_55 : decode prog_6_method_27_code 55 = .ok (.invokevirtual 113, 3) := by decide +kernel
theorem d_M_move_58 : decode prog_6_method_27_code 58 = .ok (.goto 41, 3) := by decide +kernel
theorem d_M_move_61 : decode prog_6_method_27_code 61 = .ok (.iload_n 2, 1) := by decide +kernel
theorem d_M_move_62 : decode prog_6_method_27_code 62 = .ok (.iconst 1, 1) := by decide +kernel
theorem d_M_move_63 : decode prog_6_method_27_code 63 = .ok (.if_icmp .ne 12, 3) := by decide +kernel
theorem d_M_move_66 : decode prog_6_method_27_code 66 = .ok (.aload_n 0, 1) := by decide +kernel
theorem d_M_move_67 : decode prog_6_method_27_code 67 = .ok (.iload_n 1, 1) := by decide +kernel
theorem d_M_move_68 : decode prog_6_method_27_code 68 = .ok (.iload_n 3, 1) := by decide +kernel
theorem d_M_move_69 : decode prog_6_method_27_code 69 = .ok (.invokevirtual 145, 3) := by decide +kernel
theorem d_M_move_72 : decode prog_6_method_27_code 72 = .ok (.goto 27, 3) := by decide +kernel
theorem d_M_move_75 : decode prog_6_method_27_code 75 = .ok (.iload_n 2, 1) := by decide +kernel
theorem d_M_move_76 : decode prog_6_method_27_code 76 = .ok (.iconst 4, 1) := by decide +kernel
theorem d_M_move_77 : decode prog_6_method_27_code 77 = .ok (.if_icmp .ne 7, 3) := by decide +kernel
theorem d_M_move_80 : decode prog_6_method_27_code 80 = .ok (.iload_n 3, 1) := by decide +kernel
theorem d_M_move_81 : decode prog_6_method_27_code 81 = .ok (.goto 18, 3) := by decide +kernel
theorem d_M_move_84 : decode prog_6_method_27_code 84 = .ok (.aload_n 0, 1) := by decide +kernel
theorem d_M_move_85 : decode prog_6_method_27_code 85 = .ok (.iload_n 1, 1) := by decide +kernel
theorem d_M_move_86 : decode prog_6_method_27_code 86 = .ok (.iload_n 2, 1) := by decide +kernel
theorem d_M_move_87 : decode prog_6_method_27_code 87 = .ok (.iconst 2, 1) := by decide +kernel
theorem d_M_move_88 : decode prog_6_method_27_code 88 = .ok (.if_icmp .ne 7, 3) := by decide +kernel
theorem d_M_move_91 : decode prog_6_method_27_code 91 = .ok (.iconst 1, 1) := by decide +kernel
theorem d_M_move_92 : decode prog_6_method_27_code 92 = .ok (.goto 4, 3) := by decide +kernel
theorem d_M_move_95 : decode prog_6_method_27_code 95 = .ok (.iconst (-1), 1) := by decide +kernel
theorem d_M_move_96 : decode prog_6_method_27_code 96 = .ok (.invokevirtual 151, 3) := by decide +kernel
theorem d_M_move_99 : decode prog_6_method_27_code 99 = .ok (.istore 4, 2) := by decide +kernel
theorem d_M_move_101 : decode prog_6_method_27_code 101 = .ok (.aload_n 0, 1) := by decide +kernel
theorem d_M_move_102 : decode prog_6_method_27_code 102 = .ok (.iload 4, 2) := by decide +kernel
theorem d_M_move_104 : decode prog_6_method_27_code 104 = .ok (.iconst 2, 1) := by decide +kernel
theorem d_M_move_105 : decode prog_6_method_27_code 105 = .ok (.invokevirtual 142, 3) := by decide +kernel
theorem d_M_move_108 : decode prog_6_method_27_code 108 = .ok (.ireturn, 1) := by decide +kernel
theorem d_M_isSet_0 : decode prog_6_method_5_code 0 = .ok (.iload_n 1, 1) := by decide +kernel
theorem d_M_isSet_1 : decode prog_6_method_5_code 1 = .ok (.ifCond .lt 15, 3) := by decide +kernel
theorem d_M_isSet_4 : decode prog_6_method_5_code 4 = .ok (.iload_n 1, 1) := by decide +kernel
theorem d_M_isSet_5 : decode prog_6_method_5_code 5 = .ok (.aload_n 0, 1) := by decide +kernel
theorem d_M_isSet_6 : decode prog_6_method_5_code 6 = .ok (.getfield 90, 3) := by decide +kernel
theorem d_M_isSet_9 : decode prog_6_method_5_code 9 = .ok (.if_icmp .ge 7, 3) := by decide +kernel
theorem d_M_isSet_12 : decode prog_6_method_5_code 12 = .ok (.iconst 1, 1) := by decide +kernel
theorem d_M_isSet_13 : decode prog_6_method_5_code 13 = .ok (.goto 4, 3) := by decide +kernel
theorem d_M_isSet_16 : decode prog_6_method_5_code 16 = .ok (.iconst 0, 1) := by decide +kernel
theorem d_M_isSet_17 : decode prog_6_method_5_code 17 = .ok (.ireturn, 1) := by decide +kernel
theorem d_M_lastOf_0 : decode prog_6_method_16_code 0 = .ok (.aload_n 0, 1) := by decide +kernel
theorem d_M_lastOf_1 : decode prog_6_method_16_code 1 = .ok (.iload_n 1, 1) := by decide +kernel
theorem d_M_lastOf_2 : decode prog_6_method_16_code 2 = .ok (.iload_n 2, 1) := by decide +kernel
theorem d_M_lastOf_3 : decode prog_6_method_16_code 3 = .ok (.aload_n 0, 1) := by decide +kernel
theorem d_M_lastOf_4 : decode prog_6_method_16_code 4 = .ok (.getfield 44, 3) := by decide +kernel
theorem d_M_lastOf_7 : decode prog_6_method_16_code 7 = .ok (.iload_n 1, 1) := by decide +kernel
theorem d_M_lastOf_8 : decode prog_6_method_16_code 8 = .ok (.iaload, 1) := by decide +kernel
theorem d_M_lastOf_9 : decode prog_6_method_16_code 9 = .ok (.iconst 1, 1) := by decide +kernel
theorem d_M_lastOf_10 : decode prog_6_method_16_code 10 = .ok (.isub, 1) := by decide +kernel
theorem d_M_lastOf_11 : decode prog_6_method_16_code 11 = .ok (.iconst (-1), 1) := by decide +kernel
theorem d_M_lastOf_12 : decode prog_6_method_16_code 12 = .ok (.invokevirtual 105, 3) := by decide +kernel
theorem d_M_lastOf_15 : decode prog_6_method_16_code 15 = .ok (.ireturn, 1) := by decide +kernel
theorem d_M_beside_0 : decode prog_6_method_26_code 0 = .ok (.aload_n 0, 1) := by decide +kernel
theorem d_M_beside_1 : decode prog_6_method_26_code 1 = .ok (.getfield 53, 3) := by decide +kernel
theorem d_M_beside_4 : decode prog_6_method_26_code 4 = .ok (.iload_n 1, 1) := by decide +kernel
theorem d_M_beside_5 : decode prog_6_method_26_code 5 = .ok (.iaload, 1) := by decide +kernel
theorem d_M_beside_6 : decode prog_6_method_26_code 6 = .ok (.istore_n 3, 1) := by decide +kernel
theorem d_M_beside_7 : decode prog_6_method_26_code 7 = .ok (.iload_n 3, 1) := by decide +kernel
theorem d_M_beside_8 : decode prog_6_method_26_code 8 = .ok (.ifCond .ge 5, 3) := by decide +kernel
theorem d_M_beside_11 : decode prog_6_method_26_code 11 = .ok (.iconst (-1), 1) := by decide +kernel
theorem d_M_beside_12 : decode prog_6_method_26_code 12 = .ok (.ireturn, 1) := by decide +kernel
theorem d_M_beside_13 : decode prog_6_method_26_code 13 = .ok (.aload_n 0, 1) := by decide +kernel
theorem d_M_beside_14 : decode prog_6_method_26_code 14 = .ok (.iload_n 1, 1) := by decide +kernel
theorem d_M_beside_15 : decode prog_6_method_26_code 15 = .ok (.invokevirtual 120, 3) := by decide +kernel
theorem d_M_beside_18 : decode prog_6_method_26_code 18 = .ok (.istore 4, 2) := by decide +kernel
theorem d_M_beside_20 : decode prog_6_method_26_code 20 = .ok (.iload_n 3, 1) := by decide +kernel
theorem d_M_beside_21 : decode prog_6_method_26_code 21 = .ok (.iload 4, 2) := by decide +kernel
theorem d_M_beside_23 : decode prog_6_method_26_code 23 = .ok (.if_icmp .ne 25, 3) := by decide +kernel
theorem d_M_beside_26 : decode prog_6_method_26_code 26 = .ok (.iload_n 2, 1) := by decide +kernel
theorem d_M_beside_27 : decode prog_6_method_26_code 27 = .ok (.ifCond .le 13, 3) := by decide +kernel
theorem d_M_beside_30 : decode prog_6_method_26_code 30 = .ok (.aload_n 0, 1) := by decide +kernel
theorem d_M_beside_31 : decode prog_6_method_26_code 31 = .ok (.iload_n 1, 1) := by decide +kernel
theorem d_M_beside_32 : decode prog_6_method_26_code 32 = .ok (.iload 4, 2) := by decide +kernel
theorem d_M_beside_34 : decode prog_6_method_26_code 34 = .ok (.invokevirtual 113, 3) := by decide +kernel
theorem d_M_beside_37 : decode prog_6_method_26_code 37 = .ok (.goto 10, 3) := by decide +kernel
theorem d_M_beside_40 : decode prog_6_method_26_code 40 = .ok (.aload_n 0, 1) := by decide +kernel
theorem d_M_beside_41 : decode prog_6_method_26_code 41 = .ok (.iload_n 1, 1) := by decide +kernel
theorem d_M_beside_42 : decode prog_6_method_26_code 42 = .ok (.iload 4, 2) := by decide +kernel
theorem d_M_beside_44 : decode prog_6_method_26_code 44 = .ok (.invokevirtual 145, 3) := by decide +kernel
theorem d_M_beside_47 : decode prog_6_method_26_code 47 = .ok (.ireturn, 1) := by decide +kernel
theorem d_M_beside_48 : decode prog_6_method_26_code 48 = .ok (.aload_n 0, 1) := by decide +kernel
theorem d_M_beside_49 : decode prog_6_method_26_code 49 = .ok (.iload_n 1, 1) := by decide +kernel
theorem d_M_beside_50 : decode prog_6_method_26_code 50 = .ok (.iload 4, 2) := by decide +kernel
theorem d_M_beside_52 : decode prog_6_method_26_code 52 = .ok (.aload_n 0, 1) := by decide +kernel
theorem d_M_beside_53 : decode prog_6_method_26_code 53 = .ok (.iload_n 1, 1) := by decide +kernel
theorem d_M_beside_54 : decode prog_6_method_26_code 54 = .ok (.iload_n 3, 1) := by decide +kernel
theorem d_M_beside_55 : decode prog_6_method_26_code 55 = .ok (.invokevirtual 109, 3) := by decide +kernel
theorem d_M_beside_58 : decode prog_6_method_26_code 58 = .ok (.iload_n 2, 1) := by decide +kernel
theorem d_M_beside_59 : decode prog_6_method_26_code 59 = .ok (.iadd, 1) := by decide +kernel
theorem d_M_beside_60 : decode prog_6_method_26_code 60 = .ok (.iload_n 2, 1) := by decide +kernel
theorem d_M_beside_61 : decode prog_6_method_26_code 61 = .ok (.invokevirtual 105, 3) := by decide +kernel
theorem d_M_beside_64 : decode prog_6_method_26_code 64 = .ok (.ireturn, 1) := by decide +kernel
theorem d_M_scan_0 : decode prog_6_method_28_code 0 = .ok (.aload_n 0, 1) := by decide +kernel
theorem d_M_scan_1 : decode prog_6_method_28_code 1 = .ok (.aload_n 0, 1) := by decide +kernel
theorem d_M_scan_2 : decode prog_6_method_28_code 2 = .ok (.iload_n 1, 1) := by decide +kernel
theorem d_M_scan_3 : decode prog_6_method_28_code 3 = .ok (.invokevirtual 148, 3) := by decide +kernel
theorem d_M_scan_6 : decode prog_6_method_28_code 6 = .ok (.ifCond .eq 7, 3) := by decide +kernel
theorem d_M_scan_9 : decode prog_6_method_28_code 9 = .ok (.iload_n 2, 1) := by decide +kernel
theorem d_M_scan_10 : decode prog_6_method_28_code 10 = .ok (.ifCond .ge 7, 3) := by decide +kernel
theorem d_M_scan_13 : decode prog_6_method_28_code 13 = .ok (.iconst 1, 1) := by decide +kernel
theorem d_M_scan_14 : decode prog_6_method_28_code 14 = .ok (.goto 4, 3) := by decide +kernel
theorem d_M_scan_17 : decode prog_6_method_28_code 17 = .ok (.iconst 0, 1) := by decide +kernel
theorem d_M_scan_18 : decode prog_6_method_28_code 18 = .ok (.putfield 84, 3) := by decide +kernel
theorem d_M_scan_21 : decode prog_6_method_28_code 21 = .ok (.aload_n 0, 1) := by decide +kernel
theorem d_M_scan_22 : decode prog_6_method_28_code 22 = .ok (.getfield 84, 3) := by decide +kernel
theorem d_M_scan_25 : decode prog_6_method_28_code 25 = .ok (.ifCond .ne 27, 3) := by decide +kernel
theorem d_M_scan_28 : decode prog_6_method_28_code 28 = .ok (.aload_n 0, 1) := by decide +kernel
theorem d_M_scan_29 : decode prog_6_method_28_code 29 = .ok (.iload_n 2, 1) := by decide +kernel
theorem d_M_scan_30 : decode prog_6_method_28_code 30 = .ok (.aload_n 0, 1) := by decide +kernel
theorem d_M_scan_31 : decode prog_6_method_28_code 31 = .ok (.getfield 7, 3) := by decide +kernel
theorem d_M_scan_34 : decode prog_6_method_28_code 34 = .ok (.aload_n 0, 1) := by decide +kernel
theorem d_M_scan_35 : decode prog_6_method_28_code 35 = .ok (.getfield 16, 3) := by decide +kernel
theorem d_M_scan_38 : decode prog_6_method_28_code 38 = .ok (.iload_n 1, 1) := by decide +kernel
theorem d_M_scan_39 : decode prog_6_method_28_code 39 = .ok (.iaload, 1) := by decide +kernel
theorem d_M_scan_40 : decode prog_6_method_28_code 40 = .ok (.iaload, 1) := by decide +kernel
theorem d_M_scan_41 : decode prog_6_method_28_code 41 = .ok (.if_icmp .lt 7, 3) := by decide +kernel
theorem d_M_scan_44 : decode prog_6_method_28_code 44 = .ok (.iconst 1, 1) := by decide +kernel
theorem d_M_scan_45 : decode prog_6_method_28_code 45 = .ok (.goto 4, 3) := by decide +kernel
theorem d_M_scan_48 : decode prog_6_method_28_code 48 = .ok (.iconst 0, 1) := by decide +kernel
theorem d_M_scan_49 : decode prog_6_method_28_code 49 = .ok (.putfield 84, 3) := by decide +kernel
theorem d_M_scan_52 : decode prog_6_method_28_code 52 = .ok (.aload_n 0, 1) := by decide +kernel
theorem d_M_scan_53 : decode prog_6_method_28_code 53 = .ok (.getfield 84, 3) := by decide +kernel
theorem d_M_scan_56 : decode prog_6_method_28_code 56 = .ok (.ifCond .le 5, 3) := by decide +kernel
theorem d_M_scan_59 : decode prog_6_method_28_code 59 = .ok (.iconst 0, 1) := by decide +kernel
theorem d_M_scan_60 : decode prog_6_method_28_code 60 = .ok (.ireturn, 1) := by decide +kernel
theorem d_M_scan_61 : decode prog_6_method_28_code 61 = .ok (.aload_n 0, 1) := by decide +kernel
theorem d_M_scan_62 : decode prog_6_method_28_code 62 = .ok (.iload_n 1, 1) := by decide +kernel
theorem d_M_scan_63 : decode prog_6_method_28_code 63 = .ok (.invokevirtual 120, 3) := by decide +kernel
theorem d_M_scan_66 : decode prog_6_method_28_code 66 = .ok (.istore 4, 2) := by decide +kernel
theorem d_M_scan_68 : decode prog_6_method_28_code 68 = .ok (.aload_n 0, 1) := by decide +kernel
theorem d_M_scan_69 : decode prog_6_method_28_code 69 = .ok (.iload_n 1, 1) := by decide +kernel
theorem d_M_scan_70 : decode prog_6_method_28_code 70 = .ok (.iconst 1, 1) := by decide +kernel
theorem d_M_scan_71 : decode prog_6_method_28_code 71 = .ok (.invokevirtual 151, 3) := by decide +kernel
theorem d_M_scan_74 : decode prog_6_method_28_code 74 = .ok (.istore 5, 2) := by decide +kernel
theorem d_M_scan_76 : decode prog_6_method_28_code 76 = .ok (.iload 5, 2) := by decide +kernel
theorem d_M_scan_78 : decode prog_6_method_28_code 78 = .ok (.ifCond .lt 40, 3) := by decide +kernel
theorem d_M_scan_81 : decode prog_6_method_28_code 81 = .ok (.aload_n 0, 1) := by decide +kernel
theorem d_M_scan_82 : decode prog_6_method_28_code 82 = .ok (.getfield 35, 3) := by decide +kernel
theorem d_M_scan_85 : decode prog_6_method_28_code 85 = .ok (.iconst 3, 1) := by decide +kernel
theorem d_M_scan_86 : decode prog_6_method_28_code 86 = .ok (.iload 5, 2) := by decide +kernel
theorem d_M_scan_88 : decode prog_6_method_28_code 88 = .ok (.imul, 1) := by decide +kernel
theorem d_M_scan_89 : decode prog_6_method_28_code 89 = .ok (.iload_n 2, 1) := by decide +kernel
theorem d_M_scan_90 : decode prog_6_method_28_code 90 = .ok (.iadd, 1) := by decide +kernel
theorem d_M_scan_91 : decode prog_6_method_28_code 91 = .ok (.iaload, 1) := by decide +kernel
theorem d_M_scan_92 : decode prog_6_method_28_code 92 = .ok (.iload_n 3, 1) := by decide +kernel
theorem d_M_scan_93 : decode prog_6_method_28_code 93 = .ok (.if_icmp .eq 25, 3) := by decide +kernel
theorem d_M_scan_96 : decode prog_6_method_28_code 96 = .ok (.aload_n 0, 1) := by decide +kernel
theorem d_M_scan_97 : decode prog_6_method_28_code 97 = .ok (.iload_n 1, 1) := by decide +kernel
theorem d_M_scan_98 : decode prog_6_method_28_code 98 = .ok (.iload 4, 2) := by decide +kernel
theorem d_M_scan_100 : decode prog_6_method_28_code 100 = .ok (.aload_n 0, 1) := by decide +kernel
theorem d_M_scan_101 : decode prog_6_method_28_code 101 = .ok (.iload_n 1, 1) := by decide +kernel
theorem d_M_scan_102 : decode prog_6_method_28_code 102 = .ok (.iload 5, 2) := by decide +kernel
theorem d_M_scan_104 : decode prog_6_method_28_code 104 = .ok (.invokevirtual 109, 3) := by decide +kernel
theorem d_M_scan_107 : decode prog_6_method_28_code 107 = .ok (.iconst 1, 1) := by decide +kernel
theorem d_M_scan_108 : decode prog_6_method_28_code 108 = .ok (.iadd, 1) := by decide +kernel
theorem d_M_scan_109 : decode prog_6_method_28_code 109 = .ok (.iconst 1, 1) := by decide +kernel
theorem d_M_scan_110 : decode prog_6_method_28_code 110 = .ok (.invokevirtual 105, 3) := by decide +kernel
theorem d_M_scan_113 : decode prog_6_method_28_code 113 = .ok (.istore 5, 2) := by decide +kernel
theorem d_M_scan_115 : decode prog_6_method_28_code 115 = .ok (.goto (-39), 3) := by decide +kernel
theorem d_M_scan_118 : decode prog_6_method_28_code 118 = .ok (.aload_n 0, 1) := by decide +kernel
theorem d_M_scan_119 : decode prog_6_method_28_code 119 = .ok (.iload 5, 2) := by decide +kernel
theorem d_M_scan_121 : decode prog_6_method_28_code 121 = .ok (.iconst 2, 1) := by decide +kernel
theorem d_M_scan_122 : decode prog_6_method_28_code 122 = .ok (.invokevirtual 142, 3) := by decide +kernel
theorem d_M_scan_125 : decode prog_6_method_28_code 125 = .ok (.ireturn, 1) := by decide +kernel
theorem d_M_current_0 : decode prog_6_method_29_code 0 = .ok (.iload_n 1, 1) := by decide +kernel
theorem d_M_current_1 : decode prog_6_method_29_code 1 = .ok (.ifCond .eq 29, 3) := by decide +kernel
theorem d_M_current_4 : decode prog_6_method_29_code 4 = .ok (.iload_n 1, 1) := by decide +kernel
theorem d_M_current_5 : decode prog_6_method_29_code 5 = .ok (.iconst 1, 1) := by decide +kernel
theorem d_M_current_6 : decode prog_6_method_29_code 6 = .ok (.if_icmp .ne 11, 3) := by decide +kernel
theorem d_M_current_9 : decode prog_6_method_29_code 9 = .ok (.aload_n 0, 1) := by decide +kernel
theorem d_M_current_10 : decode prog_6_method_29_code 10 = .ok (.iload_n 2, 1) := by decide +kernel
theorem d_M_current_11 : decode prog_6_method_29_code 11 = .ok (.invokevirtual 97, 3) := by decide +kernel
theorem d_M_current_14 : decode prog_6_method_29_code 14 = .ok (.ifCond .ne 16, 3) := by decide +kernel
theorem d_M_current_17 : decode prog_6_method_29_code 17 = .ok (.iload_n 1, 1) := by decide +kernel
theorem d_M_current_18 : decode prog_6_method_29_code 18 = .ok (.iconst 2, 1) := by decide +kernel
theorem d_M_current_19 : decode prog_6_method_29_code 19 = .ok (.if_icmp .ne 15, 3) := by decide +kernel
theorem d_M_current_22 : decode prog_6_method_29_code 22 = .ok (.aload_n 0, 1) := by decide +kernel
theorem d_M_current_23 : decode prog_6_method_29_code 23 = .ok (.iload_n 2, 1) := by decide +kernel
theorem d_M_current_24 : decode prog_6_method_29_code 24 = .ok (.invokevirtual 148, 3) := by decide +kernel
theorem d_M_current_27 : decode prog_6_method_29_code 27 = .ok (.ifCond .eq 7, 3) := by decide +kernel
theorem d_M_current_30 : decode prog_6_method_29_code 30 = .ok (.iconst 1, 1) := by decide +kernel
theorem d_M_current_31 : decode prog_6_method_29_code 31 = .ok (.goto 4, 3) := by decide +kernel
theorem d_M_current_34 : decode prog_6_method_29_code 34 = .ok (.iconst 0, 1) := by decide +kernel
theorem d_M_current_35 : decode prog_6_method_29_code 35 = .ok (.istore_n 3, 1) := by decide +kernel
theorem d_M_current_36 : decode prog_6_method_29_code 36 = .ok (.aload_n 0, 1) := by decide +kernel
theorem d_M_current_37 : decode prog_6_method_29_code 37 = .ok (.iload_n 3, 1) := by decide +kernel
theorem d_M_current_38 : decode prog_6_method_29_code 38 = .ok (.ifCond .eq 7, 3) := by decide +kernel
theorem d_M_current_41 : decode prog_6_method_29_code 41 = .ok (.iconst 0, 1) := by decide +kernel
theorem d_M_current_42 : decode prog_6_method_29_code 42 = .ok (.goto 4, 3) := by decide +kernel
theorem d_M_current_45 : decode prog_6_method_29_code 45 = .ok (.iconst 1, 1) := by decide +kernel
theorem d_M_current_46 : decode prog_6_method_29_code 46 = .ok (.putfield 84, 3) := by decide +kernel
theorem d_M_current_49 : decode prog_6_method_29_code 49 = .ok (.aload_n 0, 1) := by decide +kernel
theorem d_M_current_50 : decode prog_6_method_29_code 50 = .ok (.getfield 84, 3) := by decide +kernel
theorem d_M_current_53 : decode prog_6_method_29_code 53 = .ok (.ifCond .le 5, 3) := by decide +kernel
theorem d_M_current_56 : decode prog_6_method_29_code 56 = .ok (.iconst 0, 1) := by decide +kernel
theorem d_M_current_57 : decode prog_6_method_29_code 57 = .ok (.ireturn, 1) := by decide +kernel
theorem d_M_current_58 : decode prog_6_method_29_code 58 = .ok (.iload_n 1, 1) := by decide +kernel
theorem d_M_current_59 : decode prog_6_method_29_code 59 = .ok (.ifCond .ne 10, 3) := by decide +kernel
theorem d_M_current_62 : decode prog_6_method_29_code 62 = .ok (.aload_n 0, 1) := by decide +kernel
theorem d_M_current_63 : decode prog_6_method_29_code 63 = .ok (.getfield 47, 3) := by decide +kernel
theorem d_M_current_66 : decode prog_6_method_29_code 66 = .ok (.goto 23, 3) := by decide +kernel
theorem d_M_current_69 : decode prog_6_method_29_code 69 = .ok (.iload_n 1, 1) := by decide +kernel
theorem d_M_current_70 : decode prog_6_method_29_code 70 = .ok (.iconst 1, 1) := by decide +kernel
theorem d_M_current_71 : decode prog_6_method_29_code 71 = .ok (.if_icmp .ne 12, 3) := by decide +kernel
theorem d_M_current_74 : decode prog_6_method_29_code 74 = .ok (.aload_n 0, 1) := by decide +kernel
theorem d_M_current_75 : decode prog_6_method_29_code 75 = .ok (.getfield 50, 3) := by decide +kernel
theorem d_M_current_78 : decode prog_6_method_29_code 78 = .ok (.iload_n 2, 1) := by decide +kernel
theorem d_M_current_79 : decode prog_6_method_29_code 79 = .ok (.iaload, 1) := by decide +kernel
theorem d_M_current_80 : decode prog_6_method_29_code 80 = .ok (.goto 9, 3) := by decide +kernel
theorem d_M_current_83 : decode prog_6_method_29_code 83 = .ok (.aload_n 0, 1) := by decide +kernel
theorem d_M_current_84 : decode prog_6_method_29_code 84 = .ok (.getfield 53, 3) := by decide +kernel
theorem d_M_current_87 : decode prog_6_method_29_code 87 = .ok (.iload_n 2, 1) := by decide +kernel
theorem d_M_current_88 : decode prog_6_method_29_code 88 = .ok (.iaload, 1) := by decide +kernel
theorem d_M_current_89 : decode prog_6_method_29_code 89 = .ok (.istore 4, 2) := by decide +kernel
theorem d_M_current_91 : decode prog_6_method_29_code 91 = .ok (.iload 4, 2) := by decide +kernel
theorem d_M_current_93 : decode prog_6_method_29_code 93 = .ok (.ifCond .ge 7, 3) := by decide +kernel
theorem d_M_current_96 : decode prog_6_method_29_code 96 = .ok (.iconst 0, 1) := by decide +kernel
theorem d_M_current_97 : decode prog_6_method_29_code 97 = .ok (.goto 10, 3) := by decide +kernel
theorem d_M_current_100 : decode prog_6_method_29_code 100 = .ok (.aload_n 0, 1) := by decide +kernel
theorem d_M_current_101 : decode prog_6_method_29_code 101 = .ok (.getfield 29, 3) := by decide +kernel
theorem d_M_current_104 : decode prog_6_method_29_code 104 = .ok (.iload 4, 2) := by decide +kernel
theorem d_M_current_106 : decode prog_6_method_29_code 106 = .ok (.iaload, 1) := by decide +kernel
theorem d_M_current_107 : decode prog_6_method_29_code 107 = .ok (.ireturn, 1) := by decide +kernel
theorem d_M_get_0 : decode prog_6_method_30_code 0 = .ok (.aload_n 0, 1) := by decide +kernel
theorem d_M_get_1 : decode prog_6_method_30_code 1 = .ok (.aload_n 0, 1) := by decide +kernel
theorem d_M_get_2 : decode prog_6_method_30_code 2 = .ok (.getfield 47, 3) := by decide +kernel
theorem d_M_get_5 : decode prog_6_method_30_code 5 = .ok (.ifCond .ge 7, 3) := by decide +kernel
theorem d_M_get_8 : decode prog_6_method_30_code 8 = .ok (.iconst 1, 1) := by decide +kernel
theorem d_M_get_9 : decode prog_6_method_30_code 9 = .ok (.goto 30, 3) := by decide +kernel
theorem d_M_get_12 : decode prog_6_method_30_code 12 = .ok (.iload_n 1, 1) := by decide +kernel
theorem d_M_get_13 : decode prog_6_method_30_code 13 = .ok (.ifCond .lt 21, 3) := by decide +kernel
theorem d_M_get_16 : decode prog_6_method_30_code 16 = .ok (.iload_n 1, 1) := by decide +kernel
theorem d_M_get_17 : decode prog_6_method_30_code 17 = .ok (.aload_n 0, 1) := by decide +kernel
theorem d_M_get_18 : decode prog_6_method_30_code 18 = .ok (.getfield 7, 3) := by decide +kernel
theorem d_M_get_21 : decode prog_6_method_30_code 21 = .ok (.aload_n 0, 1) := by decide +kernel
theorem d_M_get_22 : decode prog_6_method_30_code 22 = .ok (.getfield 32, 3) := by decide +kernel
theorem d_M_get_25 : decode prog_6_method_30_code 25 = .ok (.aload_n 0, 1) := by decide +kernel
theorem d_M_get_26 : decode prog_6_method_30_code 26 = .ok (.getfield 47, 3) := by decide +kernel
theorem d_M_get_29 : decode prog_6_method_30_code 29 = .ok (.iaload, 1) := by decide +kernel
theorem d_M_get_30 : decode prog_6_method_30_code 30 = .ok (.iaload, 1) := by decide +kernel
theorem d_M_get_31 : decode prog_6_method_30_code 31 = .ok (.if_icmp .lt 7, 3) := by decide +kernel
theorem d_M_get_34 : decode prog_6_method_30_code 34 = .ok (.iconst 2, 1) := by decide +kernel
theorem d_M_get_35 : decode prog_6_method_30_code 35 = .ok (.goto 4, 3) := by decide +kernel
theorem d_M_get_38 : decode prog_6_method_30_code 38 = .ok (.iconst 0, 1) := by decide +kernel
theorem d_M_get_39 : decode prog_6_method_30_code 39 = .ok (.putfield 84, 3) := by decide +kernel
theorem d_M_get_42 : decode prog_6_method_30_code 42 = .ok (.aload_n 0, 1) := by decide +kernel
theorem d_M_get_43 : decode prog_6_method_30_code 43 = .ok (.getfield 84, 3) := by decide +kernel
theorem d_M_get_46 : decode prog_6_method_30_code 46 = .ok (.ifCond .le 7, 3) := by decide +kernel
theorem d_M_get_49 : decode prog_6_method_30_code 49 = .ok (.iconst 0, 1) := by decide +kernel
theorem d_M_get_50 : decode prog_6_method_30_code 50 = .ok (.goto 16, 3) := by decide +kernel
theorem d_M_get_53 : decode prog_6_method_30_code 53 = .ok (.aload_n 0, 1) := by decide +kernel
theorem d_M_get_54 : decode prog_6_method_30_code 54 = .ok (.getfield 35, 3) := by decide +kernel
theorem d_M_get_57 : decode prog_6_method_30_code 57 = .ok (.iconst 3, 1) := by decide +kernel
theorem d_M_get_58 : decode prog_6_method_30_code 58 = .ok (.aload_n 0, 1) := by decide +kernel
theorem d_M_get_59 : decode prog_6_method_30_code 59 = .ok (.getfield 47, 3) := by decide +kernel
theorem d_M_get_62 : decode prog_6_method_30_code 62 = .ok (.imul, 1) := by decide +kernel
theorem d_M_get_63 : decode prog_6_method_30_code 63 = .ok (.iload_n 1, 1) := by decide +kernel
theorem d_M_get_64 : decode prog_6_method_30_code 64 = .ok (.iadd, 1) := by decide +kernel
theorem d_M_get_65 : decode prog_6_method_30_code 65 = .ok (.iaload, 1) := by decide +kernel
theorem d_M_get_66 : decode prog_6_method_30_code 66 = .ok (.ireturn, 1) := by decide +kernel
theorem d_M_modify_0 : decode prog_6_method_32_code 0 = .ok (.aload_n 0, 1) := by decide +kernel
theorem d_M_modify_1 : decode prog_6_method_32_code 1 = .ok (.aload_n 0, 1) := by decide +kernel
theorem d_M_modify_2 : decode prog_6_method_32_code 2 = .ok (.getfield 47, 3) := by decide +kernel
theorem d_M_modify_5 : decode prog_6_method_32_code 5 = .ok (.ifCond .ge 7, 3) := by decide +kernel
theorem d_M_modify_8 : decode prog_6_method_32_code 8 = .ok (.iconst 1, 1) := by decide +kernel
theorem d_M_modify_9 : decode prog_6_method_32_code 9 = .ok (.goto 30, 3) := by decide +kernel
theorem d_M_modify_12 : decode prog_6_method_32_code 12 = .ok (.iload_n 1, 1) := by decide +kernel
theorem d_M_modify_13 : decode prog_6_method_32_code 13 = .ok (.ifCond .lt 21, 3) := by decide +kernel
theorem d_M_modify_16 : decode prog_6_method_32_code 16 = .ok (.iload_n 1, 1) := by decide +kernel
theorem d_M_modify_17 : decode prog_6_method_32_code 17 = .ok (.aload_n 0, 1) := by decide +kernel
theorem d_M_modify_18 : decode prog_6_method_32_code 18 = .ok (.getfield 7, 3) := by decide +kernel
theorem d_M_modify_21 : decode prog_6_method_32_code 21 = .ok (.aload_n 0, 1) := by decide +kernel
theorem d_M_modify_22 : decode prog_6_method_32_code 22 = .ok (.getfield 32, 3) := by decide +kernel
theorem d_M_modify_25 : decode prog_6_method_32_code 25 = .ok (.aload_n 0, 1) := by decide +kernel
theorem d_M_modify_26 : decode prog_6_method_32_code 26 = .ok (.getfield 47, 3) := by decide +kernel
theorem d_M_modify_29 : decode prog_6_method_32_code 29 = .ok (.iaload, 1) := by decide +kernel
theorem d_M_modify_30 : decode prog_6_method_32_code 30 = .ok (.iaload, 1) := by decide +kernel
theorem d_M_modify_31 : decode prog_6_method_32_code 31 = .ok (.if_icmp .lt 7, 3) := by decide +kernel
theorem d_M_modify_34 : decode prog_6_method_32_code 34 = .ok (.iconst 2, 1) := by decide +kernel
theorem d_M_modify_35 : decode prog_6_method_32_code 35 = .ok (.goto 4, 3) := by decide +kernel
theorem d_M_modify_38 : decode prog_6_method_32_code 38 = .ok (.iconst 0, 1) := by decide +kernel
theorem d_M_modify_39 : decode prog_6_method_32_code 39 = .ok (.putfield 84, 3) := by decide +kernel
theorem d_M_modify_42 : decode prog_6_method_32_code 42 = .ok (.aload_n 0, 1) := by decide +kernel
theorem d_M_modify_43 : decode prog_6_method_32_code 43 = .ok (.getfield 84, 3) := by decide +kernel
theorem d_M_modify_46 : decode prog_6_method_32_code 46 = .ok (.ifCond .le 4, 3) := by decide +kernel
theorem d_M_modify_49 : decode prog_6_method_32_code 49 = .ok (.return_, 1) := by decide +kernel
theorem d_M_modify_50 : decode prog_6_method_32_code 50 = .ok (.aload_n 0, 1) := by decide +kernel
theorem d_M_modify_51 : decode prog_6_method_32_code 51 = .ok (.getfield 47, 3) := by decide +kernel
theorem d_M_modify_54 : decode prog_6_method_32_code 54 = .ok (.istore_n 3, 1) := by decide +kernel
theorem d_M_modify_55 : decode prog_6_method_32_code 55 = .ok (.aload_n 0, 1) := by decide +kernel
theorem d_M_modify_56 : decode prog_6_method_32_code 56 = .ok (.getfield 35, 3) := by decide +kernel
theorem d_M_modify_59 : decode prog_6_method_32_code 59 = .ok (.iconst 3, 1) := by decide +kernel
theorem d_M_modify_60 : decode prog_6_method_32_code 60 = .ok (.iload_n 3, 1) := by decide +kernel
theorem d_M_modify_61 : decode prog_6_method_32_code 61 = .ok (.imul, 1) := by decide +kernel
theorem d_M_modify_62 : decode prog_6_method_32_code 62 = .ok (.iload_n 1, 1) := by decide +kernel
theorem d_M_modify_63 : decode prog_6_method_32_code 63 = .ok (.iadd, 1) := by decide +kernel
theorem d_M_modify_64 : decode prog_6_method_32_code 64 = .ok (.iaload, 1) := by decide +kernel
theorem d_M_modify_65 : decode prog_6_method_32_code 65 = .ok (.iload_n 2, 1) := by decide +kernel
theorem d_M_modify_66 : decode prog_6_method_32_code 66 = .ok (.if_icmp .ne 7, 3) := by decide +kernel
theorem d_M_modify_69 : decode prog_6_method_32_code 69 = .ok (.iconst 1, 1) := by decide +kernel
theorem d_M_modify_70 : decode prog_6_method_32_code 70 = .ok (.goto 4, 3) := by decide +kernel
theorem d_M_modify_73 : decode prog_6_method_32_code 73 = .ok (.iconst 0, 1) := by decide +kernel
theorem d_M_modify_74 : decode prog_6_method_32_code 74 = .ok (.istore 4, 2) := by decide +kernel
theorem d_M_modify_76 : decode prog_6_method_32_code 76 = .ok (.iconst 0, 1) := by decide +kernel
theorem d_M_modify_77 : decode prog_6_method_32_code 77 = .ok (.istore 5, 2) := by decide +kernel
theorem d_M_modify_79 : decode prog_6_method_32_code 79 = .ok (.iload 5, 2) := by decide +kernel
theorem d_M_modify_81 : decode prog_6_method_32_code 81 = .ok (.aload_n 0, 1) := by decide +kernel
theorem d_M_modify_82 : decode prog_6_method_32_code 82 = .ok (.getfield 90, 3) := by decide +kernel
theorem d_M_modify_85 : decode prog_6_method_32_code 85 = .ok (.if_icmp .ge 68, 3) := by decide +kernel
theorem d_M_modify_88 : decode prog_6_method_32_code 88 = .ok (.iload 4, 2) := by decide +kernel
theorem d_M_modify_90 : decode prog_6_method_32_code 90 = .ok (.ifCond .ne 63, 3) := by decide +kernel
theorem d_M_modify_93 : decode prog_6_method_32_code 93 = .ok (.aload_n 0, 1) := by decide +kernel
theorem d_M_modify_94 : decode prog_6_method_32_code 94 = .ok (.getfield 38, 3) := by decide +kernel
theorem d_M_modify_97 : decode prog_6_method_32_code 97 = .ok (.bipush 24, 2) := by decide +kernel
theorem d_M_modify_99 : decode prog_6_method_32_code 99 = .ok (.iload 5, 2) := by decide +kernel
theorem d_M_modify_101 : decode prog_6_method_32_code 101 = .ok (.imul, 1) := by decide +kernel
theorem d_M_modify_102 : decode prog_6_method_32_code 102 = .ok (.iload_n 3, 1) := by decide +kernel
theorem d_M_modify_103 : decode prog_6_method_32_code 103 = .ok (.iadd, 1) := by decide +kernel
theorem d_M_modify_104 : decode prog_6_method_32_code 104 = .ok (.iaload, 1) := by decide +kernel
theorem d_M_modify_105 : decode prog_6_method_32_code 105 = .ok (.istore 6, 2) := by decide +kernel
theorem d_M_modify_107 : decode prog_6_method_32_code 107 = .ok (.aload_n 0, 1) := by decide +kernel
theorem d_M_modify_108 : decode prog_6_method_32_code 108 = .ok (.iload 6, 2) := by decide +kernel
theorem d_M_modify_110 : decode prog_6_method_32_code 110 = .ok (.ifCond .lt 30, 3) := by decide +kernel
theorem d_M_modify_113 : decode prog_6_method_32_code 113 = .ok (.aload_n 0, 1) := by decide +kernel
theorem d_M_modify_114 : decode prog_6_method_32_code 114 = .ok (.iload 5, 2) := by decide +kernel
theorem d_M_modify_116 : decode prog_6_method_32_code 116 = .ok (.iload_n 1, 1) := by decide +kernel
theorem d_M_modify_117 : decode prog_6_method_32_code 117 = .ok (.invokevirtual 154, 3) := by decide +kernel
theorem d_M_modify_120 : decode prog_6_method_32_code 120 = .ok (.ifCond .eq 20, 3) := by decide +kernel
theorem d_M_modify_123 : decode prog_6_method_32_code 123 = .ok (.aload_n 0, 1) := by decide +kernel
theorem d_M_modify_124 : decode prog_6_method_32_code 124 = .ok (.iload 5, 2) := by decide +kernel
theorem d_M_modify_126 : decode prog_6_method_32_code 126 = .ok (.iload 6, 2) := by decide +kernel
theorem d_M_modify_128 : decode prog_6_method_32_code 128 = .ok (.iload_n 3, 1) := by decide +kernel
theorem d_M_modify_129 : decode prog_6_method_32_code 129 = .ok (.iload_n 2, 1) := by decide +kernel
theorem d_M_modify_130 : decode prog_6_method_32_code 130 = .ok (.invokevirtual 124, 3) := by decide +kernel
theorem d_M_modify_133 : decode prog_6_method_32_code 133 = .ok (.ifCond .eq 7, 3) := by decide +kernel
theorem d_M_modify_136 : decode prog_6_method_32_code 136 = .ok (.iconst 3, 1) := by decide +kernel
theorem d_M_modify_137 : decode prog_6_method_32_code 137 = .ok (.goto 7, 3) := by decide +kernel
theorem d_M_modify_140 : decode prog_6_method_32_code 140 = .ok (.aload_n 0, 1) := by decide +kernel
theorem d_M_modify_141 : decode prog_6_method_32_code 141 = .ok (.getfield 84, 3) := by decide +kernel
theorem d_M_modify_144 : decode prog_6_method_32_code 144 = .ok (.putfield 84, 3) := by decide +kernel
theorem d_M_modify_147 : decode prog_6_method_32_code 147 = .ok (.iinc 5 1, 3) := by decide +kernel
theorem d_M_modify_150 : decode prog_6_method_32_code 150 = .ok (.goto (-71), 3) := by decide +kernel
theorem d_M_modify_153 : decode prog_6_method_32_code 153 = .ok (.aload_n 0, 1) := by decide +kernel
theorem d_M_modify_154 : decode prog_6_method_32_code 154 = .ok (.getfield 84, 3) := by decide +kernel
theorem d_M_modify_157 : decode prog_6_method_32_code 157 = .ok (.ifCond .le 4, 3) := by decide +kernel
theorem d_M_modify_160 : decode prog_6_method_32_code 160 = .ok (.return_, 1) := by decide +kernel
theorem d_M_modify_161 : decode prog_6_method_32_code 161 = .ok (.aload_n 0, 1) := by decide +kernel
theorem d_M_modify_162 : decode prog_6_method_32_code 162 = .ok (.getfield 35, 3) := by decide +kernel
theorem d_M_modify_165 : decode prog_6_method_32_code 165 = .ok (.iconst 3, 1) := by decide +kernel
theorem d_M_modify_166 : decode prog_6_method_32_code 166 = .ok (.iload_n 3, 1) := by decide +kernel
theorem d_M_modify_167 : decode prog_6_method_32_code 167 = .ok (.imul, 1) := by decide +kernel
theorem d_M_modify_168 : decode prog_6_method_32_code 168 = .ok (.iload_n 1, 1) := by decide +kernel
theorem d_M_modify_169 : decode prog_6_method_32_code 169 = .ok (.iadd, 1) := by decide +kernel
theorem d_M_modify_170 : decode prog_6_method_32_code 170 = .ok (.iload_n 2, 1) := by decide +kernel
theorem d_M_modify_171 : decode prog_6_method_32_code 171 = .ok (.iastore, 1) := by decide +kernel
theorem d_M_modify_172 : decode prog_6_method_32_code 172 = .ok (.iconst 0, 1) := by decide +kernel
theorem d_M_modify_173 : decode prog_6_method_32_code 173 = .ok (.istore 5, 2) := by decide +kernel
theorem d_M_modify_175 : decode prog_6_method_32_code 175 = .ok (.iload 5, 2) := by decide +kernel
theorem d_M_modify_177 : decode prog_6_method_32_code 177 = .ok (.aload_n 0, 1) := by decide +kernel
theorem d_M_modify_178 : decode prog_6_method_32_code 178 = .ok (.getfield 90, 3) := by decide +kernel
theorem d_M_modify_181 : decode prog_6_method_32_code 181 = .ok (.if_icmp .ge 59, 3) := by decide +kernel
theorem d_M_modify_184 : decode prog_6_method_32_code 184 = .ok (.iload 4, 2) := by decide +kernel
theorem d_M_modify_186 : decode prog_6_method_32_code 186 = .ok (.ifCond .ne 54, 3) := by decide +kernel
theorem d_M_modify_189 : decode prog_6_method_32_code 189 = .ok (.aload_n 0, 1) := by decide +kernel
theorem d_M_modify_190 : decode prog_6_method_32_code 190 = .ok (.getfield 38, 3) := by decide +kernel
theorem d_M_modify_193 : decode prog_6_method_32_code 193 = .ok (.bipush 24, 2) := by decide +kernel
theorem d_M_modify_195 : decode prog_6_method_32_code 195 = .ok (.iload 5, 2) := by decide +kernel
theorem d_M_modify_197 : decode prog_6_method_32_code 197 = .ok (.imul, 1) := by decide +kernel
theorem d_M_modify_198 : decode prog_6_method_32_code 198 = .ok (.iload_n 3, 1) := by decide +kernel
theorem d_M_modify_199 : decode prog_6_method_32_code 199 = .ok (.iadd, 1) := by decide +kernel
theorem d_M_modify_200 : decode prog_6_method_32_code 200 = .ok (.iaload, 1) := by decide +kernel
theorem d_M_modify_201 : decode prog_6_method_32_code 201 = .ok (.istore 6, 2) := by decide +kernel
theorem d_M_modify_203 : decode prog_6_method_32_code 203 = .ok (.iload 6, 2) := by decide +kernel
theorem d_M_modify_205 : decode prog_6_method_32_code 205 = .ok (.ifCond .lt 29, 3) := by decide +kernel
theorem d_M_modify_208 : decode prog_6_method_32_code 208 = .ok (.aload_n 0, 1) := by decide +kernel
theorem d_M_modify_209 : decode prog_6_method_32_code 209 = .ok (.iload 5, 2) := by decide +kernel
theorem d_M_modify_211 : decode prog_6_method_32_code 211 = .ok (.iload_n 1, 1) := by decide +kernel
theorem d_M_modify_212 : decode prog_6_method_32_code 212 = .ok (.invokevirtual 154, 3) := by decide +kernel
theorem d_M_modify_215 : decode prog_6_method_32_code 215 = .ok (.ifCond .eq 19, 3) := by decide +kernel
theorem d_M_modify_218 : decode prog_6_method_32_code 218 = .ok (.aload_n 0, 1) := by decide +kernel
theorem d_M_modify_219 : decode prog_6_method_32_code 219 = .ok (.iload 5, 2) := by decide +kernel
theorem d_M_modify_221 : decode prog_6_method_32_code 221 = .ok (.iload_n 3, 1) := by decide +kernel
theorem d_M_modify_222 : decode prog_6_method_32_code 222 = .ok (.invokevirtual 157, 3) := by decide +kernel
theorem d_M_modify_225 : decode prog_6_method_32_code 225 = .ok (.aload_n 0, 1) := by decide +kernel
theorem d_M_modify_226 : decode prog_6_method_32_code 226 = .ok (.iload 5, 2) := by decide +kernel
theorem d_M_modify_228 : decode prog_6_method_32_code 228 = .ok (.iload 6, 2) := by decide +kernel
theorem d_M_modify_230 : decode prog_6_method_32_code 230 = .ok (.iload_n 3, 1) := by decide +kernel
theorem d_M_modify_231 : decode prog_6_method_32_code 231 = .ok (.invokevirtual 131, 3) := by decide +kernel
theorem d_M_modify_234 : decode prog_6_method_32_code 234 = .ok (.iinc 5 1, 3) := by decide +kernel
theorem d_M_modify_237 : decode prog_6_method_32_code 237 = .ok (.goto (-62), 3) := by decide +kernel
theorem d_M_modify_240 : decode prog_6_method_32_code 240 = .ok (.aload_n 0, 1) := by decide +kernel
theorem d_M_modify_241 : decode prog_6_method_32_code 241 = .ok (.iload_n 3, 1) := by decide +kernel
theorem d_M_modify_242 : decode prog_6_method_32_code 242 = .ok (.iconst 0, 1) := by decide +kernel
theorem d_M_modify_243 : decode prog_6_method_32_code 243 = .ok (.invokevirtual 135, 3) := by decide +kernel
theorem d_M_modify_246 : decode prog_6_method_32_code 246 = .ok (.return_, 1) := by decide +kernel
theorem d_M_isSortedBy_0 : decode prog_6_method_31_code 0 = .ok (.aload_n 0, 1) := by decide +kernel
theorem d_M_isSortedBy_1 : decode prog_6_method_31_code 1 = .ok (.getfield 19, 3) := by decide +kernel
theorem d_M_isSortedBy_4 : decode prog_6_method_31_code 4 = .ok (.iload_n 1, 1) := by decide +kernel
theorem d_M_isSortedBy_5 : decode prog_6_method_31_code 5 = .ok (.iaload, 1) := by decide +kernel
theorem d_M_isSortedBy_6 : decode prog_6_method_31_code 6 = .ok (.bipush 10, 2) := by decide +kernel
theorem d_M_isSortedBy_8 : decode prog_6_method_31_code 8 = .ok (.if_icmp .lt 20, 3) := by decide +kernel
theorem d_M_isSortedBy_11 : decode prog_6_method_31_code 11 = .ok (.aload_n 0, 1) := by decide +kernel
theorem d_M_isSortedBy_12 : decode prog_6_method_31_code 12 = .ok (.getfield 19, 3) := by decide +kernel
theorem d_M_isSortedBy_15 : decode prog_6_method_31_code 15 = .ok (.iload_n 1, 1) := by decide +kernel
theorem d_M_isSortedBy_16 : decode prog_6_method_31_code 16 = .ok (.iaload, 1) := by decide +kernel
theorem d_M_isSortedBy_17 : decode prog_6_method_31_code 17 = .ok (.bipush 10, 2) := by decide +kernel
theorem d_M_isSortedBy_19 : decode prog_6_method_31_code 19 = .ok (.irem, 1) := by decide +kernel
theorem d_M_isSortedBy_20 : decode prog_6_method_31_code 20 = .ok (.iload_n 2, 1) := by decide +kernel
theorem d_M_isSortedBy_21 : decode prog_6_method_31_code 21 = .ok (.if_icmp .ne 7, 3) := by decide +kernel
theorem d_M_isSortedBy_24 : decode prog_6_method_31_code 24 = .ok (.iconst 1, 1) := by decide +kernel
theorem d_M_isSortedBy_25 : decode prog_6_method_31_code 25 = .ok (.goto 4, 3) := by decide +kernel
theorem d_M_isSortedBy_28 : decode prog_6_method_31_code 28 = .ok (.iconst 0, 1) := by decide +kernel
theorem d_M_isSortedBy_29 : decode prog_6_method_31_code 29 = .ok (.ireturn, 1) := by decide +kernel
theorem d_M_leave_0 : decode prog_6_method_20_code 0 = .ok (.aload_n 0, 1) := by decide +kernel
theorem d_M_leave_1 : decode prog_6_method_20_code 1 = .ok (.iload_n 1, 1) := by decide +kernel
theorem d_M_leave_2 : decode prog_6_method_20_code 2 = .ok (.iload_n 2, 1) := by decide +kernel
theorem d_M_leave_3 : decode prog_6_method_20_code 3 = .ok (.invokevirtual 109, 3) := by decide +kernel
theorem d_M_leave_6 : decode prog_6_method_20_code 6 = .ok (.istore_n 3, 1) := by decide +kernel
theorem d_M_leave_7 : decode prog_6_method_20_code 7 = .ok (.aload_n 0, 1) := by decide +kernel
theorem d_M_leave_8 : decode prog_6_method_20_code 8 = .ok (.getfield 44, 3) := by decide +kernel
theorem d_M_leave_11 : decode prog_6_method_20_code 11 = .ok (.iload_n 1, 1) := by decide +kernel
theorem d_M_leave_12 : decode prog_6_method_20_code 12 = .ok (.dup2, 1) := by decide +kernel
theorem d_M_leave_13 : decode prog_6_method_20_code 13 = .ok (.iaload, 1) := by decide +kernel
theorem d_M_leave_14 : decode prog_6_method_20_code 14 = .ok (.iconst 1, 1) := by decide +kernel
theorem d_M_leave_15 : decode prog_6_method_20_code 15 = .ok (.isub, 1) := by decide +kernel
theorem d_M_leave_16 : decode prog_6_method_20_code 16 = .ok (.iastore, 1) := by decide +kernel
theorem d_M_leave_17 : decode prog_6_method_20_code 17 = .ok (.iload_n 3, 1) := by decide +kernel
theorem d_M_leave_18 : decode prog_6_method_20_code 18 = .ok (.istore 4, 2) := by decide +kernel
theorem d_M_leave_20 : decode prog_6_method_20_code 20 = .ok (.iload 4, 2) := by decide +kernel
theorem d_M_leave_22 : decode prog_6_method_20_code 22 = .ok (.aload_n 0, 1) := by decide +kernel
theorem d_M_leave_23 : decode prog_6_method_20_code 23 = .ok (.getfield 44, 3) := by decide +kernel
theorem d_M_leave_26 : decode prog_6_method_20_code 26 = .ok (.iload_n 1, 1) := by decide +kernel
theorem d_M_leave_27 : decode prog_6_method_20_code 27 = .ok (.iaload, 1) := by decide +kernel
theorem d_M_leave_28 : decode prog_6_method_20_code 28 = .ok (.if_icmp .ge 35, 3) := by decide +kernel
theorem d_M_leave_31 : decode prog_6_method_20_code 31 = .ok (.aload_n 0, 1) := by decide +kernel
theorem d_M_leave_32 : decode prog_6_method_20_code 32 = .ok (.getfield 41, 3) := by decide +kernel
theorem d_M_leave_35 : decode prog_6_method_20_code 35 = .ok (.bipush 24, 2) := by decide +kernel
theorem d_M_leave_37 : decode prog_6_method_20_code 37 = .ok (.iload_n 1, 1) := by decide +kernel
theorem d_M_leave_38 : decode prog_6_method_20_code 38 = .ok (.imul, 1) := by decide +kernel
theorem d_M_leave_39 : decode prog_6_method_20_code 39 = .ok (.iload 4, 2) := by decide +kernel
theorem d_M_leave_41 : decode prog_6_method_20_code 41 = .ok (.iadd, 1) := by decide +kernel
theorem d_M_leave_42 : decode prog_6_method_20_code 42 = .ok (.aload_n 0, 1) := by decide +kernel
theorem d_M_leave_43 : decode prog_6_method_20_code 43 = .ok (.getfield 41, 3) := by decide +kernel
theorem d_M_leave_46 : decode prog_6_method_20_code 46 = .ok (.bipush 24, 2) := by decide +kernel
theorem d_M_leave_48 : decode prog_6_method_20_code 48 = .ok (.iload_n 1, 1) := by decide +kernel
theorem d_M_leave_49 : decode prog_6_method_20_code 49 = .ok (.imul, 1) := by decide +kernel
theorem d_M_leave_50 : decode prog_6_method_20_code 50 = .ok (.iload 4, 2) := by decide +kernel
theorem d_M_leave_52 : decode prog_6_method_20_code 52 = .ok (.iadd, 1) := by decide +kernel
theorem d_M_leave_53 : decode prog_6_method_20_code 53 = .ok (.iconst 1, 1) := by decide +kernel
theorem d_M_leave_54 : decode prog_6_method_20_code 54 = .ok (.iadd, 1) := by decide +kernel
theorem d_M_leave_55 : decode prog_6_method_20_code 55 = .ok (.iaload, 1) := by decide +kernel
theorem d_M_leave_56 : decode prog_6_method_20_code 56 = .ok (.iastore, 1) := by decide +kernel
theorem d_M_leave_57 : decode prog_6_method_20_code 57 = .ok (.iinc 4 1, 3) := by decide +kernel
theorem d_M_leave_60 : decode prog_6_method_20_code 60 = .ok (.goto (-40), 3) := by decide +kernel
theorem d_M_leave_63 : decode prog_6_method_20_code 63 = .ok (.aload_n 0, 1) := by decide +kernel
theorem d_M_leave_64 : decode prog_6_method_20_code 64 = .ok (.getfield 38, 3) := by decide +kernel
theorem d_M_leave_67 : decode prog_6_method_20_code 67 = .ok (.bipush 24, 2) := by decide +kernel
theorem d_M_leave_69 : decode prog_6_method_20_code 69 = .ok (.iload_n 1, 1) := by decide +kernel
theorem d_M_leave_70 : decode prog_6_method_20_code 70 = .ok (.imul, 1) := by decide +kernel
theorem d_M_leave_71 : decode prog_6_method_20_code 71 = .ok (.iload_n 2, 1) := by decide +kernel
theorem d_M_leave_72 : decode prog_6_method_20_code 72 = .ok (.iadd, 1) := by decide +kernel
theorem d_M_leave_73 : decode prog_6_method_20_code 73 = .ok (.iconst (-1), 1) := by decide +kernel
theorem d_M_leave_74 : decode prog_6_method_20_code 74 = .ok (.iastore, 1) := by decide +kernel
theorem d_M_leave_75 : decode prog_6_method_20_code 75 = .ok (.return_, 1) := by decide +kernel
theorem d_M_connect_0 : decode prog_6_method_34_code 0 = .ok (.aload_n 0, 1) := by decide +kernel
theorem d_M_connect_1 : decode prog_6_method_34_code 1 = .ok (.aload_n 0, 1) := by decide +kernel
theorem d_M_connect_2 : decode prog_6_method_34_code 2 = .ok (.iload_n 1, 1) := by decide +kernel
theorem d_M_connect_3 : decode prog_6_method_34_code 3 = .ok (.invokevirtual 148, 3) := by decide +kernel
theorem d_M_connect_6 : decode prog_6_method_34_code 6 = .ok (.ifCond .ne 7, 3) := by decide +kernel
theorem d_M_connect_9 : decode prog_6_method_34_code 9 = .ok (.iconst 1, 1) := by decide +kernel
theorem d_M_connect_10 : decode prog_6_method_34_code 10 = .ok (.goto 27, 3) := by decide +kernel
theorem d_M_connect_13 : decode prog_6_method_34_code 13 = .ok (.aload_n 0, 1) := by decide +kernel
theorem d_M_connect_14 : decode prog_6_method_34_code 14 = .ok (.getfield 47, 3) := by decide +kernel
theorem d_M_connect_17 : decode prog_6_method_34_code 17 = .ok (.ifCond .ge 7, 3) := by decide +kernel
theorem d_M_connect_20 : decode prog_6_method_34_code 20 = .ok (.iconst 2, 1) := by decide +kernel
theorem d_M_connect_21 : decode prog_6_method_34_code 21 = .ok (.goto 16, 3) := by decide +kernel
theorem d_M_connect_24 : decode prog_6_method_34_code 24 = .ok (.aload_n 0, 1) := by decide +kernel
theorem d_M_connect_25 : decode prog_6_method_34_code 25 = .ok (.iload_n 1, 1) := by decide +kernel
theorem d_M_connect_26 : decode prog_6_method_34_code 26 = .ok (.invokevirtual 120, 3) := by decide +kernel
theorem d_M_connect_29 : decode prog_6_method_34_code 29 = .ok (.ifCond .ge 7, 3) := by decide +kernel
theorem d_M_connect_32 : decode prog_6_method_34_code 32 = .ok (.iconst 2, 1) := by decide +kernel
theorem d_M_connect_33 : decode prog_6_method_34_code 33 = .ok (.goto 4, 3) := by decide +kernel
theorem d_M_connect_36 : decode prog_6_method_34_code 36 = .ok (.iconst 0, 1) := by decide +kernel
theorem d_M_connect_37 : decode prog_6_method_34_code 37 = .ok (.putfield 84, 3) := by decide +kernel
theorem d_M_connect_40 : decode prog_6_method_34_code 40 = .ok (.aload_n 0, 1) := by decide +kernel
theorem d_M_connect_41 : decode prog_6_method_34_code 41 = .ok (.getfield 84, 3) := by decide +kernel
theorem d_M_connect_44 : decode prog_6_method_34_code 44 = .ok (.ifCond .le 4, 3) := by decide +kernel
theorem d_M_connect_47 : decode prog_6_method_34_code 47 = .ok (.return_, 1) := by decide +kernel
theorem d_M_connect_48 : decode prog_6_method_34_code 48 = .ok (.aload_n 0, 1) := by decide +kernel
theorem d_M_connect_49 : decode prog_6_method_34_code 49 = .ok (.iload_n 1, 1) := by decide +kernel
theorem d_M_connect_50 : decode prog_6_method_34_code 50 = .ok (.invokevirtual 120, 3) := by decide +kernel
theorem d_M_connect_53 : decode prog_6_method_34_code 53 = .ok (.istore_n 2, 1) := by decide +kernel
theorem d_M_connect_54 : decode prog_6_method_34_code 54 = .ok (.aload_n 0, 1) := by decide +kernel
theorem d_M_connect_55 : decode prog_6_method_34_code 55 = .ok (.aload_n 0, 1) := by decide +kernel
theorem d_M_connect_56 : decode prog_6_method_34_code 56 = .ok (.getfield 32, 3) := by decide +kernel
theorem d_M_connect_59 : decode prog_6_method_34_code 59 = .ok (.aload_n 0, 1) := by decide +kernel
theorem d_M_connect_60 : decode prog_6_method_34_code 60 = .ok (.getfield 47, 3) := by decide +kernel
theorem d_M_connect_63 : decode prog_6_method_34_code 63 = .ok (.iaload, 1) := by decide +kernel
theorem d_M_connect_64 : decode prog_6_method_34_code 64 = .ok (.aload_n 0, 1) := by decide +kernel
theorem d_M_connect_65 : decode prog_6_method_34_code 65 = .ok (.getfield 16, 3) := by decide +kernel
theorem d_M_connect_68 : decode prog_6_method_34_code 68 = .ok (.iload_n 1, 1) := by decide +kernel
theorem d_M_connect_69 : decode prog_6_method_34_code 69 = .ok (.iaload, 1) := by decide +kernel
theorem d_M_connect_70 : decode prog_6_method_34_code 70 = .ok (.if_icmp .ne 42, 3) := by decide +kernel
theorem d_M_connect_73 : decode prog_6_method_34_code 73 = .ok (.aload_n 0, 1) := by decide +kernel
theorem d_M_connect_74 : decode prog_6_method_34_code 74 = .ok (.getfield 38, 3) := by decide +kernel
theorem d_M_connect_77 : decode prog_6_method_34_code 77 = .ok (.bipush 24, 2) := by decide +kernel
theorem d_M_connect_79 : decode prog_6_method_34_code 79 = .ok (.iload_n 1, 1) := by decide +kernel
theorem d_M_connect_80 : decode prog_6_method_34_code 80 = .ok (.imul, 1) := by decide +kernel
theorem d_M_connect_81 : decode prog_6_method_34_code 81 = .ok (.aload_n 0, 1) := by decide +kernel
theorem d_M_connect_82 : decode prog_6_method_34_code 82 = .ok (.getfield 47, 3) := by decide +kernel
theorem d_M_connect_85 : decode prog_6_method_34_code 85 = .ok (.iadd, 1) := by decide +kernel
theorem d_M_connect_86 : decode prog_6_method_34_code 86 = .ok (.iaload, 1) := by decide +kernel
theorem d_M_connect_87 : decode prog_6_method_34_code 87 = .ok (.ifCond .ge 25, 3) := by decide +kernel
theorem d_M_connect_90 : decode prog_6_method_34_code 90 = .ok (.aload_n 0, 1) := by decide +kernel
theorem d_M_connect_91 : decode prog_6_method_34_code 91 = .ok (.iload_n 1, 1) := by decide +kernel
theorem d_M_connect_92 : decode prog_6_method_34_code 92 = .ok (.iload_n 2, 1) := by decide +kernel
theorem d_M_connect_93 : decode prog_6_method_34_code 93 = .ok (.aload_n 0, 1) := by decide +kernel
theorem d_M_connect_94 : decode prog_6_method_34_code 94 = .ok (.getfield 47, 3) := by decide +kernel
theorem d_M_connect_97 : decode prog_6_method_34_code 97 = .ok (.aload_n 0, 1) := by decide +kernel
theorem d_M_connect_98 : decode prog_6_method_34_code 98 = .ok (.iload_n 1, 1) := by decide +kernel
theorem d_M_connect_99 : decode prog_6_method_34_code 99 = .ok (.aload_n 0, 1) := by decide +kernel
theorem d_M_connect_100 : decode prog_6_method_34_code 100 = .ok (.getfield 47, 3) := by decide +kernel
theorem d_M_connect_103 : decode prog_6_method_34_code 103 = .ok (.invokevirtual 160, 3) := by decide +kernel
theorem d_M_connect_106 : decode prog_6_method_34_code 106 = .ok (.invokevirtual 124, 3) := by decide +kernel
theorem d_M_connect_109 : decode prog_6_method_34_code 109 = .ok (.ifCond .eq 7, 3) := by decide +kernel
theorem d_M_connect_112 : decode prog_6_method_34_code 112 = .ok (.iconst 3, 1) := by decide +kernel
theorem d_M_connect_113 : decode prog_6_method_34_code 113 = .ok (.goto 4, 3) := by decide +kernel
theorem d_M_connect_116 : decode prog_6_method_34_code 116 = .ok (.iconst 0, 1) := by decide +kernel
theorem d_M_connect_117 : decode prog_6_method_34_code 117 = .ok (.putfield 84, 3) := by decide +kernel
theorem d_M_connect_120 : decode prog_6_method_34_code 120 = .ok (.aload_n 0, 1) := by decide +kernel
theorem d_M_connect_121 : decode prog_6_method_34_code 121 = .ok (.getfield 84, 3) := by decide +kernel
theorem d_M_connect_124 : decode prog_6_method_34_code 124 = .ok (.ifCond .ne 22, 3) := by decide +kernel
theorem d_M_connect_127 : decode prog_6_method_34_code 127 = .ok (.aload_n 0, 1) := by decide +kernel
theorem d_M_connect_128 : decode prog_6_method_34_code 128 = .ok (.iload_n 1, 1) := by decide +kernel
theorem d_M_connect_129 : decode prog_6_method_34_code 129 = .ok (.iload_n 2, 1) := by decide +kernel
theorem d_M_connect_130 : decode prog_6_method_34_code 130 = .ok (.aload_n 0, 1) := by decide +kernel
theorem d_M_connect_131 : decode prog_6_method_34_code 131 = .ok (.getfield 47, 3) := by decide +kernel
theorem d_M_connect_134 : decode prog_6_method_34_code 134 = .ok (.invokevirtual 131, 3) := by decide +kernel
theorem d_M_connect_137 : decode prog_6_method_34_code 137 = .ok (.aload_n 0, 1) := by decide +kernel
theorem d_M_connect_138 : decode prog_6_method_34_code 138 = .ok (.aload_n 0, 1) := by decide +kernel
theorem d_M_connect_139 : decode prog_6_method_34_code 139 = .ok (.getfield 47, 3) := by decide +kernel
theorem d_M_connect_142 : decode prog_6_method_34_code 142 = .ok (.iconst 0, 1) := by decide +kernel
theorem d_M_connect_143 : decode prog_6_method_34_code 143 = .ok (.invokevirtual 135, 3) := by decide +kernel
theorem d_M_connect_146 : decode prog_6_method_34_code 146 = .ok (.return_, 1) := by decide +kernel
theorem d_M_valueIn_0 : decode prog_6_method_33_code 0 = .ok (.aload_n 0, 1) := by decide +kernel
theorem d_M_valueIn_1 : decode prog_6_method_33_code 1 = .ok (.getfield 19, 3) := by decide +kernel
theorem d_M_valueIn_4 : decode prog_6_method_33_code 4 = .ok (.iload_n 1, 1) := by decide +kernel
theorem d_M_valueIn_5 : decode prog_6_method_33_code 5 = .ok (.iaload, 1) := by decide +kernel
theorem d_M_valueIn_6 : decode prog_6_method_33_code 6 = .ok (.bipush 10, 2) := by decide +kernel
theorem d_M_valueIn_8 : decode prog_6_method_33_code 8 = .ok (.if_icmp .ge 7, 3) := by decide +kernel
theorem d_M_valueIn_11 : decode prog_6_method_33_code 11 = .ok (.iconst 0, 1) := by decide +kernel
theorem d_M_valueIn_12 : decode prog_6_method_33_code 12 = .ok (.goto 21, 3) := by decide +kernel
theorem d_M_valueIn_15 : decode prog_6_method_33_code 15 = .ok (.aload_n 0, 1) := by decide +kernel
theorem d_M_valueIn_16 : decode prog_6_method_33_code 16 = .ok (.getfield 35, 3) := by decide +kernel
theorem d_M_valueIn_19 : decode prog_6_method_33_code 19 = .ok (.iconst 3, 1) := by decide +kernel
theorem d_M_valueIn_20 : decode prog_6_method_33_code 20 = .ok (.iload_n 2, 1) := by decide +kernel
theorem d_M_valueIn_21 : decode prog_6_method_33_code 21 = .ok (.imul, 1) := by decide +kernel
theorem d_M_valueIn_22 : decode prog_6_method_33_code 22 = .ok (.aload_n 0, 1) := by decide +kernel
theorem d_M_valueIn_23 : decode prog_6_method_33_code 23 = .ok (.getfield 19, 3) := by decide +kernel
theorem d_M_valueIn_26 : decode prog_6_method_33_code 26 = .ok (.iload_n 1, 1) := by decide +kernel
theorem d_M_valueIn_27 : decode prog_6_method_33_code 27 = .ok (.iaload, 1) := by decide +kernel
theorem d_M_valueIn_28 : decode prog_6_method_33_code 28 = .ok (.bipush 10, 2) := by decide +kernel
theorem d_M_valueIn_30 : decode prog_6_method_33_code 30 = .ok (.irem, 1) := by decide +kernel
theorem d_M_valueIn_31 : decode prog_6_method_33_code 31 = .ok (.iadd, 1) := by decide +kernel
theorem d_M_valueIn_32 : decode prog_6_method_33_code 32 = .ok (.iaload, 1) := by decide +kernel
theorem d_M_valueIn_33 : decode prog_6_method_33_code 33 = .ok (.ireturn, 1) := by decide +kernel
theorem d_M_disconnect_0 : decode prog_6_method_35_code 0 = .ok (.aload_n 0, 1) := by decide +kernel
theorem d_M_disconnect_1 : decode prog_6_method_35_code 1 = .ok (.aload_n 0, 1) := by decide +kernel
theorem d_M_disconnect_2 : decode prog_6_method_35_code 2 = .ok (.iload_n 1, 1) := by decide +kernel
theorem d_M_disconnect_3 : decode prog_6_method_35_code 3 = .ok (.invokevirtual 148, 3) := by decide +kernel
theorem d_M_disconnect_6 : decode prog_6_method_35_code 6 = .ok (.ifCond .ne 7, 3) := by decide +kernel
theorem d_M_disconnect_9 : decode prog_6_method_35_code 9 = .ok (.iconst 1, 1) := by decide +kernel
theorem d_M_disconnect_10 : decode prog_6_method_35_code 10 = .ok (.goto 48, 3) := by decide +kernel
theorem d_M_disconnect_13 : decode prog_6_method_35_code 13 = .ok (.aload_n 0, 1) := by decide +kernel
theorem d_M_disconnect_14 : decode prog_6_method_35_code 14 = .ok (.getfield 47, 3) := by decide +kernel
theorem d_M_disconnect_17 : decode prog_6_method_35_code 17 = .ok (.ifCond .ge 7, 3) := by decide +kernel
theorem d_M_disconnect_20 : decode prog_6_method_35_code 20 = .ok (.iconst 2, 1) := by decide +kernel
theorem d_M_disconnect_21 : decode prog_6_method_35_code 21 = .ok (.goto 37, 3) := by decide +kernel
theorem d_M_disconnect_24 : decode prog_6_method_35_code 24 = .ok (.aload_n 0, 1) := by decide +kernel
theorem d_M_disconnect_25 : decode prog_6_method_35_code 25 = .ok (.getfield 38, 3) := by decide +kernel
theorem d_M_disconnect_28 : decode prog_6_method_35_code 28 = .ok (.bipush 24, 2) := by decide +kernel
theorem d_M_disconnect_30 : decode prog_6_method_35_code 30 = .ok (.iload_n 1, 1) := by decide +kernel
theorem d_M_disconnect_31 : decode prog_6_method_35_code 31 = .ok (.imul, 1) := by decide +kernel
theorem d_M_disconnect_32 : decode prog_6_method_35_code 32 = .ok (.aload_n 0, 1) := by decide +kernel
theorem d_M_disconnect_33 : decode prog_6_method_35_code 33 = .ok (.getfield 47, 3) := by decide +kernel
theorem d_M_disconnect_36 : decode prog_6_method_35_code 36 = .ok (.iadd, 1) := by decide +kernel
theorem d_M_disconnect_37 : decode prog_6_method_35_code 37 = .ok (.iaload, 1) := by decide +kernel
theorem d_M_disconnect_38 : decode prog_6_method_35_code 38 = .ok (.ifCond .lt 15, 3) := by decide +kernel
theorem d_M_disconnect_41 : decode prog_6_method_35_code 41 = .ok (.aload_n 0, 1) := by decide +kernel
theorem d_M_disconnect_42 : decode prog_6_method_35_code 42 = .ok (.getfield 22, 3) := by decide +kernel
theorem d_M_disconnect_45 : decode prog_6_method_35_code 45 = .ok (.iload_n 1, 1) := by decide +kernel
theorem d_M_disconnect_46 : decode prog_6_method_35_code 46 = .ok (.iaload, 1) := by decide +kernel
theorem d_M_disconnect_47 : decode prog_6_method_35_code 47 = .ok (.iconst 3, 1) := by decide +kernel
theorem d_M_disconnect_48 : decode prog_6_method_35_code 48 = .ok (.irem, 1) := by decide +kernel
theorem d_M_disconnect_49 : decode prog_6_method_35_code 49 = .ok (.iconst 2, 1) := by decide +kernel
theorem d_M_disconnect_50 : decode prog_6_method_35_code 50 = .ok (.if_icmp .eq 7, 3) := by decide +kernel
theorem d_M_disconnect_53 : decode prog_6_method_35_code 53 = .ok (.iconst 3, 1) := by decide +kernel
theorem d_M_disconnect_54 : decode prog_6_method_35_code 54 = .ok (.goto 4, 3) := by decide +kernel
theorem d_M_disconnect_57 : decode prog_6_method_35_code 57 = .ok (.iconst 0, 1) := by decide +kernel
theorem d_M_disconnect_58 : decode prog_6_method_35_code 58 = .ok (.putfield 84, 3) := by decide +kernel
theorem d_M_disconnect_61 : decode prog_6_method_35_code 61 = .ok (.aload_n 0, 1) := by decide +kernel
theorem d_M_disconnect_62 : decode prog_6_method_35_code 62 = .ok (.getfield 84, 3) := by decide +kernel
theorem d_M_disconnect_65 : decode prog_6_method_35_code 65 = .ok (.ifCond .le 4, 3) := by decide +kernel
theorem d_M_disconnect_68 : decode prog_6_method_35_code 68 = .ok (.return_, 1) := by decide +kernel
theorem d_M_disconnect_69 : decode prog_6_method_35_code 69 = .ok (.aload_n 0, 1) := by decide +kernel
theorem d_M_disconnect_70 : decode prog_6_method_35_code 70 = .ok (.getfield 53, 3) := by decide +kernel
theorem d_M_disconnect_73 : decode prog_6_method_35_code 73 = .ok (.iload_n 1, 1) := by decide +kernel
theorem d_M_disconnect_74 : decode prog_6_method_35_code 74 = .ok (.iaload, 1) := by decide +kernel
theorem d_M_disconnect_75 : decode prog_6_method_35_code 75 = .ok (.aload_n 0, 1) := by decide +kernel
theorem d_M_disconnect_76 : decode prog_6_method_35_code 76 = .ok (.getfield 47, 3) := by decide +kernel
theorem d_M_disconnect_79 : decode prog_6_method_35_code 79 = .ok (.if_icmp .ne 52, 3) := by decide +kernel
theorem d_M_disconnect_82 : decode prog_6_method_35_code 82 = .ok (.aload_n 0, 1) := by decide +kernel
theorem d_M_disconnect_83 : decode prog_6_method_35_code 83 = .ok (.getfield 38, 3) := by decide +kernel
theorem d_M_disconnect_86 : decode prog_6_method_35_code 86 = .ok (.bipush 24, 2) := by decide +kernel
theorem d_M_disconnect_88 : decode prog_6_method_35_code 88 = .ok (.iload_n 1, 1) := by decide +kernel
theorem d_M_disconnect_89 : decode prog_6_method_35_code 89 = .ok (.imul, 1) := by decide +kernel
theorem d_M_disconnect_90 : decode prog_6_method_35_code 90 = .ok (.aload_n 0, 1) := by decide +kernel
theorem d_M_disconnect_91 : decode prog_6_method_35_code 91 = .ok (.getfield 47, 3) := by decide +kernel
theorem d_M_disconnect_94 : decode prog_6_method_35_code 94 = .ok (.iadd, 1) := by decide +kernel
theorem d_M_disconnect_95 : decode prog_6_method_35_code 95 = .ok (.iaload, 1) := by decide +kernel
theorem d_M_disconnect_96 : decode prog_6_method_35_code 96 = .ok (.istore_n 2, 1) := by decide +kernel
theorem d_M_disconnect_97 : decode prog_6_method_35_code 97 = .ok (.aload_n 0, 1) := by decide +kernel
theorem d_M_disconnect_98 : decode prog_6_method_35_code 98 = .ok (.iload_n 1, 1) := by decide +kernel
theorem d_M_disconnect_99 : decode prog_6_method_35_code 99 = .ok (.iload_n 2, 1) := by decide +kernel
theorem d_M_disconnect_100 : decode prog_6_method_35_code 100 = .ok (.aload_n 0, 1) := by decide +kernel
theorem d_M_disconnect_101 : decode prog_6_method_35_code 101 = .ok (.iload_n 1, 1) := by decide +kernel
theorem d_M_disconnect_102 : decode prog_6_method_35_code 102 = .ok (.aload_n 0, 1) := by decide +kernel
theorem d_M_disconnect_103 : decode prog_6_method_35_code 103 = .ok (.getfield 47, 3) := by decide +kernel
theorem d_M_disconnect_106 : decode prog_6_method_35_code 106 = .ok (.invokevirtual 109, 3) := by decide +kernel
theorem d_M_disconnect_109 : decode prog_6_method_35_code 109 = .ok (.iconst 1, 1) := by decide +kernel
theorem d_M_disconnect_110 : decode prog_6_method_35_code 110 = .ok (.isub, 1) := by decide +kernel
theorem d_M_disconnect_111 : decode prog_6_method_35_code 111 = .ok (.iconst (-1), 1) := by decide +kernel
theorem d_M_disconnect_112 : decode prog_6_method_35_code 112 = .ok (.invokevirtual 105, 3) := by decide +kernel
theorem d_M_disconnect_115 : decode prog_6_method_35_code 115 = .ok (.istore_n 3, 1) := by decide +kernel
theorem d_M_disconnect_116 : decode prog_6_method_35_code 116 = .ok (.aload_n 0, 1) := by decide +kernel
theorem d_M_disconnect_117 : decode prog_6_method_35_code 117 = .ok (.getfield 53, 3) := by decide +kernel
theorem d_M_disconnect_120 : decode prog_6_method_35_code 120 = .ok (.iload_n 1, 1) := by decide +kernel
theorem d_M_disconnect_121 : decode prog_6_method_35_code 121 = .ok (.iload_n 3, 1) := by decide +kernel
theorem d_M_disconnect_122 : decode prog_6_method_35_code 122 = .ok (.ifCond .ge 7, 3) := by decide +kernel
theorem d_M_disconnect_125 : decode prog_6_method_35_code 125 = .ok (.iload_n 2, 1) := by decide +kernel
theorem d_M_disconnect_126 : decode prog_6_method_35_code 126 = .ok (.goto 4, 3) := by decide +kernel
theorem d_M_disconnect_129 : decode prog_6_method_35_code 129 = .ok (.iload_n 3, 1) := by decide +kernel
theorem d_M_disconnect_130 : decode prog_6_method_35_code 130 = .ok (.iastore, 1) := by decide +kernel
theorem d_M_disconnect_131 : decode prog_6_method_35_code 131 = .ok (.aload_n 0, 1) := by decide +kernel
theorem d_M_disconnect_132 : decode prog_6_method_35_code 132 = .ok (.iload_n 1, 1) := by decide +kernel
theorem d_M_disconnect_133 : decode prog_6_method_35_code 133 = .ok (.aload_n 0, 1) := by decide +kernel
theorem d_M_disconnect_134 : decode prog_6_method_35_code 134 = .ok (.getfield 47, 3) := by decide +kernel
theorem d_M_disconnect_137 : decode prog_6_method_35_code 137 = .ok (.invokevirtual 157, 3) := by decide +kernel
theorem d_M_disconnect_140 : decode prog_6_method_35_code 140 = .ok (.return_, 1) := by decide +kernel
theorem d_M_reconnect_0 : decode prog_6_method_36_code 0 = .ok (.aload_n 0, 1) := by decide +kernel
theorem d_M_reconnect_1 : decode prog_6_method_36_code 1 = .ok (.aload_n 0, 1) := by decide +kernel
theorem d_M_reconnect_2 : decode prog_6_method_36_code 2 = .ok (.iload_n 1, 1) := by decide +kernel
theorem d_M_reconnect_3 : decode prog_6_method_36_code 3 = .ok (.invokevirtual 148, 3) := by decide +kernel
theorem d_M_reconnect_6 : decode prog_6_method_36_code 6 = .ok (.ifCond .ne 7, 3) := by decide +kernel
theorem d_M_reconnect_9 : decode prog_6_method_36_code 9 = .ok (.iconst 1, 1) := by decide +kernel
theorem d_M_reconnect_10 : decode prog_6_method_36_code 10 = .ok (.goto 27, 3) := by decide +kernel
theorem d_M_reconnect_13 : decode prog_6_method_36_code 13 = .ok (.aload_n 0, 1) := by decide +kernel
theorem d_M_reconnect_14 : decode prog_6_method_36_code 14 = .ok (.getfield 47, 3) := by decide +kernel
theorem d_M_reconnect_17 : decode prog_6_method_36_code 17 = .ok (.ifCond .ge 7, 3) := by decide +kernel
theorem d_M_reconnect_20 : decode prog_6_method_36_code 20 = .ok (.iconst 2, 1) := by decide +kernel
theorem d_M_reconnect_21 : decode prog_6_method_36_code 21 = .ok (.goto 16, 3) := by decide +kernel
theorem d_M_reconnect_24 : decode prog_6_method_36_code 24 = .ok (.aload_n 0, 1) := by decide +kernel
theorem d_M_reconnect_25 : decode prog_6_method_36_code 25 = .ok (.iload_n 1, 1) := by decide +kernel
theorem d_M_reconnect_26 : decode prog_6_method_36_code 26 = .ok (.invokevirtual 120, 3) := by decide +kernel
theorem d_M_reconnect_29 : decode prog_6_method_36_code 29 = .ok (.ifCond .ge 7, 3) := by decide +kernel
theorem d_M_reconnect_32 : decode prog_6_method_36_code 32 = .ok (.iconst 2, 1) := by decide +kernel
theorem d_M_reconnect_33 : decode prog_6_method_36_code 33 = .ok (.goto 4, 3) := by decide +kernel
theorem d_M_reconnect_36 : decode prog_6_method_36_code 36 = .ok (.iconst 0, 1) := by decide +kernel
theorem d_M_reconnect_37 : decode prog_6_method_36_code 37 = .ok (.putfield 84, 3) := by decide +kernel
theorem d_M_reconnect_40 : decode prog_6_method_36_code 40 = .ok (.aload_n 0, 1) := by decide +kernel
theorem d_M_reconnect_41 : decode prog_6_method_36_code 41 = .ok (.getfield 84, 3) := by decide +kernel
theorem d_M_reconnect_44 : decode prog_6_method_36_code 44 = .ok (.ifCond .le 4, 3) := by decide +kernel
theorem d_M_reconnect_47 : decode prog_6_method_36_code 47 = .ok (.return_, 1) := by decide +kernel
theorem d_M_reconnect_48 : decode prog_6_method_36_code 48 = .ok (.aload_n 0, 1) := by decide +kernel
theorem d_M_reconnect_49 : decode prog_6_method_36_code 49 = .ok (.iload_n 1, 1) := by decide +kernel
theorem d_M_reconnect_50 : decode prog_6_method_36_code 50 = .ok (.invokevirtual 120, 3) := by decide +kernel
theorem d_M_reconnect_53 : decode prog_6_method_36_code 53 = .ok (.istore_n 2, 1) := by decide +kernel
theorem d_M_reconnect_54 : decode prog_6_method_36_code 54 = .ok (.aload_n 0, 1) := by decide +kernel
theorem d_M_reconnect_55 : decode prog_6_method_36_code 55 = .ok (.aload_n 0, 1) := by decide +kernel
theorem d_M_reconnect_56 : decode prog_6_method_36_code 56 = .ok (.getfield 38, 3) := by decide +kernel
theorem d_M_reconnect_59 : decode prog_6_method_36_code 59 = .ok (.bipush 24, 2) := by decide +kernel
theorem d_M_reconnect_61 : decode prog_6_method_36_code 61 = .ok (.iload_n 1, 1) := by decide +kernel
theorem d_M_reconnect_62 : decode prog_6_method_36_code 62 = .ok (.imul, 1) := by decide +kernel
theorem d_M_reconnect_63 : decode prog_6_method_36_code 63 = .ok (.aload_n 0, 1) := by decide +kernel
theorem d_M_reconnect_64 : decode prog_6_method_36_code 64 = .ok (.getfield 47, 3) := by decide +kernel
theorem d_M_reconnect_67 : decode prog_6_method_36_code 67 = .ok (.iadd, 1) := by decide +kernel
theorem d_M_reconnect_68 : decode prog_6_method_36_code 68 = .ok (.iaload, 1) := by decide +kernel
theorem d_M_reconnect_69 : decode prog_6_method_36_code 69 = .ok (.ifCond .lt 36, 3) := by decide +kernel
theorem d_M_reconnect_72 : decode prog_6_method_36_code 72 = .ok (.aload_n 0, 1) := by decide +kernel
theorem d_M_reconnect_73 : decode prog_6_method_36_code 73 = .ok (.getfield 22, 3) := by decide +kernel
theorem d_M_reconnect_76 : decode prog_6_method_36_code 76 = .ok (.iload_n 1, 1) := by decide +kernel
theorem d_M_reconnect_77 : decode prog_6_method_36_code 77 = .ok (.iaload, 1) := by decide +kernel
theorem d_M_reconnect_78 : decode prog_6_method_36_code 78 = .ok (.iconst 3, 1) := by decide +kernel
theorem d_M_reconnect_79 : decode prog_6_method_36_code 79 = .ok (.irem, 1) := by decide +kernel
theorem d_M_reconnect_80 : decode prog_6_method_36_code 80 = .ok (.ifCond .eq 25, 3) := by decide +kernel
theorem d_M_reconnect_83 : decode prog_6_method_36_code 83 = .ok (.aload_n 0, 1) := by decide +kernel
theorem d_M_reconnect_84 : decode prog_6_method_36_code 84 = .ok (.iload_n 1, 1) := by decide +kernel
theorem d_M_reconnect_85 : decode prog_6_method_36_code 85 = .ok (.iload_n 2, 1) := by decide +kernel
theorem d_M_reconnect_86 : decode prog_6_method_36_code 86 = .ok (.aload_n 0, 1) := by decide +kernel
theorem d_M_reconnect_87 : decode prog_6_method_36_code 87 = .ok (.getfield 47, 3) := by decide +kernel
theorem d_M_reconnect_90 : decode prog_6_method_36_code 90 = .ok (.aload_n 0, 1) := by decide +kernel
theorem d_M_reconnect_91 : decode prog_6_method_36_code 91 = .ok (.iload_n 1, 1) := by decide +kernel
theorem d_M_reconnect_92 : decode prog_6_method_36_code 92 = .ok (.aload_n 0, 1) := by decide +kernel
theorem d_M_reconnect_93 : decode prog_6_method_36_code 93 = .ok (.getfield 47, 3) := by decide +kernel
theorem d_M_reconnect_96 : decode prog_6_method_36_code 96 = .ok (.invokevirtual 160, 3) := by decide +kernel
theorem d_M_reconnect_99 : decode prog_6_method_36_code 99 = .ok (.invokevirtual 124, 3) := by decide +kernel
theorem d_M_reconnect_102 : decode prog_6_method_36_code 102 = .ok (.ifCond .eq 7, 3) := by decide +kernel
theorem d_M_reconnect_105 : decode prog_6_method_36_code 105 = .ok (.iconst 3, 1) := by decide +kernel
theorem d_M_reconnect_106 : decode prog_6_method_36_code 106 = .ok (.goto 4, 3) := by decide +kernel
theorem d_M_reconnect_109 : decode prog_6_method_36_code 109 = .ok (.iconst 0, 1) := by decide +kernel
theorem d_M_reconnect_110 : decode prog_6_method_36_code 110 = .ok (.putfield 84, 3) := by decide +kernel
theorem d_M_reconnect_113 : decode prog_6_method_36_code 113 = .ok (.aload_n 0, 1) := by decide +kernel
theorem d_M_reconnect_114 : decode prog_6_method_36_code 114 = .ok (.getfield 84, 3) := by decide +kernel
theorem d_M_reconnect_117 : decode prog_6_method_36_code 117 = .ok (.ifCond .ne 31, 3) := by decide +kernel
theorem d_M_reconnect_120 : decode prog_6_method_36_code 120 = .ok (.aload_n 0, 1) := by decide +kernel
theorem d_M_reconnect_121 : decode prog_6_method_36_code 121 = .ok (.iload_n 1, 1) := by decide +kernel
theorem d_M_reconnect_122 : decode prog_6_method_36_code 122 = .ok (.aload_n 0, 1) := by decide +kernel
theorem d_M_reconnect_123 : decode prog_6_method_36_code 123 = .ok (.getfield 47, 3) := by decide +kernel
theorem d_M_reconnect_126 : decode prog_6_method_36_code 126 = .ok (.invokevirtual 157, 3) := by decide +kernel
theorem d_M_reconnect_129 : decode prog_6_method_36_code 129 = .ok (.aload_n 0, 1) := by decide +kernel
theorem d_M_reconnect_130 : decode prog_6_method_36_code 130 = .ok (.iload_n 1, 1) := by decide +kernel
theorem d_M_reconnect_131 : decode prog_6_method_36_code 131 = .ok (.iload_n 2, 1) := by decide +kernel
theorem d_M_reconnect_132 : decode prog_6_method_36_code 132 = .ok (.aload_n 0, 1) := by decide +kernel
theorem d_M_reconnect_133 : decode prog_6_method_36_code 133 = .ok (.getfield 47, 3) := by decide +kernel
theorem d_M_reconnect_136 : decode prog_6_method_36_code 136 = .ok (.invokevirtual 131, 3) := by decide +kernel
theorem d_M_reconnect_139 : decode prog_6_method_36_code 139 = .ok (.aload_n 0, 1) := by decide +kernel
theorem d_M_reconnect_140 : decode prog_6_method_36_code 140 = .ok (.aload_n 0, 1) := by decide +kernel
theorem d_M_reconnect_141 : decode prog_6_method_36_code 141 = .ok (.getfield 47, 3) := by decide +kernel
theorem d_M_reconnect_144 : decode prog_6_method_36_code 144 = .ok (.iconst 0, 1) := by decide +kernel
theorem d_M_reconnect_145 : decode prog_6_method_36_code 145 = .ok (.invokevirtual 135, 3) := by decide +kernel
theorem d_M_reconnect_148 : decode prog_6_method_36_code 148 = .ok (.return_, 1) := by decide +kernel
theorem d_M_erase_0 : decode prog_6_method_42_code 0 = .ok (.aload_n 0, 1) := by decide +kernel
theorem d_M_erase_1 : decode prog_6_method_42_code 1 = .ok (.iload_n 1, 1) := by decide +kernel
theorem d_M_erase_2 : decode prog_6_method_42_code 2 = .ok (.ifCond .lt 8, 3) := by decide +kernel
theorem d_M_erase_5 : decode prog_6_method_42_code 5 = .ok (.iload_n 1, 1) := by decide +kernel
theorem d_M_erase_6 : decode prog_6_method_42_code 6 = .ok (.iconst 3, 1) := by decide +kernel
theorem d_M_erase_7 : decode prog_6_method_42_code 7 = .ok (.if_icmp .le 7, 3) := by decide +kernel
theorem d_M_erase_10 : decode prog_6_method_42_code 10 = .ok (.iconst 1, 1) := by decide +kernel
theorem d_M_erase_11 : decode prog_6_method_42_code 11 = .ok (.goto 34, 3) := by decide +kernel
theorem d_M_erase_14 : decode prog_6_method_42_code 14 = .ok (.aload_n 0, 1) := by decide +kernel
theorem d_M_erase_15 : decode prog_6_method_42_code 15 = .ok (.getfield 47, 3) := by decide +kernel
theorem d_M_erase_18 : decode prog_6_method_42_code 18 = .ok (.ifCond .ge 7, 3) := by decide +kernel
theorem d_M_erase_21 : decode prog_6_method_42_code 21 = .ok (.iconst 2, 1) := by decide +kernel
theorem d_M_erase_22 : decode prog_6_method_42_code 22 = .ok (.goto 23, 3) := by decide +kernel
theorem d_M_erase_25 : decode prog_6_method_42_code 25 = .ok (.iload_n 1, 1) := by decide +kernel
theorem d_M_erase_26 : decode prog_6_method_42_code 26 = .ok (.ifCond .ne 18, 3) := by decide +kernel
theorem d_M_erase_29 : decode prog_6_method_42_code 29 = .ok (.aload_n 0, 1) := by decide +kernel
theorem d_M_erase_30 : decode prog_6_method_42_code 30 = .ok (.aload_n 0, 1) := by decide +kernel
theorem d_M_erase_31 : decode prog_6_method_42_code 31 = .ok (.getfield 47, 3) := by decide +kernel
theorem d_M_erase_34 : decode prog_6_method_42_code 34 = .ok (.invokevirtual 166, 3) := by decide +kernel
theorem d_M_erase_37 : decode prog_6_method_42_code 37 = .ok (.ifCond .le 7, 3) := by decide +kernel
theorem d_M_erase_40 : decode prog_6_method_42_code 40 = .ok (.iconst 3, 1) := by decide +kernel
theorem d_M_erase_41 : decode prog_6_method_42_code 41 = .ok (.goto 4, 3) := by decide +kernel
theorem d_M_erase_44 : decode prog_6_method_42_code 44 = .ok (.iconst 0, 1) := by decide +kernel
theorem d_M_erase_45 : decode prog_6_method_42_code 45 = .ok (.putfield 84, 3) := by decide +kernel
theorem d_M_erase_48 : decode prog_6_method_42_code 48 = .ok (.aload_n 0, 1) := by decide +kernel
theorem d_M_erase_49 : decode prog_6_method_42_code 49 = .ok (.getfield 84, 3) := by decide +kernel
theorem d_M_erase_52 : decode prog_6_method_42_code 52 = .ok (.ifCond .le 5, 3) := by decide +kernel
theorem d_M_erase_55 : decode prog_6_method_42_code 55 = .ok (.iconst 0, 1) := by decide +kernel
theorem d_M_erase_56 : decode prog_6_method_42_code 56 = .ok (.ireturn, 1) := by decide +kernel
theorem d_M_erase_57 : decode prog_6_method_42_code 57 = .ok (.iconst 0, 1) := by decide +kernel
theorem d_M_erase_58 : decode prog_6_method_42_code 58 = .ok (.istore_n 2, 1) := by decide +kernel
theorem d_M_erase_59 : decode prog_6_method_42_code 59 = .ok (.iload_n 2, 1) := by decide +kernel
theorem d_M_erase_60 : decode prog_6_method_42_code 60 = .ok (.bipush 24, 2) := by decide +kernel
theorem d_M_erase_62 : decode prog_6_method_42_code 62 = .ok (.if_icmp .ge 28, 3) := by decide +kernel
theorem d_M_erase_65 : decode prog_6_method_42_code 65 = .ok (.aload_n 0, 1) := by decide +kernel
theorem d_M_erase_66 : decode prog_6_method_42_code 66 = .ok (.getfield 56, 3) := by decide +kernel
theorem d_M_erase_69 : decode prog_6_method_42_code 69 = .ok (.iload_n 2, 1) := by decide +kernel
theorem d_M_erase_70 : decode prog_6_method_42_code 70 = .ok (.iload_n 2, 1) := by decide +kernel
theorem d_M_erase_71 : decode prog_6_method_42_code 71 = .ok (.aload_n 0, 1) := by decide +kernel
theorem d_M_erase_72 : decode prog_6_method_42_code 72 = .ok (.getfield 47, 3) := by decide +kernel
theorem d_M_erase_75 : decode prog_6_method_42_code 75 = .ok (.if_icmp .ne 7, 3) := by decide +kernel
theorem d_M_erase_78 : decode prog_6_method_42_code 78 = .ok (.iconst 1, 1) := by decide +kernel
theorem d_M_erase_79 : decode prog_6_method_42_code 79 = .ok (.goto 4, 3) := by decide +kernel
theorem d_M_erase_82 : decode prog_6_method_42_code 82 = .ok (.iconst 0, 1) := by decide +kernel
theorem d_M_erase_83 : decode prog_6_method_42_code 83 = .ok (.bastore, 1) := by decide +kernel
theorem d_M_erase_84 : decode prog_6_method_42_code 84 = .ok (.iinc 2 1, 3) := by decide +kernel
theorem d_M_erase_87 : decode prog_6_method_42_code 87 = .ok (.goto (-28), 3) := by decide +kernel
theorem d_M_erase_90 : decode prog_6_method_42_code 90 = .ok (.aload_n 0, 1) := by decide +kernel
theorem d_M_erase_91 : decode prog_6_method_42_code 91 = .ok (.iload_n 1, 1) := by decide +kernel
theorem d_M_erase_92 : decode prog_6_method_42_code 92 = .ok (.invokevirtual 169, 3) := by decide +kernel
theorem d_M_erase_95 : decode prog_6_method_42_code 95 = .ok (.aload_n 0, 1) := by decide +kernel
theorem d_M_erase_96 : decode prog_6_method_42_code 96 = .ok (.iload_n 1, 1) := by decide +kernel
theorem d_M_erase_97 : decode prog_6_method_42_code 97 = .ok (.iconst 1, 1) := by decide +kernel
theorem d_M_erase_98 : decode prog_6_method_42_code 98 = .ok (.if_icmp .ne 14, 3) := by decide +kernel
theorem d_M_erase_101 : decode prog_6_method_42_code 101 = .ok (.aload_n 0, 1) := by decide +kernel
theorem d_M_erase_102 : decode prog_6_method_42_code 102 = .ok (.invokevirtual 173, 3) := by decide +kernel
theorem d_M_erase_105 : decode prog_6_method_42_code 105 = .ok (.ifCond .eq 7, 3) := by decide +kernel
theorem d_M_erase_108 : decode prog_6_method_42_code 108 = .ok (.iconst 3, 1) := by decide +kernel
theorem d_M_erase_109 : decode prog_6_method_42_code 109 = .ok (.goto 4, 3) := by decide +kernel
theorem d_M_erase_112 : decode prog_6_method_42_code 112 = .ok (.iconst 0, 1) := by decide +kernel
theorem d_M_erase_113 : decode prog_6_method_42_code 113 = .ok (.putfield 84, 3) := by decide +kernel
theorem d_M_erase_116 : decode prog_6_method_42_code 116 = .ok (.aload_n 0, 1) := by decide +kernel
theorem d_M_erase_117 : decode prog_6_method_42_code 117 = .ok (.getfield 84, 3) := by decide +kernel
theorem d_M_erase_120 : decode prog_6_method_42_code 120 = .ok (.ifCond .le 5, 3) := by decide +kernel
theorem d_M_erase_123 : decode prog_6_method_42_code 123 = .ok (.iconst 0, 1) := by decide +kernel
theorem d_M_erase_124 : decode prog_6_method_42_code 124 = .ok (.ireturn, 1) := by decide +kernel
theorem d_M_erase_125 : decode prog_6_method_42_code 125 = .ok (.iconst 0, 1) := by decide +kernel
theorem d_M_erase_126 : decode prog_6_method_42_code 126 = .ok (.istore_n 2, 1) := by decide +kernel
theorem d_M_erase_127 : decode prog_6_method_42_code 127 = .ok (.iload_n 2, 1) := by decide +kernel
theorem d_M_erase_128 : decode prog_6_method_42_code 128 = .ok (.aload_n 0, 1) := by decide +kernel
theorem d_M_erase_129 : decode prog_6_method_42_code 129 = .ok (.getfield 90, 3) := by decide +kernel
theorem d_M_erase_132 : decode prog_6_method_42_code 132 = .ok (.if_icmp .ge 20, 3) := by decide +kernel
theorem d_M_erase_135 : decode prog_6_method_42_code 135 = .ok (.aload_n 0, 1) := by decide +kernel
theorem d_M_erase_136 : decode prog_6_method_42_code 136 = .ok (.getfield 53, 3) := by decide +kernel
theorem d_M_erase_139 : decode prog_6_method_42_code 139 = .ok (.iload_n 2, 1) := by decide +kernel
theorem d_M_erase_140 : decode prog_6_method_42_code 140 = .ok (.aload_n 0, 1) := by decide +kernel
theorem d_M_erase_141 : decode prog_6_method_42_code 141 = .ok (.iload_n 2, 1) := by decide +kernel
theorem d_M_erase_142 : decode prog_6_method_42_code 142 = .ok (.invokevirtual 177, 3) := by decide +kernel
theorem d_M_erase_145 : decode prog_6_method_42_code 145 = .ok (.iastore, 1) := by decide +kernel
theorem d_M_erase_146 : decode prog_6_method_42_code 146 = .ok (.iinc 2 1, 3) := by decide +kernel
theorem d_M_erase_149 : decode prog_6_method_42_code 149 = .ok (.goto (-22), 3) := by decide +kernel
theorem d_M_erase_152 : decode prog_6_method_42_code 152 = .ok (.iconst 0, 1) := by decide +kernel
theorem d_M_erase_153 : decode prog_6_method_42_code 153 = .ok (.istore_n 2, 1) := by decide +kernel
theorem d_M_erase_154 : decode prog_6_method_42_code 154 = .ok (.iload_n 2, 1) := by decide +kernel
theorem d_M_erase_155 : decode prog_6_method_42_code 155 = .ok (.aload_n 0, 1) := by decide +kernel
theorem d_M_erase_156 : decode prog_6_method_42_code 156 = .ok (.getfield 87, 3) := by decide +kernel
theorem d_M_erase_159 : decode prog_6_method_42_code 159 = .ok (.if_icmp .ge 48, 3) := by decide +kernel
theorem d_M_erase_162 : decode prog_6_method_42_code 162 = .ok (.aload_n 0, 1) := by decide +kernel
theorem d_M_erase_163 : decode prog_6_method_42_code 163 = .ok (.getfield 50, 3) := by decide +kernel
theorem d_M_erase_166 : decode prog_6_method_42_code 166 = .ok (.iload_n 2, 1) := by decide +kernel
theorem d_M_erase_167 : decode prog_6_method_42_code 167 = .ok (.aload_n 0, 1) := by decide +kernel
theorem d_M_erase_168 : decode prog_6_method_42_code 168 = .ok (.getfield 50, 3) := by decide +kernel
theorem d_M_erase_171 : decode prog_6_method_42_code 171 = .ok (.iload_n 2, 1) := by decide +kernel
theorem d_M_erase_172 : decode prog_6_method_42_code 172 = .ok (.iaload, 1) := by decide +kernel
theorem d_M_erase_173 : decode prog_6_method_42_code 173 = .ok (.ifCond .lt 21, 3) := by decide +kernel
theorem d_M_erase_176 : decode prog_6_method_42_code 176 = .ok (.aload_n 0, 1) := by decide +kernel
theorem d_M_erase_177 : decode prog_6_method_42_code 177 = .ok (.getfield 56, 3) := by decide +kernel
theorem d_M_erase_180 : decode prog_6_method_42_code 180 = .ok (.aload_n 0, 1) := by decide +kernel
theorem d_M_erase_181 : decode prog_6_method_42_code 181 = .ok (.getfield 50, 3) := by decide +kernel
theorem d_M_erase_184 : decode prog_6_method_42_code 184 = .ok (.iload_n 2, 1) := by decide +kernel
theorem d_M_erase_185 : decode prog_6_method_42_code 185 = .ok (.iaload, 1) := by decide +kernel
theorem d_M_erase_186 : decode prog_6_method_42_code 186 = .ok (.baload, 1) := by decide +kernel
theorem d_M_erase_187 : decode prog_6_method_42_code 187 = .ok (.ifCond .eq 7, 3) := by decide +kernel
theorem d_M_erase_190 : decode prog_6_method_42_code 190 = .ok (.iconst (-1), 1) := by decide +kernel
theorem d_M_erase_191 : decode prog_6_method_42_code 191 = .ok (.goto 9, 3) := by decide +kernel
theorem d_M_erase_194 : decode prog_6_method_42_code 194 = .ok (.aload_n 0, 1) := by decide +kernel
theorem d_M_erase_195 : decode prog_6_method_42_code 195 = .ok (.getfield 50, 3) := by decide +kernel
theorem d_M_erase_198 : decode prog_6_method_42_code 198 = .ok (.iload_n 2, 1) := by decide +kernel
theorem d_M_erase_199 : decode prog_6_method_42_code 199 = .ok (.iaload, 1) := by decide +kernel
theorem d_M_erase_200 : decode prog_6_method_42_code 200 = .ok (.iastore, 1) := by decide +kernel
theorem d_M_erase_201 : decode prog_6_method_42_code 201 = .ok (.iinc 2 1, 3) := by decide +kernel
theorem d_M_erase_204 : decode prog_6_method_42_code 204 = .ok (.goto (-50), 3) := by decide +kernel
theorem d_M_erase_207 : decode prog_6_method_42_code 207 = .ok (.aload_n 0, 1) := by decide +kernel
theorem d_M_erase_208 : decode prog_6_method_42_code 208 = .ok (.iconst (-1), 1) := by decide +kernel
theorem d_M_erase_209 : decode prog_6_method_42_code 209 = .ok (.putfield 47, 3) := by decide +kernel
theorem d_M_erase_212 : decode prog_6_method_42_code 212 = .ok (.aload_n 0, 1) := by decide +kernel
theorem d_M_erase_213 : decode prog_6_method_42_code 213 = .ok (.invokevirtual 180, 3) := by decide +kernel
theorem d_M_erase_216 : decode prog_6_method_42_code 216 = .ok (.ireturn, 1) := by decide +kernel
theorem d_M_ownedMembers_0 : decode prog_6_method_37_code 0 = .ok (.iconst 0, 1) := by decide +kernel
theorem d_M_ownedMembers_1 : decode prog_6_method_37_code 1 = .ok (.istore_n 2, 1) := by decide +kernel
theorem d_M_ownedMembers_2 : decode prog_6_method_37_code 2 = .ok (.iconst 0, 1) := by decide +kernel
theorem d_M_ownedMembers_3 : decode prog_6_method_37_code 3 = .ok (.istore_n 3, 1) := by decide +kernel
theorem d_M_ownedMembers_4 : decode prog_6_method_37_code 4 = .ok (.iload_n 3, 1) := by decide +kernel
theorem d_M_ownedMembers_5 : decode prog_6_method_37_code 5 = .ok (.bipush 24, 2) := by decide +kernel
theorem d_M_ownedMembers_7 : decode prog_6_method_37_code 7 = .ok (.aload_n 0, 1) := by decide +kernel
theorem d_M_ownedMembers_8 : decode prog_6_method_37_code 8 = .ok (.getfield 90, 3) := by decide +kernel
theorem d_M_ownedMembers_11 : decode prog_6_method_37_code 11 = .ok (.imul, 1) := by decide +kernel
theorem d_M_ownedMembers_12 : decode prog_6_method_37_code 12 = .ok (.if_icmp .ge 27, 3) := by decide +kernel
theorem d_M_ownedMembers_15 : decode prog_6_method_37_code 15 = .ok (.iload_n 2, 1) := by decide +kernel
theorem d_M_ownedMembers_16 : decode prog_6_method_37_code 16 = .ok (.aload_n 0, 1) := by decide +kernel
theorem d_M_ownedMembers_17 : decode prog_6_method_37_code 17 = .ok (.getfield 38, 3) := by decide +kernel
theorem d_M_ownedMembers_20 : decode prog_6_method_37_code 20 = .ok (.iload_n 3, 1) := by decide +kernel
theorem d_M_ownedMembers_21 : decode prog_6_method_37_code 21 = .ok (.iaload, 1) := by decide +kernel
theorem d_M_ownedMembers_22 : decode prog_6_method_37_code 22 = .ok (.iload_n 1, 1) := by decide +kernel
theorem d_M_ownedMembers_23 : decode prog_6_method_37_code 23 = .ok (.if_icmp .ne 7, 3) := by decide +kernel
theorem d_M_ownedMembers_26 : decode prog_6_method_37_code 26 = .ok (.iconst 1, 1) := by decide +kernel
theorem d_M_ownedMembers_27 : decode prog_6_method_37_code 27 = .ok (.goto 4, 3) := by decide +kernel
theorem d_M_ownedMembers_30 : decode prog_6_method_37_code 30 = .ok (.iconst 0, 1) := by decide +kernel
theorem d_M_ownedMembers_31 : decode prog_6_method_37_code 31 = .ok (.iadd, 1) := by decide +kernel
theorem d_M_ownedMembers_32 : decode prog_6_method_37_code 32 = .ok (.istore_n 2, 1) := by decide +kernel
theorem d_M_ownedMembers_33 : decode prog_6_method_37_code 33 = .ok (.iinc 3 1, 3) := by decide +kernel
theorem d_M_ownedMembers_36 : decode prog_6_method_37_code 36 = .ok (.goto (-32), 3) := by decide +kernel
theorem d_M_ownedMembers_39 : decode prog_6_method_37_code 39 = .ok (.iload_n 2, 1) := by decide +kernel
theorem d_M_ownedMembers_40 : decode prog_6_method_37_code 40 = .ok (.ireturn, 1) := by decide +kernel
theorem d_M_spread_0 : decode prog_6_method_39_code 0 = .ok (.iload_n 1, 1) := by decide +kernel
theorem d_M_spread_1 : decode prog_6_method_39_code 1 = .ok (.ifCond .le 7, 3) := by decide +kernel
theorem d_M_spread_4 : decode prog_6_method_39_code 4 = .ok (.iconst 1, 1) := by decide +kernel
theorem d_M_spread_5 : decode prog_6_method_39_code 5 = .ok (.goto 4, 3) := by decide +kernel
theorem d_M_spread_8 : decode prog_6_method_39_code 8 = .ok (.iconst 0, 1) := by decide +kernel
theorem d_M_spread_9 : decode prog_6_method_39_code 9 = .ok (.istore_n 2, 1) := by decide +kernel
theorem d_M_spread_10 : decode prog_6_method_39_code 10 = .ok (.iload_n 2, 1) := by decide +kernel
theorem d_M_spread_11 : decode prog_6_method_39_code 11 = .ok (.ifCond .eq 98, 3) := by decide +kernel
theorem d_M_spread_14 : decode prog_6_method_39_code 14 = .ok (.iconst 0, 1) := by decide +kernel
theorem d_M_spread_15 : decode prog_6_method_39_code 15 = .ok (.istore_n 2, 1) := by decide +kernel
theorem d_M_spread_16 : decode prog_6_method_39_code 16 = .ok (.iconst 0, 1) := by decide +kernel
theorem d_M_spread_17 : decode prog_6_method_39_code 17 = .ok (.istore_n 3, 1) := by decide +kernel
theorem d_M_spread_18 : decode prog_6_method_39_code 18 = .ok (.iload_n 3, 1) := by decide +kernel
theorem d_M_spread_19 : decode prog_6_method_39_code 19 = .ok (.aload_n 0, 1) := by decide +kernel
theorem d_M_spread_20 : decode prog_6_method_39_code 20 = .ok (.getfield 90, 3) := by decide +kernel
theorem d_M_spread_23 : decode prog_6_method_39_code 23 = .ok (.if_icmp .ge 83, 3) := by decide +kernel
theorem d_M_spread_26 : decode prog_6_method_39_code 26 = .ok (.iconst 0, 1) := by decide +kernel
theorem d_M_spread_27 : decode prog_6_method_39_code 27 = .ok (.istore 4, 2) := by decide +kernel
theorem d_M_spread_29 : decode prog_6_method_39_code 29 = .ok (.iload 4, 2) := by decide +kernel
theorem d_M_spread_31 : decode prog_6_method_39_code 31 = .ok (.bipush 24, 2) := by decide +kernel
theorem d_M_spread_33 : decode prog_6_method_39_code 33 = .ok (.if_icmp .ge 67, 3) := by decide +kernel
theorem d_M_spread_36 : decode prog_6_method_39_code 36 = .ok (.aload_n 0, 1) := by decide +kernel
theorem d_M_spread_37 : decode prog_6_method_39_code 37 = .ok (.getfield 38, 3) := by decide +kernel
theorem d_M_spread_40 : decode prog_6_method_39_code 40 = .ok (.bipush 24, 2) := by decide +kernel
theorem d_M_spread_42 : decode prog_6_method_39_code 42 = .ok (.iload_n 3, 1) := by decide +kernel
theorem d_M_spread_43 : decode prog_6_method_39_code 43 = .ok (.imul, 1) := by decide +kernel
theorem d_M_spread_44 : decode prog_6_method_39_code 44 = .ok (.iload 4, 2) := by decide +kernel
theorem d_M_spread_46 : decode prog_6_method_39_code 46 = .ok (.iadd, 1) := by decide +kernel
theorem d_M_spread_47 : decode prog_6_method_39_code 47 = .ok (.iaload, 1) := by decide +kernel
theorem d_M_spread_48 : decode prog_6_method_39_code 48 = .ok (.istore 5, 2) := by decide +kernel
theorem d_M_spread_50 : decode prog_6_method_39_code 50 = .ok (.iload 5, 2) := by decide +kernel
theorem d_M_spread_52 : decode prog_6_method_39_code 52 = .ok (.ifCond .lt 42, 3) := by decide +kernel
theorem d_M_spread_55 : decode prog_6_method_39_code 55 = .ok (.aload_n 0, 1) := by decide +kernel
theorem d_M_spread_56 : decode prog_6_method_39_code 56 = .ok (.getfield 56, 3) := by decide +kernel
theorem d_M_spread_59 : decode prog_6_method_39_code 59 = .ok (.iload 5, 2) := by decide +kernel
theorem d_M_spread_61 : decode prog_6_method_39_code 61 = .ok (.baload, 1) := by decide +kernel
theorem d_M_spread_62 : decode prog_6_method_39_code 62 = .ok (.ifCond .eq 32, 3) := by decide +kernel
theorem d_M_spread_65 : decode prog_6_method_39_code 65 = .ok (.aload_n 0, 1) := by decide +kernel
theorem d_M_spread_66 : decode prog_6_method_39_code 66 = .ok (.getfield 56, 3) := by decide +kernel
theorem d_M_spread_69 : decode prog_6_method_39_code 69 = .ok (.iload 4, 2) := by decide +kernel
theorem d_M_spread_71 : decode prog_6_method_39_code 71 = .ok (.baload, 1) := by decide +kernel
theorem d_M_spread_72 : decode prog_6_method_39_code 72 = .ok (.ifCond .ne 22, 3) := by decide +kernel
theorem d_M_spread_75 : decode prog_6_method_39_code 75 = .ok (.aload_n 0, 1) := by decide +kernel
theorem d_M_spread_76 : decode prog_6_method_39_code 76 = .ok (.iload_n 3, 1) := by decide +kernel
theorem d_M_spread_77 : decode prog_6_method_39_code 77 = .ok (.iload_n 1, 1) := by decide +kernel
theorem d_M_spread_78 : decode prog_6_method_39_code 78 = .ok (.invokevirtual 163, 3) := by decide +kernel
theorem d_M_spread_81 : decode prog_6_method_39_code 81 = .ok (.ifCond .eq 13, 3) := by decide +kernel
theorem d_M_spread_84 : decode prog_6_method_39_code 84 = .ok (.aload_n 0, 1) := by decide +kernel
theorem d_M_spread_85 : decode prog_6_method_39_code 85 = .ok (.getfield 56, 3) := by decide +kernel
theorem d_M_spread_88 : decode prog_6_method_39_code 88 = .ok (.iload 4, 2) := by decide +kernel
theorem d_M_spread_90 : decode prog_6_method_39_code 90 = .ok (.iconst 1, 1) := by decide +kernel
theorem d_M_spread_91 : decode prog_6_method_39_code 91 = .ok (.bastore, 1) := by decide +kernel
theorem d_M_spread_92 : decode prog_6_method_39_code 92 = .ok (.iconst 1, 1) := by decide +kernel
theorem d_M_spread_93 : decode prog_6_method_39_code 93 = .ok (.istore_n 2, 1) := by decide +kernel
theorem d_M_spread_94 : decode prog_6_method_39_code 94 = .ok (.iinc 4 1, 3) := by decide +kernel
theorem d_M_spread_97 : decode prog_6_method_39_code 97 = .ok (.goto (-68), 3) := by decide +kernel
theorem d_M_spread_100 : decode prog_6_method_39_code 100 = .ok (.iinc 3 1, 3) := by decide +kernel
theorem d_M_spread_103 : decode prog_6_method_39_code 103 = .ok (.goto (-85), 3) := by decide +kernel
theorem d_M_spread_106 : decode prog_6_method_39_code 106 = .ok (.goto (-96), 3) := by decide +kernel
theorem d_M_spread_109 : decode prog_6_method_39_code 109 = .ok (.return_, 1) := by decide +kernel
theorem d_M_takes_0 : decode prog_6_method_38_code 0 = .ok (.iload_n 2, 1) := by decide +kernel
theorem d_M_takes_1 : decode prog_6_method_38_code 1 = .ok (.iconst 3, 1) := by decide +kernel
theorem d_M_takes_2 : decode prog_6_method_38_code 2 = .ok (.if_icmp .eq 15, 3) := by decide +kernel
theorem d_M_takes_5 : decode prog_6_method_38_code 5 = .ok (.aload_n 0, 1) := by decide +kernel
theorem d_M_takes_6 : decode prog_6_method_38_code 6 = .ok (.getfield 22, 3) := by decide +kernel
theorem d_M_takes_9 : decode prog_6_method_38_code 9 = .ok (.iload_n 1, 1) := by decide +kernel
theorem d_M_takes_10 : decode prog_6_method_38_code 10 = .ok (.iaload, 1) := by decide +kernel
theorem d_M_takes_11 : decode prog_6_method_38_code 11 = .ok (.iconst 3, 1) := by decide +kernel
theorem d_M_takes_12 : decode prog_6_method_38_code 12 = .ok (.irem, 1) := by decide +kernel
theorem d_M_takes_13 : decode prog_6_method_38_code 13 = .ok (.iload_n 2, 1) := by decide +kernel
theorem d_M_takes_14 : decode prog_6_method_38_code 14 = .ok (.if_icmp .ge 7, 3) := by decide +kernel
theorem d_M_takes_17 : decode prog_6_method_38_code 17 = .ok (.iconst 1, 1) := by decide +kernel
theorem d_M_takes_18 : decode prog_6_method_38_code 18 = .ok (.goto 4, 3) := by decide +kernel
theorem d_M_takes_21 : decode prog_6_method_38_code 21 = .ok (.iconst 0, 1) := by decide +kernel
theorem d_M_takes_22 : decode prog_6_method_38_code 22 = .ok (.ireturn, 1) := by decide +kernel
theorem d_M_strands_0 : decode prog_6_method_40_code 0 = .ok (.iconst 0, 1) := by decide +kernel
theorem d_M_strands_1 : decode prog_6_method_40_code 1 = .ok (.istore_n 1, 1) := by decide +kernel
theorem d_M_strands_2 : decode prog_6_method_40_code 2 = .ok (.iconst 0, 1) := by decide +kernel
theorem d_M_strands_3 : decode prog_6_method_40_code 3 = .ok (.istore_n 2, 1) := by decide +kernel
theorem d_M_strands_4 : decode prog_6_method_40_code 4 = .ok (.iload_n 2, 1) := by decide +kernel
theorem d_M_strands_5 : decode prog_6_method_40_code 5 = .ok (.aload_n 0, 1) := by decide +kernel
theorem d_M_strands_6 : decode prog_6_method_40_code 6 = .ok (.getfield 90, 3) := by decide +kernel
theorem d_M_strands_9 : decode prog_6_method_40_code 9 = .ok (.if_icmp .ge 82, 3) := by decide +kernel
theorem d_M_strands_12 : decode prog_6_method_40_code 12 = .ok (.iconst 0, 1) := by decide +kernel
theorem d_M_strands_13 : decode prog_6_method_40_code 13 = .ok (.istore_n 3, 1) := by decide +kernel
theorem d_M_strands_14 : decode prog_6_method_40_code 14 = .ok (.iload_n 3, 1) := by decide +kernel
theorem d_M_strands_15 : decode prog_6_method_40_code 15 = .ok (.bipush 24, 2) := by decide +kernel
theorem d_M_strands_17 : decode prog_6_method_40_code 17 = .ok (.if_icmp .ge 68, 3) := by decide +kernel
theorem d_M_strands_20 : decode prog_6_method_40_code 20 = .ok (.aload_n 0, 1) := by decide +kernel
theorem d_M_strands_21 : decode prog_6_method_40_code 21 = .ok (.getfield 38, 3) := by decide +kernel
theorem d_M_strands_24 : decode prog_6_method_40_code 24 = .ok (.bipush 24, 2) := by decide +kernel
theorem d_M_strands_26 : decode prog_6_method_40_code 26 = .ok (.iload_n 2, 1) := by decide +kernel
theorem d_M_strands_27 : decode prog_6_method_40_code 27 = .ok (.imul, 1) := by decide +kernel
theorem d_M_strands_28 : decode prog_6_method_40_code 28 = .ok (.iload_n 3, 1) := by decide +kernel
theorem d_M_strands_29 : decode prog_6_method_40_code 29 = .ok (.iadd, 1) := by decide +kernel
theorem d_M_strands_30 : decode prog_6_method_40_code 30 = .ok (.iaload, 1) := by decide +kernel
theorem d_M_strands_31 : decode prog_6_method_40_code 31 = .ok (.istore 4, 2) := by decide +kernel
theorem d_M_strands_33 : decode prog_6_method_40_code 33 = .ok (.iload_n 1, 1) := by decide +kernel
theorem d_M_strands_34 : decode prog_6_method_40_code 34 = .ok (.ifCond .ne 39, 3) := by decide +kernel
theorem d_M_strands_37 : decode prog_6_method_40_code 37 = .ok (.iload 4, 2) := by decide +kernel
theorem d_M_strands_39 : decode prog_6_method_40_code 39 = .ok (.ifCond .lt 38, 3) := by decide +kernel
theorem d_M_strands_42 : decode prog_6_method_40_code 42 = .ok (.aload_n 0, 1) := by decide +kernel
theorem d_M_strands_43 : decode prog_6_method_40_code 43 = .ok (.getfield 56, 3) := by decide +kernel
theorem d_M_strands_46 : decode prog_6_method_40_code 46 = .ok (.iload 4, 2) := by decide +kernel
theorem d_M_strands_48 : decode prog_6_method_40_code 48 = .ok (.baload, 1) := by decide +kernel
theorem d_M_strands_49 : decode prog_6_method_40_code 49 = .ok (.ifCond .eq 28, 3) := by decide +kernel
theorem d_M_strands_52 : decode prog_6_method_40_code 52 = .ok (.aload_n 0, 1) := by decide +kernel
theorem d_M_strands_53 : decode prog_6_method_40_code 53 = .ok (.getfield 56, 3) := by decide +kernel
theorem d_M_strands_56 : decode prog_6_method_40_code 56 = .ok (.iload_n 3, 1) := by decide +kernel
theorem d_M_strands_57 : decode prog_6_method_40_code 57 = .ok (.baload, 1) := by decide +kernel
theorem d_M_strands_58 : decode prog_6_method_40_code 58 = .ok (.ifCond .ne 19, 3) := by decide +kernel
theorem d_M_strands_61 : decode prog_6_method_40_code 61 = .ok (.aload_n 0, 1) := by decide +kernel
theorem d_M_strands_62 : decode prog_6_method_40_code 62 = .ok (.getfield 22, 3) := by decide +kernel
theorem d_M_strands_65 : decode prog_6_method_40_code 65 = .ok (.iload_n 2, 1) := by decide +kernel
theorem d_M_strands_66 : decode prog_6_method_40_code 66 = .ok (.iaload, 1) := by decide +kernel
theorem d_M_strands_67 : decode prog_6_method_40_code 67 = .ok (.iconst 3, 1) := by decide +kernel
theorem d_M_strands_68 : decode prog_6_method_40_code 68 = .ok (.irem, 1) := by decide +kernel
theorem d_M_strands_69 : decode prog_6_method_40_code 69 = .ok (.iconst 1, 1) := by decide +kernel
theorem d_M_strands_70 : decode prog_6_method_40_code 70 = .ok (.if_icmp .ne 7, 3) := by decide +kernel
theorem d_M_strands_73 : decode prog_6_method_40_code 73 = .ok (.iconst 1, 1) := by decide +kernel
theorem d_M_strands_74 : decode prog_6_method_40_code 74 = .ok (.goto 4, 3) := by decide +kernel
theorem d_M_strands_77 : decode prog_6_method_40_code 77 = .ok (.iconst 0, 1) := by decide +kernel
theorem d_M_strands_78 : decode prog_6_method_40_code 78 = .ok (.istore_n 1, 1) := by decide +kernel
theorem d_M_strands_79 : decode prog_6_method_40_code 79 = .ok (.iinc 3 1, 3) := by decide +kernel
theorem d_M_strands_82 : decode prog_6_method_40_code 82 = .ok (.goto (-68), 3) := by decide +kernel
theorem d_M_strands_85 : decode prog_6_method_40_code 85 = .ok (.iinc 2 1, 3) := by decide +kernel
theorem d_M_strands_88 : decode prog_6_method_40_code 88 = .ok (.goto (-84), 3) := by decide +kernel
theorem d_M_strands_91 : decode prog_6_method_40_code 91 = .ok (.iload_n 1, 1) := by decide +kernel
theorem d_M_strands_92 : decode prog_6_method_40_code 92 = .ok (.ireturn, 1) := by decide +kernel
theorem d_M_heir_0 : decode prog_6_method_41_code 0 = .ok (.aload_n 0, 1) := by decide +kernel
theorem d_M_heir_1 : decode prog_6_method_41_code 1 = .ok (.getfield 53, 3) := by decide +kernel
theorem d_M_heir_4 : decode prog_6_method_41_code 4 = .ok (.iload_n 1, 1) := by decide +kernel
theorem d_M_heir_5 : decode prog_6_method_41_code 5 = .ok (.iaload, 1) := by decide +kernel
theorem d_M_heir_6 : decode prog_6_method_41_code 6 = .ok (.istore_n 2, 1) := by decide +kernel
theorem d_M_heir_7 : decode prog_6_method_41_code 7 = .ok (.iload_n 2, 1) := by decide +kernel
theorem d_M_heir_8 : decode prog_6_method_41_code 8 = .ok (.ifCond .lt 18, 3) := by decide +kernel
theorem d_M_heir_11 : decode prog_6_method_41_code 11 = .ok (.aload_n 0, 1) := by decide +kernel
theorem d_M_heir_12 : decode prog_6_method_41_code 12 = .ok (.getfield 32, 3) := by decide +kernel
theorem d_M_heir_15 : decode prog_6_method_41_code 15 = .ok (.iload_n 2, 1) := by decide +kernel
theorem d_M_heir_16 : decode prog_6_method_41_code 16 = .ok (.iaload, 1) := by decide +kernel
theorem d_M_heir_17 : decode prog_6_method_41_code 17 = .ok (.aload_n 0, 1) := by decide +kernel
theorem d_M_heir_18 : decode prog_6_method_41_code 18 = .ok (.getfield 13, 3) := by decide +kernel
theorem d_M_heir_21 : decode prog_6_method_41_code 21 = .ok (.iload_n 1, 1) := by decide +kernel
theorem d_M_heir_22 : decode prog_6_method_41_code 22 = .ok (.iaload, 1) := by decide +kernel
theorem d_M_heir_23 : decode prog_6_method_41_code 23 = .ok (.if_icmp .ne 22, 3) := by decide +kernel
theorem d_M_heir_26 : decode prog_6_method_41_code 26 = .ok (.iload_n 2, 1) := by decide +kernel
theorem d_M_heir_27 : decode prog_6_method_41_code 27 = .ok (.ifCond .lt 16, 3) := by decide +kernel
theorem d_M_heir_30 : decode prog_6_method_41_code 30 = .ok (.aload_n 0, 1) := by decide +kernel
theorem d_M_heir_31 : decode prog_6_method_41_code 31 = .ok (.getfield 56, 3) := by decide +kernel
theorem d_M_heir_34 : decode prog_6_method_41_code 34 = .ok (.iload_n 2, 1) := by decide +kernel
theorem d_M_heir_35 : decode prog_6_method_41_code 35 = .ok (.baload, 1) := by decide +kernel
theorem d_M_heir_36 : decode prog_6_method_41_code 36 = .ok (.ifCond .eq 7, 3) := by decide +kernel
theorem d_M_heir_39 : decode prog_6_method_41_code 39 = .ok (.iconst (-1), 1) := by decide +kernel
theorem d_M_heir_40 : decode prog_6_method_41_code 40 = .ok (.goto 4, 3) := by decide +kernel
theorem d_M_heir_43 : decode prog_6_method_41_code 43 = .ok (.iload_n 2, 1) := by decide +kernel
theorem d_M_heir_44 : decode prog_6_method_41_code 44 = .ok (.ireturn, 1) := by decide +kernel
theorem d_M_heir_45 : decode prog_6_method_41_code 45 = .ok (.aload_n 0, 1) := by decide +kernel
theorem d_M_heir_46 : decode prog_6_method_41_code 46 = .ok (.getfield 38, 3) := by decide +kernel
theorem d_M_heir_49 : decode prog_6_method_41_code 49 = .ok (.bipush 24, 2) := by decide +kernel
theorem d_M_heir_51 : decode prog_6_method_41_code 51 = .ok (.iload_n 1, 1) := by decide +kernel
theorem d_M_heir_52 : decode prog_6_method_41_code 52 = .ok (.imul, 1) := by decide +kernel
theorem d_M_heir_53 : decode prog_6_method_41_code 53 = .ok (.iload_n 2, 1) := by decide +kernel
theorem d_M_heir_54 : decode prog_6_method_41_code 54 = .ok (.iadd, 1) := by decide +kernel
theorem d_M_heir_55 : decode prog_6_method_41_code 55 = .ok (.iaload, 1) := by decide +kernel
theorem d_M_heir_56 : decode prog_6_method_41_code 56 = .ok (.istore_n 3, 1) := by decide +kernel
theorem d_M_heir_57 : decode prog_6_method_41_code 57 = .ok (.aload_n 0, 1) := by decide +kernel
theorem d_M_heir_58 : decode prog_6_method_41_code 58 = .ok (.getfield 56, 3) := by decide +kernel
theorem d_M_heir_61 : decode prog_6_method_41_code 61 = .ok (.iload_n 3, 1) := by decide +kernel
theorem d_M_heir_62 : decode prog_6_method_41_code 62 = .ok (.baload, 1) := by decide +kernel
theorem d_M_heir_63 : decode prog_6_method_41_code 63 = .ok (.ifCond .eq 5, 3) := by decide +kernel
theorem d_M_heir_66 : decode prog_6_method_41_code 66 = .ok (.iconst (-1), 1) := by decide +kernel
theorem d_M_heir_67 : decode prog_6_method_41_code 67 = .ok (.ireturn, 1) := by decide +kernel
theorem d_M_heir_68 : decode prog_6_method_41_code 68 = .ok (.iload_n 2, 1) := by decide +kernel
theorem d_M_heir_69 : decode prog_6_method_41_code 69 = .ok (.ifCond .lt 31, 3) := by decide +kernel
theorem d_M_heir_72 : decode prog_6_method_41_code 72 = .ok (.aload_n 0, 1) := by decide +kernel
theorem d_M_heir_73 : decode prog_6_method_41_code 73 = .ok (.getfield 56, 3) := by decide +kernel
theorem d_M_heir_76 : decode prog_6_method_41_code 76 = .ok (.iload_n 2, 1) := by decide +kernel
theorem d_M_heir_77 : decode prog_6_method_41_code 77 = .ok (.baload, 1) := by decide +kernel
theorem d_M_heir_78 : decode prog_6_method_41_code 78 = .ok (.ifCond .eq 22, 3) := by decide +kernel
theorem d_M_heir_81 : decode prog_6_method_41_code 81 = .ok (.aload_n 0, 1) := by decide +kernel
theorem d_M_heir_82 : decode prog_6_method_41_code 82 = .ok (.iload_n 1, 1) := by decide +kernel
theorem d_M_heir_83 : decode prog_6_method_41_code 83 = .ok (.iload_n 3, 1) := by decide +kernel
theorem d_M_heir_84 : decode prog_6_method_41_code 84 = .ok (.aload_n 0, 1) := by decide +kernel
theorem d_M_heir_85 : decode prog_6_method_41_code 85 = .ok (.iload_n 1, 1) := by decide +kernel
theorem d_M_heir_86 : decode prog_6_method_41_code 86 = .ok (.iload_n 2, 1) := by decide +kernel
theorem d_M_heir_87 : decode prog_6_method_41_code 87 = .ok (.invokevirtual 109, 3) := by decide +kernel
theorem d_M_heir_90 : decode prog_6_method_41_code 90 = .ok (.iconst 1, 1) := by decide +kernel
theorem d_M_heir_91 : decode prog_6_method_41_code 91 = .ok (.isub, 1) := by decide +kernel
theorem d_M_heir_92 : decode prog_6_method_41_code 92 = .ok (.iconst (-1), 1) := by decide +kernel
theorem d_M_heir_93 : decode prog_6_method_41_code 93 = .ok (.invokevirtual 105, 3) := by decide +kernel
theorem d_M_heir_96 : decode prog_6_method_41_code 96 = .ok (.istore_n 2, 1) := by decide +kernel
theorem d_M_heir_97 : decode prog_6_method_41_code 97 = .ok (.goto (-29), 3) := by decide +kernel
theorem d_M_heir_100 : decode prog_6_method_41_code 100 = .ok (.iload_n 2, 1) := by decide +kernel
theorem d_M_heir_101 : decode prog_6_method_41_code 101 = .ok (.ifCond .ge 7, 3) := by decide +kernel
theorem d_M_heir_104 : decode prog_6_method_41_code 104 = .ok (.iload_n 3, 1) := by decide +kernel
theorem d_M_heir_105 : decode prog_6_method_41_code 105 = .ok (.goto 4, 3) := by decide +kernel
theorem d_M_heir_108 : decode prog_6_method_41_code 108 = .ok (.iload_n 2, 1) := by decide +kernel
theorem d_M_heir_109 : decode prog_6_method_41_code 109 = .ok (.ireturn, 1) := by decide +kernel
theorem d_M_sweep_0 : decode prog_6_method_43_code 0 = .ok (.iconst 0, 1) := by decide +kernel
theorem d_M_sweep_1 : decode prog_6_method_43_code 1 = .ok (.istore_n 1, 1) := by decide +kernel
theorem d_M_sweep_2 : decode prog_6_method_43_code 2 = .ok (.iload_n 1, 1) := by decide +kernel
theorem d_M_sweep_3 : decode prog_6_method_43_code 3 = .ok (.aload_n 0, 1) := by decide +kernel
theorem d_M_sweep_4 : decode prog_6_method_43_code 4 = .ok (.getfield 90, 3) := by decide +kernel
theorem d_M_sweep_7 : decode prog_6_method_43_code 7 = .ok (.if_icmp .ge 63, 3) := by decide +kernel
theorem d_M_sweep_10 : decode prog_6_method_43_code 10 = .ok (.iconst 0, 1) := by decide +kernel
theorem d_M_sweep_11 : decode prog_6_method_43_code 11 = .ok (.istore_n 2, 1) := by decide +kernel
theorem d_M_sweep_12 : decode prog_6_method_43_code 12 = .ok (.iload_n 2, 1) := by decide +kernel
theorem d_M_sweep_13 : decode prog_6_method_43_code 13 = .ok (.bipush 24, 2) := by decide +kernel
theorem d_M_sweep_15 : decode prog_6_method_43_code 15 = .ok (.if_icmp .ge 49, 3) := by decide +kernel
theorem d_M_sweep_18 : decode prog_6_method_43_code 18 = .ok (.aload_n 0, 1) := by decide +kernel
theorem d_M_sweep_19 : decode prog_6_method_43_code 19 = .ok (.getfield 38, 3) := by decide +kernel
theorem d_M_sweep_22 : decode prog_6_method_43_code 22 = .ok (.bipush 24, 2) := by decide +kernel
theorem d_M_sweep_24 : decode prog_6_method_43_code 24 = .ok (.iload_n 1, 1) := by decide +kernel
theorem d_M_sweep_25 : decode prog_6_method_43_code 25 = .ok (.imul, 1) := by decide +kernel
theorem d_M_sweep_26 : decode prog_6_method_43_code 26 = .ok (.iload_n 2, 1) := by decide +kernel
theorem d_M_sweep_27 : decode prog_6_method_43_code 27 = .ok (.iadd, 1) := by decide +kernel
theorem d_M_sweep_28 : decode prog_6_method_43_code 28 = .ok (.iaload, 1) := by decide +kernel
theorem d_M_sweep_29 : decode prog_6_method_43_code 29 = .ok (.istore_n 3, 1) := by decide +kernel
theorem d_M_sweep_30 : decode prog_6_method_43_code 30 = .ok (.iload_n 3, 1) := by decide +kernel
theorem d_M_sweep_31 : decode prog_6_method_43_code 31 = .ok (.ifCond .lt 27, 3) := by decide +kernel
theorem d_M_sweep_34 : decode prog_6_method_43_code 34 = .ok (.aload_n 0, 1) := by decide +kernel
theorem d_M_sweep_35 : decode prog_6_method_43_code 35 = .ok (.getfield 56, 3) := by decide +kernel
theorem d_M_sweep_38 : decode prog_6_method_43_code 38 = .ok (.iload_n 2, 1) := by decide +kernel
theorem d_M_sweep_39 : decode prog_6_method_43_code 39 = .ok (.baload, 1) := by decide +kernel
theorem d_M_sweep_40 : decode prog_6_method_43_code 40 = .ok (.ifCond .ne 12, 3) := by decide +kernel
theorem d_M_sweep_43 : decode prog_6_method_43_code 43 = .ok (.aload_n 0, 1) := by decide +kernel
theorem d_M_sweep_44 : decode prog_6_method_43_code 44 = .ok (.getfield 56, 3) := by decide +kernel
theorem d_M_sweep_47 : decode prog_6_method_43_code 47 = .ok (.iload_n 3, 1) := by decide +kernel
theorem d_M_sweep_48 : decode prog_6_method_43_code 48 = .ok (.baload, 1) := by decide +kernel
theorem d_M_sweep_49 : decode prog_6_method_43_code 49 = .ok (.ifCond .eq 9, 3) := by decide +kernel
theorem d_M_sweep_52 : decode prog_6_method_43_code 52 = .ok (.aload_n 0, 1) := by decide +kernel
theorem d_M_sweep_53 : decode prog_6_method_43_code 53 = .ok (.iload_n 1, 1) := by decide +kernel
theorem d_M_sweep_54 : decode prog_6_method_43_code 54 = .ok (.iload_n 2, 1) := by decide +kernel
theorem d_M_sweep_55 : decode prog_6_method_43_code 55 = .ok (.invokevirtual 157, 3) := by decide +kernel
theorem d_M_sweep_58 : decode prog_6_method_43_code 58 = .ok (.iinc 2 1, 3) := by decide +kernel
theorem d_M_sweep_61 : decode prog_6_method_43_code 61 = .ok (.goto (-49), 3) := by decide +kernel
theorem d_M_sweep_64 : decode prog_6_method_43_code 64 = .ok (.iinc 1 1, 3) := by decide +kernel
theorem d_M_sweep_67 : decode prog_6_method_43_code 67 = .ok (.goto (-65), 3) := by decide +kernel
theorem d_M_sweep_70 : decode prog_6_method_43_code 70 = .ok (.iconst 0, 1) := by decide +kernel
theorem d_M_sweep_71 : decode prog_6_method_43_code 71 = .ok (.istore_n 1, 1) := by decide +kernel
theorem d_M_sweep_72 : decode prog_6_method_43_code 72 = .ok (.iconst 0, 1) := by decide +kernel
theorem d_M_sweep_73 : decode prog_6_method_43_code 73 = .ok (.istore_n 2, 1) := by decide +kernel
theorem d_M_sweep_74 : decode prog_6_method_43_code 74 = .ok (.iload_n 2, 1) := by decide +kernel
theorem d_M_sweep_75 : decode prog_6_method_43_code 75 = .ok (.bipush 24, 2) := by decide +kernel
theorem d_M_sweep_77 : decode prog_6_method_43_code 77 = .ok (.if_icmp .ge 51, 3) := by decide +kernel
theorem d_M_sweep_80 : decode prog_6_method_43_code 80 = .ok (.iload_n 1, 1) := by decide +kernel
theorem d_M_sweep_81 : decode prog_6_method_43_code 81 = .ok (.aload_n 0, 1) := by decide +kernel
theorem d_M_sweep_82 : decode prog_6_method_43_code 82 = .ok (.getfield 56, 3) := by decide +kernel
theorem d_M_sweep_85 : decode prog_6_method_43_code 85 = .ok (.iload_n 2, 1) := by decide +kernel
theorem d_M_sweep_86 : decode prog_6_method_43_code 86 = .ok (.baload, 1) := by decide +kernel
theorem d_M_sweep_87 : decode prog_6_method_43_code 87 = .ok (.ifCond .eq 7, 3) := by decide +kernel
theorem d_M_sweep_90 : decode prog_6_method_43_code 90 = .ok (.iconst 1, 1) := by decide +kernel
theorem d_M_sweep_91 : decode prog_6_method_43_code 91 = .ok (.goto 4, 3) := by decide +kernel
theorem d_M_sweep_94 : decode prog_6_method_43_code 94 = .ok (.iconst 0, 1) := by decide +kernel
theorem d_M_sweep_95 : decode prog_6_method_43_code 95 = .ok (.iadd, 1) := by decide +kernel
theorem d_M_sweep_96 : decode prog_6_method_43_code 96 = .ok (.istore_n 1, 1) := by decide +kernel
theorem d_M_sweep_97 : decode prog_6_method_43_code 97 = .ok (.aload_n 0, 1) := by decide +kernel
theorem d_M_sweep_98 : decode prog_6_method_43_code 98 = .ok (.getfield 29, 3) := by decide +kernel
theorem d_M_sweep_101 : decode prog_6_method_43_code 101 = .ok (.iload_n 2, 1) := by decide +kernel
theorem d_M_sweep_102 : decode prog_6_method_43_code 102 = .ok (.aload_n 0, 1) := by decide +kernel
theorem d_M_sweep_103 : decode prog_6_method_43_code 103 = .ok (.getfield 56, 3) := by decide +kernel
theorem d_M_sweep_106 : decode prog_6_method_43_code 106 = .ok (.iload_n 2, 1) := by decide +kernel
theorem d_M_sweep_107 : decode prog_6_method_43_code 107 = .ok (.baload, 1) := by decide +kernel
theorem d_M_sweep_108 : decode prog_6_method_43_code 108 = .ok (.ifCond .eq 7, 3) := by decide +kernel
theorem d_M_sweep_111 : decode prog_6_method_43_code 111 = .ok (.iconst 0, 1) := by decide +kernel
theorem d_M_sweep_112 : decode prog_6_method_43_code 112 = .ok (.goto 9, 3) := by decide +kernel
theorem d_M_sweep_115 : decode prog_6_method_43_code 115 = .ok (.aload_n 0, 1) := by decide +kernel
theorem d_M_sweep_116 : decode prog_6_method_43_code 116 = .ok (.getfield 29, 3) := by decide +kernel
theorem d_M_sweep_119 : decode prog_6_method_43_code 119 = .ok (.iload_n 2, 1) := by decide +kernel
theorem d_M_sweep_120 : decode prog_6_method_43_code 120 = .ok (.iaload, 1) := by decide +kernel
theorem d_M_sweep_121 : decode prog_6_method_43_code 121 = .ok (.iastore, 1) := by decide +kernel
theorem d_M_sweep_122 : decode prog_6_method_43_code 122 = .ok (.iinc 2 1, 3) := by decide +kernel
theorem d_M_sweep_125 : decode prog_6_method_43_code 125 = .ok (.goto (-51), 3) := by decide +kernel
theorem d_M_sweep_128 : decode prog_6_method_43_code 128 = .ok (.iload_n 1, 1) := by decide +kernel
theorem d_M_sweep_129 : decode prog_6_method_43_code 129 = .ok (.ireturn, 1) := by decide +kernel
theorem d_M_members_0 : decode prog_6_method_44_code 0 = .ok (.aload_n 0, 1) := by decide +kernel
theorem d_M_members_1 : decode prog_6_method_44_code 1 = .ok (.aload_n 0, 1) := by decide +kernel
theorem d_M_members_2 : decode prog_6_method_44_code 2 = .ok (.iload_n 1, 1) := by decide +kernel
theorem d_M_members_3 : decode prog_6_method_44_code 3 = .ok (.invokevirtual 148, 3) := by decide +kernel
theorem d_M_members_6 : decode prog_6_method_44_code 6 = .ok (.ifCond .ne 7, 3) := by decide +kernel
theorem d_M_members_9 : decode prog_6_method_44_code 9 = .ok (.iconst 1, 1) := by decide +kernel
theorem d_M_members_10 : decode prog_6_method_44_code 10 = .ok (.goto 16, 3) := by decide +kernel
theorem d_M_members_13 : decode prog_6_method_44_code 13 = .ok (.aload_n 0, 1) := by decide +kernel
theorem d_M_members_14 : decode prog_6_method_44_code 14 = .ok (.iload_n 1, 1) := by decide +kernel
theorem d_M_members_15 : decode prog_6_method_44_code 15 = .ok (.invokevirtual 120, 3) := by decide +kernel
theorem d_M_members_18 : decode prog_6_method_44_code 18 = .ok (.ifCond .ge 7, 3) := by decide +kernel
theorem d_M_members_21 : decode prog_6_method_44_code 21 = .ok (.iconst 2, 1) := by decide +kernel
theorem d_M_members_22 : decode prog_6_method_44_code 22 = .ok (.goto 4, 3) := by decide +kernel
theorem d_M_members_25 : decode prog_6_method_44_code 25 = .ok (.iconst 0, 1) := by decide +kernel
theorem d_M_members_26 : decode prog_6_method_44_code 26 = .ok (.putfield 84, 3) := by decide +kernel
theorem d_M_members_29 : decode prog_6_method_44_code 29 = .ok (.aload_n 0, 1) := by decide +kernel
theorem d_M_members_30 : decode prog_6_method_44_code 30 = .ok (.getfield 84, 3) := by decide +kernel
theorem d_M_members_33 : decode prog_6_method_44_code 33 = .ok (.ifCond .le 5, 3) := by decide +kernel
theorem d_M_members_36 : decode prog_6_method_44_code 36 = .ok (.iconst 0, 1) := by decide +kernel
theorem d_M_members_37 : decode prog_6_method_44_code 37 = .ok (.ireturn, 1) := by decide +kernel
theorem d_M_members_38 : decode prog_6_method_44_code 38 = .ok (.aload_n 0, 1) := by decide +kernel
theorem d_M_members_39 : decode prog_6_method_44_code 39 = .ok (.iload_n 1, 1) := by decide +kernel
theorem d_M_members_40 : decode prog_6_method_44_code 40 = .ok (.invokevirtual 120, 3) := by decide +kernel
theorem d_M_members_43 : decode prog_6_method_44_code 43 = .ok (.istore_n 2, 1) := by decide +kernel
theorem d_M_members_44 : decode prog_6_method_44_code 44 = .ok (.iconst 0, 1) := by decide +kernel
theorem d_M_members_45 : decode prog_6_method_44_code 45 = .ok (.istore_n 3, 1) := by decide +kernel
theorem d_M_members_46 : decode prog_6_method_44_code 46 = .ok (.iconst 0, 1) := by decide +kernel
theorem d_M_members_47 : decode prog_6_method_44_code 47 = .ok (.istore 4, 2) := by decide +kernel
theorem d_M_members_49 : decode prog_6_method_44_code 49 = .ok (.iload 4, 2) := by decide +kernel
theorem d_M_members_51 : decode prog_6_method_44_code 51 = .ok (.bipush 24, 2) := by decide +kernel
theorem d_M_members_53 : decode prog_6_method_44_code 53 = .ok (.if_icmp .ge 33, 3) := by decide +kernel
theorem d_M_members_56 : decode prog_6_method_44_code 56 = .ok (.iload_n 3, 1) := by decide +kernel
theorem d_M_members_57 : decode prog_6_method_44_code 57 = .ok (.aload_n 0, 1) := by decide +kernel
theorem d_M_members_58 : decode prog_6_method_44_code 58 = .ok (.getfield 38, 3) := by decide +kernel
theorem d_M_members_61 : decode prog_6_method_44_code 61 = .ok (.bipush 24, 2) := by decide +kernel
theorem d_M_members_63 : decode prog_6_method_44_code 63 = .ok (.iload_n 1, 1) := by decide +kernel
theorem d_M_members_64 : decode prog_6_method_44_code 64 = .ok (.imul, 1) := by decide +kernel
theorem d_M_members_65 : decode prog_6_method_44_code 65 = .ok (.iload 4, 2) := by decide +kernel
theorem d_M_members_67 : decode prog_6_method_44_code 67 = .ok (.iadd, 1) := by decide +kernel
theorem d_M_members_68 : decode prog_6_method_44_code 68 = .ok (.iaload, 1) := by decide +kernel
theorem d_M_members_69 : decode prog_6_method_44_code 69 = .ok (.iload_n 2, 1) := by decide +kernel
theorem d_M_members_70 : decode prog_6_method_44_code 70 = .ok (.if_icmp .ne 7, 3) := by decide +kernel
theorem d_M_members_73 : decode prog_6_method_44_code 73 = .ok (.iconst 1, 1) := by decide +kernel
theorem d_M_members_74 : decode prog_6_method_44_code 74 = .ok (.goto 4, 3) := by decide +kernel
theorem d_M_members_77 : decode prog_6_method_44_code 77 = .ok (.iconst 0, 1) := by decide +kernel
theorem d_M_members_78 : decode prog_6_method_44_code 78 = .ok (.iadd, 1) := by decide +kernel
theorem d_M_members_79 : decode prog_6_method_44_code 79 = .ok (.istore_n 3, 1) := by decide +kernel
theorem d_M_members_80 : decode prog_6_method_44_code 80 = .ok (.iinc 4 1, 3) := by decide +kernel
theorem d_M_members_83 : decode prog_6_method_44_code 83 = .ok (.goto (-34), 3) := by decide +kernel
theorem d_M_members_86 : decode prog_6_method_44_code 86 = .ok (.iload_n 3, 1) := by decide +kernel
theorem d_M_members_87 : decode prog_6_method_44_code 87 = .ok (.ireturn, 1) := by decide +kernel
theorem d_M_owner_0 : decode prog_6_method_45_code 0 = .ok (.aload_n 0, 1) := by decide +kernel
theorem d_M_owner_1 : decode prog_6_method_45_code 1 = .ok (.aload_n 0, 1) := by decide +kernel
theorem d_M_owner_2 : decode prog_6_method_45_code 2 = .ok (.iload_n 1, 1) := by decide +kernel
theorem d_M_owner_3 : decode prog_6_method_45_code 3 = .ok (.invokevirtual 148, 3) := by decide +kernel
theorem d_M_owner_6 : decode prog_6_method_45_code 6 = .ok (.ifCond .ne 7, 3) := by decide +kernel
theorem d_M_owner_9 : decode prog_6_method_45_code 9 = .ok (.iconst 1, 1) := by decide +kernel
theorem d_M_owner_10 : decode prog_6_method_45_code 10 = .ok (.goto 16, 3) := by decide +kernel
theorem d_M_owner_13 : decode prog_6_method_45_code 13 = .ok (.aload_n 0, 1) := by decide +kernel
theorem d_M_owner_14 : decode prog_6_method_45_code 14 = .ok (.iload_n 2, 1) := by decide +kernel
theorem d_M_owner_15 : decode prog_6_method_45_code 15 = .ok (.invokevirtual 139, 3) := by decide +kernel
theorem d_M_owner_18 : decode prog_6_method_45_code 18 = .ok (.ifCond .ge 7, 3) := by decide +kernel
theorem d_M_owner_21 : decode prog_6_method_45_code 21 = .ok (.iconst 2, 1) := by decide +kernel
theorem d_M_owner_22 : decode prog_6_method_45_code 22 = .ok (.goto 4, 3) := by decide +kernel
theorem d_M_owner_25 : decode prog_6_method_45_code 25 = .ok (.iconst 0, 1) := by decide +kernel
theorem d_M_owner_26 : decode prog_6_method_45_code 26 = .ok (.putfield 84, 3) := by decide +kernel
theorem d_M_owner_29 : decode prog_6_method_45_code 29 = .ok (.aload_n 0, 1) := by decide +kernel
theorem d_M_owner_30 : decode prog_6_method_45_code 30 = .ok (.getfield 84, 3) := by decide +kernel
theorem d_M_owner_33 : decode prog_6_method_45_code 33 = .ok (.ifCond .le 5, 3) := by decide +kernel
theorem d_M_owner_36 : decode prog_6_method_45_code 36 = .ok (.iconst 0, 1) := by decide +kernel
theorem d_M_owner_37 : decode prog_6_method_45_code 37 = .ok (.ireturn, 1) := by decide +kernel
theorem d_M_owner_38 : decode prog_6_method_45_code 38 = .ok (.aload_n 0, 1) := by decide +kernel
theorem d_M_owner_39 : decode prog_6_method_45_code 39 = .ok (.getfield 38, 3) := by decide +kernel
theorem d_M_owner_42 : decode prog_6_method_45_code 42 = .ok (.bipush 24, 2) := by decide +kernel
theorem d_M_owner_44 : decode prog_6_method_45_code 44 = .ok (.iload_n 1, 1) := by decide +kernel
theorem d_M_owner_45 : decode prog_6_method_45_code 45 = .ok (.imul, 1) := by decide +kernel
theorem d_M_owner_46 : decode prog_6_method_45_code 46 = .ok (.aload_n 0, 1) := by decide +kernel
theorem d_M_owner_47 : decode prog_6_method_45_code 47 = .ok (.iload_n 2, 1) := by decide +kernel
theorem d_M_owner_48 : decode prog_6_method_45_code 48 = .ok (.invokevirtual 139, 3) := by decide +kernel
theorem d_M_owner_51 : decode prog_6_method_45_code 51 = .ok (.iadd, 1) := by decide +kernel
theorem d_M_owner_52 : decode prog_6_method_45_code 52 = .ok (.iaload, 1) := by decide +kernel
theorem d_M_owner_53 : decode prog_6_method_45_code 53 = .ok (.istore_n 3, 1) := by decide +kernel
theorem d_M_owner_54 : decode prog_6_method_45_code 54 = .ok (.iload_n 3, 1) := by decide +kernel
theorem d_M_owner_55 : decode prog_6_method_45_code 55 = .ok (.ifCond .ge 7, 3) := by decide +kernel
theorem d_M_owner_58 : decode prog_6_method_45_code 58 = .ok (.iconst 0, 1) := by decide +kernel
theorem d_M_owner_59 : decode prog_6_method_45_code 59 = .ok (.goto 9, 3) := by decide +kernel
theorem d_M_owner_62 : decode prog_6_method_45_code 62 = .ok (.aload_n 0, 1) := by decide +kernel
theorem d_M_owner_63 : decode prog_6_method_45_code 63 = .ok (.getfield 29, 3) := by decide +kernel
theorem d_M_owner_66 : decode prog_6_method_45_code 66 = .ok (.iload_n 3, 1) := by decide +kernel
theorem d_M_owner_67 : decode prog_6_method_45_code 67 = .ok (.iaload, 1) := by decide +kernel
theorem d_M_owner_68 : decode prog_6_method_45_code 68 = .ok (.ireturn, 1) := by decide +kernel
theorem d_M_keep_0 : decode prog_6_method_46_code 0 = .ok (.aload_n 0, 1) := by decide +kernel
theorem d_M_keep_1 : decode prog_6_method_46_code 1 = .ok (.iconst 0, 1) := by decide +kernel
theorem d_M_keep_2 : decode prog_6_method_46_code 2 = .ok (.putfield 84, 3) := by decide +kernel
theorem d_M_keep_5 : decode prog_6_method_46_code 5 = .ok (.aload_n 0, 1) := by decide +kernel
theorem d_M_keep_6 : decode prog_6_method_46_code 6 = .ok (.aload_n 0, 1) := by decide +kernel
theorem d_M_keep_7 : decode prog_6_method_46_code 7 = .ok (.getfield 25, 3) := by decide +kernel
theorem d_M_keep_10 : decode prog_6_method_46_code 10 = .ok (.putfield 60, 3) := by decide +kernel
theorem d_M_keep_13 : decode prog_6_method_46_code 13 = .ok (.iconst 0, 1) := by decide +kernel
theorem d_M_keep_14 : decode prog_6_method_46_code 14 = .ok (.istore_n 1, 1) := by decide +kernel
theorem d_M_keep_15 : decode prog_6_method_46_code 15 = .ok (.iload_n 1, 1) := by decide +kernel
theorem d_M_keep_16 : decode prog_6_method_46_code 16 = .ok (.bipush 24, 2) := by decide +kernel
theorem d_M_keep_18 : decode prog_6_method_46_code 18 = .ok (.if_icmp .ge 33, 3) := by decide +kernel
theorem d_M_keep_21 : decode prog_6_method_46_code 21 = .ok (.aload_n 0, 1) := by decide +kernel
theorem d_M_keep_22 : decode prog_6_method_46_code 22 = .ok (.getfield 63, 3) := by decide +kernel
theorem d_M_keep_25 : decode prog_6_method_46_code 25 = .ok (.iload_n 1, 1) := by decide +kernel
theorem d_M_keep_26 : decode prog_6_method_46_code 26 = .ok (.aload_n 0, 1) := by decide +kernel
theorem d_M_keep_27 : decode prog_6_method_46_code 27 = .ok (.getfield 29, 3) := by decide +kernel
theorem d_M_keep_30 : decode prog_6_method_46_code 30 = .ok (.iload_n 1, 1) := by decide +kernel
theorem d_M_keep_31 : decode prog_6_method_46_code 31 = .ok (.iaload, 1) := by decide +kernel
theorem d_M_keep_32 : decode prog_6_method_46_code 32 = .ok (.iastore, 1) := by decide +kernel
theorem d_M_keep_33 : decode prog_6_method_46_code 33 = .ok (.aload_n 0, 1) := by decide +kernel
theorem d_M_keep_34 : decode prog_6_method_46_code 34 = .ok (.getfield 66, 3) := by decide +kernel
theorem d_M_keep_37 : decode prog_6_method_46_code 37 = .ok (.iload_n 1, 1) := by decide +kernel
theorem d_M_keep_38 : decode prog_6_method_46_code 38 = .ok (.aload_n 0, 1) := by decide +kernel
theorem d_M_keep_39 : decode prog_6_method_46_code 39 = .ok (.getfield 32, 3) := by decide +kernel
theorem d_M_keep_42 : decode prog_6_method_46_code 42 = .ok (.iload_n 1, 1) := by decide +kernel
theorem d_M_keep_43 : decode prog_6_method_46_code 43 = .ok (.iaload, 1) := by decide +kernel
theorem d_M_keep_44 : decode prog_6_method_46_code 44 = .ok (.iastore, 1) := by decide +kernel
theorem d_M_keep_45 : decode prog_6_method_46_code 45 = .ok (.iinc 1 1, 3) := by decide +kernel
theorem d_M_keep_48 : decode prog_6_method_46_code 48 = .ok (.goto (-33), 3) := by decide +kernel
theorem d_M_keep_51 : decode prog_6_method_46_code 51 = .ok (.iconst 0, 1) := by decide +kernel
theorem d_M_keep_52 : decode prog_6_method_46_code 52 = .ok (.istore_n 1, 1) := by decide +kernel
theorem d_M_keep_53 : decode prog_6_method_46_code 53 = .ok (.iload_n 1, 1) := by decide +kernel
theorem d_M_keep_54 : decode prog_6_method_46_code 54 = .ok (.bipush 72, 2) := by decide +kernel
theorem d_M_keep_56 : decode prog_6_method_46_code 56 = .ok (.if_icmp .ge 21, 3) := by decide +kernel
theorem d_M_keep_59 : decode prog_6_method_46_code 59 = .ok (.aload_n 0, 1) := by decide +kernel
theorem d_M_keep_60 : decode prog_6_method_46_code 60 = .ok (.getfield 69, 3) := by decide +kernel
theorem d_M_keep_63 : decode prog_6_method_46_code 63 = .ok (.iload_n 1, 1) := by decide +kernel
theorem d_M_keep_64 : decode prog_6_method_46_code 64 = .ok (.aload_n 0, 1) := by decide +kernel
theorem d_M_keep_65 : decode prog_6_method_46_code 65 = .ok (.getfield 35, 3) := by decide +kernel
theorem d_M_keep_68 : decode prog_6_method_46_code 68 = .ok (.iload_n 1, 1) := by decide +kernel
theorem d_M_keep_69 : decode prog_6_method_46_code 69 = .ok (.iaload, 1) := by decide +kernel
theorem d_M_keep_70 : decode prog_6_method_46_code 70 = .ok (.iastore, 1) := by decide +kernel
theorem d_M_keep_71 : decode prog_6_method_46_code 71 = .ok (.iinc 1 1, 3) := by decide +kernel
theorem d_M_keep_74 : decode prog_6_method_46_code 74 = .ok (.goto (-21), 3) := by decide +kernel
theorem d_M_keep_77 : decode prog_6_method_46_code 77 = .ok (.iconst 0, 1) := by decide +kernel
theorem d_M_keep_78 : decode prog_6_method_46_code 78 = .ok (.istore_n 1, 1) := by decide +kernel
theorem d_M_keep_79 : decode prog_6_method_46_code 79 = .ok (.iload_n 1, 1) := by decide +kernel
theorem d_M_keep_80 : decode prog_6_method_46_code 80 = .ok (.bipush 120, 2) := by decide +kernel
theorem d_M_keep_82 : decode prog_6_method_46_code 82 = .ok (.if_icmp .ge 33, 3) := by decide +kernel
theorem d_M_keep_85 : decode prog_6_method_46_code 85 = .ok (.aload_n 0, 1) := by decide +kernel
theorem d_M_keep_86 : decode prog_6_method_46_code 86 = .ok (.getfield 72, 3) := by decide +kernel
theorem d_M_keep_89 : decode prog_6_method_46_code 89 = .ok (.iload_n 1, 1) := by decide +kernel
theorem d_M_keep_90 : decode prog_6_method_46_code 90 = .ok (.aload_n 0, 1) := by decide +kernel
theorem d_M_keep_91 : decode prog_6_method_46_code 91 = .ok (.getfield 38, 3) := by decide +kernel
theorem d_M_keep_94 : decode prog_6_method_46_code 94 = .ok (.iload_n 1, 1) := by decide +kernel
theorem d_M_keep_95 : decode prog_6_method_46_code 95 = .ok (.iaload, 1) := by decide +kernel
theorem d_M_keep_96 : decode prog_6_method_46_code 96 = .ok (.iastore, 1) := by decide +kernel
theorem d_M_keep_97 : decode prog_6_method_46_code 97 = .ok (.aload_n 0, 1) := by decide +kernel
theorem d_M_keep_98 : decode prog_6_method_46_code 98 = .ok (.getfield 75, 3) := by decide +kernel
theorem d_M_keep_101 : decode prog_6_method_46_code 101 = .ok (.iload_n 1, 1) := by decide +kernel
theorem d_M_keep_102 : decode prog_6_method_46_code 102 = .ok (.aload_n 0, 1) := by decide +kernel
theorem d_M_keep_103 : decode prog_6_method_46_code 103 = .ok (.getfield 41, 3) := by decide +kernel
theorem d_M_keep_106 : decode prog_6_method_46_code 106 = .ok (.iload_n 1, 1) := by decide +kernel
theorem d_M_keep_107 : decode prog_6_method_46_code 107 = .ok (.iaload, 1) := by decide +kernel
theorem d_M_keep_108 : decode prog_6_method_46_code 108 = .ok (.iastore, 1) := by decide +kernel
theorem d_M_keep_109 : decode prog_6_method_46_code 109 = .ok (.iinc 1 1, 3) := by decide +kernel
theorem d_M_keep_112 : decode prog_6_method_46_code 112 = .ok (.goto (-33), 3) := by decide +kernel
theorem d_M_keep_115 : decode prog_6_method_46_code 115 = .ok (.iconst 0, 1) := by decide +kernel
theorem d_M_keep_116 : decode prog_6_method_46_code 116 = .ok (.istore_n 1, 1) := by decide +kernel
theorem d_M_keep_117 : decode prog_6_method_46_code 117 = .ok (.iload_n 1, 1) := by decide +kernel
theorem d_M_keep_118 : decode prog_6_method_46_code 118 = .ok (.iconst 5, 1) := by decide +kernel
theorem d_M_keep_119 : decode prog_6_method_46_code 119 = .ok (.if_icmp .ge 21, 3) := by decide +kernel
theorem d_M_keep_122 : decode prog_6_method_46_code 122 = .ok (.aload_n 0, 1) := by decide +kernel
theorem d_M_keep_123 : decode prog_6_method_46_code 123 = .ok (.getfield 78, 3) := by decide +kernel
theorem d_M_keep_126 : decode prog_6_method_46_code 126 = .ok (.iload_n 1, 1) := by decide +kernel
theorem d_M_keep_127 : decode prog_6_method_46_code 127 = .ok (.aload_n 0, 1) := by decide +kernel
theorem d_M_keep_128 : decode prog_6_method_46_code 128 = .ok (.getfield 44, 3) := by decide +kernel
theorem d_M_keep_131 : decode prog_6_method_46_code 131 = .ok (.iload_n 1, 1) := by decide +kernel
theorem d_M_keep_132 : decode prog_6_method_46_code 132 = .ok (.iaload, 1) := by decide +kernel
theorem d_M_keep_133 : decode prog_6_method_46_code 133 = .ok (.iastore, 1) := by decide +kernel
theorem d_M_keep_134 : decode prog_6_method_46_code 134 = .ok (.iinc 1 1, 3) := by decide +kernel
theorem d_M_keep_137 : decode prog_6_method_46_code 137 = .ok (.goto (-20), 3) := by decide +kernel
theorem d_M_keep_140 : decode prog_6_method_46_code 140 = .ok (.aload_n 0, 1) := by decide +kernel
theorem d_M_keep_141 : decode prog_6_method_46_code 141 = .ok (.invokevirtual 184, 3) := by decide +kernel
theorem d_M_keep_144 : decode prog_6_method_46_code 144 = .ok (.ireturn, 1) := by decide +kernel
theorem d_M_records_0 : decode prog_6_method_10_code 0 = .ok (.iconst 0, 1) := by decide +kernel
theorem d_M_records_1 : decode prog_6_method_10_code 1 = .ok (.istore_n 1, 1) := by decide +kernel
theorem d_M_records_2 : decode prog_6_method_10_code 2 = .ok (.iconst 0, 1) := by decide +kernel
theorem d_M_records_3 : decode prog_6_method_10_code 3 = .ok (.istore_n 2, 1) := by decide +kernel
theorem d_M_records_4 : decode prog_6_method_10_code 4 = .ok (.iload_n 2, 1) := by decide +kernel
theorem d_M_records_5 : decode prog_6_method_10_code 5 = .ok (.bipush 24, 2) := by decide +kernel
theorem d_M_records_7 : decode prog_6_method_10_code 7 = .ok (.if_icmp .ge 26, 3) := by decide +kernel
theorem d_M_records_10 : decode prog_6_method_10_code 10 = .ok (.iload_n 1, 1) := by decide +kernel
theorem d_M_records_11 : decode prog_6_method_10_code 11 = .ok (.aload_n 0, 1) := by decide +kernel
theorem d_M_records_12 : decode prog_6_method_10_code 12 = .ok (.getfield 29, 3) := by decide +kernel
theorem d_M_records_15 : decode prog_6_method_10_code 15 = .ok (.iload_n 2, 1) := by decide +kernel
theorem d_M_records_16 : decode prog_6_method_10_code 16 = .ok (.iaload, 1) := by decide +kernel
theorem d_M_records_17 : decode prog_6_method_10_code 17 = .ok (.ifCond .le 7, 3) := by decide +kernel
theorem d_M_records_20 : decode prog_6_method_10_code 20 = .ok (.iconst 1, 1) := by decide +kernel
theorem d_M_records_21 : decode prog_6_method_10_code 21 = .ok (.goto 4, 3) := by decide +kernel
theorem d_M_records_24 : decode prog_6_method_10_code 24 = .ok (.iconst 0, 1) := by decide +kernel
theorem d_M_records_25 : decode prog_6_method_10_code 25 = .ok (.iadd, 1) := by decide +kernel
theorem d_M_records_26 : decode prog_6_method_10_code 26 = .ok (.istore_n 1, 1) := by decide +kernel
theorem d_M_records_27 : decode prog_6_method_10_code 27 = .ok (.iinc 2 1, 3) := by decide +kernel
theorem d_M_records_30 : decode prog_6_method_10_code 30 = .ok (.goto (-26), 3) := by decide +kernel
theorem d_M_records_33 : decode prog_6_method_10_code 33 = .ok (.iload_n 1, 1) := by decide +kernel
theorem d_M_records_34 : decode prog_6_method_10_code 34 = .ok (.ireturn, 1) := by decide +kernel
theorem d_M_rollBack_0 : decode prog_6_method_47_code 0 = .ok (.aload_n 0, 1) := by decide +kernel
theorem d_M_rollBack_1 : decode prog_6_method_47_code 1 = .ok (.iconst 0, 1) := by decide +kernel
theorem d_M_rollBack_2 : decode prog_6_method_47_code 2 = .ok (.putfield 84, 3) := by decide +kernel
theorem d_M_rollBack_5 : decode prog_6_method_47_code 5 = .ok (.aload_n 0, 1) := by decide +kernel
theorem d_M_rollBack_6 : decode prog_6_method_47_code 6 = .ok (.aload_n 0, 1) := by decide +kernel
theorem d_M_rollBack_7 : decode prog_6_method_47_code 7 = .ok (.getfield 60, 3) := by decide +kernel
theorem d_M_rollBack_10 : decode prog_6_method_47_code 10 = .ok (.putfield 25, 3) := by decide +kernel
theorem d_M_rollBack_13 : decode prog_6_method_47_code 13 = .ok (.iconst 0, 1) := by decide +kernel
theorem d_M_rollBack_14 : decode prog_6_method_47_code 14 = .ok (.istore_n 1, 1) := by decide +kernel
theorem d_M_rollBack_15 : decode prog_6_method_47_code 15 = .ok (.iload_n 1, 1) := by decide +kernel
theorem d_M_rollBack_16 : decode prog_6_method_47_code 16 = .ok (.bipush 24, 2) := by decide +kernel
theorem d_M_rollBack_18 : decode prog_6_method_47_code 18 = .ok (.if_icmp .ge 33, 3) := by decide +kernel
theorem d_M_rollBack_21 : decode prog_6_method_47_code 21 = .ok (.aload_n 0, 1) := by decide +kernel
theorem d_M_rollBack_22 : decode prog_6_method_47_code 22 = .ok (.getfield 29, 3) := by decide +kernel
theorem d_M_rollBack_25 : decode prog_6_method_47_code 25 = .ok (.iload_n 1, 1) := by decide +kernel
theorem d_M_rollBack_26 : decode prog_6_method_47_code 26 = .ok (.aload_n 0, 1) := by decide +kernel
theorem d_M_rollBack_27 : decode prog_6_method_47_code 27 = .ok (.getfield 63, 3) := by decide +kernel
theorem d_M_rollBack_30 : decode prog_6_method_47_code 30 = .ok (.iload_n 1, 1) := by decide +kernel
theorem d_M_rollBack_31 : decode prog_6_method_47_code 31 = .ok (.iaload, 1) := by decide +kernel
theorem d_M_rollBack_32 : decode prog_6_method_47_code 32 = .ok (.iastore, 1) := by decide +kernel
theorem d_M_rollBack_33 : decode prog_6_method_47_code 33 = .ok (.aload_n 0, 1) := by decide +kernel
theorem d_M_rollBack_34 : decode prog_6_method_47_code 34 = .ok (.getfield 32, 3) := by decide +kernel
theorem d_M_rollBack_37 : decode prog_6_method_47_code 37 = .ok (.iload_n 1, 1) := by decide +kernel
theorem d_M_rollBack_38 : decode prog_6_method_47_code 38 = .ok (.aload_n 0, 1) := by decide +kernel
theorem d_M_rollBack_39 : decode prog_6_method_47_code 39 = .ok (.getfield 66, 3) := by decide +kernel
theorem d_M_rollBack_42 : decode prog_6_method_47_code 42 = .ok (.iload_n 1, 1) := by decide +kernel
theorem d_M_rollBack_43 : decode prog_6_method_47_code 43 = .ok (.iaload, 1) := by decide +kernel
theorem d_M_rollBack_44 : decode prog_6_method_47_code 44 = .ok (.iastore, 1) := by decide +kernel
theorem d_M_rollBack_45 : decode prog_6_method_47_code 45 = .ok (.iinc 1 1, 3) := by decide +kernel
theorem d_M_rollBack_48 : decode prog_6_method_47_code 48 = .ok (.goto (-33), 3) := by decide +kernel
theorem d_M_rollBack_51 : decode prog_6_method_47_code 51 = .ok (.iconst 0, 1) := by decide +kernel
theorem d_M_rollBack_52 : decode prog_6_method_47_code 52 = .ok (.istore_n 1, 1) := by decide +kernel
theorem d_M_rollBack_53 : decode prog_6_method_47_code 53 = .ok (.iload_n 1, 1) := by decide +kernel
theorem d_M_rollBack_54 : decode prog_6_method_47_code 54 = .ok (.bipush 72, 2) := by decide +kernel
theorem d_M_rollBack_56 : decode prog_6_method_47_code 56 = .ok (.if_icmp .ge 21, 3) := by decide +kernel
theorem d_M_rollBack_59 : decode prog_6_method_47_code 59 = .ok (.aload_n 0, 1) := by decide +kernel
theorem d_M_rollBack_60 : decode prog_6_method_47_code 60 = .ok (.getfield 35, 3) := by decide +kernel
theorem d_M_rollBack_63 : decode prog_6_method_47_code 63 = .ok (.iload_n 1, 1) := by decide +kernel
theorem d_M_rollBack_64 : decode prog_6_method_47_code 64 = .ok (.aload_n 0, 1) := by decide +kernel
theorem d_M_rollBack_65 : decode prog_6_method_47_code 65 = .ok (.getfield 69, 3) := by decide +kernel
theorem d_M_rollBack_68 : decode prog_6_method_47_code 68 = .ok (.iload_n 1, 1) := by decide +kernel
theorem d_M_rollBack_69 : decode prog_6_method_47_code 69 = .ok (.iaload, 1) := by decide +kernel
theorem d_M_rollBack_70 : decode prog_6_method_47_code 70 = .ok (.iastore, 1) := by decide +kernel
theorem d_M_rollBack_71 : decode prog_6_method_47_code 71 = .ok (.iinc 1 1, 3) := by decide +kernel
theorem d_M_rollBack_74 : decode prog_6_method_47_code 74 = .ok (.goto (-21), 3) := by decide +kernel
theorem d_M_rollBack_77 : decode prog_6_method_47_code 77 = .ok (.iconst 0, 1) := by decide +kernel
theorem d_M_rollBack_78 : decode prog_6_method_47_code 78 = .ok (.istore_n 1, 1) := by decide +kernel
theorem d_M_rollBack_79 : decode prog_6_method_47_code 79 = .ok (.iload_n 1, 1) := by decide +kernel
theorem d_M_rollBack_80 : decode prog_6_method_47_code 80 = .ok (.bipush 120, 2) := by decide +kernel
theorem d_M_rollBack_82 : decode prog_6_method_47_code 82 = .ok (.if_icmp .ge 33, 3) := by decide +kernel
theorem d_M_rollBack_85 : decode prog_6_method_47_code 85 = .ok (.aload_n 0, 1) := by decide +kernel
theorem d_M_rollBack_86 : decode prog_6_method_47_code 86 = .ok (.getfield 38, 3) := by decide +kernel
theorem d_M_rollBack_89 : decode prog_6_method_47_code 89 = .ok (.iload_n 1, 1) := by decide +kernel
theorem d_M_rollBack_90 : decode prog_6_method_47_code 90 = .ok (.aload_n 0, 1) := by decide +kernel
theorem d_M_rollBack_91 : decode prog_6_method_47_code 91 = .ok (.getfield 72, 3) := by decide +kernel
theorem d_M_rollBack_94 : decode prog_6_method_47_code 94 = .ok (.iload_n 1, 1) := by decide +kernel
theorem d_M_rollBack_95 : decode prog_6_method_47_code 95 = .ok (.iaload, 1) := by decide +kernel
theorem d_M_rollBack_96 : decode prog_6_method_47_code 96 = .ok (.iastore, 1) := by decide +kernel
theorem d_M_rollBack_97 : decode prog_6_method_47_code 97 = .ok (.aload_n 0, 1) := by decide +kernel
theorem d_M_rollBack_98 : decode prog_6_method_47_code 98 = .ok (.getfield 41, 3) := by decide +kernel
theorem d_M_rollBack_101 : decode prog_6_method_47_code 101 = .ok (.iload_n 1, 1) := by decide +kernel
theorem d_M_rollBack_102 : decode prog_6_method_47_code 102 = .ok (.aload_n 0, 1) := by decide +kernel
theorem d_M_rollBack_103 : decode prog_6_method_47_code 103 = .ok (.getfield 75, 3) := by decide +kernel
theorem d_M_rollBack_106 : decode prog_6_method_47_code 106 = .ok (.iload_n 1, 1) := by decide +kernel
theorem d_M_rollBack_107 : decode prog_6_method_47_code 107 = .ok (.iaload, 1) := by decide +kernel
theorem d_M_rollBack_108 : decode prog_6_method_47_code 108 = .ok (.iastore, 1) := by decide +kernel
theorem d_M_rollBack_109 : decode prog_6_method_47_code 109 = .ok (.iinc 1 1, 3) := by decide +kernel
theorem d_M_rollBack_112 : decode prog_6_method_47_code 112 = .ok (.goto (-33), 3) := by decide +kernel
theorem d_M_rollBack_115 : decode prog_6_method_47_code 115 = .ok (.iconst 0, 1) := by decide +kernel
theorem d_M_rollBack_116 : decode prog_6_method_47_code 116 = .ok (.istore_n 1, 1) := by decide +kernel
theorem d_M_rollBack_117 : decode prog_6_method_47_code 117 = .ok (.iload_n 1, 1) := by decide +kernel
theorem d_M_rollBack_118 : decode prog_6_method_47_code 118 = .ok (.iconst 5, 1) := by decide +kernel
theorem d_M_rollBack_119 : decode prog_6_method_47_code 119 = .ok (.if_icmp .ge 21, 3) := by decide +kernel
theorem d_M_rollBack_122 : decode prog_6_method_47_code 122 = .ok (.aload_n 0, 1) := by decide +kernel
theorem d_M_rollBack_123 : decode prog_6_method_47_code 123 = .ok (.getfield 44, 3) := by decide +kernel
theorem d_M_rollBack_126 : decode prog_6_method_47_code 126 = .ok (.iload_n 1, 1) := by decide +kernel
theorem d_M_rollBack_127 : decode prog_6_method_47_code 127 = .ok (.aload_n 0, 1) := by decide +kernel
theorem d_M_rollBack_128 : decode prog_6_method_47_code 128 = .ok (.getfield 78, 3) := by decide +kernel
theorem d_M_rollBack_131 : decode prog_6_method_47_code 131 = .ok (.iload_n 1, 1) := by decide +kernel
theorem d_M_rollBack_132 : decode prog_6_method_47_code 132 = .ok (.iaload, 1) := by decide +kernel
theorem d_M_rollBack_133 : decode prog_6_method_47_code 133 = .ok (.iastore, 1) := by decide +kernel
theorem d_M_rollBack_134 : decode prog_6_method_47_code 134 = .ok (.iinc 1 1, 3) := by decide +kernel
theorem d_M_rollBack_137 : decode prog_6_method_47_code 137 = .ok (.goto (-20), 3) := by decide +kernel
theorem d_M_rollBack_140 : decode prog_6_method_47_code 140 = .ok (.aload_n 0, 1) := by decide +kernel
theorem d_M_rollBack_141 : decode prog_6_method_47_code 141 = .ok (.invokevirtual 81, 3) := by decide +kernel
theorem d_M_rollBack_144 : decode prog_6_method_47_code 144 = .ok (.aload_n 0, 1) := by decide +kernel
theorem d_M_rollBack_145 : decode prog_6_method_47_code 145 = .ok (.invokevirtual 184, 3) := by decide +kernel
theorem d_M_rollBack_148 : decode prog_6_method_47_code 148 = .ok (.ireturn, 1) := by decide +kernel
theorem d_M_count_0 : decode prog_6_method_48_code 0 = .ok (.aload_n 0, 1) := by decide +kernel
theorem d_M_count_1 : decode prog_6_method_48_code 1 = .ok (.iconst 0, 1) := by decide +kernel
theorem d_M_count_2 : decode prog_6_method_48_code 2 = .ok (.putfield 84, 3) := by decide +kernel
theorem d_M_count_5 : decode prog_6_method_48_code 5 = .ok (.aload_n 0, 1) := by decide +kernel
theorem d_M_count_6 : decode prog_6_method_48_code 6 = .ok (.invokevirtual 184, 3) := by decide +kernel
theorem d_M_count_9 : decode prog_6_method_48_code 9 = .ok (.ireturn, 1) := by decide +kernel
end
section
theorem d_P_init_0 : decode prog_3_method_1_code 0 = .ok (.aload_n 0, 1) := by decide +kernel
theorem d_P_init_1 : decode prog_3_method_1_code 1 = .ok (.invokespecial 3, 3) := by decide +kernel
theorem d_P_init_4 : decode prog_3_method_1_code 4 = .ok (.aload_n 0, 1) := by decide +kernel
theorem d_P_init_5 : decode prog_3_method_1_code 5 = .ok (.iconst 0, 1) := by decide +kernel
theorem d_P_init_6 : decode prog_3_method_1_code 6 = .ok (.putfield 9, 3) := by decide +kernel
theorem d_P_init_9 : decode prog_3_method_1_code 9 = .ok (.aload_n 0, 1) := by decide +kernel
theorem d_P_init_10 : decode prog_3_method_1_code 10 = .ok (.iconst 0, 1) := by decide +kernel
theorem d_P_init_11 : decode prog_3_method_1_code 11 = .ok (.putfield 15, 3) := by decide +kernel
theorem d_P_init_14 : decode prog_3_method_1_code 14 = .ok (.aload_n 0, 1) := by decide +kernel
theorem d_P_init_15 : decode prog_3_method_1_code 15 = .ok (.iconst 4, 1) := by decide +kernel
theorem d_P_init_16 : decode prog_3_method_1_code 16 = .ok (.newarray .int, 2) := by decide +kernel
theorem d_P_init_18 : decode prog_3_method_1_code 18 = .ok (.putfield 18, 3) := by decide +kernel
theorem d_P_init_21 : decode prog_3_method_1_code 21 = .ok (.aload_n 0, 1) := by decide +kernel
theorem d_P_init_22 : decode prog_3_method_1_code 22 = .ok (.iconst 5, 1) := by decide +kernel
theorem d_P_init_23 : decode prog_3_method_1_code 23 = .ok (.newarray .int, 2) := by decide +kernel
theorem d_P_init_25 : decode prog_3_method_1_code 25 = .ok (.putfield 22, 3) := by decide +kernel
theorem d_P_init_28 : decode prog_3_method_1_code 28 = .ok (.aload_n 0, 1) := by decide +kernel
theorem d_P_init_29 : decode prog_3_method_1_code 29 = .ok (.iconst 5, 1) := by decide +kernel
theorem d_P_init_30 : decode prog_3_method_1_code 30 = .ok (.newarray .int, 2) := by decide +kernel
theorem d_P_init_32 : decode prog_3_method_1_code 32 = .ok (.putfield 25, 3) := by decide +kernel
theorem d_P_init_35 : decode prog_3_method_1_code 35 = .ok (.aload_n 0, 1) := by decide +kernel
theorem d_P_init_36 : decode prog_3_method_1_code 36 = .ok (.iconst 5, 1) := by decide +kernel
theorem d_P_init_37 : decode prog_3_method_1_code 37 = .ok (.newarray .int, 2) := by decide +kernel
theorem d_P_init_39 : decode prog_3_method_1_code 39 = .ok (.putfield 28, 3) := by decide +kernel
theorem d_P_init_42 : decode prog_3_method_1_code 42 = .ok (.aload_n 0, 1) := by decide +kernel
theorem d_P_init_43 : decode prog_3_method_1_code 43 = .ok (.iconst 5, 1) := by decide +kernel
theorem d_P_init_44 : decode prog_3_method_1_code 44 = .ok (.newarray .int, 2) := by decide +kernel
theorem d_P_init_46 : decode prog_3_method_1_code 46 = .ok (.putfield 31, 3) := by decide +kernel
theorem d_P_init_49 : decode prog_3_method_1_code 49 = .ok (.return_, 1) := by decide +kernel
theorem d_P_addType_0 : decode prog_3_method_6_code 0 = .ok (.aload_n 0, 1) := by decide +kernel
theorem d_P_addType_1 : decode prog_3_method_6_code 1 = .ok (.getfield 18, 3) := by decide +kernel
theorem d_P_addType_4 : decode prog_3_method_6_code 4 = .ok (.aload_n 0, 1) := by decide +kernel
theorem d_P_addType_5 : decode prog_3_method_6_code 5 = .ok (.getfield 9, 3) := by decide +kernel
theorem d_P_addType_8 : decode prog_3_method_6_code 8 = .ok (.iload_n 1, 1) := by decide +kernel
theorem d_P_addType_9 : decode prog_3_method_6_code 9 = .ok (.iastore, 1) := by decide +kernel
theorem d_P_addType_10 : decode prog_3_method_6_code 10 = .ok (.aload_n 0, 1) := by decide +kernel
theorem d_P_addType_11 : decode prog_3_method_6_code 11 = .ok (.dup, 1) := by decide +kernel
theorem d_P_addType_12 : decode prog_3_method_6_code 12 = .ok (.getfield 9, 3) := by decide +kernel
theorem d_P_addType_15 : decode prog_3_method_6_code 15 = .ok (.iconst 1, 1) := by decide +kernel
theorem d_P_addType_16 : decode prog_3_method_6_code 16 = .ok (.iadd, 1) := by decide +kernel
theorem d_P_addType_17 : decode prog_3_method_6_code 17 = .ok (.putfield 9, 3) := by decide +kernel
theorem d_P_addType_20 : decode prog_3_method_6_code 20 = .ok (.aload_n 0, 1) := by decide +kernel
theorem d_P_addType_21 : decode prog_3_method_6_code 21 = .ok (.getfield 9, 3) := by decide +kernel
theorem d_P_addType_24 : decode prog_3_method_6_code 24 = .ok (.iconst 1, 1) := by decide +kernel
theorem d_P_addType_25 : decode prog_3_method_6_code 25 = .ok (.isub, 1) := by decide +kernel
theorem d_P_addType_26 : decode prog_3_method_6_code 26 = .ok (.ireturn, 1) := by decide +kernel
theorem d_P_hasType_0 : decode prog_3_method_2_code 0 = .ok (.iload_n 1, 1) := by decide +kernel
theorem d_P_hasType_1 : decode prog_3_method_2_code 1 = .ok (.ifCond .lt 15, 3) := by decide +kernel
theorem d_P_hasType_4 : decode prog_3_method_2_code 4 = .ok (.iload_n 1, 1) := by decide +kernel
theorem d_P_hasType_5 : decode prog_3_method_2_code 5 = .ok (.aload_n 0, 1) := by decide +kernel
theorem d_P_hasType_6 : decode prog_3_method_2_code 6 = .ok (.getfield 9, 3) := by decide +kernel
theorem d_P_hasType_9 : decode prog_3_method_2_code 9 = .ok (.if_icmp .ge 7, 3) := by decide +kernel
theorem d_P_hasType_12 : decode prog_3_method_2_code 12 = .ok (.iconst 1, 1) := by decide +kernel
theorem d_P_hasType_13 : decode prog_3_method_2_code 13 = .ok (.goto 4, 3) := by decide +kernel
theorem d_P_hasType_16 : decode prog_3_method_2_code 16 = .ok (.iconst 0, 1) := by decide +kernel
theorem d_P_hasType_17 : decode prog_3_method_2_code 17 = .ok (.ireturn, 1) := by decide +kernel
theorem d_P_isOrder_0 : decode prog_3_method_5_code 0 = .ok (.iload_n 1, 1) := by decide +kernel
theorem d_P_isOrder_1 : decode prog_3_method_5_code 1 = .ok (.ifCond .lt 10, 3) := by decide +kernel
theorem d_P_isOrder_4 : decode prog_3_method_5_code 4 = .ok (.iload_n 1, 1) := by decide +kernel
theorem d_P_isOrder_5 : decode prog_3_method_5_code 5 = .ok (.iconst 3, 1) := by decide +kernel
theorem d_P_isOrder_6 : decode prog_3_method_5_code 6 = .ok (.if_icmp .gt 5, 3) := by decide +kernel
theorem d_P_isOrder_9 : decode prog_3_method_5_code 9 = .ok (.iconst 1, 1) := by decide +kernel
theorem d_P_isOrder_10 : decode prog_3_method_5_code 10 = .ok (.ireturn, 1) := by decide +kernel
theorem d_P_isOrder_11 : decode prog_3_method_5_code 11 = .ok (.iload_n 1, 1) := by decide +kernel
theorem d_P_isOrder_12 : decode prog_3_method_5_code 12 = .ok (.bipush 10, 2) := by decide +kernel
theorem d_P_isOrder_14 : decode prog_3_method_5_code 14 = .ok (.if_icmp .lt 25, 3) := by decide +kernel
theorem d_P_isOrder_17 : decode prog_3_method_5_code 17 = .ok (.iload_n 1, 1) := by decide +kernel
theorem d_P_isOrder_18 : decode prog_3_method_5_code 18 = .ok (.bipush 40, 2) := by decide +kernel
theorem d_P_isOrder_20 : decode prog_3_method_5_code 20 = .ok (.if_icmp .ge 19, 3) := by decide +kernel
theorem d_P_isOrder_23 : decode prog_3_method_5_code 23 = .ok (.aload_n 0, 1) := by decide +kernel
theorem d_P_isOrder_24 : decode prog_3_method_5_code 24 = .ok (.iload_n 2, 1) := by decide +kernel
theorem d_P_isOrder_25 : decode prog_3_method_5_code 25 = .ok (.iload_n 1, 1) := by decide +kernel
theorem d_P_isOrder_26 : decode prog_3_method_5_code 26 = .ok (.bipush 10, 2) := by decide +kernel
theorem d_P_isOrder_28 : decode prog_3_method_5_code 28 = .ok (.irem, 1) := by decide +kernel
theorem d_P_isOrder_29 : decode prog_3_method_5_code 29 = .ok (.invokevirtual 38, 3) := by decide +kernel
theorem d_P_isOrder_32 : decode prog_3_method_5_code 32 = .ok (.ifCond .eq 7, 3) := by decide +kernel
theorem d_P_isOrder_35 : decode prog_3_method_5_code 35 = .ok (.iconst 1, 1) := by decide +kernel
theorem d_P_isOrder_36 : decode prog_3_method_5_code 36 = .ok (.goto 4, 3) := by decide +kernel
theorem d_P_isOrder_39 : decode prog_3_method_5_code 39 = .ok (.iconst 0, 1) := by decide +kernel
theorem d_P_isOrder_40 : decode prog_3_method_5_code 40 = .ok (.ireturn, 1) := by decide +kernel
theorem d_P_hasField_0 : decode prog_3_method_4_code 0 = .ok (.aload_n 0, 1) := by decide +kernel
theorem d_P_hasField_1 : decode prog_3_method_4_code 1 = .ok (.iload_n 1, 1) := by decide +kernel
theorem d_P_hasField_2 : decode prog_3_method_4_code 2 = .ok (.invokevirtual 34, 3) := by decide +kernel
theorem d_P_hasField_5 : decode prog_3_method_4_code 5 = .ok (.ifCond .eq 21, 3) := by decide +kernel
theorem d_P_hasField_8 : decode prog_3_method_4_code 8 = .ok (.iload_n 2, 1) := by decide +kernel
theorem d_P_hasField_9 : decode prog_3_method_4_code 9 = .ok (.ifCond .lt 17, 3) := by decide +kernel
theorem d_P_hasField_12 : decode prog_3_method_4_code 12 = .ok (.iload_n 2, 1) := by decide +kernel
theorem d_P_hasField_13 : decode prog_3_method_4_code 13 = .ok (.aload_n 0, 1) := by decide +kernel
theorem d_P_hasField_14 : decode prog_3_method_4_code 14 = .ok (.getfield 18, 3) := by decide +kernel
theorem d_P_hasField_17 : decode prog_3_method_4_code 17 = .ok (.iload_n 1, 1) := by decide +kernel
theorem d_P_hasField_18 : decode prog_3_method_4_code 18 = .ok (.iaload, 1) := by decide +kernel
theorem d_P_hasField_19 : decode prog_3_method_4_code 19 = .ok (.if_icmp .ge 7, 3) := by decide +kernel
theorem d_P_hasField_22 : decode prog_3_method_4_code 22 = .ok (.iconst 1, 1) := by decide +kernel
theorem d_P_hasField_23 : decode prog_3_method_4_code 23 = .ok (.goto 4, 3) := by decide +kernel
theorem d_P_hasField_26 : decode prog_3_method_4_code 26 = .ok (.iconst 0, 1) := by decide +kernel
theorem d_P_hasField_27 : decode prog_3_method_4_code 27 = .ok (.ireturn, 1) := by decide +kernel
theorem d_P_addSet_0 : decode prog_3_method_7_code 0 = .ok (.aload_n 0, 1) := by decide +kernel
theorem d_P_addSet_1 : decode prog_3_method_7_code 1 = .ok (.getfield 22, 3) := by decide +kernel
theorem d_P_addSet_4 : decode prog_3_method_7_code 4 = .ok (.aload_n 0, 1) := by decide +kernel
theorem d_P_addSet_5 : decode prog_3_method_7_code 5 = .ok (.getfield 15, 3) := by decide +kernel
theorem d_P_addSet_8 : decode prog_3_method_7_code 8 = .ok (.iload_n 1, 1) := by decide +kernel
theorem d_P_addSet_9 : decode prog_3_method_7_code 9 = .ok (.iastore, 1) := by decide +kernel
theorem d_P_addSet_10 : decode prog_3_method_7_code 10 = .ok (.aload_n 0, 1) := by decide +kernel
theorem d_P_addSet_11 : decode prog_3_method_7_code 11 = .ok (.getfield 25, 3) := by decide +kernel
theorem d_P_addSet_14 : decode prog_3_method_7_code 14 = .ok (.aload_n 0, 1) := by decide +kernel
theorem d_P_addSet_15 : decode prog_3_method_7_code 15 = .ok (.getfield 15, 3) := by decide +kernel
theorem d_P_addSet_18 : decode prog_3_method_7_code 18 = .ok (.iload_n 2, 1) := by decide +kernel
theorem d_P_addSet_19 : decode prog_3_method_7_code 19 = .ok (.iastore, 1) := by decide +kernel
theorem d_P_addSet_20 : decode prog_3_method_7_code 20 = .ok (.aload_n 0, 1) := by decide +kernel
theorem d_P_addSet_21 : decode prog_3_method_7_code 21 = .ok (.getfield 28, 3) := by decide +kernel
theorem d_P_addSet_24 : decode prog_3_method_7_code 24 = .ok (.aload_n 0, 1) := by decide +kernel
theorem d_P_addSet_25 : decode prog_3_method_7_code 25 = .ok (.getfield 15, 3) := by decide +kernel
theorem d_P_addSet_28 : decode prog_3_method_7_code 28 = .ok (.iload_n 3, 1) := by decide +kernel
theorem d_P_addSet_29 : decode prog_3_method_7_code 29 = .ok (.iastore, 1) := by decide +kernel
theorem d_P_addSet_30 : decode prog_3_method_7_code 30 = .ok (.aload_n 0, 1) := by decide +kernel
theorem d_P_addSet_31 : decode prog_3_method_7_code 31 = .ok (.getfield 31, 3) := by decide +kernel
theorem d_P_addSet_34 : decode prog_3_method_7_code 34 = .ok (.aload_n 0, 1) := by decide +kernel
theorem d_P_addSet_35 : decode prog_3_method_7_code 35 = .ok (.getfield 15, 3) := by decide +kernel
theorem d_P_addSet_38 : decode prog_3_method_7_code 38 = .ok (.iload 4, 2) := by decide +kernel
theorem d_P_addSet_40 : decode prog_3_method_7_code 40 = .ok (.iastore, 1) := by decide +kernel
theorem d_P_addSet_41 : decode prog_3_method_7_code 41 = .ok (.aload_n 0, 1) := by decide +kernel
theorem d_P_addSet_42 : decode prog_3_method_7_code 42 = .ok (.dup, 1) := by decide +kernel
theorem d_P_addSet_43 : decode prog_3_method_7_code 43 = .ok (.getfield 15, 3) := by decide +kernel
theorem d_P_addSet_46 : decode prog_3_method_7_code 46 = .ok (.iconst 1, 1) := by decide +kernel
theorem d_P_addSet_47 : decode prog_3_method_7_code 47 = .ok (.iadd, 1) := by decide +kernel
theorem d_P_addSet_48 : decode prog_3_method_7_code 48 = .ok (.putfield 15, 3) := by decide +kernel
theorem d_P_addSet_51 : decode prog_3_method_7_code 51 = .ok (.aload_n 0, 1) := by decide +kernel
theorem d_P_addSet_52 : decode prog_3_method_7_code 52 = .ok (.getfield 15, 3) := by decide +kernel
theorem d_P_addSet_55 : decode prog_3_method_7_code 55 = .ok (.iconst 1, 1) := by decide +kernel
theorem d_P_addSet_56 : decode prog_3_method_7_code 56 = .ok (.isub, 1) := by decide +kernel
theorem d_P_addSet_57 : decode prog_3_method_7_code 57 = .ok (.ireturn, 1) := by decide +kernel
theorem d_P_joinsWhenStored_0 : decode prog_3_method_8_code 0 = .ok (.aload_n 0, 1) := by decide +kernel
theorem d_P_joinsWhenStored_1 : decode prog_3_method_8_code 1 = .ok (.getfield 25, 3) := by decide +kernel
theorem d_P_joinsWhenStored_4 : decode prog_3_method_8_code 4 = .ok (.iload_n 1, 1) := by decide +kernel
theorem d_P_joinsWhenStored_5 : decode prog_3_method_8_code 5 = .ok (.iaload, 1) := by decide +kernel
theorem d_P_joinsWhenStored_6 : decode prog_3_method_8_code 6 = .ok (.iload_n 2, 1) := by decide +kernel
theorem d_P_joinsWhenStored_7 : decode prog_3_method_8_code 7 = .ok (.if_icmp .ne 17, 3) := by decide +kernel
theorem d_P_joinsWhenStored_10 : decode prog_3_method_8_code 10 = .ok (.aload_n 0, 1) := by decide +kernel
theorem d_P_joinsWhenStored_11 : decode prog_3_method_8_code 11 = .ok (.getfield 31, 3) := by decide +kernel
theorem d_P_joinsWhenStored_14 : decode prog_3_method_8_code 14 = .ok (.iload_n 1, 1) := by decide +kernel
theorem d_P_joinsWhenStored_15 : decode prog_3_method_8_code 15 = .ok (.iaload, 1) := by decide +kernel
theorem d_P_joinsWhenStored_16 : decode prog_3_method_8_code 16 = .ok (.iconst 3, 1) := by decide +kernel
theorem d_P_joinsWhenStored_17 : decode prog_3_method_8_code 17 = .ok (.if_icmp .lt 7, 3) := by decide +kernel
theorem d_P_joinsWhenStored_20 : decode prog_3_method_8_code 20 = .ok (.iconst 1, 1) := by decide +kernel
theorem d_P_joinsWhenStored_21 : decode prog_3_method_8_code 21 = .ok (.goto 4, 3) := by decide +kernel
theorem d_P_joinsWhenStored_24 : decode prog_3_method_8_code 24 = .ok (.iconst 0, 1) := by decide +kernel
theorem d_P_joinsWhenStored_25 : decode prog_3_method_8_code 25 = .ok (.ireturn, 1) := by decide +kernel
theorem d_P_isSorted_0 : decode prog_3_method_11_code 0 = .ok (.aload_n 0, 1) := by decide +kernel
theorem d_P_isSorted_1 : decode prog_3_method_11_code 1 = .ok (.getfield 28, 3) := by decide +kernel
theorem d_P_isSorted_4 : decode prog_3_method_11_code 4 = .ok (.iload_n 1, 1) := by decide +kernel
theorem d_P_isSorted_5 : decode prog_3_method_11_code 5 = .ok (.iaload, 1) := by decide +kernel
theorem d_P_isSorted_6 : decode prog_3_method_11_code 6 = .ok (.bipush 10, 2) := by decide +kernel
theorem d_P_isSorted_8 : decode prog_3_method_11_code 8 = .ok (.if_icmp .lt 7, 3) := by decide +kernel
theorem d_P_isSorted_11 : decode prog_3_method_11_code 11 = .ok (.iconst 1, 1) := by decide +kernel
theorem d_P_isSorted_12 : decode prog_3_method_11_code 12 = .ok (.goto 4, 3) := by decide +kernel
theorem d_P_isSorted_15 : decode prog_3_method_11_code 15 = .ok (.iconst 0, 1) := by decide +kernel
theorem d_P_isSorted_16 : decode prog_3_method_11_code 16 = .ok (.ireturn, 1) := by decide +kernel
theorem d_P_sortField_0 : decode prog_3_method_12_code 0 = .ok (.aload_n 0, 1) := by decide +kernel
theorem d_P_sortField_1 : decode prog_3_method_12_code 1 = .ok (.getfield 28, 3) := by decide +kernel
theorem d_P_sortField_4 : decode prog_3_method_12_code 4 = .ok (.iload_n 1, 1) := by decide +kernel
theorem d_P_sortField_5 : decode prog_3_method_12_code 5 = .ok (.iaload, 1) := by decide +kernel
theorem d_P_sortField_6 : decode prog_3_method_12_code 6 = .ok (.bipush 10, 2) := by decide +kernel
theorem d_P_sortField_8 : decode prog_3_method_12_code 8 = .ok (.irem, 1) := by decide +kernel
theorem d_P_sortField_9 : decode prog_3_method_12_code 9 = .ok (.ireturn, 1) := by decide +kernel
theorem d_P_hasSet_0 : decode prog_3_method_3_code 0 = .ok (.iload_n 1, 1) := by decide +kernel
theorem d_P_hasSet_1 : decode prog_3_method_3_code 1 = .ok (.ifCond .lt 15, 3) := by decide +kernel
theorem d_P_hasSet_4 : decode prog_3_method_3_code 4 = .ok (.iload_n 1, 1) := by decide +kernel
theorem d_P_hasSet_5 : decode prog_3_method_3_code 5 = .ok (.aload_n 0, 1) := by decide +kernel
theorem d_P_hasSet_6 : decode prog_3_method_3_code 6 = .ok (.getfield 15, 3) := by decide +kernel
theorem d_P_hasSet_9 : decode prog_3_method_3_code 9 = .ok (.if_icmp .ge 7, 3) := by decide +kernel
theorem d_P_hasSet_12 : decode prog_3_method_3_code 12 = .ok (.iconst 1, 1) := by decide +kernel
theorem d_P_hasSet_13 : decode prog_3_method_3_code 13 = .ok (.goto 4, 3) := by decide +kernel
theorem d_P_hasSet_16 : decode prog_3_method_3_code 16 = .ok (.iconst 0, 1) := by decide +kernel
theorem d_P_hasSet_17 : decode prog_3_method_3_code 17 = .ok (.ireturn, 1) := by decide +kernel
theorem d_P_isSortedBy_0 : decode prog_3_method_13_code 0 = .ok (.aload_n 0, 1) := by decide +kernel
theorem d_P_isSortedBy_1 : decode prog_3_method_13_code 1 = .ok (.iload_n 1, 1) := by decide +kernel
theorem d_P_isSortedBy_2 : decode prog_3_method_13_code 2 = .ok (.invokevirtual 46, 3) := by decide +kernel
theorem d_P_isSortedBy_5 : decode prog_3_method_13_code 5 = .ok (.ifCond .eq 16, 3) := by decide +kernel
theorem d_P_isSortedBy_8 : decode prog_3_method_13_code 8 = .ok (.aload_n 0, 1) := by decide +kernel
theorem d_P_isSortedBy_9 : decode prog_3_method_13_code 9 = .ok (.iload_n 1, 1) := by decide +kernel
theorem d_P_isSortedBy_10 : decode prog_3_method_13_code 10 = .ok (.invokevirtual 49, 3) := by decide +kernel
theorem d_P_isSortedBy_13 : decode prog_3_method_13_code 13 = .ok (.iload_n 2, 1) := by decide +kernel
theorem d_P_isSortedBy_14 : decode prog_3_method_13_code 14 = .ok (.if_icmp .ne 7, 3) := by decide +kernel
theorem d_P_isSortedBy_17 : decode prog_3_method_13_code 17 = .ok (.iconst 1, 1) := by decide +kernel
theorem d_P_isSortedBy_18 : decode prog_3_method_13_code 18 = .ok (.goto 4, 3) := by decide +kernel
theorem d_P_isSortedBy_21 : decode prog_3_method_13_code 21 = .ok (.iconst 0, 1) := by decide +kernel
theorem d_P_isSortedBy_22 : decode prog_3_method_13_code 22 = .ok (.ireturn, 1) := by decide +kernel
theorem d_P_hold_0 : decode prog_3_method_9_code 0 = .ok (.aload_n 0, 1) := by decide +kernel
theorem d_P_hold_1 : decode prog_3_method_9_code 1 = .ok (.getfield 31, 3) := by decide +kernel
theorem d_P_hold_4 : decode prog_3_method_9_code 4 = .ok (.iload_n 1, 1) := by decide +kernel
theorem d_P_hold_5 : decode prog_3_method_9_code 5 = .ok (.iaload, 1) := by decide +kernel
theorem d_P_hold_6 : decode prog_3_method_9_code 6 = .ok (.iconst 3, 1) := by decide +kernel
theorem d_P_hold_7 : decode prog_3_method_9_code 7 = .ok (.irem, 1) := by decide +kernel
theorem d_P_hold_8 : decode prog_3_method_9_code 8 = .ok (.ireturn, 1) := by decide +kernel
theorem d_P_goesWithOwner_0 : decode prog_3_method_10_code 0 = .ok (.aload_n 0, 1) := by decide +kernel
theorem d_P_goesWithOwner_1 : decode prog_3_method_10_code 1 = .ok (.iload_n 1, 1) := by decide +kernel
theorem d_P_goesWithOwner_2 : decode prog_3_method_10_code 2 = .ok (.invokevirtual 42, 3) := by decide +kernel
theorem d_P_goesWithOwner_5 : decode prog_3_method_10_code 5 = .ok (.iload_n 2, 1) := by decide +kernel
theorem d_P_goesWithOwner_6 : decode prog_3_method_10_code 6 = .ok (.if_icmp .ge 7, 3) := by decide +kernel
theorem d_P_goesWithOwner_9 : decode prog_3_method_10_code 9 = .ok (.iconst 1, 1) := by decide +kernel
theorem d_P_goesWithOwner_10 : decode prog_3_method_10_code 10 = .ok (.goto 4, 3) := by decide +kernel
theorem d_P_goesWithOwner_13 : decode prog_3_method_10_code 13 = .ok (.iconst 0, 1) := by decide +kernel
theorem d_P_goesWithOwner_14 : decode prog_3_method_10_code 14 = .ok (.ireturn, 1) := by decide +kernel
end
section
theorem d_R_init_0 : decode prog_1_method_1_code 0 = .ok (.aload_n 0, 1) := by decide +kernel
theorem d_R_init_1 : decode prog_1_method_1_code 1 = .ok (.invokespecial 1, 3) := by decide +kernel
theorem d_R_init_4 : decode prog_1_method_1_code 4 = .ok (.aload_n 0, 1) := by decide +kernel
theorem d_R_init_5 : decode prog_1_method_1_code 5 = .ok (.new 7, 3) := by decide +kernel
theorem d_R_init_8 : decode prog_1_method_1_code 8 = .ok (.dup, 1) := by decide +kernel
theorem d_R_init_9 : decode prog_1_method_1_code 9 = .ok (.invokespecial 9, 3) := by decide +kernel
theorem d_R_init_12 : decode prog_1_method_1_code 12 = .ok (.putfield 10, 3) := by decide +kernel
theorem d_R_init_15 : decode prog_1_method_1_code 15 = .ok (.aload_n 0, 1) := by decide +kernel
theorem d_R_init_16 : decode prog_1_method_1_code 16 = .ok (.new 16, 3) := by decide +kernel
theorem d_R_init_19 : decode prog_1_method_1_code 19 = .ok (.dup, 1) := by decide +kernel
theorem d_R_init_20 : decode prog_1_method_1_code 20 = .ok (.invokespecial 18, 3) := by decide +kernel
theorem d_R_init_23 : decode prog_1_method_1_code 23 = .ok (.putfield 19, 3) := by decide +kernel
theorem d_R_init_26 : decode prog_1_method_1_code 26 = .ok (.aload_n 0, 1) := by decide +kernel
theorem d_R_init_27 : decode prog_1_method_1_code 27 = .ok (.new 16, 3) := by decide +kernel
theorem d_R_init_30 : decode prog_1_method_1_code 30 = .ok (.dup, 1) := by decide +kernel
theorem d_R_init_31 : decode prog_1_method_1_code 31 = .ok (.invokespecial 18, 3) := by decide +kernel
theorem d_R_init_34 : decode prog_1_method_1_code 34 = .ok (.putfield 23, 3) := by decide +kernel
theorem d_R_init_37 : decode prog_1_method_1_code 37 = .ok (.aload_n 0, 1) := by decide +kernel
theorem d_R_init_38 : decode prog_1_method_1_code 38 = .ok (.new 26, 3) := by decide +kernel
theorem d_R_init_41 : decode prog_1_method_1_code 41 = .ok (.dup, 1) := by decide +kernel
theorem d_R_init_42 : decode prog_1_method_1_code 42 = .ok (.invokespecial 28, 3) := by decide +kernel
theorem d_R_init_45 : decode prog_1_method_1_code 45 = .ok (.putfield 29, 3) := by decide +kernel
theorem d_R_init_48 : decode prog_1_method_1_code 48 = .ok (.aload_n 0, 1) := by decide +kernel
theorem d_R_init_49 : decode prog_1_method_1_code 49 = .ok (.iconst 0, 1) := by decide +kernel
theorem d_R_init_50 : decode prog_1_method_1_code 50 = .ok (.putfield 33, 3) := by decide +kernel
theorem d_R_init_53 : decode prog_1_method_1_code 53 = .ok (.return_, 1) := by decide +kernel
theorem d_R_keep_0 : decode prog_1_method_18_code 0 = .ok (.aload_n 0, 1) := by decide +kernel
theorem d_R_keep_1 : decode prog_1_method_18_code 1 = .ok (.getfield 23, 3) := by decide +kernel
theorem d_R_keep_4 : decode prog_1_method_18_code 4 = .ok (.aload_n 0, 1) := by decide +kernel
theorem d_R_keep_5 : decode prog_1_method_18_code 5 = .ok (.getfield 19, 3) := by decide +kernel
theorem d_R_keep_8 : decode prog_1_method_18_code 8 = .ok (.invokevirtual 246, 3) := by decide +kernel
theorem d_R_keep_11 : decode prog_1_method_18_code 11 = .ok (.aload_n 0, 1) := by decide +kernel
theorem d_R_keep_12 : decode prog_1_method_18_code 12 = .ok (.getfield 19, 3) := by decide +kernel
theorem d_R_keep_15 : decode prog_1_method_18_code 15 = .ok (.getfield 250, 3) := by decide +kernel
theorem d_R_keep_18 : decode prog_1_method_18_code 18 = .ok (.ireturn, 1) := by decide +kernel
theorem d_R_rollBack_0 : decode prog_1_method_19_code 0 = .ok (.aload_n 0, 1) := by decide +kernel
theorem d_R_rollBack_1 : decode prog_1_method_19_code 1 = .ok (.getfield 19, 3) := by decide +kernel
theorem d_R_rollBack_4 : decode prog_1_method_19_code 4 = .ok (.aload_n 0, 1) := by decide +kernel
theorem d_R_rollBack_5 : decode prog_1_method_19_code 5 = .ok (.getfield 23, 3) := by decide +kernel
theorem d_R_rollBack_8 : decode prog_1_method_19_code 8 = .ok (.invokevirtual 246, 3) := by decide +kernel
theorem d_R_rollBack_11 : decode prog_1_method_19_code 11 = .ok (.aload_n 0, 1) := by decide +kernel
theorem d_R_rollBack_12 : decode prog_1_method_19_code 12 = .ok (.getfield 29, 3) := by decide +kernel
theorem d_R_rollBack_15 : decode prog_1_method_19_code 15 = .ok (.invokevirtual 253, 3) := by decide +kernel
theorem d_R_rollBack_18 : decode prog_1_method_19_code 18 = .ok (.aload_n 0, 1) := by decide +kernel
theorem d_R_rollBack_19 : decode prog_1_method_19_code 19 = .ok (.getfield 19, 3) := by decide +kernel
theorem d_R_rollBack_22 : decode prog_1_method_19_code 22 = .ok (.getfield 250, 3) := by decide +kernel
theorem d_R_rollBack_25 : decode prog_1_method_19_code 25 = .ok (.ireturn, 1) := by decide +kernel
theorem d_R_count_0 : decode prog_1_method_20_code 0 = .ok (.aload_n 0, 1) := by decide +kernel
theorem d_R_count_1 : decode prog_1_method_20_code 1 = .ok (.getfield 19, 3) := by decide +kernel
theorem d_R_count_4 : decode prog_1_method_20_code 4 = .ok (.getfield 250, 3) := by decide +kernel
theorem d_R_count_7 : decode prog_1_method_20_code 7 = .ok (.ireturn, 1) := by decide +kernel
theorem d_R_type_0 : decode prog_1_method_2_code 0 = .ok (.iload_n 1, 1) := by decide +kernel
theorem d_R_type_1 : decode prog_1_method_2_code 1 = .ok (.iconst 1, 1) := by decide +kernel
theorem d_R_type_2 : decode prog_1_method_2_code 2 = .ok (.if_icmp .lt 8, 3) := by decide +kernel
theorem d_R_type_5 : decode prog_1_method_2_code 5 = .ok (.iload_n 1, 1) := by decide +kernel
theorem d_R_type_6 : decode prog_1_method_2_code 6 = .ok (.iconst 3, 1) := by decide +kernel
theorem d_R_type_7 : decode prog_1_method_2_code 7 = .ok (.if_icmp .le 13, 3) := by decide +kernel
theorem d_R_type_10 : decode prog_1_method_2_code 10 = .ok (.new 37, 3) := by decide +kernel
theorem d_R_type_13 : decode prog_1_method_2_code 13 = .ok (.dup, 1) := by decide +kernel
theorem d_R_type_14 : decode prog_1_method_2_code 14 = .ok (.ldc 39, 2) := by decide +kernel
theorem d_R_type_16 : decode prog_1_method_2_code 16 = .ok (.invokespecial 41, 3) := by decide +kernel
theorem d_R_type_19 : decode prog_1_method_2_code 19 = .ok (.athrow, 1) := by decide +kernel
theorem d_R_type_20 : decode prog_1_method_2_code 20 = .ok (.aload_n 0, 1) := by decide +kernel
theorem d_R_type_21 : decode prog_1_method_2_code 21 = .ok (.getfield 10, 3) := by decide +kernel
theorem d_R_type_24 : decode prog_1_method_2_code 24 = .ok (.getfield 44, 3) := by decide +kernel
theorem d_R_type_27 : decode prog_1_method_2_code 27 = .ok (.iconst 4, 1) := by decide +kernel
theorem d_R_type_28 : decode prog_1_method_2_code 28 = .ok (.if_icmp .ge 10, 3) := by decide +kernel
theorem d_R_type_31 : decode prog_1_method_2_code 31 = .ok (.aload_n 0, 1) := by decide +kernel
theorem d_R_type_32 : decode prog_1_method_2_code 32 = .ok (.getfield 33, 3) := by decide +kernel
theorem d_R_type_35 : decode prog_1_method_2_code 35 = .ok (.ifCond .eq 13, 3) := by decide +kernel
theorem d_R_type_38 : decode prog_1_method_2_code 38 = .ok (.new 48, 3) := by decide +kernel
theorem d_R_type_41 : decode prog_1_method_2_code 41 = .ok (.dup, 1) := by decide +kernel
theorem d_R_type_42 : decode prog_1_method_2_code 42 = .ok (.ldc 50, 2) := by decide +kernel
theorem d_R_type_44 : decode prog_1_method_2_code 44 = .ok (.invokespecial 52, 3) := by decide +kernel
theorem d_R_type_47 : decode prog_1_method_2_code 47 = .ok (.athrow, 1) := by decide +kernel
theorem d_R_type_48 : decode prog_1_method_2_code 48 = .ok (.aload_n 0, 1) := by decide +kernel
theorem d_R_type_49 : decode prog_1_method_2_code 49 = .ok (.getfield 10, 3) := by decide +kernel
theorem d_R_type_52 : decode prog_1_method_2_code 52 = .ok (.iload_n 1, 1) := by decide +kernel
theorem d_R_type_53 : decode prog_1_method_2_code 53 = .ok (.invokevirtual 53, 3) := by decide +kernel
theorem d_R_type_56 : decode prog_1_method_2_code 56 = .ok (.ireturn, 1) := by decide +kernel
theorem d_R_set_0 : decode prog_1_method_3_code 0 = .ok (.aload_n 0, 1) := by decide +kernel
theorem d_R_set_1 : decode prog_1_method_3_code 1 = .ok (.getfield 10, 3) := by decide +kernel
theorem d_R_set_4 : decode prog_1_method_3_code 4 = .ok (.iload_n 1, 1) := by decide +kernel
theorem d_R_set_5 : decode prog_1_method_3_code 5 = .ok (.invokevirtual 57, 3) := by decide +kernel
theorem d_R_set_8 : decode prog_1_method_3_code 8 = .ok (.ifCond .eq 19, 3) := by decide +kernel
theorem d_R_set_11 : decode prog_1_method_3_code 11 = .ok (.aload_n 0, 1) := by decide +kernel
theorem d_R_set_12 : decode prog_1_method_3_code 12 = .ok (.getfield 10, 3) := by decide +kernel
theorem d_R_set_15 : decode prog_1_method_3_code 15 = .ok (.iload_n 2, 1) := by decide +kernel
theorem d_R_set_16 : decode prog_1_method_3_code 16 = .ok (.invokevirtual 57, 3) := by decide +kernel
theorem d_R_set_19 : decode prog_1_method_3_code 19 = .ok (.ifCond .eq 8, 3) := by decide +kernel
theorem d_R_set_22 : decode prog_1_method_3_code 22 = .ok (.iload_n 1, 1) := by decide +kernel
theorem d_R_set_23 : decode prog_1_method_3_code 23 = .ok (.iload_n 2, 1) := by decide +kernel
theorem d_R_set_24 : decode prog_1_method_3_code 24 = .ok (.if_icmp .ne 13, 3) := by decide +kernel
theorem d_R_set_27 : decode prog_1_method_3_code 27 = .ok (.new 37, 3) := by decide +kernel
theorem d_R_set_30 : decode prog_1_method_3_code 30 = .ok (.dup, 1) := by decide +kernel
theorem d_R_set_31 : decode prog_1_method_3_code 31 = .ok (.ldc 61, 2) := by decide +kernel
theorem d_R_set_33 : decode prog_1_method_3_code 33 = .ok (.invokespecial 41, 3) := by decide +kernel
theorem d_R_set_36 : decode prog_1_method_3_code 36 = .ok (.athrow, 1) := by decide +kernel
theorem d_R_set_37 : decode prog_1_method_3_code 37 = .ok (.aload_n 0, 1) := by decide +kernel
theorem d_R_set_38 : decode prog_1_method_3_code 38 = .ok (.getfield 10, 3) := by decide +kernel
theorem d_R_set_41 : decode prog_1_method_3_code 41 = .ok (.iload_n 3, 1) := by decide +kernel
theorem d_R_set_42 : decode prog_1_method_3_code 42 = .ok (.iload_n 2, 1) := by decide +kernel
theorem d_R_set_43 : decode prog_1_method_3_code 43 = .ok (.invokevirtual 63, 3) := by decide +kernel
theorem d_R_set_46 : decode prog_1_method_3_code 46 = .ok (.ifCond .eq 15, 3) := by decide +kernel
theorem d_R_set_49 : decode prog_1_method_3_code 49 = .ok (.iload 4, 2) := by decide +kernel
theorem d_R_set_51 : decode prog_1_method_3_code 51 = .ok (.ifCond .lt 10, 3) := by decide +kernel
theorem d_R_set_54 : decode prog_1_method_3_code 54 = .ok (.iload 4, 2) := by decide +kernel
theorem d_R_set_56 : decode prog_1_method_3_code 56 = .ok (.bipush 6, 2) := by decide +kernel
theorem d_R_set_58 : decode prog_1_method_3_code 58 = .ok (.if_icmp .lt 13, 3) := by decide +kernel
theorem d_R_set_61 : decode prog_1_method_3_code 61 = .ok (.new 37, 3) := by decide +kernel
theorem d_R_set_64 : decode prog_1_method_3_code 64 = .ok (.dup, 1) := by decide +kernel
theorem d_R_set_65 : decode prog_1_method_3_code 65 = .ok (.ldc 67, 2) := by decide +kernel
theorem d_R_set_67 : decode prog_1_method_3_code 67 = .ok (.invokespecial 41, 3) := by decide +kernel
theorem d_R_set_70 : decode prog_1_method_3_code 70 = .ok (.athrow, 1) := by decide +kernel
theorem d_R_set_71 : decode prog_1_method_3_code 71 = .ok (.aload_n 0, 1) := by decide +kernel
theorem d_R_set_72 : decode prog_1_method_3_code 72 = .ok (.getfield 10, 3) := by decide +kernel
theorem d_R_set_75 : decode prog_1_method_3_code 75 = .ok (.getfield 69, 3) := by decide +kernel
theorem d_R_set_78 : decode prog_1_method_3_code 78 = .ok (.iconst 5, 1) := by decide +kernel
theorem d_R_set_79 : decode prog_1_method_3_code 79 = .ok (.if_icmp .ge 10, 3) := by decide +kernel
theorem d_R_set_82 : decode prog_1_method_3_code 82 = .ok (.aload_n 0, 1) := by decide +kernel
theorem d_R_set_83 : decode prog_1_method_3_code 83 = .ok (.getfield 33, 3) := by decide +kernel
theorem d_R_set_86 : decode prog_1_method_3_code 86 = .ok (.ifCond .eq 13, 3) := by decide +kernel
theorem d_R_set_89 : decode prog_1_method_3_code 89 = .ok (.new 48, 3) := by decide +kernel
theorem d_R_set_92 : decode prog_1_method_3_code 92 = .ok (.dup, 1) := by decide +kernel
theorem d_R_set_93 : decode prog_1_method_3_code 93 = .ok (.ldc 72, 2) := by decide +kernel
theorem d_R_set_95 : decode prog_1_method_3_code 95 = .ok (.invokespecial 52, 3) := by decide +kernel
theorem d_R_set_98 : decode prog_1_method_3_code 98 = .ok (.athrow, 1) := by decide +kernel
theorem d_R_set_99 : decode prog_1_method_3_code 99 = .ok (.aload_n 0, 1) := by decide +kernel
theorem d_R_set_100 : decode prog_1_method_3_code 100 = .ok (.getfield 10, 3) := by decide +kernel
theorem d_R_set_103 : decode prog_1_method_3_code 103 = .ok (.iload_n 1, 1) := by decide +kernel
theorem d_R_set_104 : decode prog_1_method_3_code 104 = .ok (.iload_n 2, 1) := by decide +kernel
theorem d_R_set_105 : decode prog_1_method_3_code 105 = .ok (.iload_n 3, 1) := by decide +kernel
theorem d_R_set_106 : decode prog_1_method_3_code 106 = .ok (.iload 4, 2) := by decide +kernel
theorem d_R_set_108 : decode prog_1_method_3_code 108 = .ok (.invokevirtual 74, 3) := by decide +kernel
theorem d_R_set_111 : decode prog_1_method_3_code 111 = .ok (.ireturn, 1) := by decide +kernel
theorem d_R_store_0 : decode prog_1_method_4_code 0 = .ok (.aload_n 0, 1) := by decide +kernel
theorem d_R_store_1 : decode prog_1_method_4_code 1 = .ok (.getfield 10, 3) := by decide +kernel
theorem d_R_store_4 : decode prog_1_method_4_code 4 = .ok (.iload_n 1, 1) := by decide +kernel
theorem d_R_store_5 : decode prog_1_method_4_code 5 = .ok (.invokevirtual 57, 3) := by decide +kernel
theorem d_R_store_8 : decode prog_1_method_4_code 8 = .ok (.ifCond .ne 13, 3) := by decide +kernel
theorem d_R_store_11 : decode prog_1_method_4_code 11 = .ok (.new 37, 3) := by decide +kernel
theorem d_R_store_14 : decode prog_1_method_4_code 14 = .ok (.dup, 1) := by decide +kernel
theorem d_R_store_15 : decode prog_1_method_4_code 15 = .ok (.ldc 78, 2) := by decide +kernel
theorem d_R_store_17 : decode prog_1_method_4_code 17 = .ok (.invokespecial 41, 3) := by decide +kernel
theorem d_R_store_20 : decode prog_1_method_4_code 20 = .ok (.athrow, 1) := by decide +kernel
theorem d_R_store_21 : decode prog_1_method_4_code 21 = .ok (.aload_n 0, 1) := by decide +kernel
theorem d_R_store_22 : decode prog_1_method_4_code 22 = .ok (.iload_n 1, 1) := by decide +kernel
theorem d_R_store_23 : decode prog_1_method_4_code 23 = .ok (.invokevirtual 80, 3) := by decide +kernel
theorem d_R_store_26 : decode prog_1_method_4_code 26 = .ok (.aload_n 0, 1) := by decide +kernel
theorem d_R_store_27 : decode prog_1_method_4_code 27 = .ok (.getfield 19, 3) := by decide +kernel
theorem d_R_store_30 : decode prog_1_method_4_code 30 = .ok (.invokevirtual 84, 3) := by decide +kernel
theorem d_R_store_33 : decode prog_1_method_4_code 33 = .ok (.istore 5, 2) := by decide +kernel
theorem d_R_store_35 : decode prog_1_method_4_code 35 = .ok (.iload 5, 2) := by decide +kernel
theorem d_R_store_37 : decode prog_1_method_4_code 37 = .ok (.iconst (-1), 1) := by decide +kernel
theorem d_R_store_38 : decode prog_1_method_4_code 38 = .ok (.if_icmp .ne 13, 3) := by decide +kernel
theorem d_R_store_41 : decode prog_1_method_4_code 41 = .ok (.new 48, 3) := by decide +kernel
theorem d_R_store_44 : decode prog_1_method_4_code 44 = .ok (.dup, 1) := by decide +kernel
theorem d_R_store_45 : decode prog_1_method_4_code 45 = .ok (.ldc 88, 2) := by decide +kernel
theorem d_R_store_47 : decode prog_1_method_4_code 47 = .ok (.invokespecial 52, 3) := by decide +kernel
theorem d_R_store_50 : decode prog_1_method_4_code 50 = .ok (.athrow, 1) := by decide +kernel
theorem d_R_store_51 : decode prog_1_method_4_code 51 = .ok (.aload_n 0, 1) := by decide +kernel
theorem d_R_store_52 : decode prog_1_method_4_code 52 = .ok (.getfield 19, 3) := by decide +kernel
theorem d_R_store_55 : decode prog_1_method_4_code 55 = .ok (.iload 5, 2) := by decide +kernel
theorem d_R_store_57 : decode prog_1_method_4_code 57 = .ok (.iload_n 2, 1) := by decide +kernel
theorem d_R_store_58 : decode prog_1_method_4_code 58 = .ok (.iload_n 3, 1) := by decide +kernel
theorem d_R_store_59 : decode prog_1_method_4_code 59 = .ok (.iload 4, 2) := by decide +kernel
theorem d_R_store_61 : decode prog_1_method_4_code 61 = .ok (.invokevirtual 90, 3) := by decide +kernel
theorem d_R_store_64 : decode prog_1_method_4_code 64 = .ok (.aload_n 0, 1) := by decide +kernel
theorem d_R_store_65 : decode prog_1_method_4_code 65 = .ok (.iload_n 1, 1) := by decide +kernel
theorem d_R_store_66 : decode prog_1_method_4_code 66 = .ok (.iload 5, 2) := by decide +kernel
theorem d_R_store_68 : decode prog_1_method_4_code 68 = .ok (.invokevirtual 94, 3) := by decide +kernel
theorem d_R_store_71 : decode prog_1_method_4_code 71 = .ok (.aload_n 0, 1) := by decide +kernel
theorem d_R_store_72 : decode prog_1_method_4_code 72 = .ok (.getfield 19, 3) := by decide +kernel
theorem d_R_store_75 : decode prog_1_method_4_code 75 = .ok (.iload 5, 2) := by decide +kernel
theorem d_R_store_77 : decode prog_1_method_4_code 77 = .ok (.iload_n 1, 1) := by decide +kernel
theorem d_R_store_78 : decode prog_1_method_4_code 78 = .ok (.invokevirtual 98, 3) := by decide +kernel
theorem d_R_store_81 : decode prog_1_method_4_code 81 = .ok (.aload_n 0, 1) := by decide +kernel
theorem d_R_store_82 : decode prog_1_method_4_code 82 = .ok (.iconst 1, 1) := by decide +kernel
theorem d_R_store_83 : decode prog_1_method_4_code 83 = .ok (.putfield 33, 3) := by decide +kernel
theorem d_R_store_86 : decode prog_1_method_4_code 86 = .ok (.iconst 0, 1) := by decide +kernel
theorem d_R_store_87 : decode prog_1_method_4_code 87 = .ok (.istore 6, 2) := by decide +kernel
theorem d_R_store_89 : decode prog_1_method_4_code 89 = .ok (.iload 6, 2) := by decide +kernel
theorem d_R_store_91 : decode prog_1_method_4_code 91 = .ok (.aload_n 0, 1) := by decide +kernel
theorem d_R_store_92 : decode prog_1_method_4_code 92 = .ok (.getfield 10, 3) := by decide +kernel
theorem d_R_store_95 : decode prog_1_method_4_code 95 = .ok (.getfield 69, 3) := by decide +kernel
theorem d_R_store_98 : decode prog_1_method_4_code 98 = .ok (.if_icmp .ge 36, 3) := by decide +kernel
theorem d_R_store_101 : decode prog_1_method_4_code 101 = .ok (.aload_n 0, 1) := by decide +kernel
theorem d_R_store_102 : decode prog_1_method_4_code 102 = .ok (.getfield 10, 3) := by decide +kernel
theorem d_R_store_105 : decode prog_1_method_4_code 105 = .ok (.iload 6, 2) := by decide +kernel
theorem d_R_store_107 : decode prog_1_method_4_code 107 = .ok (.iload_n 1, 1) := by decide +kernel
theorem d_R_store_108 : decode prog_1_method_4_code 108 = .ok (.invokevirtual 101, 3) := by decide +kernel
theorem d_R_store_111 : decode prog_1_method_4_code 111 = .ok (.ifCond .eq 17, 3) := by decide +kernel
theorem d_R_store_114 : decode prog_1_method_4_code 114 = .ok (.aload_n 0, 1) := by decide +kernel
theorem d_R_store_115 : decode prog_1_method_4_code 115 = .ok (.iload 6, 2) := by decide +kernel
theorem d_R_store_117 : decode prog_1_method_4_code 117 = .ok (.iload 5, 2) := by decide +kernel
theorem d_R_store_119 : decode prog_1_method_4_code 119 = .ok (.aload_n 0, 1) := by decide +kernel
theorem d_R_store_120 : decode prog_1_method_4_code 120 = .ok (.iload 6, 2) := by decide +kernel
theorem d_R_store_122 : decode prog_1_method_4_code 122 = .ok (.invokevirtual 104, 3) := by decide +kernel
theorem d_R_store_125 : decode prog_1_method_4_code 125 = .ok (.invokevirtual 107, 3) := by decide +kernel
theorem d_R_store_128 : decode prog_1_method_4_code 128 = .ok (.iinc 6 1, 3) := by decide +kernel
theorem d_R_store_131 : decode prog_1_method_4_code 131 = .ok (.goto (-42), 3) := by decide +kernel
theorem d_R_store_134 : decode prog_1_method_4_code 134 = .ok (.aload_n 0, 1) := by decide +kernel
theorem d_R_store_135 : decode prog_1_method_4_code 135 = .ok (.iload 5, 2) := by decide +kernel
theorem d_R_store_137 : decode prog_1_method_4_code 137 = .ok (.iconst 0, 1) := by decide +kernel
theorem d_R_store_138 : decode prog_1_method_4_code 138 = .ok (.invokevirtual 111, 3) := by decide +kernel
theorem d_R_store_141 : decode prog_1_method_4_code 141 = .ok (.aload_n 0, 1) := by decide +kernel
theorem d_R_store_142 : decode prog_1_method_4_code 142 = .ok (.getfield 19, 3) := by decide +kernel
theorem d_R_store_145 : decode prog_1_method_4_code 145 = .ok (.getfield 114, 3) := by decide +kernel
theorem d_R_store_148 : decode prog_1_method_4_code 148 = .ok (.iload 5, 2) := by decide +kernel
theorem d_R_store_150 : decode prog_1_method_4_code 150 = .ok (.iaload, 1) := by decide +kernel
theorem d_R_store_151 : decode prog_1_method_4_code 151 = .ok (.ireturn, 1) := by decide +kernel
theorem d_R_requireOwnersToJoin_0 : decode prog_1_method_26_code 0 = .ok (.iconst 0, 1) := by decide +kernel
theorem d_R_requireOwnersToJoin_1 : decode prog_1_method_26_code 1 = .ok (.istore_n 2, 1) := by decide +kernel
theorem d_R_requireOwnersToJoin_2 : decode prog_1_method_26_code 2 = .ok (.iload_n 2, 1) := by decide +kernel
theorem d_R_requireOwnersToJoin_3 : decode prog_1_method_26_code 3 = .ok (.aload_n 0, 1) := by decide +kernel
theorem d_R_requireOwnersToJoin_4 : decode prog_1_method_26_code 4 = .ok (.getfield 10, 3) := by decide +kernel
theorem d_R_requireOwnersToJoin_7 : decode prog_1_method_26_code 7 = .ok (.getfield 69, 3) := by decide +kernel
theorem d_R_requireOwnersToJoin_10 : decode prog_1_method_26_code 10 = .ok (.if_icmp .ge 27, 3) := by decide +kernel
theorem d_R_requireOwnersToJoin_13 : decode prog_1_method_26_code 13 = .ok (.aload_n 0, 1) := by decide +kernel
theorem d_R_requireOwnersToJoin_14 : decode prog_1_method_26_code 14 = .ok (.getfield 10, 3) := by decide +kernel
theorem d_R_requireOwnersToJoin_17 : decode prog_1_method_26_code 17 = .ok (.iload_n 2, 1) := by decide +kernel
theorem d_R_requireOwnersToJoin_18 : decode prog_1_method_26_code 18 = .ok (.iload_n 1, 1) := by decide +kernel
theorem d_R_requireOwnersToJoin_19 : decode prog_1_method_26_code 19 = .ok (.invokevirtual 101, 3) := by decide +kernel
theorem d_R_requireOwnersToJoin_22 : decode prog_1_method_26_code 22 = .ok (.ifCond .eq 9, 3) := by decide +kernel
theorem d_R_requireOwnersToJoin_25 : decode prog_1_method_26_code 25 = .ok (.aload_n 0, 1) := by decide +kernel
theorem d_R_requireOwnersToJoin_26 : decode prog_1_method_26_code 26 = .ok (.iload_n 2, 1) := by decide +kernel
theorem d_R_requireOwnersToJoin_27 : decode prog_1_method_26_code 27 = .ok (.invokevirtual 147, 3) := by decide +kernel
theorem d_R_requireOwnersToJoin_30 : decode prog_1_method_26_code 30 = .ok (.pop, 1) := by decide +kernel
theorem d_R_requireOwnersToJoin_31 : decode prog_1_method_26_code 31 = .ok (.iinc 2 1, 3) := by decide +kernel
theorem d_R_requireOwnersToJoin_34 : decode prog_1_method_26_code 34 = .ok (.goto (-32), 3) := by decide +kernel
theorem d_R_requireOwnersToJoin_37 : decode prog_1_method_26_code 37 = .ok (.return_, 1) := by decide +kernel
theorem d_R_requireCurrentOwner_0 : decode prog_1_method_25_code 0 = .ok (.aload_n 0, 1) := by decide +kernel
theorem d_R_requireCurrentOwner_1 : decode prog_1_method_25_code 1 = .ok (.iload_n 1, 1) := by decide +kernel
theorem d_R_requireCurrentOwner_2 : decode prog_1_method_25_code 2 = .ok (.invokevirtual 104, 3) := by decide +kernel
theorem d_R_requireCurrentOwner_5 : decode prog_1_method_25_code 5 = .ok (.istore_n 2, 1) := by decide +kernel
theorem d_R_requireCurrentOwner_6 : decode prog_1_method_25_code 6 = .ok (.iload_n 2, 1) := by decide +kernel
theorem d_R_requireCurrentOwner_7 : decode prog_1_method_25_code 7 = .ok (.iconst (-1), 1) := by decide +kernel
theorem d_R_requireCurrentOwner_8 : decode prog_1_method_25_code 8 = .ok (.if_icmp .ne 14, 3) := by decide +kernel
theorem d_R_requireCurrentOwner_11 : decode prog_1_method_25_code 11 = .ok (.new 261, 3) := by decide +kernel
theorem d_R_requireCurrentOwner_14 : decode prog_1_method_25_code 14 = .ok (.dup, 1) := by decide +kernel
theorem d_R_requireCurrentOwner_15 : decode prog_1_method_25_code 15 = .ok (.ldc_w 268, 3) := by decide +kernel
theorem d_R_requireCurrentOwner_18 : decode prog_1_method_25_code 18 = .ok (.invokespecial 265, 3) := by decide +kernel
theorem d_R_requireCurrentOwner_21 : decode prog_1_method_25_code 21 = .ok (.athrow, 1) := by decide +kernel
theorem d_R_requireCurrentOwner_22 : decode prog_1_method_25_code 22 = .ok (.iload_n 2, 1) := by decide +kernel
theorem d_R_requireCurrentOwner_23 : decode prog_1_method_25_code 23 = .ok (.ireturn, 1) := by decide +kernel
theorem d_R_currentOwner_0 : decode prog_1_method_31_code 0 = .ok (.aload_n 0, 1) := by decide +kernel
theorem d_R_currentOwner_1 : decode prog_1_method_31_code 1 = .ok (.getfield 29, 3) := by decide +kernel
theorem d_R_currentOwner_4 : decode prog_1_method_31_code 4 = .ok (.getfield 154, 3) := by decide +kernel
theorem d_R_currentOwner_7 : decode prog_1_method_31_code 7 = .ok (.iload_n 1, 1) := by decide +kernel
theorem d_R_currentOwner_8 : decode prog_1_method_31_code 8 = .ok (.iaload, 1) := by decide +kernel
theorem d_R_currentOwner_9 : decode prog_1_method_31_code 9 = .ok (.istore_n 2, 1) := by decide +kernel
theorem d_R_currentOwner_10 : decode prog_1_method_31_code 10 = .ok (.iload_n 2, 1) := by decide +kernel
theorem d_R_currentOwner_11 : decode prog_1_method_31_code 11 = .ok (.iconst (-1), 1) := by decide +kernel
theorem d_R_currentOwner_12 : decode prog_1_method_31_code 12 = .ok (.if_icmp .eq 24, 3) := by decide +kernel
theorem d_R_currentOwner_15 : decode prog_1_method_31_code 15 = .ok (.aload_n 0, 1) := by decide +kernel
theorem d_R_currentOwner_16 : decode prog_1_method_31_code 16 = .ok (.getfield 19, 3) := by decide +kernel
theorem d_R_currentOwner_19 : decode prog_1_method_31_code 19 = .ok (.getfield 190, 3) := by decide +kernel
theorem d_R_currentOwner_22 : decode prog_1_method_31_code 22 = .ok (.iload_n 2, 1) := by decide +kernel
theorem d_R_currentOwner_23 : decode prog_1_method_31_code 23 = .ok (.iaload, 1) := by decide +kernel
theorem d_R_currentOwner_24 : decode prog_1_method_31_code 24 = .ok (.aload_n 0, 1) := by decide +kernel
theorem d_R_currentOwner_25 : decode prog_1_method_31_code 25 = .ok (.getfield 10, 3) := by decide +kernel
theorem d_R_currentOwner_28 : decode prog_1_method_31_code 28 = .ok (.getfield 291, 3) := by decide +kernel
theorem d_R_currentOwner_31 : decode prog_1_method_31_code 31 = .ok (.iload_n 1, 1) := by decide +kernel
theorem d_R_currentOwner_32 : decode prog_1_method_31_code 32 = .ok (.iaload, 1) := by decide +kernel
theorem d_R_currentOwner_33 : decode prog_1_method_31_code 33 = .ok (.if_icmp .ne 5, 3) := by decide +kernel
theorem d_R_currentOwner_36 : decode prog_1_method_31_code 36 = .ok (.iload_n 2, 1) := by decide +kernel
theorem d_R_currentOwner_37 : decode prog_1_method_31_code 37 = .ok (.ireturn, 1) := by decide +kernel
theorem d_R_currentOwner_38 : decode prog_1_method_31_code 38 = .ok (.aload_n 0, 1) := by decide +kernel
theorem d_R_currentOwner_39 : decode prog_1_method_31_code 39 = .ok (.getfield 19, 3) := by decide +kernel
theorem d_R_currentOwner_42 : decode prog_1_method_31_code 42 = .ok (.getfield 243, 3) := by decide +kernel
theorem d_R_currentOwner_45 : decode prog_1_method_31_code 45 = .ok (.iload_n 1, 1) := by decide +kernel
theorem d_R_currentOwner_46 : decode prog_1_method_31_code 46 = .ok (.aaload, 1) := by decide +kernel
theorem d_R_currentOwner_47 : decode prog_1_method_31_code 47 = .ok (.iload_n 2, 1) := by decide +kernel
theorem d_R_currentOwner_48 : decode prog_1_method_31_code 48 = .ok (.iaload, 1) := by decide +kernel
theorem d_R_currentOwner_49 : decode prog_1_method_31_code 49 = .ok (.ireturn, 1) := by decide +kernel
theorem d_R_requireNoRefusalToJoin_0 : decode prog_1_method_27_code 0 = .ok (.iconst 0, 1) := by decide +kernel
theorem d_R_requireNoRefusalToJoin_1 : decode prog_1_method_27_code 1 = .ok (.istore_n 3, 1) := by decide +kernel
theorem d_R_requireNoRefusalToJoin_2 : decode prog_1_method_27_code 2 = .ok (.iload_n 3, 1) := by decide +kernel
theorem d_R_requireNoRefusalToJoin_3 : decode prog_1_method_27_code 3 = .ok (.aload_n 0, 1) := by decide +kernel
theorem d_R_requireNoRefusalToJoin_4 : decode prog_1_method_27_code 4 = .ok (.getfield 10, 3) := by decide +kernel
theorem d_R_requireNoRefusalToJoin_7 : decode prog_1_method_27_code 7 = .ok (.getfield 69, 3) := by decide +kernel
theorem d_R_requireNoRefusalToJoin_10 : decode prog_1_method_27_code 10 = .ok (.if_icmp .ge 32, 3) := by decide +kernel
theorem d_R_requireNoRefusalToJoin_13 : decode prog_1_method_27_code 13 = .ok (.aload_n 0, 1) := by decide +kernel
theorem d_R_requireNoRefusalToJoin_14 : decode prog_1_method_27_code 14 = .ok (.getfield 10, 3) := by decide +kernel
theorem d_R_requireNoRefusalToJoin_17 : decode prog_1_method_27_code 17 = .ok (.iload_n 3, 1) := by decide +kernel
theorem d_R_requireNoRefusalToJoin_18 : decode prog_1_method_27_code 18 = .ok (.iload_n 1, 1) := by decide +kernel
theorem d_R_requireNoRefusalToJoin_19 : decode prog_1_method_27_code 19 = .ok (.invokevirtual 101, 3) := by decide +kernel
theorem d_R_requireNoRefusalToJoin_22 : decode prog_1_method_27_code 22 = .ok (.ifCond .eq 14, 3) := by decide +kernel
theorem d_R_requireNoRefusalToJoin_25 : decode prog_1_method_27_code 25 = .ok (.aload_n 0, 1) := by decide +kernel
theorem d_R_requireNoRefusalToJoin_26 : decode prog_1_method_27_code 26 = .ok (.iload_n 3, 1) := by decide +kernel
theorem d_R_requireNoRefusalToJoin_27 : decode prog_1_method_27_code 27 = .ok (.iload_n 2, 1) := by decide +kernel
theorem d_R_requireNoRefusalToJoin_28 : decode prog_1_method_27_code 28 = .ok (.aload_n 0, 1) := by decide +kernel
theorem d_R_requireNoRefusalToJoin_29 : decode prog_1_method_27_code 29 = .ok (.iload_n 3, 1) := by decide +kernel
theorem d_R_requireNoRefusalToJoin_30 : decode prog_1_method_27_code 30 = .ok (.invokevirtual 104, 3) := by decide +kernel
theorem d_R_requireNoRefusalToJoin_33 : decode prog_1_method_27_code 33 = .ok (.invokevirtual 198, 3) := by decide +kernel
theorem d_R_requireNoRefusalToJoin_36 : decode prog_1_method_27_code 36 = .ok (.iinc 3 1, 3) := by decide +kernel
theorem d_R_requireNoRefusalToJoin_39 : decode prog_1_method_27_code 39 = .ok (.goto (-37), 3) := by decide +kernel
theorem d_R_requireNoRefusalToJoin_42 : decode prog_1_method_27_code 42 = .ok (.return_, 1) := by decide +kernel
theorem d_R_requireNoRefusal_0 : decode prog_1_method_28_code 0 = .ok (.aload_n 0, 1) := by decide +kernel
theorem d_R_requireNoRefusal_1 : decode prog_1_method_28_code 1 = .ok (.getfield 10, 3) := by decide +kernel
theorem d_R_requireNoRefusal_4 : decode prog_1_method_28_code 4 = .ok (.iload_n 1, 1) := by decide +kernel
theorem d_R_requireNoRefusal_5 : decode prog_1_method_28_code 5 = .ok (.invokevirtual 270, 3) := by decide +kernel
theorem d_R_requireNoRefusal_8 : decode prog_1_method_28_code 8 = .ok (.ifCond .eq 28, 3) := by decide +kernel
theorem d_R_requireNoRefusal_11 : decode prog_1_method_28_code 11 = .ok (.aload_n 0, 1) := by decide +kernel
theorem d_R_requireNoRefusal_12 : decode prog_1_method_28_code 12 = .ok (.iload_n 1, 1) := by decide +kernel
theorem d_R_requireNoRefusal_13 : decode prog_1_method_28_code 13 = .ok (.iload_n 2, 1) := by decide +kernel
theorem d_R_requireNoRefusal_14 : decode prog_1_method_28_code 14 = .ok (.iload_n 3, 1) := by decide +kernel
theorem d_R_requireNoRefusal_15 : decode prog_1_method_28_code 15 = .ok (.aload_n 0, 1) := by decide +kernel
theorem d_R_requireNoRefusal_16 : decode prog_1_method_28_code 16 = .ok (.getfield 19, 3) := by decide +kernel
theorem d_R_requireNoRefusal_19 : decode prog_1_method_28_code 19 = .ok (.getfield 181, 3) := by decide +kernel
theorem d_R_requireNoRefusal_22 : decode prog_1_method_28_code 22 = .ok (.aload_n 0, 1) := by decide +kernel
theorem d_R_requireNoRefusal_23 : decode prog_1_method_28_code 23 = .ok (.getfield 10, 3) := by decide +kernel
theorem d_R_requireNoRefusal_26 : decode prog_1_method_28_code 26 = .ok (.iload_n 1, 1) := by decide +kernel
theorem d_R_requireNoRefusal_27 : decode prog_1_method_28_code 27 = .ok (.invokevirtual 273, 3) := by decide +kernel
theorem d_R_requireNoRefusal_30 : decode prog_1_method_28_code 30 = .ok (.aaload, 1) := by decide +kernel
theorem d_R_requireNoRefusal_31 : decode prog_1_method_28_code 31 = .ok (.iload_n 2, 1) := by decide +kernel
theorem d_R_requireNoRefusal_32 : decode prog_1_method_28_code 32 = .ok (.iaload, 1) := by decide +kernel
theorem d_R_requireNoRefusal_33 : decode prog_1_method_28_code 33 = .ok (.invokevirtual 276, 3) := by decide +kernel
theorem d_R_requireNoRefusal_36 : decode prog_1_method_28_code 36 = .ok (.return_, 1) := by decide +kernel
theorem d_R_requireNoEqual_0 : decode prog_1_method_30_code 0 = .ok (.aload_n 0, 1) := by decide +kernel
theorem d_R_requireNoEqual_1 : decode prog_1_method_30_code 1 = .ok (.getfield 10, 3) := by decide +kernel
theorem d_R_requireNoEqual_4 : decode prog_1_method_30_code 4 = .ok (.getfield 282, 3) := by decide +kernel
theorem d_R_requireNoEqual_7 : decode prog_1_method_30_code 7 = .ok (.iload_n 1, 1) := by decide +kernel
theorem d_R_requireNoEqual_8 : decode prog_1_method_30_code 8 = .ok (.iaload, 1) := by decide +kernel
theorem d_R_requireNoEqual_9 : decode prog_1_method_30_code 9 = .ok (.bipush 30, 2) := by decide +kernel
theorem d_R_requireNoEqual_11 : decode prog_1_method_30_code 11 = .ok (.if_icmp .lt 37, 3) := by decide +kernel
theorem d_R_requireNoEqual_14 : decode prog_1_method_30_code 14 = .ok (.aload_n 0, 1) := by decide +kernel
theorem d_R_requireNoEqual_15 : decode prog_1_method_30_code 15 = .ok (.getfield 19, 3) := by decide +kernel
theorem d_R_requireNoEqual_18 : decode prog_1_method_30_code 18 = .ok (.iload_n 1, 1) := by decide +kernel
theorem d_R_requireNoEqual_19 : decode prog_1_method_30_code 19 = .ok (.iload_n 3, 1) := by decide +kernel
theorem d_R_requireNoEqual_20 : decode prog_1_method_30_code 20 = .ok (.iload_n 2, 1) := by decide +kernel
theorem d_R_requireNoEqual_21 : decode prog_1_method_30_code 21 = .ok (.aload_n 0, 1) := by decide +kernel
theorem d_R_requireNoEqual_22 : decode prog_1_method_30_code 22 = .ok (.getfield 10, 3) := by decide +kernel
theorem d_R_requireNoEqual_25 : decode prog_1_method_30_code 25 = .ok (.iload_n 1, 1) := by decide +kernel
theorem d_R_requireNoEqual_26 : decode prog_1_method_30_code 26 = .ok (.invokevirtual 273, 3) := by decide +kernel
theorem d_R_requireNoEqual_29 : decode prog_1_method_30_code 29 = .ok (.iload 4, 2) := by decide +kernel
theorem d_R_requireNoEqual_31 : decode prog_1_method_30_code 31 = .ok (.invokevirtual 285, 3) := by decide +kernel
theorem d_R_requireNoEqual_34 : decode prog_1_method_30_code 34 = .ok (.ifCond .eq 14, 3) := by decide +kernel
theorem d_R_requireNoEqual_37 : decode prog_1_method_30_code 37 = .ok (.new 48, 3) := by decide +kernel
theorem d_R_requireNoEqual_40 : decode prog_1_method_30_code 40 = .ok (.dup, 1) := by decide +kernel
theorem d_R_requireNoEqual_41 : decode prog_1_method_30_code 41 = .ok (.ldc_w 289, 3) := by decide +kernel
theorem d_R_requireNoEqual_44 : decode prog_1_method_30_code 44 = .ok (.invokespecial 52, 3) := by decide +kernel
theorem d_R_requireNoEqual_47 : decode prog_1_method_30_code 47 = .ok (.athrow, 1) := by decide +kernel
theorem d_R_requireNoEqual_48 : decode prog_1_method_30_code 48 = .ok (.return_, 1) := by decide +kernel
theorem d_R_join_0 : decode prog_1_method_35_code 0 = .ok (.aload_n 0, 1) := by decide +kernel
theorem d_R_join_1 : decode prog_1_method_35_code 1 = .ok (.getfield 19, 3) := by decide +kernel
theorem d_R_join_4 : decode prog_1_method_35_code 4 = .ok (.iload_n 1, 1) := by decide +kernel
theorem d_R_join_5 : decode prog_1_method_35_code 5 = .ok (.iload_n 2, 1) := by decide +kernel
theorem d_R_join_6 : decode prog_1_method_35_code 6 = .ok (.iload_n 3, 1) := by decide +kernel
theorem d_R_join_7 : decode prog_1_method_35_code 7 = .ok (.aload_n 0, 1) := by decide +kernel
theorem d_R_join_8 : decode prog_1_method_35_code 8 = .ok (.iload_n 1, 1) := by decide +kernel
theorem d_R_join_9 : decode prog_1_method_35_code 9 = .ok (.iload_n 2, 1) := by decide +kernel
theorem d_R_join_10 : decode prog_1_method_35_code 10 = .ok (.iload_n 3, 1) := by decide +kernel
theorem d_R_join_11 : decode prog_1_method_35_code 11 = .ok (.invokevirtual 302, 3) := by decide +kernel
theorem d_R_join_14 : decode prog_1_method_35_code 14 = .ok (.invokevirtual 305, 3) := by decide +kernel
theorem d_R_join_17 : decode prog_1_method_35_code 17 = .ok (.return_, 1) := by decide +kernel
theorem d_R_positionByOrder_0 : decode prog_1_method_36_code 0 = .ok (.aload_n 0, 1) := by decide +kernel
theorem d_R_positionByOrder_1 : decode prog_1_method_36_code 1 = .ok (.getfield 29, 3) := by decide +kernel
theorem d_R_positionByOrder_4 : decode prog_1_method_36_code 4 = .ok (.getfield 154, 3) := by decide +kernel
theorem d_R_positionByOrder_7 : decode prog_1_method_36_code 7 = .ok (.iload_n 1, 1) := by decide +kernel
theorem d_R_positionByOrder_8 : decode prog_1_method_36_code 8 = .ok (.iaload, 1) := by decide +kernel
theorem d_R_positionByOrder_9 : decode prog_1_method_36_code 9 = .ok (.istore 4, 2) := by decide +kernel
theorem d_R_positionByOrder_11 : decode prog_1_method_36_code 11 = .ok (.iload 4, 2) := by decide +kernel
theorem d_R_positionByOrder_13 : decode prog_1_method_36_code 13 = .ok (.iconst (-1), 1) := by decide +kernel
theorem d_R_positionByOrder_14 : decode prog_1_method_36_code 14 = .ok (.if_icmp .eq 23, 3) := by decide +kernel
theorem d_R_positionByOrder_17 : decode prog_1_method_36_code 17 = .ok (.aload_n 0, 1) := by decide +kernel
theorem d_R_positionByOrder_18 : decode prog_1_method_36_code 18 = .ok (.getfield 19, 3) := by decide +kernel
theorem d_R_positionByOrder_21 : decode prog_1_method_36_code 21 = .ok (.getfield 243, 3) := by decide +kernel
theorem d_R_positionByOrder_24 : decode prog_1_method_36_code 24 = .ok (.iload_n 1, 1) := by decide +kernel
theorem d_R_positionByOrder_25 : decode prog_1_method_36_code 25 = .ok (.aaload, 1) := by decide +kernel
theorem d_R_positionByOrder_26 : decode prog_1_method_36_code 26 = .ok (.iload 4, 2) := by decide +kernel
theorem d_R_positionByOrder_28 : decode prog_1_method_36_code 28 = .ok (.iaload, 1) := by decide +kernel
theorem d_R_positionByOrder_29 : decode prog_1_method_36_code 29 = .ok (.iload_n 3, 1) := by decide +kernel
theorem d_R_positionByOrder_30 : decode prog_1_method_36_code 30 = .ok (.if_icmp .ne 7, 3) := by decide +kernel
theorem d_R_positionByOrder_33 : decode prog_1_method_36_code 33 = .ok (.iconst 1, 1) := by decide +kernel
theorem d_R_positionByOrder_34 : decode prog_1_method_36_code 34 = .ok (.goto 4, 3) := by decide +kernel
theorem d_R_positionByOrder_37 : decode prog_1_method_36_code 37 = .ok (.iconst 0, 1) := by decide +kernel
theorem d_R_positionByOrder_38 : decode prog_1_method_36_code 38 = .ok (.istore 5, 2) := by decide +kernel
theorem d_R_positionByOrder_40 : decode prog_1_method_36_code 40 = .ok (.aload_n 0, 1) := by decide +kernel
theorem d_R_positionByOrder_41 : decode prog_1_method_36_code 41 = .ok (.getfield 19, 3) := by decide +kernel
theorem d_R_positionByOrder_44 : decode prog_1_method_36_code 44 = .ok (.iload_n 1, 1) := by decide +kernel
theorem d_R_positionByOrder_45 : decode prog_1_method_36_code 45 = .ok (.iload_n 3, 1) := by decide +kernel
theorem d_R_positionByOrder_46 : decode prog_1_method_36_code 46 = .ok (.invokevirtual 240, 3) := by decide +kernel
theorem d_R_positionByOrder_49 : decode prog_1_method_36_code 49 = .ok (.istore 6, 2) := by decide +kernel
theorem d_R_positionByOrder_51 : decode prog_1_method_36_code 51 = .ok (.aload_n 0, 1) := by decide +kernel
theorem d_R_positionByOrder_52 : decode prog_1_method_36_code 52 = .ok (.getfield 10, 3) := by decide +kernel
theorem d_R_positionByOrder_55 : decode prog_1_method_36_code 55 = .ok (.getfield 282, 3) := by decide +kernel
theorem d_R_positionByOrder_58 : decode prog_1_method_36_code 58 = .ok (.iload_n 1, 1) := by decide +kernel
theorem d_R_positionByOrder_59 : decode prog_1_method_36_code 59 = .ok (.iaload, 1) := by decide +kernel
theorem d_R_positionByOrder_60 : decode prog_1_method_36_code 60 = .ok (.tableswitch 84 0 3 #[32, 34, 37, 61], 32) := by decide +kernel
theorem d_R_positionByOrder_92 : decode prog_1_method_36_code 92 = .ok (.iconst 0, 1) := by decide +kernel
theorem d_R_positionByOrder_93 : decode prog_1_method_36_code 93 = .ok (.ireturn, 1) := by decide +kernel
theorem d_R_positionByOrder_94 : decode prog_1_method_36_code 94 = .ok (.iload 6, 2) := by decide +kernel
theorem d_R_positionByOrder_96 : decode prog_1_method_36_code 96 = .ok (.ireturn, 1) := by decide +kernel
theorem d_R_positionByOrder_97 : decode prog_1_method_36_code 97 = .ok (.iload 5, 2) := by decide +kernel
theorem d_R_positionByOrder_99 : decode prog_1_method_36_code 99 = .ok (.ifCond .eq 20, 3) := by decide +kernel
theorem d_R_positionByOrder_102 : decode prog_1_method_36_code 102 = .ok (.aload_n 0, 1) := by decide +kernel
theorem d_R_positionByOrder_103 : decode prog_1_method_36_code 103 = .ok (.getfield 19, 3) := by decide +kernel
theorem d_R_positionByOrder_106 : decode prog_1_method_36_code 106 = .ok (.getfield 150, 3) := by decide +kernel
theorem d_R_positionByOrder_109 : decode prog_1_method_36_code 109 = .ok (.iload_n 1, 1) := by decide +kernel
theorem d_R_positionByOrder_110 : decode prog_1_method_36_code 110 = .ok (.aaload, 1) := by decide +kernel
theorem d_R_positionByOrder_111 : decode prog_1_method_36_code 111 = .ok (.iload 4, 2) := by decide +kernel
theorem d_R_positionByOrder_113 : decode prog_1_method_36_code 113 = .ok (.iaload, 1) := by decide +kernel
theorem d_R_positionByOrder_114 : decode prog_1_method_36_code 114 = .ok (.iconst 1, 1) := by decide +kernel
theorem d_R_positionByOrder_115 : decode prog_1_method_36_code 115 = .ok (.iadd, 1) := by decide +kernel
theorem d_R_positionByOrder_116 : decode prog_1_method_36_code 116 = .ok (.goto 4, 3) := by decide +kernel
theorem d_R_positionByOrder_119 : decode prog_1_method_36_code 119 = .ok (.iconst 0, 1) := by decide +kernel
theorem d_R_positionByOrder_120 : decode prog_1_method_36_code 120 = .ok (.ireturn, 1) := by decide +kernel
theorem d_R_positionByOrder_121 : decode prog_1_method_36_code 121 = .ok (.iload 5, 2) := by decide +kernel
theorem d_R_positionByOrder_123 : decode prog_1_method_36_code 123 = .ok (.ifCond .eq 18, 3) := by decide +kernel
theorem d_R_positionByOrder_126 : decode prog_1_method_36_code 126 = .ok (.aload_n 0, 1) := by decide +kernel
theorem d_R_positionByOrder_127 : decode prog_1_method_36_code 127 = .ok (.getfield 19, 3) := by decide +kernel
theorem d_R_positionByOrder_130 : decode prog_1_method_36_code 130 = .ok (.getfield 150, 3) := by decide +kernel
theorem d_R_positionByOrder_133 : decode prog_1_method_36_code 133 = .ok (.iload_n 1, 1) := by decide +kernel
theorem d_R_positionByOrder_134 : decode prog_1_method_36_code 134 = .ok (.aaload, 1) := by decide +kernel
theorem d_R_positionByOrder_135 : decode prog_1_method_36_code 135 = .ok (.iload 4, 2) := by decide +kernel
theorem d_R_positionByOrder_137 : decode prog_1_method_36_code 137 = .ok (.iaload, 1) := by decide +kernel
theorem d_R_positionByOrder_138 : decode prog_1_method_36_code 138 = .ok (.goto 5, 3) := by decide +kernel
theorem d_R_positionByOrder_141 : decode prog_1_method_36_code 141 = .ok (.iload 6, 2) := by decide +kernel
theorem d_R_positionByOrder_143 : decode prog_1_method_36_code 143 = .ok (.ireturn, 1) := by decide +kernel
theorem d_R_positionByOrder_144 : decode prog_1_method_36_code 144 = .ok (.aload_n 0, 1) := by decide +kernel
theorem d_R_positionByOrder_145 : decode prog_1_method_36_code 145 = .ok (.iload_n 1, 1) := by decide +kernel
theorem d_R_positionByOrder_146 : decode prog_1_method_36_code 146 = .ok (.iload_n 2, 1) := by decide +kernel
theorem d_R_positionByOrder_147 : decode prog_1_method_36_code 147 = .ok (.iload_n 3, 1) := by decide +kernel
theorem d_R_positionByOrder_148 : decode prog_1_method_36_code 148 = .ok (.invokevirtual 308, 3) := by decide +kernel
theorem d_R_positionByOrder_151 : decode prog_1_method_36_code 151 = .ok (.ireturn, 1) := by decide +kernel
theorem d_R_positionByValue_0 : decode prog_1_method_37_code 0 = .ok (.aload_n 0, 1) := by decide +kernel
theorem d_R_positionByValue_1 : decode prog_1_method_37_code 1 = .ok (.getfield 10, 3) := by decide +kernel
theorem d_R_positionByValue_4 : decode prog_1_method_37_code 4 = .ok (.getfield 282, 3) := by decide +kernel
theorem d_R_positionByValue_7 : decode prog_1_method_37_code 7 = .ok (.iload_n 1, 1) := by decide +kernel
theorem d_R_positionByValue_8 : decode prog_1_method_37_code 8 = .ok (.iaload, 1) := by decide +kernel
theorem d_R_positionByValue_9 : decode prog_1_method_37_code 9 = .ok (.bipush 20, 2) := by decide +kernel
theorem d_R_positionByValue_11 : decode prog_1_method_37_code 11 = .ok (.if_icmp .lt 7, 3) := by decide +kernel
theorem d_R_positionByValue_14 : decode prog_1_method_37_code 14 = .ok (.iconst 1, 1) := by decide +kernel
theorem d_R_positionByValue_15 : decode prog_1_method_37_code 15 = .ok (.goto 4, 3) := by decide +kernel
theorem d_R_positionByValue_18 : decode prog_1_method_37_code 18 = .ok (.iconst 0, 1) := by decide +kernel
theorem d_R_positionByValue_19 : decode prog_1_method_37_code 19 = .ok (.istore 4, 2) := by decide +kernel
theorem d_R_positionByValue_21 : decode prog_1_method_37_code 21 = .ok (.aload_n 0, 1) := by decide +kernel
theorem d_R_positionByValue_22 : decode prog_1_method_37_code 22 = .ok (.getfield 19, 3) := by decide +kernel
theorem d_R_positionByValue_25 : decode prog_1_method_37_code 25 = .ok (.getfield 181, 3) := by decide +kernel
theorem d_R_positionByValue_28 : decode prog_1_method_37_code 28 = .ok (.aload_n 0, 1) := by decide +kernel
theorem d_R_positionByValue_29 : decode prog_1_method_37_code 29 = .ok (.getfield 10, 3) := by decide +kernel
theorem d_R_positionByValue_32 : decode prog_1_method_37_code 32 = .ok (.iload_n 1, 1) := by decide +kernel
theorem d_R_positionByValue_33 : decode prog_1_method_37_code 33 = .ok (.invokevirtual 273, 3) := by decide +kernel
theorem d_R_positionByValue_36 : decode prog_1_method_37_code 36 = .ok (.aaload, 1) := by decide +kernel
theorem d_R_positionByValue_37 : decode prog_1_method_37_code 37 = .ok (.astore 5, 2) := by decide +kernel
theorem d_R_positionByValue_39 : decode prog_1_method_37_code 39 = .ok (.iconst 0, 1) := by decide +kernel
theorem d_R_positionByValue_40 : decode prog_1_method_37_code 40 = .ok (.istore 6, 2) := by decide +kernel
theorem d_R_positionByValue_42 : decode prog_1_method_37_code 42 = .ok (.iconst 0, 1) := by decide +kernel
theorem d_R_positionByValue_43 : decode prog_1_method_37_code 43 = .ok (.istore 7, 2) := by decide +kernel
theorem d_R_positionByValue_45 : decode prog_1_method_37_code 45 = .ok (.iload 7, 2) := by decide +kernel
theorem d_R_positionByValue_47 : decode prog_1_method_37_code 47 = .ok (.bipush 24, 2) := by decide +kernel
theorem d_R_positionByValue_49 : decode prog_1_method_37_code 49 = .ok (.if_icmp .ge 69, 3) := by decide +kernel
theorem d_R_positionByValue_52 : decode prog_1_method_37_code 52 = .ok (.aload 5, 2) := by decide +kernel
theorem d_R_positionByValue_54 : decode prog_1_method_37_code 54 = .ok (.iload 7, 2) := by decide +kernel
theorem d_R_positionByValue_56 : decode prog_1_method_37_code 56 = .ok (.iaload, 1) := by decide +kernel
theorem d_R_positionByValue_57 : decode prog_1_method_37_code 57 = .ok (.aload 5, 2) := by decide +kernel
theorem d_R_positionByValue_59 : decode prog_1_method_37_code 59 = .ok (.iload_n 2, 1) := by decide +kernel
theorem d_R_positionByValue_60 : decode prog_1_method_37_code 60 = .ok (.iaload, 1) := by decide +kernel
theorem d_R_positionByValue_61 : decode prog_1_method_37_code 61 = .ok (.if_icmp .lt 20, 3) := by decide +kernel
theorem d_R_positionByValue_64 : decode prog_1_method_37_code 64 = .ok (.iload 4, 2) := by decide +kernel
theorem d_R_positionByValue_66 : decode prog_1_method_37_code 66 = .ok (.ifCond .eq 19, 3) := by decide +kernel
theorem d_R_positionByValue_69 : decode prog_1_method_37_code 69 = .ok (.aload 5, 2) := by decide +kernel
theorem d_R_positionByValue_71 : decode prog_1_method_37_code 71 = .ok (.iload 7, 2) := by decide +kernel
theorem d_R_positionByValue_73 : decode prog_1_method_37_code 73 = .ok (.iaload, 1) := by decide +kernel
theorem d_R_positionByValue_74 : decode prog_1_method_37_code 74 = .ok (.aload 5, 2) := by decide +kernel
theorem d_R_positionByValue_76 : decode prog_1_method_37_code 76 = .ok (.iload_n 2, 1) := by decide +kernel
theorem d_R_positionByValue_77 : decode prog_1_method_37_code 77 = .ok (.iaload, 1) := by decide +kernel
theorem d_R_positionByValue_78 : decode prog_1_method_37_code 78 = .ok (.if_icmp .ne 7, 3) := by decide +kernel
theorem d_R_positionByValue_81 : decode prog_1_method_37_code 81 = .ok (.iconst 1, 1) := by decide +kernel
theorem d_R_positionByValue_82 : decode prog_1_method_37_code 82 = .ok (.goto 4, 3) := by decide +kernel
theorem d_R_positionByValue_85 : decode prog_1_method_37_code 85 = .ok (.iconst 0, 1) := by decide +kernel
theorem d_R_positionByValue_86 : decode prog_1_method_37_code 86 = .ok (.istore 8, 2) := by decide +kernel
theorem d_R_positionByValue_88 : decode prog_1_method_37_code 88 = .ok (.aload_n 0, 1) := by decide +kernel
theorem d_R_positionByValue_89 : decode prog_1_method_37_code 89 = .ok (.getfield 19, 3) := by decide +kernel
theorem d_R_positionByValue_92 : decode prog_1_method_37_code 92 = .ok (.getfield 243, 3) := by decide +kernel
theorem d_R_positionByValue_95 : decode prog_1_method_37_code 95 = .ok (.iload_n 1, 1) := by decide +kernel
theorem d_R_positionByValue_96 : decode prog_1_method_37_code 96 = .ok (.aaload, 1) := by decide +kernel
theorem d_R_positionByValue_97 : decode prog_1_method_37_code 97 = .ok (.iload 7, 2) := by decide +kernel
theorem d_R_positionByValue_99 : decode prog_1_method_37_code 99 = .ok (.iaload, 1) := by decide +kernel
theorem d_R_positionByValue_100 : decode prog_1_method_37_code 100 = .ok (.iload_n 3, 1) := by decide +kernel
theorem d_R_positionByValue_101 : decode prog_1_method_37_code 101 = .ok (.if_icmp .ne 11, 3) := by decide +kernel
theorem d_R_positionByValue_104 : decode prog_1_method_37_code 104 = .ok (.iload 8, 2) := by decide +kernel
theorem d_R_positionByValue_106 : decode prog_1_method_37_code 106 = .ok (.ifCond .eq 6, 3) := by decide +kernel
theorem d_R_positionByValue_109 : decode prog_1_method_37_code 109 = .ok (.iinc 6 1, 3) := by decide +kernel
theorem d_R_positionByValue_112 : decode prog_1_method_37_code 112 = .ok (.iinc 7 1, 3) := by decide +kernel
theorem d_R_positionByValue_115 : decode prog_1_method_37_code 115 = .ok (.goto (-70), 3) := by decide +kernel
theorem d_R_positionByValue_118 : decode prog_1_method_37_code 118 = .ok (.iload 6, 2) := by decide +kernel
theorem d_R_positionByValue_120 : decode prog_1_method_37_code 120 = .ok (.ireturn, 1) := by decide +kernel
theorem d_R_comeTo_0 : decode prog_1_method_33_code 0 = .ok (.aload_n 0, 1) := by decide +kernel
theorem d_R_comeTo_1 : decode prog_1_method_33_code 1 = .ok (.getfield 19, 3) := by decide +kernel
theorem d_R_comeTo_4 : decode prog_1_method_33_code 4 = .ok (.getfield 190, 3) := by decide +kernel
theorem d_R_comeTo_7 : decode prog_1_method_33_code 7 = .ok (.iload_n 1, 1) := by decide +kernel
theorem d_R_comeTo_8 : decode prog_1_method_33_code 8 = .ok (.iaload, 1) := by decide +kernel
theorem d_R_comeTo_9 : decode prog_1_method_33_code 9 = .ok (.istore_n 3, 1) := by decide +kernel
theorem d_R_comeTo_10 : decode prog_1_method_33_code 10 = .ok (.aload_n 0, 1) := by decide +kernel
theorem d_R_comeTo_11 : decode prog_1_method_33_code 11 = .ok (.getfield 29, 3) := by decide +kernel
theorem d_R_comeTo_14 : decode prog_1_method_33_code 14 = .ok (.iload_n 1, 1) := by decide +kernel
theorem d_R_comeTo_15 : decode prog_1_method_33_code 15 = .ok (.putfield 161, 3) := by decide +kernel
theorem d_R_comeTo_18 : decode prog_1_method_33_code 18 = .ok (.aload_n 0, 1) := by decide +kernel
theorem d_R_comeTo_19 : decode prog_1_method_33_code 19 = .ok (.getfield 29, 3) := by decide +kernel
theorem d_R_comeTo_22 : decode prog_1_method_33_code 22 = .ok (.getfield 167, 3) := by decide +kernel
theorem d_R_comeTo_25 : decode prog_1_method_33_code 25 = .ok (.iload_n 3, 1) := by decide +kernel
theorem d_R_comeTo_26 : decode prog_1_method_33_code 26 = .ok (.iload_n 1, 1) := by decide +kernel
theorem d_R_comeTo_27 : decode prog_1_method_33_code 27 = .ok (.iastore, 1) := by decide +kernel
theorem d_R_comeTo_28 : decode prog_1_method_33_code 28 = .ok (.iconst 0, 1) := by decide +kernel
theorem d_R_comeTo_29 : decode prog_1_method_33_code 29 = .ok (.istore 4, 2) := by decide +kernel
theorem d_R_comeTo_31 : decode prog_1_method_33_code 31 = .ok (.iload 4, 2) := by decide +kernel
theorem d_R_comeTo_33 : decode prog_1_method_33_code 33 = .ok (.aload_n 0, 1) := by decide +kernel
theorem d_R_comeTo_34 : decode prog_1_method_33_code 34 = .ok (.getfield 10, 3) := by decide +kernel
theorem d_R_comeTo_37 : decode prog_1_method_33_code 37 = .ok (.getfield 69, 3) := by decide +kernel
theorem d_R_comeTo_40 : decode prog_1_method_33_code 40 = .ok (.if_icmp .ge 68, 3) := by decide +kernel
theorem d_R_comeTo_43 : decode prog_1_method_33_code 43 = .ok (.aload_n 0, 1) := by decide +kernel
theorem d_R_comeTo_44 : decode prog_1_method_33_code 44 = .ok (.getfield 10, 3) := by decide +kernel
theorem d_R_comeTo_47 : decode prog_1_method_33_code 47 = .ok (.getfield 291, 3) := by decide +kernel
theorem d_R_comeTo_50 : decode prog_1_method_33_code 50 = .ok (.iload 4, 2) := by decide +kernel
theorem d_R_comeTo_52 : decode prog_1_method_33_code 52 = .ok (.iaload, 1) := by decide +kernel
theorem d_R_comeTo_53 : decode prog_1_method_33_code 53 = .ok (.iload_n 3, 1) := by decide +kernel
theorem d_R_comeTo_54 : decode prog_1_method_33_code 54 = .ok (.if_icmp .eq 16, 3) := by decide +kernel
theorem d_R_comeTo_57 : decode prog_1_method_33_code 57 = .ok (.aload_n 0, 1) := by decide +kernel
theorem d_R_comeTo_58 : decode prog_1_method_33_code 58 = .ok (.getfield 19, 3) := by decide +kernel
theorem d_R_comeTo_61 : decode prog_1_method_33_code 61 = .ok (.iload 4, 2) := by decide +kernel
theorem d_R_comeTo_63 : decode prog_1_method_33_code 63 = .ok (.iload_n 1, 1) := by decide +kernel
theorem d_R_comeTo_64 : decode prog_1_method_33_code 64 = .ok (.invokevirtual 193, 3) := by decide +kernel
theorem d_R_comeTo_67 : decode prog_1_method_33_code 67 = .ok (.ifCond .eq 7, 3) := by decide +kernel
theorem d_R_comeTo_70 : decode prog_1_method_33_code 70 = .ok (.iconst 1, 1) := by decide +kernel
theorem d_R_comeTo_71 : decode prog_1_method_33_code 71 = .ok (.goto 4, 3) := by decide +kernel
theorem d_R_comeTo_74 : decode prog_1_method_33_code 74 = .ok (.iconst 0, 1) := by decide +kernel
theorem d_R_comeTo_75 : decode prog_1_method_33_code 75 = .ok (.istore 5, 2) := by decide +kernel
theorem d_R_comeTo_77 : decode prog_1_method_33_code 77 = .ok (.iload 5, 2) := by decide +kernel
theorem d_R_comeTo_79 : decode prog_1_method_33_code 79 = .ok (.ifCond .eq 23, 3) := by decide +kernel
theorem d_R_comeTo_82 : decode prog_1_method_33_code 82 = .ok (.iload_n 2, 1) := by decide +kernel
theorem d_R_comeTo_83 : decode prog_1_method_33_code 83 = .ok (.iload 4, 2) := by decide +kernel
theorem d_R_comeTo_85 : decode prog_1_method_33_code 85 = .ok (.invokestatic 296, 3) := by decide +kernel
theorem d_R_comeTo_88 : decode prog_1_method_33_code 88 = .ok (.ifCond .ne 14, 3) := by decide +kernel
theorem d_R_comeTo_91 : decode prog_1_method_33_code 91 = .ok (.aload_n 0, 1) := by decide +kernel
theorem d_R_comeTo_92 : decode prog_1_method_33_code 92 = .ok (.getfield 29, 3) := by decide +kernel
theorem d_R_comeTo_95 : decode prog_1_method_33_code 95 = .ok (.getfield 154, 3) := by decide +kernel
theorem d_R_comeTo_98 : decode prog_1_method_33_code 98 = .ok (.iload 4, 2) := by decide +kernel
theorem d_R_comeTo_100 : decode prog_1_method_33_code 100 = .ok (.iload_n 1, 1) := by decide +kernel
theorem d_R_comeTo_101 : decode prog_1_method_33_code 101 = .ok (.iastore, 1) := by decide +kernel
theorem d_R_comeTo_102 : decode prog_1_method_33_code 102 = .ok (.iinc 4 1, 3) := by decide +kernel
theorem d_R_comeTo_105 : decode prog_1_method_33_code 105 = .ok (.goto (-74), 3) := by decide +kernel
theorem d_R_comeTo_108 : decode prog_1_method_33_code 108 = .ok (.return_, 1) := by decide +kernel
theorem d_R_hasBit_0 : decode prog_1_method_45_code 0 = .ok (.iload_n 1, 1) := by decide +kernel
theorem d_R_hasBit_1 : decode prog_1_method_45_code 1 = .ok (.ifCond .lt 15, 3) := by decide +kernel
theorem d_R_hasBit_4 : decode prog_1_method_45_code 4 = .ok (.iload_n 0, 1) := by decide +kernel
theorem d_R_hasBit_5 : decode prog_1_method_45_code 5 = .ok (.iload_n 1, 1) := by decide +kernel
theorem d_R_hasBit_6 : decode prog_1_method_45_code 6 = .ok (.ishr, 1) := by decide +kernel
theorem d_R_hasBit_7 : decode prog_1_method_45_code 7 = .ok (.iconst 1, 1) := by decide +kernel
theorem d_R_hasBit_8 : decode prog_1_method_45_code 8 = .ok (.iand, 1) := by decide +kernel
theorem d_R_hasBit_9 : decode prog_1_method_45_code 9 = .ok (.ifCond .eq 7, 3) := by decide +kernel
theorem d_R_hasBit_12 : decode prog_1_method_45_code 12 = .ok (.iconst 1, 1) := by decide +kernel
theorem d_R_hasBit_13 : decode prog_1_method_45_code 13 = .ok (.goto 4, 3) := by decide +kernel
theorem d_R_hasBit_16 : decode prog_1_method_45_code 16 = .ok (.iconst 0, 1) := by decide +kernel
theorem d_R_hasBit_17 : decode prog_1_method_45_code 17 = .ok (.ireturn, 1) := by decide +kernel
theorem d_R_find_0 : decode prog_1_method_5_code 0 = .ok (.aload_n 0, 1) := by decide +kernel
theorem d_R_find_1 : decode prog_1_method_5_code 1 = .ok (.aload_n 0, 1) := by decide +kernel
theorem d_R_find_2 : decode prog_1_method_5_code 2 = .ok (.iload_n 1, 1) := by decide +kernel
theorem d_R_find_3 : decode prog_1_method_5_code 3 = .ok (.invokevirtual 118, 3) := by decide +kernel
theorem d_R_find_6 : decode prog_1_method_5_code 6 = .ok (.iload_n 2, 1) := by decide +kernel
theorem d_R_find_7 : decode prog_1_method_5_code 7 = .ok (.invokevirtual 111, 3) := by decide +kernel
theorem d_R_find_10 : decode prog_1_method_5_code 10 = .ok (.return_, 1) := by decide +kernel
theorem d_R_requireRecord_0 : decode prog_1_method_23_code 0 = .ok (.aload_n 0, 1) := by decide +kernel
theorem d_R_requireRecord_1 : decode prog_1_method_23_code 1 = .ok (.getfield 19, 3) := by decide +kernel
theorem d_R_requireRecord_4 : decode prog_1_method_23_code 4 = .ok (.iload_n 1, 1) := by decide +kernel
theorem d_R_requireRecord_5 : decode prog_1_method_23_code 5 = .ok (.invokevirtual 258, 3) := by decide +kernel
theorem d_R_requireRecord_8 : decode prog_1_method_23_code 8 = .ok (.istore_n 2, 1) := by decide +kernel
theorem d_R_requireRecord_9 : decode prog_1_method_23_code 9 = .ok (.iload_n 2, 1) := by decide +kernel
theorem d_R_requireRecord_10 : decode prog_1_method_23_code 10 = .ok (.iconst (-1), 1) := by decide +kernel
theorem d_R_requireRecord_11 : decode prog_1_method_23_code 11 = .ok (.if_icmp .ne 14, 3) := by decide +kernel
theorem d_R_requireRecord_14 : decode prog_1_method_23_code 14 = .ok (.new 261, 3) := by decide +kernel
theorem d_R_requireRecord_17 : decode prog_1_method_23_code 17 = .ok (.dup, 1) := by decide +kernel
theorem d_R_requireRecord_18 : decode prog_1_method_23_code 18 = .ok (.ldc_w 263, 3) := by decide +kernel
theorem d_R_requireRecord_21 : decode prog_1_method_23_code 21 = .ok (.invokespecial 265, 3) := by decide +kernel
theorem d_R_requireRecord_24 : decode prog_1_method_23_code 24 = .ok (.athrow, 1) := by decide +kernel
theorem d_R_requireRecord_25 : decode prog_1_method_23_code 25 = .ok (.iload_n 2, 1) := by decide +kernel
theorem d_R_requireRecord_26 : decode prog_1_method_23_code 26 = .ok (.ireturn, 1) := by decide +kernel
theorem d_R_seek_0 : decode prog_1_method_6_code 0 = .ok (.aload_n 0, 1) := by decide +kernel
theorem d_R_seek_1 : decode prog_1_method_6_code 1 = .ok (.getfield 10, 3) := by decide +kernel
theorem d_R_seek_4 : decode prog_1_method_6_code 4 = .ok (.iload_n 1, 1) := by decide +kernel
theorem d_R_seek_5 : decode prog_1_method_6_code 5 = .ok (.iload_n 2, 1) := by decide +kernel
theorem d_R_seek_6 : decode prog_1_method_6_code 6 = .ok (.invokevirtual 121, 3) := by decide +kernel
theorem d_R_seek_9 : decode prog_1_method_6_code 9 = .ok (.ifCond .ne 13, 3) := by decide +kernel
theorem d_R_seek_12 : decode prog_1_method_6_code 12 = .ok (.new 37, 3) := by decide +kernel
theorem d_R_seek_15 : decode prog_1_method_6_code 15 = .ok (.dup, 1) := by decide +kernel
theorem d_R_seek_16 : decode prog_1_method_6_code 16 = .ok (.ldc 124, 2) := by decide +kernel
theorem d_R_seek_18 : decode prog_1_method_6_code 18 = .ok (.invokespecial 41, 3) := by decide +kernel
theorem d_R_seek_21 : decode prog_1_method_6_code 21 = .ok (.athrow, 1) := by decide +kernel
theorem d_R_seek_22 : decode prog_1_method_6_code 22 = .ok (.aload_n 0, 1) := by decide +kernel
theorem d_R_seek_23 : decode prog_1_method_6_code 23 = .ok (.aload_n 0, 1) := by decide +kernel
theorem d_R_seek_24 : decode prog_1_method_6_code 24 = .ok (.getfield 19, 3) := by decide +kernel
theorem d_R_seek_27 : decode prog_1_method_6_code 27 = .ok (.iload_n 1, 1) := by decide +kernel
theorem d_R_seek_28 : decode prog_1_method_6_code 28 = .ok (.iload_n 2, 1) := by decide +kernel
theorem d_R_seek_29 : decode prog_1_method_6_code 29 = .ok (.iload_n 3, 1) := by decide +kernel
theorem d_R_seek_30 : decode prog_1_method_6_code 30 = .ok (.invokevirtual 126, 3) := by decide +kernel
theorem d_R_seek_33 : decode prog_1_method_6_code 33 = .ok (.invokevirtual 130, 3) := by decide +kernel
theorem d_R_seek_36 : decode prog_1_method_6_code 36 = .ok (.ireturn, 1) := by decide +kernel
theorem d_R_comeToExisting_0 : decode prog_1_method_32_code 0 = .ok (.iload_n 1, 1) := by decide +kernel
theorem d_R_comeToExisting_1 : decode prog_1_method_32_code 1 = .ok (.iconst (-1), 1) := by decide +kernel
theorem d_R_comeToExisting_2 : decode prog_1_method_32_code 2 = .ok (.if_icmp .ne 14, 3) := by decide +kernel
theorem d_R_comeToExisting_5 : decode prog_1_method_32_code 5 = .ok (.new 261, 3) := by decide +kernel
theorem d_R_comeToExisting_8 : decode prog_1_method_32_code 8 = .ok (.dup, 1) := by decide +kernel
theorem d_R_comeToExisting_9 : decode prog_1_method_32_code 9 = .ok (.ldc_w 294, 3) := by decide +kernel
theorem d_R_comeToExisting_12 : decode prog_1_method_32_code 12 = .ok (.invokespecial 265, 3) := by decide +kernel
theorem d_R_comeToExisting_15 : decode prog_1_method_32_code 15 = .ok (.athrow, 1) := by decide +kernel
theorem d_R_comeToExisting_16 : decode prog_1_method_32_code 16 = .ok (.aload_n 0, 1) := by decide +kernel
theorem d_R_comeToExisting_17 : decode prog_1_method_32_code 17 = .ok (.iload_n 1, 1) := by decide +kernel
theorem d_R_comeToExisting_18 : decode prog_1_method_32_code 18 = .ok (.iconst 0, 1) := by decide +kernel
theorem d_R_comeToExisting_19 : decode prog_1_method_32_code 19 = .ok (.invokevirtual 111, 3) := by decide +kernel
theorem d_R_comeToExisting_22 : decode prog_1_method_32_code 22 = .ok (.aload_n 0, 1) := by decide +kernel
theorem d_R_comeToExisting_23 : decode prog_1_method_32_code 23 = .ok (.getfield 19, 3) := by decide +kernel
theorem d_R_comeToExisting_26 : decode prog_1_method_32_code 26 = .ok (.getfield 114, 3) := by decide +kernel
theorem d_R_comeToExisting_29 : decode prog_1_method_32_code 29 = .ok (.iload_n 1, 1) := by decide +kernel
theorem d_R_comeToExisting_30 : decode prog_1_method_32_code 30 = .ok (.iaload, 1) := by decide +kernel
theorem d_R_comeToExisting_31 : decode prog_1_method_32_code 31 = .ok (.ireturn, 1) := by decide +kernel
theorem d_R_move_0 : decode prog_1_method_7_code 0 = .ok (.aload_n 0, 1) := by decide +kernel
theorem d_R_move_1 : decode prog_1_method_7_code 1 = .ok (.iload_n 1, 1) := by decide +kernel
theorem d_R_move_2 : decode prog_1_method_7_code 2 = .ok (.invokevirtual 133, 3) := by decide +kernel
theorem d_R_move_5 : decode prog_1_method_7_code 5 = .ok (.iload_n 2, 1) := by decide +kernel
theorem d_R_move_6 : decode prog_1_method_7_code 6 = .ok (.ifCond .lt 8, 3) := by decide +kernel
theorem d_R_move_9 : decode prog_1_method_7_code 9 = .ok (.iload_n 2, 1) := by decide +kernel
theorem d_R_move_10 : decode prog_1_method_7_code 10 = .ok (.iconst 4, 1) := by decide +kernel
theorem d_R_move_11 : decode prog_1_method_7_code 11 = .ok (.if_icmp .le 13, 3) := by decide +kernel
theorem d_R_move_14 : decode prog_1_method_7_code 14 = .ok (.new 37, 3) := by decide +kernel
theorem d_R_move_17 : decode prog_1_method_7_code 17 = .ok (.dup, 1) := by decide +kernel
theorem d_R_move_18 : decode prog_1_method_7_code 18 = .ok (.ldc 136, 2) := by decide +kernel
theorem d_R_move_20 : decode prog_1_method_7_code 20 = .ok (.invokespecial 41, 3) := by decide +kernel
theorem d_R_move_23 : decode prog_1_method_7_code 23 = .ok (.athrow, 1) := by decide +kernel
theorem d_R_move_24 : decode prog_1_method_7_code 24 = .ok (.aload_n 0, 1) := by decide +kernel
theorem d_R_move_25 : decode prog_1_method_7_code 25 = .ok (.aload_n 0, 1) := by decide +kernel
theorem d_R_move_26 : decode prog_1_method_7_code 26 = .ok (.iload_n 1, 1) := by decide +kernel
theorem d_R_move_27 : decode prog_1_method_7_code 27 = .ok (.iload_n 2, 1) := by decide +kernel
theorem d_R_move_28 : decode prog_1_method_7_code 28 = .ok (.invokevirtual 138, 3) := by decide +kernel
theorem d_R_move_31 : decode prog_1_method_7_code 31 = .ok (.invokevirtual 130, 3) := by decide +kernel
theorem d_R_move_34 : decode prog_1_method_7_code 34 = .ok (.ireturn, 1) := by decide +kernel
theorem d_R_requireSet_0 : decode prog_1_method_21_code 0 = .ok (.aload_n 0, 1) := by decide +kernel
theorem d_R_requireSet_1 : decode prog_1_method_21_code 1 = .ok (.getfield 10, 3) := by decide +kernel
theorem d_R_requireSet_4 : decode prog_1_method_21_code 4 = .ok (.iload_n 1, 1) := by decide +kernel
theorem d_R_requireSet_5 : decode prog_1_method_21_code 5 = .ok (.invokevirtual 170, 3) := by decide +kernel
theorem d_R_requireSet_8 : decode prog_1_method_21_code 8 = .ok (.ifCond .ne 14, 3) := by decide +kernel
theorem d_R_requireSet_11 : decode prog_1_method_21_code 11 = .ok (.new 37, 3) := by decide +kernel
theorem d_R_requireSet_14 : decode prog_1_method_21_code 14 = .ok (.dup, 1) := by decide +kernel
theorem d_R_requireSet_15 : decode prog_1_method_21_code 15 = .ok (.ldc_w 256, 3) := by decide +kernel
theorem d_R_requireSet_18 : decode prog_1_method_21_code 18 = .ok (.invokespecial 41, 3) := by decide +kernel
theorem d_R_requireSet_21 : decode prog_1_method_21_code 21 = .ok (.athrow, 1) := by decide +kernel
theorem d_R_requireSet_22 : decode prog_1_method_21_code 22 = .ok (.return_, 1) := by decide +kernel
theorem d_R_placeToMoveTo_0 : decode prog_1_method_34_code 0 = .ok (.aload_n 0, 1) := by decide +kernel
theorem d_R_placeToMoveTo_1 : decode prog_1_method_34_code 1 = .ok (.getfield 29, 3) := by decide +kernel
theorem d_R_placeToMoveTo_4 : decode prog_1_method_34_code 4 = .ok (.getfield 154, 3) := by decide +kernel
theorem d_R_placeToMoveTo_7 : decode prog_1_method_34_code 7 = .ok (.iload_n 1, 1) := by decide +kernel
theorem d_R_placeToMoveTo_8 : decode prog_1_method_34_code 8 = .ok (.iaload, 1) := by decide +kernel
theorem d_R_placeToMoveTo_9 : decode prog_1_method_34_code 9 = .ok (.istore_n 3, 1) := by decide +kernel
theorem d_R_placeToMoveTo_10 : decode prog_1_method_34_code 10 = .ok (.aload_n 0, 1) := by decide +kernel
theorem d_R_placeToMoveTo_11 : decode prog_1_method_34_code 11 = .ok (.iload_n 1, 1) := by decide +kernel
theorem d_R_placeToMoveTo_12 : decode prog_1_method_34_code 12 = .ok (.invokevirtual 104, 3) := by decide +kernel
theorem d_R_placeToMoveTo_15 : decode prog_1_method_34_code 15 = .ok (.istore 4, 2) := by decide +kernel
theorem d_R_placeToMoveTo_17 : decode prog_1_method_34_code 17 = .ok (.iload_n 3, 1) := by decide +kernel
theorem d_R_placeToMoveTo_18 : decode prog_1_method_34_code 18 = .ok (.iconst (-1), 1) := by decide +kernel
theorem d_R_placeToMoveTo_19 : decode prog_1_method_34_code 19 = .ok (.if_icmp .eq 9, 3) := by decide +kernel
theorem d_R_placeToMoveTo_22 : decode prog_1_method_34_code 22 = .ok (.iload 4, 2) := by decide +kernel
theorem d_R_placeToMoveTo_24 : decode prog_1_method_34_code 24 = .ok (.iconst (-1), 1) := by decide +kernel
theorem d_R_placeToMoveTo_25 : decode prog_1_method_34_code 25 = .ok (.if_icmp .ne 5, 3) := by decide +kernel
theorem d_R_placeToMoveTo_28 : decode prog_1_method_34_code 28 = .ok (.iconst (-1), 1) := by decide +kernel
theorem d_R_placeToMoveTo_29 : decode prog_1_method_34_code 29 = .ok (.ireturn, 1) := by decide +kernel
theorem d_R_placeToMoveTo_30 : decode prog_1_method_34_code 30 = .ok (.aload_n 0, 1) := by decide +kernel
theorem d_R_placeToMoveTo_31 : decode prog_1_method_34_code 31 = .ok (.getfield 19, 3) := by decide +kernel
theorem d_R_placeToMoveTo_34 : decode prog_1_method_34_code 34 = .ok (.getfield 150, 3) := by decide +kernel
theorem d_R_placeToMoveTo_37 : decode prog_1_method_34_code 37 = .ok (.iload_n 1, 1) := by decide +kernel
theorem d_R_placeToMoveTo_38 : decode prog_1_method_34_code 38 = .ok (.aaload, 1) := by decide +kernel
theorem d_R_placeToMoveTo_39 : decode prog_1_method_34_code 39 = .ok (.iload_n 3, 1) := by decide +kernel
theorem d_R_placeToMoveTo_40 : decode prog_1_method_34_code 40 = .ok (.iaload, 1) := by decide +kernel
theorem d_R_placeToMoveTo_41 : decode prog_1_method_34_code 41 = .ok (.istore 5, 2) := by decide +kernel
theorem d_R_placeToMoveTo_43 : decode prog_1_method_34_code 43 = .ok (.aload_n 0, 1) := by decide +kernel
theorem d_R_placeToMoveTo_44 : decode prog_1_method_34_code 44 = .ok (.getfield 19, 3) := by decide +kernel
theorem d_R_placeToMoveTo_47 : decode prog_1_method_34_code 47 = .ok (.iload_n 1, 1) := by decide +kernel
theorem d_R_placeToMoveTo_48 : decode prog_1_method_34_code 48 = .ok (.iload 4, 2) := by decide +kernel
theorem d_R_placeToMoveTo_50 : decode prog_1_method_34_code 50 = .ok (.invokevirtual 240, 3) := by decide +kernel
theorem d_R_placeToMoveTo_53 : decode prog_1_method_34_code 53 = .ok (.istore 6, 2) := by decide +kernel
theorem d_R_placeToMoveTo_55 : decode prog_1_method_34_code 55 = .ok (.iload_n 2, 1) := by decide +kernel
theorem d_R_placeToMoveTo_56 : decode prog_1_method_34_code 56 = .ok (.tableswitch 102 0 3 #[32, 44, 59, 74], 32) := by decide +kernel
theorem d_R_placeToMoveTo_88 : decode prog_1_method_34_code 88 = .ok (.aload_n 0, 1) := by decide +kernel
theorem d_R_placeToMoveTo_89 : decode prog_1_method_34_code 89 = .ok (.getfield 19, 3) := by decide +kernel
theorem d_R_placeToMoveTo_92 : decode prog_1_method_34_code 92 = .ok (.iload_n 1, 1) := by decide +kernel
theorem d_R_placeToMoveTo_93 : decode prog_1_method_34_code 93 = .ok (.iload 4, 2) := by decide +kernel
theorem d_R_placeToMoveTo_95 : decode prog_1_method_34_code 95 = .ok (.iconst 0, 1) := by decide +kernel
theorem d_R_placeToMoveTo_96 : decode prog_1_method_34_code 96 = .ok (.invokevirtual 299, 3) := by decide +kernel
theorem d_R_placeToMoveTo_99 : decode prog_1_method_34_code 99 = .ok (.ireturn, 1) := by decide +kernel
theorem d_R_placeToMoveTo_100 : decode prog_1_method_34_code 100 = .ok (.aload_n 0, 1) := by decide +kernel
theorem d_R_placeToMoveTo_101 : decode prog_1_method_34_code 101 = .ok (.getfield 19, 3) := by decide +kernel
theorem d_R_placeToMoveTo_104 : decode prog_1_method_34_code 104 = .ok (.iload_n 1, 1) := by decide +kernel
theorem d_R_placeToMoveTo_105 : decode prog_1_method_34_code 105 = .ok (.iload 4, 2) := by decide +kernel
theorem d_R_placeToMoveTo_107 : decode prog_1_method_34_code 107 = .ok (.iload 6, 2) := by decide +kernel
theorem d_R_placeToMoveTo_109 : decode prog_1_method_34_code 109 = .ok (.iconst 1, 1) := by decide +kernel
theorem d_R_placeToMoveTo_110 : decode prog_1_method_34_code 110 = .ok (.isub, 1) := by decide +kernel
theorem d_R_placeToMoveTo_111 : decode prog_1_method_34_code 111 = .ok (.invokevirtual 299, 3) := by decide +kernel
theorem d_R_placeToMoveTo_114 : decode prog_1_method_34_code 114 = .ok (.ireturn, 1) := by decide +kernel
theorem d_R_placeToMoveTo_115 : decode prog_1_method_34_code 115 = .ok (.aload_n 0, 1) := by decide +kernel
theorem d_R_placeToMoveTo_116 : decode prog_1_method_34_code 116 = .ok (.getfield 19, 3) := by decide +kernel
theorem d_R_placeToMoveTo_119 : decode prog_1_method_34_code 119 = .ok (.iload_n 1, 1) := by decide +kernel
theorem d_R_placeToMoveTo_120 : decode prog_1_method_34_code 120 = .ok (.iload 4, 2) := by decide +kernel
theorem d_R_placeToMoveTo_122 : decode prog_1_method_34_code 122 = .ok (.iload 5, 2) := by decide +kernel
theorem d_R_placeToMoveTo_124 : decode prog_1_method_34_code 124 = .ok (.iconst 1, 1) := by decide +kernel
theorem d_R_placeToMoveTo_125 : decode prog_1_method_34_code 125 = .ok (.iadd, 1) := by decide +kernel
theorem d_R_placeToMoveTo_126 : decode prog_1_method_34_code 126 = .ok (.invokevirtual 299, 3) := by decide +kernel
theorem d_R_placeToMoveTo_129 : decode prog_1_method_34_code 129 = .ok (.ireturn, 1) := by decide +kernel
theorem d_R_placeToMoveTo_130 : decode prog_1_method_34_code 130 = .ok (.aload_n 0, 1) := by decide +kernel
theorem d_R_placeToMoveTo_131 : decode prog_1_method_34_code 131 = .ok (.getfield 19, 3) := by decide +kernel
theorem d_R_placeToMoveTo_134 : decode prog_1_method_34_code 134 = .ok (.iload_n 1, 1) := by decide +kernel
theorem d_R_placeToMoveTo_135 : decode prog_1_method_34_code 135 = .ok (.iload 4, 2) := by decide +kernel
theorem d_R_placeToMoveTo_137 : decode prog_1_method_34_code 137 = .ok (.iload_n 3, 1) := by decide +kernel
theorem d_R_placeToMoveTo_138 : decode prog_1_method_34_code 138 = .ok (.iload 4, 2) := by decide +kernel
theorem d_R_placeToMoveTo_140 : decode prog_1_method_34_code 140 = .ok (.if_icmp .ne 10, 3) := by decide +kernel
theorem d_R_placeToMoveTo_143 : decode prog_1_method_34_code 143 = .ok (.iload 6, 2) := by decide +kernel
theorem d_R_placeToMoveTo_145 : decode prog_1_method_34_code 145 = .ok (.iconst 1, 1) := by decide +kernel
theorem d_R_placeToMoveTo_146 : decode prog_1_method_34_code 146 = .ok (.isub, 1) := by decide +kernel
theorem d_R_placeToMoveTo_147 : decode prog_1_method_34_code 147 = .ok (.goto 7, 3) := by decide +kernel
theorem d_R_placeToMoveTo_150 : decode prog_1_method_34_code 150 = .ok (.iload 5, 2) := by decide +kernel
theorem d_R_placeToMoveTo_152 : decode prog_1_method_34_code 152 = .ok (.iconst 1, 1) := by decide +kernel
theorem d_R_placeToMoveTo_153 : decode prog_1_method_34_code 153 = .ok (.isub, 1) := by decide +kernel
theorem d_R_placeToMoveTo_154 : decode prog_1_method_34_code 154 = .ok (.invokevirtual 299, 3) := by decide +kernel
theorem d_R_placeToMoveTo_157 : decode prog_1_method_34_code 157 = .ok (.ireturn, 1) := by decide +kernel
theorem d_R_placeToMoveTo_158 : decode prog_1_method_34_code 158 = .ok (.iload 4, 2) := by decide +kernel
theorem d_R_placeToMoveTo_160 : decode prog_1_method_34_code 160 = .ok (.ireturn, 1) := by decide +kernel
theorem d_R_scan_0 : decode prog_1_method_8_code 0 = .ok (.aload_n 0, 1) := by decide +kernel
theorem d_R_scan_1 : decode prog_1_method_8_code 1 = .ok (.iload_n 1, 1) := by decide +kernel
theorem d_R_scan_2 : decode prog_1_method_8_code 2 = .ok (.invokevirtual 133, 3) := by decide +kernel
theorem d_R_scan_5 : decode prog_1_method_8_code 5 = .ok (.aload_n 0, 1) := by decide +kernel
theorem d_R_scan_6 : decode prog_1_method_8_code 6 = .ok (.getfield 10, 3) := by decide +kernel
theorem d_R_scan_9 : decode prog_1_method_8_code 9 = .ok (.aload_n 0, 1) := by decide +kernel
theorem d_R_scan_10 : decode prog_1_method_8_code 10 = .ok (.getfield 10, 3) := by decide +kernel
theorem d_R_scan_13 : decode prog_1_method_8_code 13 = .ok (.getfield 142, 3) := by decide +kernel
theorem d_R_scan_16 : decode prog_1_method_8_code 16 = .ok (.iload_n 1, 1) := by decide +kernel
theorem d_R_scan_17 : decode prog_1_method_8_code 17 = .ok (.iaload, 1) := by decide +kernel
theorem d_R_scan_18 : decode prog_1_method_8_code 18 = .ok (.iload_n 2, 1) := by decide +kernel
theorem d_R_scan_19 : decode prog_1_method_8_code 19 = .ok (.invokevirtual 121, 3) := by decide +kernel
theorem d_R_scan_22 : decode prog_1_method_8_code 22 = .ok (.ifCond .ne 13, 3) := by decide +kernel
theorem d_R_scan_25 : decode prog_1_method_8_code 25 = .ok (.new 37, 3) := by decide +kernel
theorem d_R_scan_28 : decode prog_1_method_8_code 28 = .ok (.dup, 1) := by decide +kernel
theorem d_R_scan_29 : decode prog_1_method_8_code 29 = .ok (.ldc 145, 2) := by decide +kernel
theorem d_R_scan_31 : decode prog_1_method_8_code 31 = .ok (.invokespecial 41, 3) := by decide +kernel
theorem d_R_scan_34 : decode prog_1_method_8_code 34 = .ok (.athrow, 1) := by decide +kernel
theorem d_R_scan_35 : decode prog_1_method_8_code 35 = .ok (.aload_n 0, 1) := by decide +kernel
theorem d_R_scan_36 : decode prog_1_method_8_code 36 = .ok (.iload_n 1, 1) := by decide +kernel
theorem d_R_scan_37 : decode prog_1_method_8_code 37 = .ok (.invokevirtual 147, 3) := by decide +kernel
theorem d_R_scan_40 : decode prog_1_method_8_code 40 = .ok (.istore 4, 2) := by decide +kernel
theorem d_R_scan_42 : decode prog_1_method_8_code 42 = .ok (.aload_n 0, 1) := by decide +kernel
theorem d_R_scan_43 : decode prog_1_method_8_code 43 = .ok (.getfield 19, 3) := by decide +kernel
theorem d_R_scan_46 : decode prog_1_method_8_code 46 = .ok (.getfield 150, 3) := by decide +kernel
theorem d_R_scan_49 : decode prog_1_method_8_code 49 = .ok (.iload_n 1, 1) := by decide +kernel
theorem d_R_scan_50 : decode prog_1_method_8_code 50 = .ok (.aaload, 1) := by decide +kernel
theorem d_R_scan_51 : decode prog_1_method_8_code 51 = .ok (.aload_n 0, 1) := by decide +kernel
theorem d_R_scan_52 : decode prog_1_method_8_code 52 = .ok (.getfield 29, 3) := by decide +kernel
theorem d_R_scan_55 : decode prog_1_method_8_code 55 = .ok (.getfield 154, 3) := by decide +kernel
theorem d_R_scan_58 : decode prog_1_method_8_code 58 = .ok (.iload_n 1, 1) := by decide +kernel
theorem d_R_scan_59 : decode prog_1_method_8_code 59 = .ok (.iaload, 1) := by decide +kernel
theorem d_R_scan_60 : decode prog_1_method_8_code 60 = .ok (.iaload, 1) := by decide +kernel
theorem d_R_scan_61 : decode prog_1_method_8_code 61 = .ok (.iconst 1, 1) := by decide +kernel
theorem d_R_scan_62 : decode prog_1_method_8_code 62 = .ok (.iadd, 1) := by decide +kernel
theorem d_R_scan_63 : decode prog_1_method_8_code 63 = .ok (.istore 5, 2) := by decide +kernel
theorem d_R_scan_65 : decode prog_1_method_8_code 65 = .ok (.aload_n 0, 1) := by decide +kernel
theorem d_R_scan_66 : decode prog_1_method_8_code 66 = .ok (.aload_n 0, 1) := by decide +kernel
theorem d_R_scan_67 : decode prog_1_method_8_code 67 = .ok (.getfield 19, 3) := by decide +kernel
theorem d_R_scan_70 : decode prog_1_method_8_code 70 = .ok (.iload_n 1, 1) := by decide +kernel
theorem d_R_scan_71 : decode prog_1_method_8_code 71 = .ok (.iload 4, 2) := by decide +kernel
theorem d_R_scan_73 : decode prog_1_method_8_code 73 = .ok (.iload 5, 2) := by decide +kernel
theorem d_R_scan_75 : decode prog_1_method_8_code 75 = .ok (.iload_n 2, 1) := by decide +kernel
theorem d_R_scan_76 : decode prog_1_method_8_code 76 = .ok (.iload_n 3, 1) := by decide +kernel
theorem d_R_scan_77 : decode prog_1_method_8_code 77 = .ok (.invokevirtual 157, 3) := by decide +kernel
theorem d_R_scan_80 : decode prog_1_method_8_code 80 = .ok (.invokevirtual 130, 3) := by decide +kernel
theorem d_R_scan_83 : decode prog_1_method_8_code 83 = .ok (.ireturn, 1) := by decide +kernel
theorem d_R_current_0 : decode prog_1_method_9_code 0 = .ok (.iload_n 1, 1) := by decide +kernel
theorem d_R_current_1 : decode prog_1_method_9_code 1 = .ok (.ifCond .ne 18, 3) := by decide +kernel
theorem d_R_current_4 : decode prog_1_method_9_code 4 = .ok (.aload_n 0, 1) := by decide +kernel
theorem d_R_current_5 : decode prog_1_method_9_code 5 = .ok (.getfield 19, 3) := by decide +kernel
theorem d_R_current_8 : decode prog_1_method_9_code 8 = .ok (.aload_n 0, 1) := by decide +kernel
theorem d_R_current_9 : decode prog_1_method_9_code 9 = .ok (.getfield 29, 3) := by decide +kernel
theorem d_R_current_12 : decode prog_1_method_9_code 12 = .ok (.getfield 161, 3) := by decide +kernel
theorem d_R_current_15 : decode prog_1_method_9_code 15 = .ok (.invokevirtual 164, 3) := by decide +kernel
theorem d_R_current_18 : decode prog_1_method_9_code 18 = .ok (.ireturn, 1) := by decide +kernel
theorem d_R_current_19 : decode prog_1_method_9_code 19 = .ok (.iload_n 1, 1) := by decide +kernel
theorem d_R_current_20 : decode prog_1_method_9_code 20 = .ok (.iconst 1, 1) := by decide +kernel
theorem d_R_current_21 : decode prog_1_method_9_code 21 = .ok (.if_icmp .ne 31, 3) := by decide +kernel
theorem d_R_current_24 : decode prog_1_method_9_code 24 = .ok (.aload_n 0, 1) := by decide +kernel
theorem d_R_current_25 : decode prog_1_method_9_code 25 = .ok (.getfield 10, 3) := by decide +kernel
theorem d_R_current_28 : decode prog_1_method_9_code 28 = .ok (.iload_n 2, 1) := by decide +kernel
theorem d_R_current_29 : decode prog_1_method_9_code 29 = .ok (.invokevirtual 57, 3) := by decide +kernel
theorem d_R_current_32 : decode prog_1_method_9_code 32 = .ok (.ifCond .eq 20, 3) := by decide +kernel
theorem d_R_current_35 : decode prog_1_method_9_code 35 = .ok (.aload_n 0, 1) := by decide +kernel
theorem d_R_current_36 : decode prog_1_method_9_code 36 = .ok (.getfield 19, 3) := by decide +kernel
theorem d_R_current_39 : decode prog_1_method_9_code 39 = .ok (.aload_n 0, 1) := by decide +kernel
theorem d_R_current_40 : decode prog_1_method_9_code 40 = .ok (.getfield 29, 3) := by decide +kernel
theorem d_R_current_43 : decode prog_1_method_9_code 43 = .ok (.getfield 167, 3) := by decide +kernel
theorem d_R_current_46 : decode prog_1_method_9_code 46 = .ok (.iload_n 2, 1) := by decide +kernel
theorem d_R_current_47 : decode prog_1_method_9_code 47 = .ok (.iaload, 1) := by decide +kernel
theorem d_R_current_48 : decode prog_1_method_9_code 48 = .ok (.invokevirtual 164, 3) := by decide +kernel
theorem d_R_current_51 : decode prog_1_method_9_code 51 = .ok (.ireturn, 1) := by decide +kernel
theorem d_R_current_52 : decode prog_1_method_9_code 52 = .ok (.iload_n 1, 1) := by decide +kernel
theorem d_R_current_53 : decode prog_1_method_9_code 53 = .ok (.iconst 2, 1) := by decide +kernel
theorem d_R_current_54 : decode prog_1_method_9_code 54 = .ok (.if_icmp .ne 31, 3) := by decide +kernel
theorem d_R_current_57 : decode prog_1_method_9_code 57 = .ok (.aload_n 0, 1) := by decide +kernel
theorem d_R_current_58 : decode prog_1_method_9_code 58 = .ok (.getfield 10, 3) := by decide +kernel
theorem d_R_current_61 : decode prog_1_method_9_code 61 = .ok (.iload_n 2, 1) := by decide +kernel
theorem d_R_current_62 : decode prog_1_method_9_code 62 = .ok (.invokevirtual 170, 3) := by decide +kernel
theorem d_R_current_65 : decode prog_1_method_9_code 65 = .ok (.ifCond .eq 20, 3) := by decide +kernel
theorem d_R_current_68 : decode prog_1_method_9_code 68 = .ok (.aload_n 0, 1) := by decide +kernel
theorem d_R_current_69 : decode prog_1_method_9_code 69 = .ok (.getfield 19, 3) := by decide +kernel
theorem d_R_current_72 : decode prog_1_method_9_code 72 = .ok (.aload_n 0, 1) := by decide +kernel
theorem d_R_current_73 : decode prog_1_method_9_code 73 = .ok (.getfield 29, 3) := by decide +kernel
theorem d_R_current_76 : decode prog_1_method_9_code 76 = .ok (.getfield 154, 3) := by decide +kernel
theorem d_R_current_79 : decode prog_1_method_9_code 79 = .ok (.iload_n 2, 1) := by decide +kernel
theorem d_R_current_80 : decode prog_1_method_9_code 80 = .ok (.iaload, 1) := by decide +kernel
theorem d_R_current_81 : decode prog_1_method_9_code 81 = .ok (.invokevirtual 164, 3) := by decide +kernel
theorem d_R_current_84 : decode prog_1_method_9_code 84 = .ok (.ireturn, 1) := by decide +kernel
theorem d_R_current_85 : decode prog_1_method_9_code 85 = .ok (.new 37, 3) := by decide +kernel
theorem d_R_current_88 : decode prog_1_method_9_code 88 = .ok (.dup, 1) := by decide +kernel
theorem d_R_current_89 : decode prog_1_method_9_code 89 = .ok (.ldc 173, 2) := by decide +kernel
theorem d_R_current_91 : decode prog_1_method_9_code 91 = .ok (.invokespecial 41, 3) := by decide +kernel
theorem d_R_current_94 : decode prog_1_method_9_code 94 = .ok (.athrow, 1) := by decide +kernel
theorem d_R_get_0 : decode prog_1_method_10_code 0 = .ok (.aload_n 0, 1) := by decide +kernel
theorem d_R_get_1 : decode prog_1_method_10_code 1 = .ok (.invokevirtual 175, 3) := by decide +kernel
theorem d_R_get_4 : decode prog_1_method_10_code 4 = .ok (.istore_n 2, 1) := by decide +kernel
theorem d_R_get_5 : decode prog_1_method_10_code 5 = .ok (.aload_n 0, 1) := by decide +kernel
theorem d_R_get_6 : decode prog_1_method_10_code 6 = .ok (.iload_n 2, 1) := by decide +kernel
theorem d_R_get_7 : decode prog_1_method_10_code 7 = .ok (.iload_n 1, 1) := by decide +kernel
theorem d_R_get_8 : decode prog_1_method_10_code 8 = .ok (.invokevirtual 178, 3) := by decide +kernel
theorem d_R_get_11 : decode prog_1_method_10_code 11 = .ok (.aload_n 0, 1) := by decide +kernel
theorem d_R_get_12 : decode prog_1_method_10_code 12 = .ok (.getfield 19, 3) := by decide +kernel
theorem d_R_get_15 : decode prog_1_method_10_code 15 = .ok (.getfield 181, 3) := by decide +kernel
theorem d_R_get_18 : decode prog_1_method_10_code 18 = .ok (.iload_n 1, 1) := by decide +kernel
theorem d_R_get_19 : decode prog_1_method_10_code 19 = .ok (.aaload, 1) := by decide +kernel
theorem d_R_get_20 : decode prog_1_method_10_code 20 = .ok (.iload_n 2, 1) := by decide +kernel
theorem d_R_get_21 : decode prog_1_method_10_code 21 = .ok (.iaload, 1) := by decide +kernel
theorem d_R_get_22 : decode prog_1_method_10_code 22 = .ok (.ireturn, 1) := by decide +kernel
theorem d_R_requireRunRecord_0 : decode prog_1_method_24_code 0 = .ok (.aload_n 0, 1) := by decide +kernel
theorem d_R_requireRunRecord_1 : decode prog_1_method_24_code 1 = .ok (.getfield 29, 3) := by decide +kernel
theorem d_R_requireRunRecord_4 : decode prog_1_method_24_code 4 = .ok (.getfield 161, 3) := by decide +kernel
theorem d_R_requireRunRecord_7 : decode prog_1_method_24_code 7 = .ok (.iconst (-1), 1) := by decide +kernel
theorem d_R_requireRunRecord_8 : decode prog_1_method_24_code 8 = .ok (.if_icmp .ne 14, 3) := by decide +kernel
theorem d_R_requireRunRecord_11 : decode prog_1_method_24_code 11 = .ok (.new 261, 3) := by decide +kernel
theorem d_R_requireRunRecord_14 : decode prog_1_method_24_code 14 = .ok (.dup, 1) := by decide +kernel
theorem d_R_requireRunRecord_15 : decode prog_1_method_24_code 15 = .ok (.ldc_w 266, 3) := by decide +kernel
theorem d_R_requireRunRecord_18 : decode prog_1_method_24_code 18 = .ok (.invokespecial 265, 3) := by decide +kernel
theorem d_R_requireRunRecord_21 : decode prog_1_method_24_code 21 = .ok (.athrow, 1) := by decide +kernel
theorem d_R_requireRunRecord_22 : decode prog_1_method_24_code 22 = .ok (.aload_n 0, 1) := by decide +kernel
theorem d_R_requireRunRecord_23 : decode prog_1_method_24_code 23 = .ok (.getfield 29, 3) := by decide +kernel
theorem d_R_requireRunRecord_26 : decode prog_1_method_24_code 26 = .ok (.getfield 161, 3) := by decide +kernel
theorem d_R_requireRunRecord_29 : decode prog_1_method_24_code 29 = .ok (.ireturn, 1) := by decide +kernel
theorem d_R_requireFieldOf_0 : decode prog_1_method_22_code 0 = .ok (.aload_n 0, 1) := by decide +kernel
theorem d_R_requireFieldOf_1 : decode prog_1_method_22_code 1 = .ok (.getfield 10, 3) := by decide +kernel
theorem d_R_requireFieldOf_4 : decode prog_1_method_22_code 4 = .ok (.aload_n 0, 1) := by decide +kernel
theorem d_R_requireFieldOf_5 : decode prog_1_method_22_code 5 = .ok (.getfield 19, 3) := by decide +kernel
theorem d_R_requireFieldOf_8 : decode prog_1_method_22_code 8 = .ok (.getfield 190, 3) := by decide +kernel
theorem d_R_requireFieldOf_11 : decode prog_1_method_22_code 11 = .ok (.iload_n 1, 1) := by decide +kernel
theorem d_R_requireFieldOf_12 : decode prog_1_method_22_code 12 = .ok (.iaload, 1) := by decide +kernel
theorem d_R_requireFieldOf_13 : decode prog_1_method_22_code 13 = .ok (.iload_n 2, 1) := by decide +kernel
theorem d_R_requireFieldOf_14 : decode prog_1_method_22_code 14 = .ok (.invokevirtual 121, 3) := by decide +kernel
theorem d_R_requireFieldOf_17 : decode prog_1_method_22_code 17 = .ok (.ifCond .ne 13, 3) := by decide +kernel
theorem d_R_requireFieldOf_20 : decode prog_1_method_22_code 20 = .ok (.new 37, 3) := by decide +kernel
theorem d_R_requireFieldOf_23 : decode prog_1_method_22_code 23 = .ok (.dup, 1) := by decide +kernel
theorem d_R_requireFieldOf_24 : decode prog_1_method_22_code 24 = .ok (.ldc 145, 2) := by decide +kernel
theorem d_R_requireFieldOf_26 : decode prog_1_method_22_code 26 = .ok (.invokespecial 41, 3) := by decide +kernel
theorem d_R_requireFieldOf_29 : decode prog_1_method_22_code 29 = .ok (.athrow, 1) := by decide +kernel
theorem d_R_requireFieldOf_30 : decode prog_1_method_22_code 30 = .ok (.return_, 1) := by decide +kernel
theorem d_R_modify_0 : decode prog_1_method_11_code 0 = .ok (.aload_n 0, 1) := by decide +kernel
theorem d_R_modify_1 : decode prog_1_method_11_code 1 = .ok (.invokevirtual 175, 3) := by decide +kernel
theorem d_R_modify_4 : decode prog_1_method_11_code 4 = .ok (.istore_n 3, 1) := by decide +kernel
theorem d_R_modify_5 : decode prog_1_method_11_code 5 = .ok (.aload_n 0, 1) := by decide +kernel
theorem d_R_modify_6 : decode prog_1_method_11_code 6 = .ok (.iload_n 3, 1) := by decide +kernel
theorem d_R_modify_7 : decode prog_1_method_11_code 7 = .ok (.iload_n 1, 1) := by decide +kernel
theorem d_R_modify_8 : decode prog_1_method_11_code 8 = .ok (.invokevirtual 178, 3) := by decide +kernel
theorem d_R_modify_11 : decode prog_1_method_11_code 11 = .ok (.aload_n 0, 1) := by decide +kernel
theorem d_R_modify_12 : decode prog_1_method_11_code 12 = .ok (.getfield 19, 3) := by decide +kernel
theorem d_R_modify_15 : decode prog_1_method_11_code 15 = .ok (.getfield 181, 3) := by decide +kernel
theorem d_R_modify_18 : decode prog_1_method_11_code 18 = .ok (.iload_n 1, 1) := by decide +kernel
theorem d_R_modify_19 : decode prog_1_method_11_code 19 = .ok (.aaload, 1) := by decide +kernel
theorem d_R_modify_20 : decode prog_1_method_11_code 20 = .ok (.iload_n 3, 1) := by decide +kernel
theorem d_R_modify_21 : decode prog_1_method_11_code 21 = .ok (.iaload, 1) := by decide +kernel
theorem d_R_modify_22 : decode prog_1_method_11_code 22 = .ok (.iload_n 2, 1) := by decide +kernel
theorem d_R_modify_23 : decode prog_1_method_11_code 23 = .ok (.if_icmp .eq 28, 3) := by decide +kernel
theorem d_R_modify_26 : decode prog_1_method_11_code 26 = .ok (.aload_n 0, 1) := by decide +kernel
theorem d_R_modify_27 : decode prog_1_method_11_code 27 = .ok (.iload_n 3, 1) := by decide +kernel
theorem d_R_modify_28 : decode prog_1_method_11_code 28 = .ok (.iload_n 1, 1) := by decide +kernel
theorem d_R_modify_29 : decode prog_1_method_11_code 29 = .ok (.iload_n 2, 1) := by decide +kernel
theorem d_R_modify_30 : decode prog_1_method_11_code 30 = .ok (.invokevirtual 184, 3) := by decide +kernel
theorem d_R_modify_33 : decode prog_1_method_11_code 33 = .ok (.aload_n 0, 1) := by decide +kernel
theorem d_R_modify_34 : decode prog_1_method_11_code 34 = .ok (.getfield 19, 3) := by decide +kernel
theorem d_R_modify_37 : decode prog_1_method_11_code 37 = .ok (.getfield 181, 3) := by decide +kernel
theorem d_R_modify_40 : decode prog_1_method_11_code 40 = .ok (.iload_n 1, 1) := by decide +kernel
theorem d_R_modify_41 : decode prog_1_method_11_code 41 = .ok (.aaload, 1) := by decide +kernel
theorem d_R_modify_42 : decode prog_1_method_11_code 42 = .ok (.iload_n 3, 1) := by decide +kernel
theorem d_R_modify_43 : decode prog_1_method_11_code 43 = .ok (.iload_n 2, 1) := by decide +kernel
theorem d_R_modify_44 : decode prog_1_method_11_code 44 = .ok (.iastore, 1) := by decide +kernel
theorem d_R_modify_45 : decode prog_1_method_11_code 45 = .ok (.aload_n 0, 1) := by decide +kernel
theorem d_R_modify_46 : decode prog_1_method_11_code 46 = .ok (.iload_n 3, 1) := by decide +kernel
theorem d_R_modify_47 : decode prog_1_method_11_code 47 = .ok (.iload_n 1, 1) := by decide +kernel
theorem d_R_modify_48 : decode prog_1_method_11_code 48 = .ok (.invokevirtual 187, 3) := by decide +kernel
theorem d_R_modify_51 : decode prog_1_method_11_code 51 = .ok (.aload_n 0, 1) := by decide +kernel
theorem d_R_modify_52 : decode prog_1_method_11_code 52 = .ok (.iload_n 3, 1) := by decide +kernel
theorem d_R_modify_53 : decode prog_1_method_11_code 53 = .ok (.iconst 0, 1) := by decide +kernel
theorem d_R_modify_54 : decode prog_1_method_11_code 54 = .ok (.invokevirtual 111, 3) := by decide +kernel
theorem d_R_modify_57 : decode prog_1_method_11_code 57 = .ok (.return_, 1) := by decide +kernel
theorem d_R_requireNoRefusalToSort_0 : decode prog_1_method_29_code 0 = .ok (.iconst 0, 1) := by decide +kernel
theorem d_R_requireNoRefusalToSort_1 : decode prog_1_method_29_code 1 = .ok (.istore 4, 2) := by decide +kernel
theorem d_R_requireNoRefusalToSort_3 : decode prog_1_method_29_code 3 = .ok (.iload 4, 2) := by decide +kernel
theorem d_R_requireNoRefusalToSort_5 : decode prog_1_method_29_code 5 = .ok (.aload_n 0, 1) := by decide +kernel
theorem d_R_requireNoRefusalToSort_6 : decode prog_1_method_29_code 6 = .ok (.getfield 10, 3) := by decide +kernel
theorem d_R_requireNoRefusalToSort_9 : decode prog_1_method_29_code 9 = .ok (.getfield 69, 3) := by decide +kernel
theorem d_R_requireNoRefusalToSort_12 : decode prog_1_method_29_code 12 = .ok (.if_icmp .ge 55, 3) := by decide +kernel
theorem d_R_requireNoRefusalToSort_15 : decode prog_1_method_29_code 15 = .ok (.aload_n 0, 1) := by decide +kernel
theorem d_R_requireNoRefusalToSort_16 : decode prog_1_method_29_code 16 = .ok (.getfield 10, 3) := by decide +kernel
theorem d_R_requireNoRefusalToSort_19 : decode prog_1_method_29_code 19 = .ok (.iload 4, 2) := by decide +kernel
theorem d_R_requireNoRefusalToSort_21 : decode prog_1_method_29_code 21 = .ok (.iload_n 2, 1) := by decide +kernel
theorem d_R_requireNoRefusalToSort_22 : decode prog_1_method_29_code 22 = .ok (.invokevirtual 279, 3) := by decide +kernel
theorem d_R_requireNoRefusalToSort_25 : decode prog_1_method_29_code 25 = .ok (.ifCond .eq 36, 3) := by decide +kernel
theorem d_R_requireNoRefusalToSort_28 : decode prog_1_method_29_code 28 = .ok (.aload_n 0, 1) := by decide +kernel
theorem d_R_requireNoRefusalToSort_29 : decode prog_1_method_29_code 29 = .ok (.getfield 19, 3) := by decide +kernel
theorem d_R_requireNoRefusalToSort_32 : decode prog_1_method_29_code 32 = .ok (.iload 4, 2) := by decide +kernel
theorem d_R_requireNoRefusalToSort_34 : decode prog_1_method_29_code 34 = .ok (.iload_n 1, 1) := by decide +kernel
theorem d_R_requireNoRefusalToSort_35 : decode prog_1_method_29_code 35 = .ok (.invokevirtual 193, 3) := by decide +kernel
theorem d_R_requireNoRefusalToSort_38 : decode prog_1_method_29_code 38 = .ok (.ifCond .eq 23, 3) := by decide +kernel
theorem d_R_requireNoRefusalToSort_41 : decode prog_1_method_29_code 41 = .ok (.aload_n 0, 1) := by decide +kernel
theorem d_R_requireNoRefusalToSort_42 : decode prog_1_method_29_code 42 = .ok (.iload 4, 2) := by decide +kernel
theorem d_R_requireNoRefusalToSort_44 : decode prog_1_method_29_code 44 = .ok (.iload_n 1, 1) := by decide +kernel
theorem d_R_requireNoRefusalToSort_45 : decode prog_1_method_29_code 45 = .ok (.aload_n 0, 1) := by decide +kernel
theorem d_R_requireNoRefusalToSort_46 : decode prog_1_method_29_code 46 = .ok (.getfield 19, 3) := by decide +kernel
theorem d_R_requireNoRefusalToSort_49 : decode prog_1_method_29_code 49 = .ok (.getfield 243, 3) := by decide +kernel
theorem d_R_requireNoRefusalToSort_52 : decode prog_1_method_29_code 52 = .ok (.iload 4, 2) := by decide +kernel
theorem d_R_requireNoRefusalToSort_54 : decode prog_1_method_29_code 54 = .ok (.aaload, 1) := by decide +kernel
theorem d_R_requireNoRefusalToSort_55 : decode prog_1_method_29_code 55 = .ok (.iload_n 1, 1) := by decide +kernel
theorem d_R_requireNoRefusalToSort_56 : decode prog_1_method_29_code 56 = .ok (.iaload, 1) := by decide +kernel
theorem d_R_requireNoRefusalToSort_57 : decode prog_1_method_29_code 57 = .ok (.iload_n 3, 1) := by decide +kernel
theorem d_R_requireNoRefusalToSort_58 : decode prog_1_method_29_code 58 = .ok (.invokevirtual 276, 3) := by decide +kernel
theorem d_R_requireNoRefusalToSort_61 : decode prog_1_method_29_code 61 = .ok (.iinc 4 1, 3) := by decide +kernel
theorem d_R_requireNoRefusalToSort_64 : decode prog_1_method_29_code 64 = .ok (.goto (-61), 3) := by decide +kernel
theorem d_R_requireNoRefusalToSort_67 : decode prog_1_method_29_code 67 = .ok (.return_, 1) := by decide +kernel
theorem d_R_sortAgain_0 : decode prog_1_method_38_code 0 = .ok (.iconst 0, 1) := by decide +kernel
theorem d_R_sortAgain_1 : decode prog_1_method_38_code 1 = .ok (.istore_n 3, 1) := by decide +kernel
theorem d_R_sortAgain_2 : decode prog_1_method_38_code 2 = .ok (.iload_n 3, 1) := by decide +kernel
theorem d_R_sortAgain_3 : decode prog_1_method_38_code 3 = .ok (.aload_n 0, 1) := by decide +kernel
theorem d_R_sortAgain_4 : decode prog_1_method_38_code 4 = .ok (.getfield 10, 3) := by decide +kernel
theorem d_R_sortAgain_7 : decode prog_1_method_38_code 7 = .ok (.getfield 69, 3) := by decide +kernel
theorem d_R_sortAgain_10 : decode prog_1_method_38_code 10 = .ok (.if_icmp .ge 63, 3) := by decide +kernel
theorem d_R_sortAgain_13 : decode prog_1_method_38_code 13 = .ok (.aload_n 0, 1) := by decide +kernel
theorem d_R_sortAgain_14 : decode prog_1_method_38_code 14 = .ok (.getfield 10, 3) := by decide +kernel
theorem d_R_sortAgain_17 : decode prog_1_method_38_code 17 = .ok (.iload_n 3, 1) := by decide +kernel
theorem d_R_sortAgain_18 : decode prog_1_method_38_code 18 = .ok (.iload_n 2, 1) := by decide +kernel
theorem d_R_sortAgain_19 : decode prog_1_method_38_code 19 = .ok (.invokevirtual 279, 3) := by decide +kernel
theorem d_R_sortAgain_22 : decode prog_1_method_38_code 22 = .ok (.ifCond .eq 45, 3) := by decide +kernel
theorem d_R_sortAgain_25 : decode prog_1_method_38_code 25 = .ok (.aload_n 0, 1) := by decide +kernel
theorem d_R_sortAgain_26 : decode prog_1_method_38_code 26 = .ok (.getfield 19, 3) := by decide +kernel
theorem d_R_sortAgain_29 : decode prog_1_method_38_code 29 = .ok (.iload_n 3, 1) := by decide +kernel
theorem d_R_sortAgain_30 : decode prog_1_method_38_code 30 = .ok (.iload_n 1, 1) := by decide +kernel
theorem d_R_sortAgain_31 : decode prog_1_method_38_code 31 = .ok (.invokevirtual 193, 3) := by decide +kernel
theorem d_R_sortAgain_34 : decode prog_1_method_38_code 34 = .ok (.ifCond .eq 33, 3) := by decide +kernel
theorem d_R_sortAgain_37 : decode prog_1_method_38_code 37 = .ok (.aload_n 0, 1) := by decide +kernel
theorem d_R_sortAgain_38 : decode prog_1_method_38_code 38 = .ok (.getfield 19, 3) := by decide +kernel
theorem d_R_sortAgain_41 : decode prog_1_method_38_code 41 = .ok (.getfield 243, 3) := by decide +kernel
theorem d_R_sortAgain_44 : decode prog_1_method_38_code 44 = .ok (.iload_n 3, 1) := by decide +kernel
theorem d_R_sortAgain_45 : decode prog_1_method_38_code 45 = .ok (.aaload, 1) := by decide +kernel
theorem d_R_sortAgain_46 : decode prog_1_method_38_code 46 = .ok (.iload_n 1, 1) := by decide +kernel
theorem d_R_sortAgain_47 : decode prog_1_method_38_code 47 = .ok (.iaload, 1) := by decide +kernel
theorem d_R_sortAgain_48 : decode prog_1_method_38_code 48 = .ok (.istore 4, 2) := by decide +kernel
theorem d_R_sortAgain_50 : decode prog_1_method_38_code 50 = .ok (.aload_n 0, 1) := by decide +kernel
theorem d_R_sortAgain_51 : decode prog_1_method_38_code 51 = .ok (.getfield 19, 3) := by decide +kernel
theorem d_R_sortAgain_54 : decode prog_1_method_38_code 54 = .ok (.iload_n 3, 1) := by decide +kernel
theorem d_R_sortAgain_55 : decode prog_1_method_38_code 55 = .ok (.iload_n 1, 1) := by decide +kernel
theorem d_R_sortAgain_56 : decode prog_1_method_38_code 56 = .ok (.invokevirtual 209, 3) := by decide +kernel
theorem d_R_sortAgain_59 : decode prog_1_method_38_code 59 = .ok (.aload_n 0, 1) := by decide +kernel
theorem d_R_sortAgain_60 : decode prog_1_method_38_code 60 = .ok (.iload_n 3, 1) := by decide +kernel
theorem d_R_sortAgain_61 : decode prog_1_method_38_code 61 = .ok (.iload_n 1, 1) := by decide +kernel
theorem d_R_sortAgain_62 : decode prog_1_method_38_code 62 = .ok (.iload 4, 2) := by decide +kernel
theorem d_R_sortAgain_64 : decode prog_1_method_38_code 64 = .ok (.invokevirtual 107, 3) := by decide +kernel
theorem d_R_sortAgain_67 : decode prog_1_method_38_code 67 = .ok (.iinc 3 1, 3) := by decide +kernel
theorem d_R_sortAgain_70 : decode prog_1_method_38_code 70 = .ok (.goto (-68), 3) := by decide +kernel
theorem d_R_sortAgain_73 : decode prog_1_method_38_code 73 = .ok (.return_, 1) := by decide +kernel
theorem d_R_connect_0 : decode prog_1_method_12_code 0 = .ok (.aload_n 0, 1) := by decide +kernel
theorem d_R_connect_1 : decode prog_1_method_12_code 1 = .ok (.iload_n 1, 1) := by decide +kernel
theorem d_R_connect_2 : decode prog_1_method_12_code 2 = .ok (.invokevirtual 133, 3) := by decide +kernel
theorem d_R_connect_5 : decode prog_1_method_12_code 5 = .ok (.aload_n 0, 1) := by decide +kernel
theorem d_R_connect_6 : decode prog_1_method_12_code 6 = .ok (.invokevirtual 175, 3) := by decide +kernel
theorem d_R_connect_9 : decode prog_1_method_12_code 9 = .ok (.istore_n 2, 1) := by decide +kernel
theorem d_R_connect_10 : decode prog_1_method_12_code 10 = .ok (.aload_n 0, 1) := by decide +kernel
theorem d_R_connect_11 : decode prog_1_method_12_code 11 = .ok (.iload_n 1, 1) := by decide +kernel
theorem d_R_connect_12 : decode prog_1_method_12_code 12 = .ok (.invokevirtual 147, 3) := by decide +kernel
theorem d_R_connect_15 : decode prog_1_method_12_code 15 = .ok (.istore_n 3, 1) := by decide +kernel
theorem d_R_connect_16 : decode prog_1_method_12_code 16 = .ok (.aload_n 0, 1) := by decide +kernel
theorem d_R_connect_17 : decode prog_1_method_12_code 17 = .ok (.getfield 19, 3) := by decide +kernel
theorem d_R_connect_20 : decode prog_1_method_12_code 20 = .ok (.getfield 190, 3) := by decide +kernel
theorem d_R_connect_23 : decode prog_1_method_12_code 23 = .ok (.iload_n 2, 1) := by decide +kernel
theorem d_R_connect_24 : decode prog_1_method_12_code 24 = .ok (.iaload, 1) := by decide +kernel
theorem d_R_connect_25 : decode prog_1_method_12_code 25 = .ok (.aload_n 0, 1) := by decide +kernel
theorem d_R_connect_26 : decode prog_1_method_12_code 26 = .ok (.getfield 10, 3) := by decide +kernel
theorem d_R_connect_29 : decode prog_1_method_12_code 29 = .ok (.getfield 142, 3) := by decide +kernel
theorem d_R_connect_32 : decode prog_1_method_12_code 32 = .ok (.iload_n 1, 1) := by decide +kernel
theorem d_R_connect_33 : decode prog_1_method_12_code 33 = .ok (.iaload, 1) := by decide +kernel
theorem d_R_connect_34 : decode prog_1_method_12_code 34 = .ok (.if_icmp .ne 15, 3) := by decide +kernel
theorem d_R_connect_37 : decode prog_1_method_12_code 37 = .ok (.aload_n 0, 1) := by decide +kernel
theorem d_R_connect_38 : decode prog_1_method_12_code 38 = .ok (.getfield 19, 3) := by decide +kernel
theorem d_R_connect_41 : decode prog_1_method_12_code 41 = .ok (.iload_n 1, 1) := by decide +kernel
theorem d_R_connect_42 : decode prog_1_method_12_code 42 = .ok (.iload_n 2, 1) := by decide +kernel
theorem d_R_connect_43 : decode prog_1_method_12_code 43 = .ok (.invokevirtual 193, 3) := by decide +kernel
theorem d_R_connect_46 : decode prog_1_method_12_code 46 = .ok (.ifCond .eq 13, 3) := by decide +kernel
theorem d_R_connect_49 : decode prog_1_method_12_code 49 = .ok (.new 48, 3) := by decide +kernel
theorem d_R_connect_52 : decode prog_1_method_12_code 52 = .ok (.dup, 1) := by decide +kernel
theorem d_R_connect_53 : decode prog_1_method_12_code 53 = .ok (.ldc 196, 2) := by decide +kernel
theorem d_R_connect_55 : decode prog_1_method_12_code 55 = .ok (.invokespecial 52, 3) := by decide +kernel
theorem d_R_connect_58 : decode prog_1_method_12_code 58 = .ok (.athrow, 1) := by decide +kernel
theorem d_R_connect_59 : decode prog_1_method_12_code 59 = .ok (.aload_n 0, 1) := by decide +kernel
theorem d_R_connect_60 : decode prog_1_method_12_code 60 = .ok (.iload_n 1, 1) := by decide +kernel
theorem d_R_connect_61 : decode prog_1_method_12_code 61 = .ok (.iload_n 2, 1) := by decide +kernel
theorem d_R_connect_62 : decode prog_1_method_12_code 62 = .ok (.iload_n 3, 1) := by decide +kernel
theorem d_R_connect_63 : decode prog_1_method_12_code 63 = .ok (.invokevirtual 198, 3) := by decide +kernel
theorem d_R_connect_66 : decode prog_1_method_12_code 66 = .ok (.aload_n 0, 1) := by decide +kernel
theorem d_R_connect_67 : decode prog_1_method_12_code 67 = .ok (.iload_n 1, 1) := by decide +kernel
theorem d_R_connect_68 : decode prog_1_method_12_code 68 = .ok (.iload_n 2, 1) := by decide +kernel
theorem d_R_connect_69 : decode prog_1_method_12_code 69 = .ok (.iload_n 3, 1) := by decide +kernel
theorem d_R_connect_70 : decode prog_1_method_12_code 70 = .ok (.invokevirtual 107, 3) := by decide +kernel
theorem d_R_connect_73 : decode prog_1_method_12_code 73 = .ok (.aload_n 0, 1) := by decide +kernel
theorem d_R_connect_74 : decode prog_1_method_12_code 74 = .ok (.iload_n 2, 1) := by decide +kernel
theorem d_R_connect_75 : decode prog_1_method_12_code 75 = .ok (.iconst 0, 1) := by decide +kernel
theorem d_R_connect_76 : decode prog_1_method_12_code 76 = .ok (.invokevirtual 111, 3) := by decide +kernel
theorem d_R_connect_79 : decode prog_1_method_12_code 79 = .ok (.return_, 1) := by decide +kernel
theorem d_R_disconnect_0 : decode prog_1_method_13_code 0 = .ok (.aload_n 0, 1) := by decide +kernel
theorem d_R_disconnect_1 : decode prog_1_method_13_code 1 = .ok (.iload_n 1, 1) := by decide +kernel
theorem d_R_disconnect_2 : decode prog_1_method_13_code 2 = .ok (.invokevirtual 133, 3) := by decide +kernel
theorem d_R_disconnect_5 : decode prog_1_method_13_code 5 = .ok (.aload_n 0, 1) := by decide +kernel
theorem d_R_disconnect_6 : decode prog_1_method_13_code 6 = .ok (.invokevirtual 175, 3) := by decide +kernel
theorem d_R_disconnect_9 : decode prog_1_method_13_code 9 = .ok (.istore_n 2, 1) := by decide +kernel
theorem d_R_disconnect_10 : decode prog_1_method_13_code 10 = .ok (.aload_n 0, 1) := by decide +kernel
theorem d_R_disconnect_11 : decode prog_1_method_13_code 11 = .ok (.getfield 19, 3) := by decide +kernel
theorem d_R_disconnect_14 : decode prog_1_method_13_code 14 = .ok (.iload_n 1, 1) := by decide +kernel
theorem d_R_disconnect_15 : decode prog_1_method_13_code 15 = .ok (.iload_n 2, 1) := by decide +kernel
theorem d_R_disconnect_16 : decode prog_1_method_13_code 16 = .ok (.invokevirtual 193, 3) := by decide +kernel
theorem d_R_disconnect_19 : decode prog_1_method_13_code 19 = .ok (.ifCond .eq 15, 3) := by decide +kernel
theorem d_R_disconnect_22 : decode prog_1_method_13_code 22 = .ok (.aload_n 0, 1) := by decide +kernel
theorem d_R_disconnect_23 : decode prog_1_method_13_code 23 = .ok (.getfield 10, 3) := by decide +kernel
theorem d_R_disconnect_26 : decode prog_1_method_13_code 26 = .ok (.iload_n 1, 1) := by decide +kernel
theorem d_R_disconnect_27 : decode prog_1_method_13_code 27 = .ok (.invokevirtual 201, 3) := by decide +kernel
theorem d_R_disconnect_30 : decode prog_1_method_13_code 30 = .ok (.iconst 2, 1) := by decide +kernel
theorem d_R_disconnect_31 : decode prog_1_method_13_code 31 = .ok (.if_icmp .eq 13, 3) := by decide +kernel
theorem d_R_disconnect_34 : decode prog_1_method_13_code 34 = .ok (.new 48, 3) := by decide +kernel
theorem d_R_disconnect_37 : decode prog_1_method_13_code 37 = .ok (.dup, 1) := by decide +kernel
theorem d_R_disconnect_38 : decode prog_1_method_13_code 38 = .ok (.ldc 204, 2) := by decide +kernel
theorem d_R_disconnect_40 : decode prog_1_method_13_code 40 = .ok (.invokespecial 52, 3) := by decide +kernel
theorem d_R_disconnect_43 : decode prog_1_method_13_code 43 = .ok (.athrow, 1) := by decide +kernel
theorem d_R_disconnect_44 : decode prog_1_method_13_code 44 = .ok (.aload_n 0, 1) := by decide +kernel
theorem d_R_disconnect_45 : decode prog_1_method_13_code 45 = .ok (.iload_n 1, 1) := by decide +kernel
theorem d_R_disconnect_46 : decode prog_1_method_13_code 46 = .ok (.iconst 1, 1) := by decide +kernel
theorem d_R_disconnect_47 : decode prog_1_method_13_code 47 = .ok (.iload_n 2, 1) := by decide +kernel
theorem d_R_disconnect_48 : decode prog_1_method_13_code 48 = .ok (.ishl, 1) := by decide +kernel
theorem d_R_disconnect_49 : decode prog_1_method_13_code 49 = .ok (.invokevirtual 206, 3) := by decide +kernel
theorem d_R_disconnect_52 : decode prog_1_method_13_code 52 = .ok (.aload_n 0, 1) := by decide +kernel
theorem d_R_disconnect_53 : decode prog_1_method_13_code 53 = .ok (.getfield 19, 3) := by decide +kernel
theorem d_R_disconnect_56 : decode prog_1_method_13_code 56 = .ok (.iload_n 1, 1) := by decide +kernel
theorem d_R_disconnect_57 : decode prog_1_method_13_code 57 = .ok (.iload_n 2, 1) := by decide +kernel
theorem d_R_disconnect_58 : decode prog_1_method_13_code 58 = .ok (.invokevirtual 209, 3) := by decide +kernel
theorem d_R_disconnect_61 : decode prog_1_method_13_code 61 = .ok (.return_, 1) := by decide +kernel
theorem d_R_stepBack_0 : decode prog_1_method_43_code 0 = .ok (.aload_n 0, 1) := by decide +kernel
theorem d_R_stepBack_1 : decode prog_1_method_43_code 1 = .ok (.iload_n 1, 1) := by decide +kernel
theorem d_R_stepBack_2 : decode prog_1_method_43_code 2 = .ok (.invokevirtual 104, 3) := by decide +kernel
theorem d_R_stepBack_5 : decode prog_1_method_43_code 5 = .ok (.istore_n 3, 1) := by decide +kernel
theorem d_R_stepBack_6 : decode prog_1_method_43_code 6 = .ok (.iload_n 3, 1) := by decide +kernel
theorem d_R_stepBack_7 : decode prog_1_method_43_code 7 = .ok (.iconst (-1), 1) := by decide +kernel
theorem d_R_stepBack_8 : decode prog_1_method_43_code 8 = .ok (.if_icmp .ne 4, 3) := by decide +kernel
theorem d_R_stepBack_11 : decode prog_1_method_43_code 11 = .ok (.return_, 1) := by decide +kernel
theorem d_R_stepBack_12 : decode prog_1_method_43_code 12 = .ok (.iload_n 2, 1) := by decide +kernel
theorem d_R_stepBack_13 : decode prog_1_method_43_code 13 = .ok (.iload_n 3, 1) := by decide +kernel
theorem d_R_stepBack_14 : decode prog_1_method_43_code 14 = .ok (.invokestatic 296, 3) := by decide +kernel
theorem d_R_stepBack_17 : decode prog_1_method_43_code 17 = .ok (.ifCond .eq 14, 3) := by decide +kernel
theorem d_R_stepBack_20 : decode prog_1_method_43_code 20 = .ok (.aload_n 0, 1) := by decide +kernel
theorem d_R_stepBack_21 : decode prog_1_method_43_code 21 = .ok (.getfield 29, 3) := by decide +kernel
theorem d_R_stepBack_24 : decode prog_1_method_43_code 24 = .ok (.getfield 154, 3) := by decide +kernel
theorem d_R_stepBack_27 : decode prog_1_method_43_code 27 = .ok (.iload_n 1, 1) := by decide +kernel
theorem d_R_stepBack_28 : decode prog_1_method_43_code 28 = .ok (.iconst (-1), 1) := by decide +kernel
theorem d_R_stepBack_29 : decode prog_1_method_43_code 29 = .ok (.iastore, 1) := by decide +kernel
theorem d_R_stepBack_30 : decode prog_1_method_43_code 30 = .ok (.return_, 1) := by decide +kernel
theorem d_R_stepBack_31 : decode prog_1_method_43_code 31 = .ok (.aload_n 0, 1) := by decide +kernel
theorem d_R_stepBack_32 : decode prog_1_method_43_code 32 = .ok (.getfield 19, 3) := by decide +kernel
theorem d_R_stepBack_35 : decode prog_1_method_43_code 35 = .ok (.getfield 150, 3) := by decide +kernel
theorem d_R_stepBack_38 : decode prog_1_method_43_code 38 = .ok (.iload_n 1, 1) := by decide +kernel
theorem d_R_stepBack_39 : decode prog_1_method_43_code 39 = .ok (.aaload, 1) := by decide +kernel
theorem d_R_stepBack_40 : decode prog_1_method_43_code 40 = .ok (.aload_n 0, 1) := by decide +kernel
theorem d_R_stepBack_41 : decode prog_1_method_43_code 41 = .ok (.getfield 29, 3) := by decide +kernel
theorem d_R_stepBack_44 : decode prog_1_method_43_code 44 = .ok (.getfield 154, 3) := by decide +kernel
theorem d_R_stepBack_47 : decode prog_1_method_43_code 47 = .ok (.iload_n 1, 1) := by decide +kernel
theorem d_R_stepBack_48 : decode prog_1_method_43_code 48 = .ok (.iaload, 1) := by decide +kernel
theorem d_R_stepBack_49 : decode prog_1_method_43_code 49 = .ok (.iaload, 1) := by decide +kernel
theorem d_R_stepBack_50 : decode prog_1_method_43_code 50 = .ok (.istore 4, 2) := by decide +kernel
theorem d_R_stepBack_52 : decode prog_1_method_43_code 52 = .ok (.iload 4, 2) := by decide +kernel
theorem d_R_stepBack_54 : decode prog_1_method_43_code 54 = .ok (.ifCond .lt 27, 3) := by decide +kernel
theorem d_R_stepBack_57 : decode prog_1_method_43_code 57 = .ok (.iload_n 2, 1) := by decide +kernel
theorem d_R_stepBack_58 : decode prog_1_method_43_code 58 = .ok (.aload_n 0, 1) := by decide +kernel
theorem d_R_stepBack_59 : decode prog_1_method_43_code 59 = .ok (.getfield 19, 3) := by decide +kernel
theorem d_R_stepBack_62 : decode prog_1_method_43_code 62 = .ok (.iload_n 1, 1) := by decide +kernel
theorem d_R_stepBack_63 : decode prog_1_method_43_code 63 = .ok (.iload_n 3, 1) := by decide +kernel
theorem d_R_stepBack_64 : decode prog_1_method_43_code 64 = .ok (.iload 4, 2) := by decide +kernel
theorem d_R_stepBack_66 : decode prog_1_method_43_code 66 = .ok (.invokevirtual 299, 3) := by decide +kernel
theorem d_R_stepBack_69 : decode prog_1_method_43_code 69 = .ok (.invokestatic 296, 3) := by decide +kernel
theorem d_R_stepBack_72 : decode prog_1_method_43_code 72 = .ok (.ifCond .eq 9, 3) := by decide +kernel
theorem d_R_stepBack_75 : decode prog_1_method_43_code 75 = .ok (.iinc 4 (-1), 3) := by decide +kernel
theorem d_R_stepBack_78 : decode prog_1_method_43_code 78 = .ok (.goto (-26), 3) := by decide +kernel
theorem d_R_stepBack_81 : decode prog_1_method_43_code 81 = .ok (.aload_n 0, 1) := by decide +kernel
theorem d_R_stepBack_82 : decode prog_1_method_43_code 82 = .ok (.getfield 29, 3) := by decide +kernel
theorem d_R_stepBack_85 : decode prog_1_method_43_code 85 = .ok (.getfield 154, 3) := by decide +kernel
theorem d_R_stepBack_88 : decode prog_1_method_43_code 88 = .ok (.iload_n 1, 1) := by decide +kernel
theorem d_R_stepBack_89 : decode prog_1_method_43_code 89 = .ok (.iload 4, 2) := by decide +kernel
theorem d_R_stepBack_91 : decode prog_1_method_43_code 91 = .ok (.ifCond .lt 17, 3) := by decide +kernel
theorem d_R_stepBack_94 : decode prog_1_method_43_code 94 = .ok (.aload_n 0, 1) := by decide +kernel
theorem d_R_stepBack_95 : decode prog_1_method_43_code 95 = .ok (.getfield 19, 3) := by decide +kernel
theorem d_R_stepBack_98 : decode prog_1_method_43_code 98 = .ok (.iload_n 1, 1) := by decide +kernel
theorem d_R_stepBack_99 : decode prog_1_method_43_code 99 = .ok (.iload_n 3, 1) := by decide +kernel
theorem d_R_stepBack_100 : decode prog_1_method_43_code 100 = .ok (.iload 4, 2) := by decide +kernel
theorem d_R_stepBack_102 : decode prog_1_method_43_code 102 = .ok (.invokevirtual 299, 3) := by decide +kernel
theorem d_R_stepBack_105 : decode prog_1_method_43_code 105 = .ok (.goto 4, 3) := by decide +kernel
theorem d_R_stepBack_108 : decode prog_1_method_43_code 108 = .ok (.iload_n 3, 1) := by decide +kernel
theorem d_R_stepBack_109 : decode prog_1_method_43_code 109 = .ok (.iastore, 1) := by decide +kernel
theorem d_R_stepBack_110 : decode prog_1_method_43_code 110 = .ok (.return_, 1) := by decide +kernel
theorem d_R_reconnect_0 : decode prog_1_method_14_code 0 = .ok (.aload_n 0, 1) := by decide +kernel
theorem d_R_reconnect_1 : decode prog_1_method_14_code 1 = .ok (.iload_n 1, 1) := by decide +kernel
theorem d_R_reconnect_2 : decode prog_1_method_14_code 2 = .ok (.invokevirtual 133, 3) := by decide +kernel
theorem d_R_reconnect_5 : decode prog_1_method_14_code 5 = .ok (.aload_n 0, 1) := by decide +kernel
theorem d_R_reconnect_6 : decode prog_1_method_14_code 6 = .ok (.invokevirtual 175, 3) := by decide +kernel
theorem d_R_reconnect_9 : decode prog_1_method_14_code 9 = .ok (.istore_n 2, 1) := by decide +kernel
theorem d_R_reconnect_10 : decode prog_1_method_14_code 10 = .ok (.aload_n 0, 1) := by decide +kernel
theorem d_R_reconnect_11 : decode prog_1_method_14_code 11 = .ok (.iload_n 1, 1) := by decide +kernel
theorem d_R_reconnect_12 : decode prog_1_method_14_code 12 = .ok (.invokevirtual 147, 3) := by decide +kernel
theorem d_R_reconnect_15 : decode prog_1_method_14_code 15 = .ok (.istore_n 3, 1) := by decide +kernel
theorem d_R_reconnect_16 : decode prog_1_method_14_code 16 = .ok (.aload_n 0, 1) := by decide +kernel
theorem d_R_reconnect_17 : decode prog_1_method_14_code 17 = .ok (.getfield 19, 3) := by decide +kernel
theorem d_R_reconnect_20 : decode prog_1_method_14_code 20 = .ok (.iload_n 1, 1) := by decide +kernel
theorem d_R_reconnect_21 : decode prog_1_method_14_code 21 = .ok (.iload_n 2, 1) := by decide +kernel
theorem d_R_reconnect_22 : decode prog_1_method_14_code 22 = .ok (.invokevirtual 193, 3) := by decide +kernel
theorem d_R_reconnect_25 : decode prog_1_method_14_code 25 = .ok (.ifCond .eq 14, 3) := by decide +kernel
theorem d_R_reconnect_28 : decode prog_1_method_14_code 28 = .ok (.aload_n 0, 1) := by decide +kernel
theorem d_R_reconnect_29 : decode prog_1_method_14_code 29 = .ok (.getfield 10, 3) := by decide +kernel
theorem d_R_reconnect_32 : decode prog_1_method_14_code 32 = .ok (.iload_n 1, 1) := by decide +kernel
theorem d_R_reconnect_33 : decode prog_1_method_14_code 33 = .ok (.invokevirtual 201, 3) := by decide +kernel
theorem d_R_reconnect_36 : decode prog_1_method_14_code 36 = .ok (.ifCond .ne 13, 3) := by decide +kernel
theorem d_R_reconnect_39 : decode prog_1_method_14_code 39 = .ok (.new 48, 3) := by decide +kernel
theorem d_R_reconnect_42 : decode prog_1_method_14_code 42 = .ok (.dup, 1) := by decide +kernel
theorem d_R_reconnect_43 : decode prog_1_method_14_code 43 = .ok (.ldc 212, 2) := by decide +kernel
theorem d_R_reconnect_45 : decode prog_1_method_14_code 45 = .ok (.invokespecial 52, 3) := by decide +kernel
theorem d_R_reconnect_48 : decode prog_1_method_14_code 48 = .ok (.athrow, 1) := by decide +kernel
theorem d_R_reconnect_49 : decode prog_1_method_14_code 49 = .ok (.aload_n 0, 1) := by decide +kernel
theorem d_R_reconnect_50 : decode prog_1_method_14_code 50 = .ok (.iload_n 1, 1) := by decide +kernel
theorem d_R_reconnect_51 : decode prog_1_method_14_code 51 = .ok (.iload_n 2, 1) := by decide +kernel
theorem d_R_reconnect_52 : decode prog_1_method_14_code 52 = .ok (.iload_n 3, 1) := by decide +kernel
theorem d_R_reconnect_53 : decode prog_1_method_14_code 53 = .ok (.invokevirtual 198, 3) := by decide +kernel
theorem d_R_reconnect_56 : decode prog_1_method_14_code 56 = .ok (.aload_n 0, 1) := by decide +kernel
theorem d_R_reconnect_57 : decode prog_1_method_14_code 57 = .ok (.getfield 19, 3) := by decide +kernel
theorem d_R_reconnect_60 : decode prog_1_method_14_code 60 = .ok (.iload_n 1, 1) := by decide +kernel
theorem d_R_reconnect_61 : decode prog_1_method_14_code 61 = .ok (.iload_n 2, 1) := by decide +kernel
theorem d_R_reconnect_62 : decode prog_1_method_14_code 62 = .ok (.invokevirtual 209, 3) := by decide +kernel
theorem d_R_reconnect_65 : decode prog_1_method_14_code 65 = .ok (.aload_n 0, 1) := by decide +kernel
theorem d_R_reconnect_66 : decode prog_1_method_14_code 66 = .ok (.iload_n 1, 1) := by decide +kernel
theorem d_R_reconnect_67 : decode prog_1_method_14_code 67 = .ok (.iload_n 2, 1) := by decide +kernel
theorem d_R_reconnect_68 : decode prog_1_method_14_code 68 = .ok (.iload_n 3, 1) := by decide +kernel
theorem d_R_reconnect_69 : decode prog_1_method_14_code 69 = .ok (.invokevirtual 107, 3) := by decide +kernel
theorem d_R_reconnect_72 : decode prog_1_method_14_code 72 = .ok (.aload_n 0, 1) := by decide +kernel
theorem d_R_reconnect_73 : decode prog_1_method_14_code 73 = .ok (.iload_n 2, 1) := by decide +kernel
theorem d_R_reconnect_74 : decode prog_1_method_14_code 74 = .ok (.iconst 0, 1) := by decide +kernel
theorem d_R_reconnect_75 : decode prog_1_method_14_code 75 = .ok (.invokevirtual 111, 3) := by decide +kernel
theorem d_R_reconnect_78 : decode prog_1_method_14_code 78 = .ok (.return_, 1) := by decide +kernel
theorem d_R_erase_0 : decode prog_1_method_15_code 0 = .ok (.iload_n 1, 1) := by decide +kernel
theorem d_R_erase_1 : decode prog_1_method_15_code 1 = .ok (.ifCond .lt 8, 3) := by decide +kernel
theorem d_R_erase_4 : decode prog_1_method_15_code 4 = .ok (.iload_n 1, 1) := by decide +kernel
theorem d_R_erase_5 : decode prog_1_method_15_code 5 = .ok (.iconst 3, 1) := by decide +kernel
theorem d_R_erase_6 : decode prog_1_method_15_code 6 = .ok (.if_icmp .le 13, 3) := by decide +kernel
theorem d_R_erase_9 : decode prog_1_method_15_code 9 = .ok (.new 37, 3) := by decide +kernel
theorem d_R_erase_12 : decode prog_1_method_15_code 12 = .ok (.dup, 1) := by decide +kernel
theorem d_R_erase_13 : decode prog_1_method_15_code 13 = .ok (.ldc 214, 2) := by decide +kernel
theorem d_R_erase_15 : decode prog_1_method_15_code 15 = .ok (.invokespecial 41, 3) := by decide +kernel
theorem d_R_erase_18 : decode prog_1_method_15_code 18 = .ok (.athrow, 1) := by decide +kernel
theorem d_R_erase_19 : decode prog_1_method_15_code 19 = .ok (.aload_n 0, 1) := by decide +kernel
theorem d_R_erase_20 : decode prog_1_method_15_code 20 = .ok (.invokevirtual 175, 3) := by decide +kernel
theorem d_R_erase_23 : decode prog_1_method_15_code 23 = .ok (.istore_n 2, 1) := by decide +kernel
theorem d_R_erase_24 : decode prog_1_method_15_code 24 = .ok (.aload_n 0, 1) := by decide +kernel
theorem d_R_erase_25 : decode prog_1_method_15_code 25 = .ok (.iload_n 2, 1) := by decide +kernel
theorem d_R_erase_26 : decode prog_1_method_15_code 26 = .ok (.iload_n 1, 1) := by decide +kernel
theorem d_R_erase_27 : decode prog_1_method_15_code 27 = .ok (.invokevirtual 216, 3) := by decide +kernel
theorem d_R_erase_30 : decode prog_1_method_15_code 30 = .ok (.istore_n 3, 1) := by decide +kernel
theorem d_R_erase_31 : decode prog_1_method_15_code 31 = .ok (.iload_n 1, 1) := by decide +kernel
theorem d_R_erase_32 : decode prog_1_method_15_code 32 = .ok (.ifCond .ne 21, 3) := by decide +kernel
theorem d_R_erase_35 : decode prog_1_method_15_code 35 = .ok (.aload_n 0, 1) := by decide +kernel
theorem d_R_erase_36 : decode prog_1_method_15_code 36 = .ok (.iload_n 2, 1) := by decide +kernel
theorem d_R_erase_37 : decode prog_1_method_15_code 37 = .ok (.invokevirtual 219, 3) := by decide +kernel
theorem d_R_erase_40 : decode prog_1_method_15_code 40 = .ok (.ifCond .eq 13, 3) := by decide +kernel
theorem d_R_erase_43 : decode prog_1_method_15_code 43 = .ok (.new 48, 3) := by decide +kernel
theorem d_R_erase_46 : decode prog_1_method_15_code 46 = .ok (.dup, 1) := by decide +kernel
theorem d_R_erase_47 : decode prog_1_method_15_code 47 = .ok (.ldc 222, 2) := by decide +kernel
theorem d_R_erase_49 : decode prog_1_method_15_code 49 = .ok (.invokespecial 52, 3) := by decide +kernel
theorem d_R_erase_52 : decode prog_1_method_15_code 52 = .ok (.athrow, 1) := by decide +kernel
theorem d_R_erase_53 : decode prog_1_method_15_code 53 = .ok (.iload_n 1, 1) := by decide +kernel
theorem d_R_erase_54 : decode prog_1_method_15_code 54 = .ok (.iconst 1, 1) := by decide +kernel
theorem d_R_erase_55 : decode prog_1_method_15_code 55 = .ok (.if_icmp .ne 21, 3) := by decide +kernel
theorem d_R_erase_58 : decode prog_1_method_15_code 58 = .ok (.aload_n 0, 1) := by decide +kernel
theorem d_R_erase_59 : decode prog_1_method_15_code 59 = .ok (.iload_n 3, 1) := by decide +kernel
theorem d_R_erase_60 : decode prog_1_method_15_code 60 = .ok (.invokevirtual 224, 3) := by decide +kernel
theorem d_R_erase_63 : decode prog_1_method_15_code 63 = .ok (.ifCond .eq 13, 3) := by decide +kernel
theorem d_R_erase_66 : decode prog_1_method_15_code 66 = .ok (.new 48, 3) := by decide +kernel
theorem d_R_erase_69 : decode prog_1_method_15_code 69 = .ok (.dup, 1) := by decide +kernel
theorem d_R_erase_70 : decode prog_1_method_15_code 70 = .ok (.ldc 227, 2) := by decide +kernel
theorem d_R_erase_72 : decode prog_1_method_15_code 72 = .ok (.invokespecial 52, 3) := by decide +kernel
theorem d_R_erase_75 : decode prog_1_method_15_code 75 = .ok (.athrow, 1) := by decide +kernel
theorem d_R_erase_76 : decode prog_1_method_15_code 76 = .ok (.aload_n 0, 1) := by decide +kernel
theorem d_R_erase_77 : decode prog_1_method_15_code 77 = .ok (.iload_n 3, 1) := by decide +kernel
theorem d_R_erase_78 : decode prog_1_method_15_code 78 = .ok (.invokevirtual 229, 3) := by decide +kernel
theorem d_R_erase_81 : decode prog_1_method_15_code 81 = .ok (.aload_n 0, 1) := by decide +kernel
theorem d_R_erase_82 : decode prog_1_method_15_code 82 = .ok (.iload_n 3, 1) := by decide +kernel
theorem d_R_erase_83 : decode prog_1_method_15_code 83 = .ok (.invokevirtual 232, 3) := by decide +kernel
theorem d_R_erase_86 : decode prog_1_method_15_code 86 = .ok (.iload_n 3, 1) := by decide +kernel
theorem d_R_erase_87 : decode prog_1_method_15_code 87 = .ok (.invokestatic 235, 3) := by decide +kernel
theorem d_R_erase_90 : decode prog_1_method_15_code 90 = .ok (.ireturn, 1) := by decide +kernel
theorem d_R_allThatGo_0 : decode prog_1_method_39_code 0 = .ok (.iconst 1, 1) := by decide +kernel
theorem d_R_allThatGo_1 : decode prog_1_method_39_code 1 = .ok (.iload_n 1, 1) := by decide +kernel
theorem d_R_allThatGo_2 : decode prog_1_method_39_code 2 = .ok (.ishl, 1) := by decide +kernel
theorem d_R_allThatGo_3 : decode prog_1_method_39_code 3 = .ok (.istore_n 3, 1) := by decide +kernel
theorem d_R_allThatGo_4 : decode prog_1_method_39_code 4 = .ok (.iconst 0, 1) := by decide +kernel
theorem d_R_allThatGo_5 : decode prog_1_method_39_code 5 = .ok (.istore 4, 2) := by decide +kernel
theorem d_R_allThatGo_7 : decode prog_1_method_39_code 7 = .ok (.iload 4, 2) := by decide +kernel
theorem d_R_allThatGo_9 : decode prog_1_method_39_code 9 = .ok (.bipush 24, 2) := by decide +kernel
theorem d_R_allThatGo_11 : decode prog_1_method_39_code 11 = .ok (.if_icmp .ge 73, 3) := by decide +kernel
theorem d_R_allThatGo_14 : decode prog_1_method_39_code 14 = .ok (.iload_n 3, 1) := by decide +kernel
theorem d_R_allThatGo_15 : decode prog_1_method_39_code 15 = .ok (.istore 5, 2) := by decide +kernel
theorem d_R_allThatGo_17 : decode prog_1_method_39_code 17 = .ok (.iconst 0, 1) := by decide +kernel
theorem d_R_allThatGo_18 : decode prog_1_method_39_code 18 = .ok (.istore 6, 2) := by decide +kernel
theorem d_R_allThatGo_20 : decode prog_1_method_39_code 20 = .ok (.iload 6, 2) := by decide +kernel
theorem d_R_allThatGo_22 : decode prog_1_method_39_code 22 = .ok (.aload_n 0, 1) := by decide +kernel
theorem d_R_allThatGo_23 : decode prog_1_method_39_code 23 = .ok (.getfield 10, 3) := by decide +kernel
theorem d_R_allThatGo_26 : decode prog_1_method_39_code 26 = .ok (.getfield 69, 3) := by decide +kernel
theorem d_R_allThatGo_29 : decode prog_1_method_39_code 29 = .ok (.if_icmp .ge 37, 3) := by decide +kernel
theorem d_R_allThatGo_32 : decode prog_1_method_39_code 32 = .ok (.aload_n 0, 1) := by decide +kernel
theorem d_R_allThatGo_33 : decode prog_1_method_39_code 33 = .ok (.getfield 10, 3) := by decide +kernel
theorem d_R_allThatGo_36 : decode prog_1_method_39_code 36 = .ok (.iload 6, 2) := by decide +kernel
theorem d_R_allThatGo_38 : decode prog_1_method_39_code 38 = .ok (.iload_n 2, 1) := by decide +kernel
theorem d_R_allThatGo_39 : decode prog_1_method_39_code 39 = .ok (.invokevirtual 311, 3) := by decide +kernel
theorem d_R_allThatGo_42 : decode prog_1_method_39_code 42 = .ok (.ifCond .eq 18, 3) := by decide +kernel
theorem d_R_allThatGo_45 : decode prog_1_method_39_code 45 = .ok (.iload 5, 2) := by decide +kernel
theorem d_R_allThatGo_47 : decode prog_1_method_39_code 47 = .ok (.aload_n 0, 1) := by decide +kernel
theorem d_R_allThatGo_48 : decode prog_1_method_39_code 48 = .ok (.getfield 19, 3) := by decide +kernel
theorem d_R_allThatGo_51 : decode prog_1_method_39_code 51 = .ok (.iload 6, 2) := by decide +kernel
theorem d_R_allThatGo_53 : decode prog_1_method_39_code 53 = .ok (.iload_n 3, 1) := by decide +kernel
theorem d_R_allThatGo_54 : decode prog_1_method_39_code 54 = .ok (.invokevirtual 314, 3) := by decide +kernel
theorem d_R_allThatGo_57 : decode prog_1_method_39_code 57 = .ok (.ior, 1) := by decide +kernel
theorem d_R_allThatGo_58 : decode prog_1_method_39_code 58 = .ok (.istore 5, 2) := by decide +kernel
theorem d_R_allThatGo_60 : decode prog_1_method_39_code 60 = .ok (.iinc 6 1, 3) := by decide +kernel
theorem d_R_allThatGo_63 : decode prog_1_method_39_code 63 = .ok (.goto (-43), 3) := by decide +kernel
theorem d_R_allThatGo_66 : decode prog_1_method_39_code 66 = .ok (.iload 5, 2) := by decide +kernel
theorem d_R_allThatGo_68 : decode prog_1_method_39_code 68 = .ok (.iload_n 3, 1) := by decide +kernel
theorem d_R_allThatGo_69 : decode prog_1_method_39_code 69 = .ok (.if_icmp .ne 6, 3) := by decide +kernel
theorem d_R_allThatGo_72 : decode prog_1_method_39_code 72 = .ok (.goto 12, 3) := by decide +kernel
theorem d_R_allThatGo_75 : decode prog_1_method_39_code 75 = .ok (.iload 5, 2) := by decide +kernel
theorem d_R_allThatGo_77 : decode prog_1_method_39_code 77 = .ok (.istore_n 3, 1) := by decide +kernel
theorem d_R_allThatGo_78 : decode prog_1_method_39_code 78 = .ok (.iinc 4 1, 3) := by decide +kernel
theorem d_R_allThatGo_81 : decode prog_1_method_39_code 81 = .ok (.goto (-74), 3) := by decide +kernel
theorem d_R_allThatGo_84 : decode prog_1_method_39_code 84 = .ok (.iload_n 3, 1) := by decide +kernel
theorem d_R_allThatGo_85 : decode prog_1_method_39_code 85 = .ok (.ireturn, 1) := by decide +kernel
theorem d_R_ownsMembers_0 : decode prog_1_method_40_code 0 = .ok (.iconst 0, 1) := by decide +kernel
theorem d_R_ownsMembers_1 : decode prog_1_method_40_code 1 = .ok (.istore_n 2, 1) := by decide +kernel
theorem d_R_ownsMembers_2 : decode prog_1_method_40_code 2 = .ok (.iload_n 2, 1) := by decide +kernel
theorem d_R_ownsMembers_3 : decode prog_1_method_40_code 3 = .ok (.aload_n 0, 1) := by decide +kernel
theorem d_R_ownsMembers_4 : decode prog_1_method_40_code 4 = .ok (.getfield 10, 3) := by decide +kernel
theorem d_R_ownsMembers_7 : decode prog_1_method_40_code 7 = .ok (.getfield 69, 3) := by decide +kernel
theorem d_R_ownsMembers_10 : decode prog_1_method_40_code 10 = .ok (.if_icmp .ge 23, 3) := by decide +kernel
theorem d_R_ownsMembers_13 : decode prog_1_method_40_code 13 = .ok (.aload_n 0, 1) := by decide +kernel
theorem d_R_ownsMembers_14 : decode prog_1_method_40_code 14 = .ok (.getfield 19, 3) := by decide +kernel
theorem d_R_ownsMembers_17 : decode prog_1_method_40_code 17 = .ok (.iload_n 2, 1) := by decide +kernel
theorem d_R_ownsMembers_18 : decode prog_1_method_40_code 18 = .ok (.iload_n 1, 1) := by decide +kernel
theorem d_R_ownsMembers_19 : decode prog_1_method_40_code 19 = .ok (.invokevirtual 240, 3) := by decide +kernel
theorem d_R_ownsMembers_22 : decode prog_1_method_40_code 22 = .ok (.ifCond .le 5, 3) := by decide +kernel
theorem d_R_ownsMembers_25 : decode prog_1_method_40_code 25 = .ok (.iconst 1, 1) := by decide +kernel
theorem d_R_ownsMembers_26 : decode prog_1_method_40_code 26 = .ok (.ireturn, 1) := by decide +kernel
theorem d_R_ownsMembers_27 : decode prog_1_method_40_code 27 = .ok (.iinc 2 1, 3) := by decide +kernel
theorem d_R_ownsMembers_30 : decode prog_1_method_40_code 30 = .ok (.goto (-28), 3) := by decide +kernel
theorem d_R_ownsMembers_33 : decode prog_1_method_40_code 33 = .ok (.iconst 0, 1) := by decide +kernel
theorem d_R_ownsMembers_34 : decode prog_1_method_40_code 34 = .ok (.ireturn, 1) := by decide +kernel
theorem d_R_boundOneWouldStay_0 : decode prog_1_method_41_code 0 = .ok (.iconst 0, 1) := by decide +kernel
theorem d_R_boundOneWouldStay_1 : decode prog_1_method_41_code 1 = .ok (.istore_n 2, 1) := by decide +kernel
theorem d_R_boundOneWouldStay_2 : decode prog_1_method_41_code 2 = .ok (.iload_n 2, 1) := by decide +kernel
theorem d_R_boundOneWouldStay_3 : decode prog_1_method_41_code 3 = .ok (.aload_n 0, 1) := by decide +kernel
theorem d_R_boundOneWouldStay_4 : decode prog_1_method_41_code 4 = .ok (.getfield 10, 3) := by decide +kernel
theorem d_R_boundOneWouldStay_7 : decode prog_1_method_41_code 7 = .ok (.getfield 69, 3) := by decide +kernel
theorem d_R_boundOneWouldStay_10 : decode prog_1_method_41_code 10 = .ok (.if_icmp .ge 39, 3) := by decide +kernel
theorem d_R_boundOneWouldStay_13 : decode prog_1_method_41_code 13 = .ok (.aload_n 0, 1) := by decide +kernel
theorem d_R_boundOneWouldStay_14 : decode prog_1_method_41_code 14 = .ok (.getfield 10, 3) := by decide +kernel
theorem d_R_boundOneWouldStay_17 : decode prog_1_method_41_code 17 = .ok (.iload_n 2, 1) := by decide +kernel
theorem d_R_boundOneWouldStay_18 : decode prog_1_method_41_code 18 = .ok (.invokevirtual 201, 3) := by decide +kernel
theorem d_R_boundOneWouldStay_21 : decode prog_1_method_41_code 21 = .ok (.iconst 1, 1) := by decide +kernel
theorem d_R_boundOneWouldStay_22 : decode prog_1_method_41_code 22 = .ok (.if_icmp .ne 21, 3) := by decide +kernel
theorem d_R_boundOneWouldStay_25 : decode prog_1_method_41_code 25 = .ok (.aload_n 0, 1) := by decide +kernel
theorem d_R_boundOneWouldStay_26 : decode prog_1_method_41_code 26 = .ok (.getfield 19, 3) := by decide +kernel
theorem d_R_boundOneWouldStay_29 : decode prog_1_method_41_code 29 = .ok (.iload_n 2, 1) := by decide +kernel
theorem d_R_boundOneWouldStay_30 : decode prog_1_method_41_code 30 = .ok (.iload_n 1, 1) := by decide +kernel
theorem d_R_boundOneWouldStay_31 : decode prog_1_method_41_code 31 = .ok (.invokevirtual 314, 3) := by decide +kernel
theorem d_R_boundOneWouldStay_34 : decode prog_1_method_41_code 34 = .ok (.iload_n 1, 1) := by decide +kernel
theorem d_R_boundOneWouldStay_35 : decode prog_1_method_41_code 35 = .ok (.iconst (-1), 1) := by decide +kernel
theorem d_R_boundOneWouldStay_36 : decode prog_1_method_41_code 36 = .ok (.ixor, 1) := by decide +kernel
theorem d_R_boundOneWouldStay_37 : decode prog_1_method_41_code 37 = .ok (.iand, 1) := by decide +kernel
theorem d_R_boundOneWouldStay_38 : decode prog_1_method_41_code 38 = .ok (.ifCond .eq 5, 3) := by decide +kernel
theorem d_R_boundOneWouldStay_41 : decode prog_1_method_41_code 41 = .ok (.iconst 1, 1) := by decide +kernel
theorem d_R_boundOneWouldStay_42 : decode prog_1_method_41_code 42 = .ok (.ireturn, 1) := by decide +kernel
theorem d_R_boundOneWouldStay_43 : decode prog_1_method_41_code 43 = .ok (.iinc 2 1, 3) := by decide +kernel
theorem d_R_boundOneWouldStay_46 : decode prog_1_method_41_code 46 = .ok (.goto (-44), 3) := by decide +kernel
theorem d_R_boundOneWouldStay_49 : decode prog_1_method_41_code 49 = .ok (.iconst 0, 1) := by decide +kernel
theorem d_R_boundOneWouldStay_50 : decode prog_1_method_41_code 50 = .ok (.ireturn, 1) := by decide +kernel
theorem d_R_standWithout_0 : decode prog_1_method_42_code 0 = .ok (.iload_n 1, 1) := by decide +kernel
theorem d_R_standWithout_1 : decode prog_1_method_42_code 1 = .ok (.aload_n 0, 1) := by decide +kernel
theorem d_R_standWithout_2 : decode prog_1_method_42_code 2 = .ok (.getfield 29, 3) := by decide +kernel
theorem d_R_standWithout_5 : decode prog_1_method_42_code 5 = .ok (.getfield 161, 3) := by decide +kernel
theorem d_R_standWithout_8 : decode prog_1_method_42_code 8 = .ok (.invokestatic 296, 3) := by decide +kernel
theorem d_R_standWithout_11 : decode prog_1_method_42_code 11 = .ok (.ifCond .eq 11, 3) := by decide +kernel
theorem d_R_standWithout_14 : decode prog_1_method_42_code 14 = .ok (.aload_n 0, 1) := by decide +kernel
theorem d_R_standWithout_15 : decode prog_1_method_42_code 15 = .ok (.getfield 29, 3) := by decide +kernel
theorem d_R_standWithout_18 : decode prog_1_method_42_code 18 = .ok (.iconst (-1), 1) := by decide +kernel
theorem d_R_standWithout_19 : decode prog_1_method_42_code 19 = .ok (.putfield 161, 3) := by decide +kernel
theorem d_R_standWithout_22 : decode prog_1_method_42_code 22 = .ok (.iconst 0, 1) := by decide +kernel
theorem d_R_standWithout_23 : decode prog_1_method_42_code 23 = .ok (.istore_n 2, 1) := by decide +kernel
theorem d_R_standWithout_24 : decode prog_1_method_42_code 24 = .ok (.iload_n 2, 1) := by decide +kernel
theorem d_R_standWithout_25 : decode prog_1_method_42_code 25 = .ok (.aload_n 0, 1) := by decide +kernel
theorem d_R_standWithout_26 : decode prog_1_method_42_code 26 = .ok (.getfield 10, 3) := by decide +kernel
theorem d_R_standWithout_29 : decode prog_1_method_42_code 29 = .ok (.getfield 44, 3) := by decide +kernel
theorem d_R_standWithout_32 : decode prog_1_method_42_code 32 = .ok (.if_icmp .ge 35, 3) := by decide +kernel
theorem d_R_standWithout_35 : decode prog_1_method_42_code 35 = .ok (.iload_n 1, 1) := by decide +kernel
theorem d_R_standWithout_36 : decode prog_1_method_42_code 36 = .ok (.aload_n 0, 1) := by decide +kernel
theorem d_R_standWithout_37 : decode prog_1_method_42_code 37 = .ok (.getfield 29, 3) := by decide +kernel
theorem d_R_standWithout_40 : decode prog_1_method_42_code 40 = .ok (.getfield 167, 3) := by decide +kernel
theorem d_R_standWithout_43 : decode prog_1_method_42_code 43 = .ok (.iload_n 2, 1) := by decide +kernel
theorem d_R_standWithout_44 : decode prog_1_method_42_code 44 = .ok (.iaload, 1) := by decide +kernel
theorem d_R_standWithout_45 : decode prog_1_method_42_code 45 = .ok (.invokestatic 296, 3) := by decide +kernel
theorem d_R_standWithout_48 : decode prog_1_method_42_code 48 = .ok (.ifCond .eq 13, 3) := by decide +kernel
theorem d_R_standWithout_51 : decode prog_1_method_42_code 51 = .ok (.aload_n 0, 1) := by decide +kernel
theorem d_R_standWithout_52 : decode prog_1_method_42_code 52 = .ok (.getfield 29, 3) := by decide +kernel
theorem d_R_standWithout_55 : decode prog_1_method_42_code 55 = .ok (.getfield 167, 3) := by decide +kernel
theorem d_R_standWithout_58 : decode prog_1_method_42_code 58 = .ok (.iload_n 2, 1) := by decide +kernel
theorem d_R_standWithout_59 : decode prog_1_method_42_code 59 = .ok (.iconst (-1), 1) := by decide +kernel
theorem d_R_standWithout_60 : decode prog_1_method_42_code 60 = .ok (.iastore, 1) := by decide +kernel
theorem d_R_standWithout_61 : decode prog_1_method_42_code 61 = .ok (.iinc 2 1, 3) := by decide +kernel
theorem d_R_standWithout_64 : decode prog_1_method_42_code 64 = .ok (.goto (-40), 3) := by decide +kernel
theorem d_R_standWithout_67 : decode prog_1_method_42_code 67 = .ok (.iconst 0, 1) := by decide +kernel
theorem d_R_standWithout_68 : decode prog_1_method_42_code 68 = .ok (.istore_n 2, 1) := by decide +kernel
theorem d_R_standWithout_69 : decode prog_1_method_42_code 69 = .ok (.iload_n 2, 1) := by decide +kernel
theorem d_R_standWithout_70 : decode prog_1_method_42_code 70 = .ok (.aload_n 0, 1) := by decide +kernel
theorem d_R_standWithout_71 : decode prog_1_method_42_code 71 = .ok (.getfield 10, 3) := by decide +kernel
theorem d_R_standWithout_74 : decode prog_1_method_42_code 74 = .ok (.getfield 69, 3) := by decide +kernel
theorem d_R_standWithout_77 : decode prog_1_method_42_code 77 = .ok (.if_icmp .ge 15, 3) := by decide +kernel
theorem d_R_standWithout_80 : decode prog_1_method_42_code 80 = .ok (.aload_n 0, 1) := by decide +kernel
theorem d_R_standWithout_81 : decode prog_1_method_42_code 81 = .ok (.iload_n 2, 1) := by decide +kernel
theorem d_R_standWithout_82 : decode prog_1_method_42_code 82 = .ok (.iload_n 1, 1) := by decide +kernel
theorem d_R_standWithout_83 : decode prog_1_method_42_code 83 = .ok (.invokevirtual 206, 3) := by decide +kernel
theorem d_R_standWithout_86 : decode prog_1_method_42_code 86 = .ok (.iinc 2 1, 3) := by decide +kernel
theorem d_R_standWithout_89 : decode prog_1_method_42_code 89 = .ok (.goto (-20), 3) := by decide +kernel
theorem d_R_standWithout_92 : decode prog_1_method_42_code 92 = .ok (.return_, 1) := by decide +kernel
theorem d_R_removeAll_0 : decode prog_1_method_44_code 0 = .ok (.iconst 0, 1) := by decide +kernel
theorem d_R_removeAll_1 : decode prog_1_method_44_code 1 = .ok (.istore_n 2, 1) := by decide +kernel
theorem d_R_removeAll_2 : decode prog_1_method_44_code 2 = .ok (.iload_n 2, 1) := by decide +kernel
theorem d_R_removeAll_3 : decode prog_1_method_44_code 3 = .ok (.aload_n 0, 1) := by decide +kernel
theorem d_R_removeAll_4 : decode prog_1_method_44_code 4 = .ok (.getfield 10, 3) := by decide +kernel
theorem d_R_removeAll_7 : decode prog_1_method_44_code 7 = .ok (.getfield 69, 3) := by decide +kernel
theorem d_R_removeAll_10 : decode prog_1_method_44_code 10 = .ok (.if_icmp .ge 56, 3) := by decide +kernel
theorem d_R_removeAll_13 : decode prog_1_method_44_code 13 = .ok (.iload_n 1, 1) := by decide +kernel
theorem d_R_removeAll_14 : decode prog_1_method_44_code 14 = .ok (.aload_n 0, 1) := by decide +kernel
theorem d_R_removeAll_15 : decode prog_1_method_44_code 15 = .ok (.getfield 19, 3) := by decide +kernel
theorem d_R_removeAll_18 : decode prog_1_method_44_code 18 = .ok (.iload_n 2, 1) := by decide +kernel
theorem d_R_removeAll_19 : decode prog_1_method_44_code 19 = .ok (.iload_n 1, 1) := by decide +kernel
theorem d_R_removeAll_20 : decode prog_1_method_44_code 20 = .ok (.invokevirtual 314, 3) := by decide +kernel
theorem d_R_removeAll_23 : decode prog_1_method_44_code 23 = .ok (.ior, 1) := by decide +kernel
theorem d_R_removeAll_24 : decode prog_1_method_44_code 24 = .ok (.istore_n 3, 1) := by decide +kernel
theorem d_R_removeAll_25 : decode prog_1_method_44_code 25 = .ok (.iconst 0, 1) := by decide +kernel
theorem d_R_removeAll_26 : decode prog_1_method_44_code 26 = .ok (.istore 4, 2) := by decide +kernel
theorem d_R_removeAll_28 : decode prog_1_method_44_code 28 = .ok (.iload 4, 2) := by decide +kernel
theorem d_R_removeAll_30 : decode prog_1_method_44_code 30 = .ok (.bipush 24, 2) := by decide +kernel
theorem d_R_removeAll_32 : decode prog_1_method_44_code 32 = .ok (.if_icmp .ge 28, 3) := by decide +kernel
theorem d_R_removeAll_35 : decode prog_1_method_44_code 35 = .ok (.iload_n 3, 1) := by decide +kernel
theorem d_R_removeAll_36 : decode prog_1_method_44_code 36 = .ok (.iload 4, 2) := by decide +kernel
theorem d_R_removeAll_38 : decode prog_1_method_44_code 38 = .ok (.invokestatic 296, 3) := by decide +kernel
theorem d_R_removeAll_41 : decode prog_1_method_44_code 41 = .ok (.ifCond .eq 13, 3) := by decide +kernel
theorem d_R_removeAll_44 : decode prog_1_method_44_code 44 = .ok (.aload_n 0, 1) := by decide +kernel
theorem d_R_removeAll_45 : decode prog_1_method_44_code 45 = .ok (.getfield 19, 3) := by decide +kernel
theorem d_R_removeAll_48 : decode prog_1_method_44_code 48 = .ok (.iload_n 2, 1) := by decide +kernel
theorem d_R_removeAll_49 : decode prog_1_method_44_code 49 = .ok (.iload 4, 2) := by decide +kernel
theorem d_R_removeAll_51 : decode prog_1_method_44_code 51 = .ok (.invokevirtual 209, 3) := by decide +kernel
theorem d_R_removeAll_54 : decode prog_1_method_44_code 54 = .ok (.iinc 4 1, 3) := by decide +kernel
theorem d_R_removeAll_57 : decode prog_1_method_44_code 57 = .ok (.goto (-29), 3) := by decide +kernel
theorem d_R_removeAll_60 : decode prog_1_method_44_code 60 = .ok (.iinc 2 1, 3) := by decide +kernel
theorem d_R_removeAll_63 : decode prog_1_method_44_code 63 = .ok (.goto (-61), 3) := by decide +kernel
theorem d_R_removeAll_66 : decode prog_1_method_44_code 66 = .ok (.iconst 0, 1) := by decide +kernel
theorem d_R_removeAll_67 : decode prog_1_method_44_code 67 = .ok (.istore_n 2, 1) := by decide +kernel
theorem d_R_removeAll_68 : decode prog_1_method_44_code 68 = .ok (.iload_n 2, 1) := by decide +kernel
theorem d_R_removeAll_69 : decode prog_1_method_44_code 69 = .ok (.bipush 24, 2) := by decide +kernel
theorem d_R_removeAll_71 : decode prog_1_method_44_code 71 = .ok (.if_icmp .ge 25, 3) := by decide +kernel
theorem d_R_removeAll_74 : decode prog_1_method_44_code 74 = .ok (.iload_n 1, 1) := by decide +kernel
theorem d_R_removeAll_75 : decode prog_1_method_44_code 75 = .ok (.iload_n 2, 1) := by decide +kernel
theorem d_R_removeAll_76 : decode prog_1_method_44_code 76 = .ok (.invokestatic 296, 3) := by decide +kernel
theorem d_R_removeAll_79 : decode prog_1_method_44_code 79 = .ok (.ifCond .eq 11, 3) := by decide +kernel
theorem d_R_removeAll_82 : decode prog_1_method_44_code 82 = .ok (.aload_n 0, 1) := by decide +kernel
theorem d_R_removeAll_83 : decode prog_1_method_44_code 83 = .ok (.getfield 19, 3) := by decide +kernel
theorem d_R_removeAll_86 : decode prog_1_method_44_code 86 = .ok (.iload_n 2, 1) := by decide +kernel
theorem d_R_removeAll_87 : decode prog_1_method_44_code 87 = .ok (.invokevirtual 317, 3) := by decide +kernel
theorem d_R_removeAll_90 : decode prog_1_method_44_code 90 = .ok (.iinc 2 1, 3) := by decide +kernel
theorem d_R_removeAll_93 : decode prog_1_method_44_code 93 = .ok (.goto (-25), 3) := by decide +kernel
theorem d_R_removeAll_96 : decode prog_1_method_44_code 96 = .ok (.return_, 1) := by decide +kernel
theorem d_R_members_0 : decode prog_1_method_16_code 0 = .ok (.aload_n 0, 1) := by decide +kernel
theorem d_R_members_1 : decode prog_1_method_16_code 1 = .ok (.iload_n 1, 1) := by decide +kernel
theorem d_R_members_2 : decode prog_1_method_16_code 2 = .ok (.invokevirtual 133, 3) := by decide +kernel
theorem d_R_members_5 : decode prog_1_method_16_code 5 = .ok (.aload_n 0, 1) := by decide +kernel
theorem d_R_members_6 : decode prog_1_method_16_code 6 = .ok (.getfield 19, 3) := by decide +kernel
theorem d_R_members_9 : decode prog_1_method_16_code 9 = .ok (.iload_n 1, 1) := by decide +kernel
theorem d_R_members_10 : decode prog_1_method_16_code 10 = .ok (.aload_n 0, 1) := by decide +kernel
theorem d_R_members_11 : decode prog_1_method_16_code 11 = .ok (.iload_n 1, 1) := by decide +kernel
theorem d_R_members_12 : decode prog_1_method_16_code 12 = .ok (.invokevirtual 147, 3) := by decide +kernel
theorem d_R_members_15 : decode prog_1_method_16_code 15 = .ok (.invokevirtual 240, 3) := by decide +kernel
theorem d_R_members_18 : decode prog_1_method_16_code 18 = .ok (.ireturn, 1) := by decide +kernel
theorem d_R_owner_0 : decode prog_1_method_17_code 0 = .ok (.aload_n 0, 1) := by decide +kernel
theorem d_R_owner_1 : decode prog_1_method_17_code 1 = .ok (.iload_n 1, 1) := by decide +kernel
theorem d_R_owner_2 : decode prog_1_method_17_code 2 = .ok (.invokevirtual 133, 3) := by decide +kernel
theorem d_R_owner_5 : decode prog_1_method_17_code 5 = .ok (.aload_n 0, 1) := by decide +kernel
theorem d_R_owner_6 : decode prog_1_method_17_code 6 = .ok (.getfield 19, 3) := by decide +kernel
theorem d_R_owner_9 : decode prog_1_method_17_code 9 = .ok (.aload_n 0, 1) := by decide +kernel
theorem d_R_owner_10 : decode prog_1_method_17_code 10 = .ok (.getfield 19, 3) := by decide +kernel
theorem d_R_owner_13 : decode prog_1_method_17_code 13 = .ok (.getfield 243, 3) := by decide +kernel
theorem d_R_owner_16 : decode prog_1_method_17_code 16 = .ok (.iload_n 1, 1) := by decide +kernel
theorem d_R_owner_17 : decode prog_1_method_17_code 17 = .ok (.aaload, 1) := by decide +kernel
theorem d_R_owner_18 : decode prog_1_method_17_code 18 = .ok (.aload_n 0, 1) := by decide +kernel
theorem d_R_owner_19 : decode prog_1_method_17_code 19 = .ok (.iload_n 2, 1) := by decide +kernel
theorem d_R_owner_20 : decode prog_1_method_17_code 20 = .ok (.invokevirtual 118, 3) := by decide +kernel
theorem d_R_owner_23 : decode prog_1_method_17_code 23 = .ok (.iaload, 1) := by decide +kernel
theorem d_R_owner_24 : decode prog_1_method_17_code 24 = .ok (.invokevirtual 164, 3) := by decide +kernel
theorem d_R_owner_27 : decode prog_1_method_17_code 27 = .ok (.ireturn, 1) := by decide +kernel
end
section
theorem d_S_init_0 : decode prog_4_method_1_code 0 = .ok (.aload_n 0, 1) := by decide +kernel
theorem d_S_init_1 : decode prog_4_method_1_code 1 = .ok (.invokespecial 3, 3) := by decide +kernel
theorem d_S_init_4 : decode prog_4_method_1_code 4 = .ok (.aload_n 0, 1) := by decide +kernel
theorem d_S_init_5 : decode prog_4_method_1_code 5 = .ok (.iconst (-1), 1) := by decide +kernel
theorem d_S_init_6 : decode prog_4_method_1_code 6 = .ok (.putfield 9, 3) := by decide +kernel
theorem d_S_init_9 : decode prog_4_method_1_code 9 = .ok (.aload_n 0, 1) := by decide +kernel
theorem d_S_init_10 : decode prog_4_method_1_code 10 = .ok (.iconst 4, 1) := by decide +kernel
theorem d_S_init_11 : decode prog_4_method_1_code 11 = .ok (.newarray .int, 2) := by decide +kernel
theorem d_S_init_13 : decode prog_4_method_1_code 13 = .ok (.putfield 15, 3) := by decide +kernel
theorem d_S_init_16 : decode prog_4_method_1_code 16 = .ok (.aload_n 0, 1) := by decide +kernel
theorem d_S_init_17 : decode prog_4_method_1_code 17 = .ok (.iconst 5, 1) := by decide +kernel
theorem d_S_init_18 : decode prog_4_method_1_code 18 = .ok (.newarray .int, 2) := by decide +kernel
theorem d_S_init_20 : decode prog_4_method_1_code 20 = .ok (.putfield 19, 3) := by decide +kernel
theorem d_S_init_23 : decode prog_4_method_1_code 23 = .ok (.aload_n 0, 1) := by decide +kernel
theorem d_S_init_24 : decode prog_4_method_1_code 24 = .ok (.invokevirtual 22, 3) := by decide +kernel
theorem d_S_init_27 : decode prog_4_method_1_code 27 = .ok (.return_, 1) := by decide +kernel
theorem d_S_clear_0 : decode prog_4_method_2_code 0 = .ok (.aload_n 0, 1) := by decide +kernel
theorem d_S_clear_1 : decode prog_4_method_2_code 1 = .ok (.iconst (-1), 1) := by decide +kernel
theorem d_S_clear_2 : decode prog_4_method_2_code 2 = .ok (.putfield 9, 3) := by decide +kernel
theorem d_S_clear_5 : decode prog_4_method_2_code 5 = .ok (.iconst 0, 1) := by decide +kernel
theorem d_S_clear_6 : decode prog_4_method_2_code 6 = .ok (.istore_n 1, 1) := by decide +kernel
theorem d_S_clear_7 : decode prog_4_method_2_code 7 = .ok (.iload_n 1, 1) := by decide +kernel
theorem d_S_clear_8 : decode prog_4_method_2_code 8 = .ok (.iconst 4, 1) := by decide +kernel
theorem d_S_clear_9 : decode prog_4_method_2_code 9 = .ok (.if_icmp .ge 16, 3) := by decide +kernel
theorem d_S_clear_12 : decode prog_4_method_2_code 12 = .ok (.aload_n 0, 1) := by decide +kernel
theorem d_S_clear_13 : decode prog_4_method_2_code 13 = .ok (.getfield 15, 3) := by decide +kernel
theorem d_S_clear_16 : decode prog_4_method_2_code 16 = .ok (.iload_n 1, 1) := by decide +kernel
theorem d_S_clear_17 : decode prog_4_method_2_code 17 = .ok (.iconst (-1), 1) := by decide +kernel
theorem d_S_clear_18 : decode prog_4_method_2_code 18 = .ok (.iastore, 1) := by decide +kernel
theorem d_S_clear_19 : decode prog_4_method_2_code 19 = .ok (.iinc 1 1, 3) := by decide +kernel
theorem d_S_clear_22 : decode prog_4_method_2_code 22 = .ok (.goto (-15), 3) := by decide +kernel
theorem d_S_clear_25 : decode prog_4_method_2_code 25 = .ok (.iconst 0, 1) := by decide +kernel
theorem d_S_clear_26 : decode prog_4_method_2_code 26 = .ok (.istore_n 1, 1) := by decide +kernel
theorem d_S_clear_27 : decode prog_4_method_2_code 27 = .ok (.iload_n 1, 1) := by decide +kernel
theorem d_S_clear_28 : decode prog_4_method_2_code 28 = .ok (.iconst 5, 1) := by decide +kernel
theorem d_S_clear_29 : decode prog_4_method_2_code 29 = .ok (.if_icmp .ge 16, 3) := by decide +kernel
theorem d_S_clear_32 : decode prog_4_method_2_code 32 = .ok (.aload_n 0, 1) := by decide +kernel
theorem d_S_clear_33 : decode prog_4_method_2_code 33 = .ok (.getfield 19, 3) := by decide +kernel
theorem d_S_clear_36 : decode prog_4_method_2_code 36 = .ok (.iload_n 1, 1) := by decide +kernel
theorem d_S_clear_37 : decode prog_4_method_2_code 37 = .ok (.iconst (-1), 1) := by decide +kernel
theorem d_S_clear_38 : decode prog_4_method_2_code 38 = .ok (.iastore, 1) := by decide +kernel
theorem d_S_clear_39 : decode prog_4_method_2_code 39 = .ok (.iinc 1 1, 3) := by decide +kernel
theorem d_S_clear_42 : decode prog_4_method_2_code 42 = .ok (.goto (-15), 3) := by decide +kernel
theorem d_S_clear_45 : decode prog_4_method_2_code 45 = .ok (.return_, 1) := by decide +kernel
end
section
/-! the system once it stands: 70 cells, references fixed; what varies are the ints M, the long K in out, the makings b that are still paid for -/
def ow_rF (c j : Nat) : Option Nat :=
  if c = 0 then (if j < 4 then some (([1, 7, 26, 45] : List Nat).getD j 0) else none)
  else if c = 1 then (if 2 ≤ j ∧ j < 7 then some j else none)
  else if c = 7 then (if 2 ≤ j ∧ j < 7 then some (([8, 9, 10, 14, 20] : List Nat).getD (j - 2) 0) else none)
  else if c = 10 then (if j < 3 then some (11 + j) else none)
  else if c = 14 then (if j < 5 then some (15 + j) else none)
  else if c = 20 then (if j < 5 then some (21 + j) else none)
  else if c = 26 then (if 2 ≤ j ∧ j < 7 then some (([27, 28, 29, 33, 39] : List Nat).getD (j - 2) 0) else none)
  else if c = 29 then (if j < 3 then some (30 + j) else none)
  else if c = 33 then (if j < 5 then some (34 + j) else none)
  else if c = 39 then (if j < 5 then some (40 + j) else none)
  else if c = 45 then (if 1 ≤ j ∧ j < 3 then some (45 + j) else none)
  else if c = 48 then ((([none, none, some 49, none, some 50, some 51, some 52, some 53, none, none, some 54, some 55, some 56, some 57, some 58, some 59, none, some 60, some 61, some 62, none, some 63, some 64, some 65, some 66, some 67, some 68] : List (Option Nat))[j]?).join)
  else none
def ow_lF (K : Int64) : Nat → Nat → Int64 := fun c => if c = 69 then vp_updL (fun _ => 0) 0 K else fun _ => 0
abbrev mm (M : Nat → Nat → Int32) (K : Int64) (b : Nat) : ow_M := (70, ow_rF, M, ow_lF K, b)
theorem ow_lF_up (K x : Int64) : ow_ul (ow_lF K) 69 0 x = ow_lF x := by
  funext c
  by_cases h : c = 69
  · subst h
    funext j
    by_cases hj : j = 0
    · subst hj; simp [ow_ul, ow_lF, vp_updL]
    · simp [ow_ul, ow_lF, vp_updL, hj]
  · simp [ow_ul, ow_lF, h]
theorem ow_lF_at (K : Int64) : ow_lF K 69 0 = K := by simp [ow_lF, vp_updL]
theorem kd_own {s : Nat} (h : s < 5) : ow_kd (15 + s) = (1, 24) := by
  rcases (show s = 0 ∨ s = 1 ∨ s = 2 ∨ s = 3 ∨ s = 4 by omega) with rfl | rfl | rfl | rfl | rfl <;> rfl
theorem kd_pos {s : Nat} (h : s < 5) : ow_kd (21 + s) = (1, 24) := by
  rcases (show s = 0 ∨ s = 1 ∨ s = 2 ∨ s = 3 ∨ s = 4 by omega) with rfl | rfl | rfl | rfl | rfl <;> rfl
theorem kd_fld {f : Nat} (h : f < 3) : ow_kd (11 + f) = (1, 24) := by
  rcases (show f = 0 ∨ f = 1 ∨ f = 2 by omega) with rfl | rfl | rfl <;> rfl
theorem rF_own {s : Nat} (h : s < 5) : ow_rF 14 s = some (15 + s) := by simp [ow_rF, h]
theorem rF_pos {s : Nat} (h : s < 5) : ow_rF 20 s = some (21 + s) := by simp [ow_rF, h]
theorem rF_fld {f : Nat} (h : f < 3) : ow_rF 10 f = some (11 + f) := by simp [ow_rF, h]
section MmRules
variable {l : Launch} {Y : ow_Y} {sc : Option (Nat × (Nat → Int32))} {d : Nat × Nat} {Q : ow_R → ow_M → Prop} {pc : Nat} {L : List (Option Value)} {S : List Value} {M : Nat → Nat → Int32} {K : Int64} {b : Nat}
theorem mm_geti {index ci k a : Nat} (hF : ow_F Y.1.cls index ci k) (hdg : decode Y.2.1 pc = .ok (.getfield index, 3)) (ha : a < 70) (hk : ow_kd a = (0, ci)) (hr : ow_isr ci k = false) (kk : AW l Y sc d Q (pc + 3) L (.int (M a k) :: S) (mm M K b)) : AW l Y sc d Q pc L (.ref a :: S) (mm M K b) := aw_geti hF hdg ha hk hr kk
theorem mm_getr {index ci k a t : Nat} (hF : ow_F Y.1.cls index ci k) (hdg : decode Y.2.1 pc = .ok (.getfield index, 3)) (ha : a < 70) (hk : ow_kd a = (0, ci)) (hr : ow_isr ci k = true) (ht : ow_rF a k = some t) (kk : AW l Y sc d Q (pc + 3) L (.ref t :: S) (mm M K b)) : AW l Y sc d Q pc L (.ref a :: S) (mm M K b) := aw_getr hF hdg ha hk hr ht kk
theorem mm_iald {a n j : Nat} {i : Int32} (hi : i = nI j) (hdg : decode Y.2.1 pc = .ok (.iaload, 1)) (ha : a < 70) (hk : ow_kd a = (1, n)) (hj : j < n) (hn : n < 2 ^ 31) (kk : AW l Y sc d Q (pc + 1) L (.int (M a j) :: S) (mm M K b)) : AW l Y sc d Q pc L (.int i :: .ref a :: S) (mm M K b) := by
  subst hi
  refine aw_iald hdg ha hk (vp_in_nI hj hn) ?_
  rw [nI_clamp (by omega)]
  exact kk
theorem mm_zald {a n j : Nat} {i : Int32} (hi : i = nI j) (hdg : decode Y.2.1 pc = .ok (.baload, 1)) (ha : a < 70) (hk : ow_kd a = (2, n)) (hj : j < n) (hn : n < 2 ^ 31) (kk : AW l Y sc d Q (pc + 1) L (.int (M a j) :: S) (mm M K b)) : AW l Y sc d Q pc L (.int i :: .ref a :: S) (mm M K b) := by
  subst hi
  refine aw_zald hdg ha hk (vp_in_nI hj hn) ?_
  rw [nI_clamp (by omega)]
  exact kk
theorem mm_aald {a n j t : Nat} {i : Int32} (hi : i = nI j) (hdg : decode Y.2.1 pc = .ok (.aaload, 1)) (ha : a < 70) (hk : ow_kd a = (4, n)) (hj : j < n) (hn : n < 2 ^ 31) (ht : ow_rF a j = some t) (kk : AW l Y sc d Q (pc + 1) L (.ref t :: S) (mm M K b)) : AW l Y sc d Q pc L (.int i :: .ref a :: S) (mm M K b) := by
  subst hi
  refine aw_aald hdg ha hk (vp_in_nI hj hn) (t := t) ?_ kk
  rw [nI_clamp (by omega)]
  exact ht
theorem mm_iast {a n j : Nat} {i x : Int32} (hi : i = nI j) (hdg : decode Y.2.1 pc = .ok (.iastore, 1)) (ha : a < 70) (hk : ow_kd a = (1, n)) (hj : j < n) (hn : n < 2 ^ 31) (kk : AW l Y sc d Q (pc + 1) L S (mm (ow_u M a j x) K b)) : AW l Y sc d Q pc L (.int x :: .int i :: .ref a :: S) (mm M K b) := by
  subst hi
  refine aw_iast hdg ha hk (vp_in_nI hj hn) ?_
  rw [nI_clamp (by omega)]
  exact kk
theorem mm_zast {a n j : Nat} {i x : Int32} (hi : i = nI j) (hdg : decode Y.2.1 pc = .ok (.bastore, 1)) (ha : a < 70) (hk : ow_kd a = (2, n)) (hj : j < n) (hn : n < 2 ^ 31) (hx : x = 0 ∨ x = 1) (kk : AW l Y sc d Q (pc + 1) L S (mm (ow_u M a j x) K b)) : AW l Y sc d Q pc L (.int x :: .int i :: .ref a :: S) (mm M K b) := by
  subst hi
  refine aw_zast hdg ha hk (vp_in_nI hj hn) hx ?_
  rw [nI_clamp (by omega)]
  exact kk
theorem mm_puti {index ci k a : Nat} {x : Int32} {ty : FieldType} (hF : ow_Fw Y.1.cls index ci k false ty) (hdg : decode Y.2.1 pc = .ok (.putfield index, 3)) (ha : a < 70) (hk : ow_kd a = (0, ci)) (hr : ow_isr ci k = false) (hn : narrow ty (.int x) = .int x) (hf : fits ty (.int x) = true) (kk : AW l Y sc d Q (pc + 3) L S (mm (ow_u M a k x) K b)) : AW l Y sc d Q pc L (.int x :: .ref a :: S) (mm M K b) := aw_puti hF hdg ha hk hr hn hf kk
theorem mm_last {x : Int64} (hdg : decode Y.2.1 pc = .ok (.lastore, 1)) (kk : AW l Y sc d Q (pc + 1) L S (mm M x b)) : AW l Y sc d Q pc L (.long x :: .int 0 :: .ref 69 :: S) (mm M K b) := by
  refine aw_last (n := 1) hdg (show (69 : Nat) < 70 by decide) rfl (vp_in_nI (n := 0) (by decide) (by decide)) ?_
  have : ow_ul (ow_lF K) 69 (0 : Int32).toNatClampNeg x = ow_lF x := ow_lF_up K x
  show AW l Y sc d Q (pc + 1) L S (70, ow_rF, M, ow_ul (ow_lF K) 69 (0 : Int32).toNatClampNeg x, b)
  rw [this]
  exact kk
theorem mm_lald (hdg : decode Y.2.1 pc = .ok (.laload, 1)) (kk : AW l Y sc d Q (pc + 1) L (.long K :: S) (mm M K b)) : AW l Y sc d Q pc L (.int 0 :: .ref 69 :: S) (mm M K b) := by
  refine aw_lald (n := 1) hdg (show (69 : Nat) < 70 by decide) rfl (vp_in_nI (n := 0) (by decide) (by decide)) ?_
  show AW l Y sc d Q (pc + 1) L (.long (ow_lF K 69 (0 : Int32).toNatClampNeg) :: S) (mm M K b)
  have : ow_lF K 69 (0 : Int32).toNatClampNeg = K := ow_lF_at K
  rw [this]
  exact kk
end MmRules
/-- Plan.hasType -/
theorem t_P_hasType {l : Launch} {Q : ow_R → ow_M → Prop} {M : Nat → Nat → Int32} {K : Int64} {b : Nat} {t : Int32} (hq : Q (.inl (some (if 0 ≤ t ∧ t < M 1 0 then 1 else 0))) (mm M K b)) : MT l Y_P_hasType (0, 0) [.ref 1, .int t] (mm M K b) Q := by
  refine mt_of (k := 0) (by decide) cd_P_hasType.1 (by simp [Value.category]) rfl ?_
  refine aw_iload_n d_P_hasType_0 rfl ?_
  refine aw_if_lt (tgt := 16) d_P_hasType_1 rfl (fun h1 => ?_) (fun h1 => ?_)
  · refine aw_iconst d_P_hasType_16 rfl ?_
    refine aw_iret d_P_hasType_17 rfl rfl ?_
    rw [if_neg (fun h => by have := Int32.not_lt.mpr h.1; exact this h1)] at hq
    exact hq
  · refine aw_iload_n d_P_hasType_4 rfl ?_
    refine aw_aload_n d_P_hasType_5 rfl ?_
    refine mm_geti f_P_9 d_P_hasType_6 (by decide) rfl rfl ?_
    refine aw_icmp_ge (tgt := 16) d_P_hasType_9 rfl (fun h2 => ?_) (fun h2 => ?_)
    · refine aw_iconst d_P_hasType_16 rfl ?_
      refine aw_iret d_P_hasType_17 rfl rfl ?_
      rw [if_neg (fun h => Int32.not_lt.mpr h2 h.2)] at hq
      exact hq
    · refine aw_iconst d_P_hasType_12 rfl ?_
      refine aw_goto (tgt := 17) d_P_hasType_13 rfl ?_
      refine aw_iret d_P_hasType_17 rfl rfl ?_
      rw [if_pos ⟨Int32.not_lt.mp h1, Int32.not_le.mp h2⟩] at hq
      exact hq
end
section
/-! calls by the number of their arguments; what is known of the links of nest mates -/
section OwC
variable {l : Launch} {Y Y' : ow_Y} {sc : Option (Nat × (Nat → Int32))} {d d' : Nat × Nat} {Q : ow_R → ow_M → Prop} {pc : Nat} {L : List (Option Value)} {S : List Value} {u : ow_M}
theorem ow_next_i {r : Int32} (h : AW l Y sc d Q pc L (.int r :: S) u) : ow_next l Y sc d Q pc L S (.inl (some r)) u := h
theorem ow_next_v (h : AW l Y sc d Q pc L S u) : ow_next l Y sc d Q pc L S (.inl none) u := h
theorem ow_next_x {k : Nat} (h : Q (.inr k) u) : ow_next l Y sc d Q pc L S (.inr k) u := h
theorem aw_cV0 {index a ci : Nat} {C : String} {T0 : u_T} (hdg : decode Y.2.1 pc = .ok (.invokevirtual index, 3)) (hL : ow_LV Y.1.cls index Y' C) (hC : ow_Cd Y' 0) (ha : a < u.1) (hk : ow_kd a = (0, ci)) (hci : ow_cl[ci]? = some (C, T0, ow_nf ci)) (hd : d'.1 + 1 ≤ d.1 ∧ (S.map fun v => v.category).sum + (Y'.2.2.1 + 11 + d'.2) ≤ d.2) (hh : ∀ q ∈ Y.2.2.2.2, ¬ (q.1 ≤ pc ∧ pc < q.2.1)) (kk : MT l Y' d' (.ref a :: []) u (ow_next l Y sc d Q (pc + 3) L S)) : AW l Y sc d Q pc L (.ref a :: S) u := aw_callV (vs := []) hdg hL hC ha hk hci rfl hd hh kk
theorem aw_cT0 {index a ci : Nat} {C : String} {T0 : u_T} (hdg : decode Y.2.1 pc = .ok (.invokevirtual index, 3)) (hL : ow_LV Y.1.cls index Y' C) (hC : ow_Cd Y' 0) (ha : a < u.1) (hk : ow_kd a = (0, ci)) (hci : ow_cl[ci]? = some (C, T0, ow_nf ci)) (hd : d'.1 + 1 ≤ d.1 ∧ (S.map fun v => v.category).sum + (Y'.2.2.1 + 11 + d'.2) ≤ d.2) (kk : MT l Y' d' (.ref a :: []) u (ow_nextT l Y sc d Q pc L S)) : AW l Y sc d Q pc L (.ref a :: S) u := aw_callVT (vs := []) hdg hL hC ha hk hci rfl hd kk
theorem aw_cV1 {index a ci : Nat} {C : String} {T0 : u_T} {v1 : Value} (hdg : decode Y.2.1 pc = .ok (.invokevirtual index, 3)) (hL : ow_LV Y.1.cls index Y' C) (hC : ow_Cd Y' 1) (ha : a < u.1) (hk : ow_kd a = (0, ci)) (hci : ow_cl[ci]? = some (C, T0, ow_nf ci)) (hd : d'.1 + 1 ≤ d.1 ∧ (S.map fun v => v.category).sum + (Y'.2.2.1 + 11 + d'.2) ≤ d.2) (hh : ∀ q ∈ Y.2.2.2.2, ¬ (q.1 ≤ pc ∧ pc < q.2.1)) (kk : MT l Y' d' (.ref a :: [v1]) u (ow_next l Y sc d Q (pc + 3) L S)) : AW l Y sc d Q pc L (v1 :: .ref a :: S) u := aw_callV (vs := [v1]) hdg hL hC ha hk hci rfl hd hh kk
theorem aw_cT1 {index a ci : Nat} {C : String} {T0 : u_T} {v1 : Value} (hdg : decode Y.2.1 pc = .ok (.invokevirtual index, 3)) (hL : ow_LV Y.1.cls index Y' C) (hC : ow_Cd Y' 1) (ha : a < u.1) (hk : ow_kd a = (0, ci)) (hci : ow_cl[ci]? = some (C, T0, ow_nf ci)) (hd : d'.1 + 1 ≤ d.1 ∧ (S.map fun v => v.category).sum + (Y'.2.2.1 + 11 + d'.2) ≤ d.2) (kk : MT l Y' d' (.ref a :: [v1]) u (ow_nextT l Y sc d Q pc L S)) : AW l Y sc d Q pc L (v1 :: .ref a :: S) u := aw_callVT (vs := [v1]) hdg hL hC ha hk hci rfl hd kk
theorem aw_cS1 {index : Nat} {v1 : Value} (hdg : decode Y.2.1 pc = .ok (.invokestatic index, 3)) (hL : ow_LS Y.1.cls index Y') (hC : ow_Cd Y' 1) (hd : d'.1 + 1 ≤ d.1 ∧ (S.map fun v => v.category).sum + (Y'.2.2.1 + 11 + d'.2) ≤ d.2) (hh : ∀ q ∈ Y.2.2.2.2, ¬ (q.1 ≤ pc ∧ pc < q.2.1)) (kk : MT l Y' d' [v1] u (ow_next l Y sc d Q (pc + 3) L S)) : AW l Y sc d Q pc L (v1 :: S) u := aw_callS (vs := [v1]) hdg hL hC rfl hd hh kk
theorem aw_cN1 {index : Nat} {host : String} {v1 : Value} (hdg : decode Y.2.1 pc = .ok (.invokestatic index, 3)) (hN : ow_nw2 = Cond.methodLinkNest Y.1.cls index Y'.1 host) (hL : Cond.static Y'.1 ∈ ow_ws) (hC : ow_Cd Y' 1) (hd : d'.1 + 1 ≤ d.1 ∧ (S.map fun v => v.category).sum + (Y'.2.2.1 + 11 + d'.2) ≤ d.2) (hh : ∀ q ∈ Y.2.2.2.2, ¬ (q.1 ≤ pc ∧ pc < q.2.1)) (kk : MT l Y' d' [v1] u (ow_next l Y sc d Q (pc + 3) L S)) : AW l Y sc d Q pc L (v1 :: S) u := aw_callSN (vs := [v1]) hdg hN hL hC rfl hd hh kk
theorem aw_cV2 {index a ci : Nat} {C : String} {T0 : u_T} {v1 v2 : Value} (hdg : decode Y.2.1 pc = .ok (.invokevirtual index, 3)) (hL : ow_LV Y.1.cls index Y' C) (hC : ow_Cd Y' 2) (ha : a < u.1) (hk : ow_kd a = (0, ci)) (hci : ow_cl[ci]? = some (C, T0, ow_nf ci)) (hd : d'.1 + 1 ≤ d.1 ∧ (S.map fun v => v.category).sum + (Y'.2.2.1 + 11 + d'.2) ≤ d.2) (hh : ∀ q ∈ Y.2.2.2.2, ¬ (q.1 ≤ pc ∧ pc < q.2.1)) (kk : MT l Y' d' (.ref a :: [v1, v2]) u (ow_next l Y sc d Q (pc + 3) L S)) : AW l Y sc d Q pc L (v2 :: v1 :: .ref a :: S) u := aw_callV (vs := [v1, v2]) hdg hL hC ha hk hci rfl hd hh kk
theorem aw_cT2 {index a ci : Nat} {C : String} {T0 : u_T} {v1 v2 : Value} (hdg : decode Y.2.1 pc = .ok (.invokevirtual index, 3)) (hL : ow_LV Y.1.cls index Y' C) (hC : ow_Cd Y' 2) (ha : a < u.1) (hk : ow_kd a = (0, ci)) (hci : ow_cl[ci]? = some (C, T0, ow_nf ci)) (hd : d'.1 + 1 ≤ d.1 ∧ (S.map fun v => v.category).sum + (Y'.2.2.1 + 11 + d'.2) ≤ d.2) (kk : MT l Y' d' (.ref a :: [v1, v2]) u (ow_nextT l Y sc d Q pc L S)) : AW l Y sc d Q pc L (v2 :: v1 :: .ref a :: S) u := aw_callVT (vs := [v1, v2]) hdg hL hC ha hk hci rfl hd kk
theorem aw_cS2 {index : Nat} {v1 v2 : Value} (hdg : decode Y.2.1 pc = .ok (.invokestatic index, 3)) (hL : ow_LS Y.1.cls index Y') (hC : ow_Cd Y' 2) (hd : d'.1 + 1 ≤ d.1 ∧ (S.map fun v => v.category).sum + (Y'.2.2.1 + 11 + d'.2) ≤ d.2) (hh : ∀ q ∈ Y.2.2.2.2, ¬ (q.1 ≤ pc ∧ pc < q.2.1)) (kk : MT l Y' d' [v1, v2] u (ow_next l Y sc d Q (pc + 3) L S)) : AW l Y sc d Q pc L (v2 :: v1 :: S) u := aw_callS (vs := [v1, v2]) hdg hL hC rfl hd hh kk
theorem aw_cN2 {index : Nat} {host : String} {v1 v2 : Value} (hdg : decode Y.2.1 pc = .ok (.invokestatic index, 3)) (hN : ow_nw2 = Cond.methodLinkNest Y.1.cls index Y'.1 host) (hL : Cond.static Y'.1 ∈ ow_ws) (hC : ow_Cd Y' 2) (hd : d'.1 + 1 ≤ d.1 ∧ (S.map fun v => v.category).sum + (Y'.2.2.1 + 11 + d'.2) ≤ d.2) (hh : ∀ q ∈ Y.2.2.2.2, ¬ (q.1 ≤ pc ∧ pc < q.2.1)) (kk : MT l Y' d' [v1, v2] u (ow_next l Y sc d Q (pc + 3) L S)) : AW l Y sc d Q pc L (v2 :: v1 :: S) u := aw_callSN (vs := [v1, v2]) hdg hN hL hC rfl hd hh kk
theorem aw_cV3 {index a ci : Nat} {C : String} {T0 : u_T} {v1 v2 v3 : Value} (hdg : decode Y.2.1 pc = .ok (.invokevirtual index, 3)) (hL : ow_LV Y.1.cls index Y' C) (hC : ow_Cd Y' 3) (ha : a < u.1) (hk : ow_kd a = (0, ci)) (hci : ow_cl[ci]? = some (C, T0, ow_nf ci)) (hd : d'.1 + 1 ≤ d.1 ∧ (S.map fun v => v.category).sum + (Y'.2.2.1 + 11 + d'.2) ≤ d.2) (hh : ∀ q ∈ Y.2.2.2.2, ¬ (q.1 ≤ pc ∧ pc < q.2.1)) (kk : MT l Y' d' (.ref a :: [v1, v2, v3]) u (ow_next l Y sc d Q (pc + 3) L S)) : AW l Y sc d Q pc L (v3 :: v2 :: v1 :: .ref a :: S) u := aw_callV (vs := [v1, v2, v3]) hdg hL hC ha hk hci rfl hd hh kk
theorem aw_cT3 {index a ci : Nat} {C : String} {T0 : u_T} {v1 v2 v3 : Value} (hdg : decode Y.2.1 pc = .ok (.invokevirtual index, 3)) (hL : ow_LV Y.1.cls index Y' C) (hC : ow_Cd Y' 3) (ha : a < u.1) (hk : ow_kd a = (0, ci)) (hci : ow_cl[ci]? = some (C, T0, ow_nf ci)) (hd : d'.1 + 1 ≤ d.1 ∧ (S.map fun v => v.category).sum + (Y'.2.2.1 + 11 + d'.2) ≤ d.2) (kk : MT l Y' d' (.ref a :: [v1, v2, v3]) u (ow_nextT l Y sc d Q pc L S)) : AW l Y sc d Q pc L (v3 :: v2 :: v1 :: .ref a :: S) u := aw_callVT (vs := [v1, v2, v3]) hdg hL hC ha hk hci rfl hd kk
theorem aw_cS3 {index : Nat} {v1 v2 v3 : Value} (hdg : decode Y.2.1 pc = .ok (.invokestatic index, 3)) (hL : ow_LS Y.1.cls index Y') (hC : ow_Cd Y' 3) (hd : d'.1 + 1 ≤ d.1 ∧ (S.map fun v => v.category).sum + (Y'.2.2.1 + 11 + d'.2) ≤ d.2) (hh : ∀ q ∈ Y.2.2.2.2, ¬ (q.1 ≤ pc ∧ pc < q.2.1)) (kk : MT l Y' d' [v1, v2, v3] u (ow_next l Y sc d Q (pc + 3) L S)) : AW l Y sc d Q pc L (v3 :: v2 :: v1 :: S) u := aw_callS (vs := [v1, v2, v3]) hdg hL hC rfl hd hh kk
theorem aw_cN3 {index : Nat} {host : String} {v1 v2 v3 : Value} (hdg : decode Y.2.1 pc = .ok (.invokestatic index, 3)) (hN : ow_nw2 = Cond.methodLinkNest Y.1.cls index Y'.1 host) (hL : Cond.static Y'.1 ∈ ow_ws) (hC : ow_Cd Y' 3) (hd : d'.1 + 1 ≤ d.1 ∧ (S.map fun v => v.category).sum + (Y'.2.2.1 + 11 + d'.2) ≤ d.2) (hh : ∀ q ∈ Y.2.2.2.2, ¬ (q.1 ≤ pc ∧ pc < q.2.1)) (kk : MT l Y' d' [v1, v2, v3] u (ow_next l Y sc d Q (pc + 3) L S)) : AW l Y sc d Q pc L (v3 :: v2 :: v1 :: S) u := aw_callSN (vs := [v1, v2, v3]) hdg hN hL hC rfl hd hh kk
theorem aw_cV4 {index a ci : Nat} {C : String} {T0 : u_T} {v1 v2 v3 v4 : Value} (hdg : decode Y.2.1 pc = .ok (.invokevirtual index, 3)) (hL : ow_LV Y.1.cls index Y' C) (hC : ow_Cd Y' 4) (ha : a < u.1) (hk : ow_kd a = (0, ci)) (hci : ow_cl[ci]? = some (C, T0, ow_nf ci)) (hd : d'.1 + 1 ≤ d.1 ∧ (S.map fun v => v.category).sum + (Y'.2.2.1 + 11 + d'.2) ≤ d.2) (hh : ∀ q ∈ Y.2.2.2.2, ¬ (q.1 ≤ pc ∧ pc < q.2.1)) (kk : MT l Y' d' (.ref a :: [v1, v2, v3, v4]) u (ow_next l Y sc d Q (pc + 3) L S)) : AW l Y sc d Q pc L (v4 :: v3 :: v2 :: v1 :: .ref a :: S) u := aw_callV (vs := [v1, v2, v3, v4]) hdg hL hC ha hk hci rfl hd hh kk
theorem aw_cT4 {index a ci : Nat} {C : String} {T0 : u_T} {v1 v2 v3 v4 : Value} (hdg : decode Y.2.1 pc = .ok (.invokevirtual index, 3)) (hL : ow_LV Y.1.cls index Y' C) (hC : ow_Cd Y' 4) (ha : a < u.1) (hk : ow_kd a = (0, ci)) (hci : ow_cl[ci]? = some (C, T0, ow_nf ci)) (hd : d'.1 + 1 ≤ d.1 ∧ (S.map fun v => v.category).sum + (Y'.2.2.1 + 11 + d'.2) ≤ d.2) (kk : MT l Y' d' (.ref a :: [v1, v2, v3, v4]) u (ow_nextT l Y sc d Q pc L S)) : AW l Y sc d Q pc L (v4 :: v3 :: v2 :: v1 :: .ref a :: S) u := aw_callVT (vs := [v1, v2, v3, v4]) hdg hL hC ha hk hci rfl hd kk
theorem aw_cS4 {index : Nat} {v1 v2 v3 v4 : Value} (hdg : decode Y.2.1 pc = .ok (.invokestatic index, 3)) (hL : ow_LS Y.1.cls index Y') (hC : ow_Cd Y' 4) (hd : d'.1 + 1 ≤ d.1 ∧ (S.map fun v => v.category).sum + (Y'.2.2.1 + 11 + d'.2) ≤ d.2) (hh : ∀ q ∈ Y.2.2.2.2, ¬ (q.1 ≤ pc ∧ pc < q.2.1)) (kk : MT l Y' d' [v1, v2, v3, v4] u (ow_next l Y sc d Q (pc + 3) L S)) : AW l Y sc d Q pc L (v4 :: v3 :: v2 :: v1 :: S) u := aw_callS (vs := [v1, v2, v3, v4]) hdg hL hC rfl hd hh kk
theorem aw_cN4 {index : Nat} {host : String} {v1 v2 v3 v4 : Value} (hdg : decode Y.2.1 pc = .ok (.invokestatic index, 3)) (hN : ow_nw2 = Cond.methodLinkNest Y.1.cls index Y'.1 host) (hL : Cond.static Y'.1 ∈ ow_ws) (hC : ow_Cd Y' 4) (hd : d'.1 + 1 ≤ d.1 ∧ (S.map fun v => v.category).sum + (Y'.2.2.1 + 11 + d'.2) ≤ d.2) (hh : ∀ q ∈ Y.2.2.2.2, ¬ (q.1 ≤ pc ∧ pc < q.2.1)) (kk : MT l Y' d' [v1, v2, v3, v4] u (ow_next l Y sc d Q (pc + 3) L S)) : AW l Y sc d Q pc L (v4 :: v3 :: v2 :: v1 :: S) u := aw_callSN (vs := [v1, v2, v3, v4]) hdg hN hL hC rfl hd hh kk
theorem aw_cV5 {index a ci : Nat} {C : String} {T0 : u_T} {v1 v2 v3 v4 v5 : Value} (hdg : decode Y.2.1 pc = .ok (.invokevirtual index, 3)) (hL : ow_LV Y.1.cls index Y' C) (hC : ow_Cd Y' 5) (ha : a < u.1) (hk : ow_kd a = (0, ci)) (hci : ow_cl[ci]? = some (C, T0, ow_nf ci)) (hd : d'.1 + 1 ≤ d.1 ∧ (S.map fun v => v.category).sum + (Y'.2.2.1 + 11 + d'.2) ≤ d.2) (hh : ∀ q ∈ Y.2.2.2.2, ¬ (q.1 ≤ pc ∧ pc < q.2.1)) (kk : MT l Y' d' (.ref a :: [v1, v2, v3, v4, v5]) u (ow_next l Y sc d Q (pc + 3) L S)) : AW l Y sc d Q pc L (v5 :: v4 :: v3 :: v2 :: v1 :: .ref a :: S) u := aw_callV (vs := [v1, v2, v3, v4, v5]) hdg hL hC ha hk hci rfl hd hh kk
theorem aw_cT5 {index a ci : Nat} {C : String} {T0 : u_T} {v1 v2 v3 v4 v5 : Value} (hdg : decode Y.2.1 pc = .ok (.invokevirtual index, 3)) (hL : ow_LV Y.1.cls index Y' C) (hC : ow_Cd Y' 5) (ha : a < u.1) (hk : ow_kd a = (0, ci)) (hci : ow_cl[ci]? = some (C, T0, ow_nf ci)) (hd : d'.1 + 1 ≤ d.1 ∧ (S.map fun v => v.category).sum + (Y'.2.2.1 + 11 + d'.2) ≤ d.2) (kk : MT l Y' d' (.ref a :: [v1, v2, v3, v4, v5]) u (ow_nextT l Y sc d Q pc L S)) : AW l Y sc d Q pc L (v5 :: v4 :: v3 :: v2 :: v1 :: .ref a :: S) u := aw_callVT (vs := [v1, v2, v3, v4, v5]) hdg hL hC ha hk hci rfl hd kk
theorem aw_cS5 {index : Nat} {v1 v2 v3 v4 v5 : Value} (hdg : decode Y.2.1 pc = .ok (.invokestatic index, 3)) (hL : ow_LS Y.1.cls index Y') (hC : ow_Cd Y' 5) (hd : d'.1 + 1 ≤ d.1 ∧ (S.map fun v => v.category).sum + (Y'.2.2.1 + 11 + d'.2) ≤ d.2) (hh : ∀ q ∈ Y.2.2.2.2, ¬ (q.1 ≤ pc ∧ pc < q.2.1)) (kk : MT l Y' d' [v1, v2, v3, v4, v5] u (ow_next l Y sc d Q (pc + 3) L S)) : AW l Y sc d Q pc L (v5 :: v4 :: v3 :: v2 :: v1 :: S) u := aw_callS (vs := [v1, v2, v3, v4, v5]) hdg hL hC rfl hd hh kk
theorem aw_cN5 {index : Nat} {host : String} {v1 v2 v3 v4 v5 : Value} (hdg : decode Y.2.1 pc = .ok (.invokestatic index, 3)) (hN : ow_nw2 = Cond.methodLinkNest Y.1.cls index Y'.1 host) (hL : Cond.static Y'.1 ∈ ow_ws) (hC : ow_Cd Y' 5) (hd : d'.1 + 1 ≤ d.1 ∧ (S.map fun v => v.category).sum + (Y'.2.2.1 + 11 + d'.2) ≤ d.2) (hh : ∀ q ∈ Y.2.2.2.2, ¬ (q.1 ≤ pc ∧ pc < q.2.1)) (kk : MT l Y' d' [v1, v2, v3, v4, v5] u (ow_next l Y sc d Q (pc + 3) L S)) : AW l Y sc d Q pc L (v5 :: v4 :: v3 :: v2 :: v1 :: S) u := aw_callSN (vs := [v1, v2, v3, v4, v5]) hdg hN hL hC rfl hd hh kk
end OwC
theorem lkN_B_50 : Cond.static Y_R_hasBit.1 ∈ ow_ws := tb2 147 rfl rfl
end
section
/-! Plan -/
theorem nI_ix {x : Int32} {n : Nat} (h0 : 0 ≤ x) (h1 : x < nI n) (hn : n < 2 ^ 31) : ∃ j : Nat, j < n ∧ x = nI j := by
  obtain ⟨j, hj, rfl⟩ := nI_of (x := x) (Int32.not_lt.mpr h0)
  exact ⟨j, (nI_ltI hj hn).mp h1, rfl⟩
section TPlan
variable {l : Launch} {Q : ow_R → ow_M → Prop} {M : Nat → Nat → Int32} {K : Int64} {b : Nat}
/-- P_hasSet -/
theorem t_P_hasSet {t : Int32} (hq : Q (.inl (some (if 0 ≤ t ∧ t < M 1 1 then 1 else 0))) (mm M K b)) : MT l Y_P_hasSet (0, 0) [.ref 1, .int t] (mm M K b) Q := by
  refine mt_of (k := 0) (by decide) cd_P_hasSet.1 (by simp [Value.category]) rfl ?_
  refine aw_iload_n d_P_hasSet_0 rfl ?_
  refine aw_if_lt (tgt := 16) d_P_hasSet_1 rfl (fun g1 => ?_) (fun g1 => ?_)
  · refine aw_iconst (v := 0) d_P_hasSet_16 (by decide) ?_
    refine aw_iret d_P_hasSet_17 rfl rfl ?_
    first | (rw [if_pos (by grind)] at hq; exact hq) | (rw [if_neg (by grind)] at hq; exact hq)
  · refine aw_iload_n d_P_hasSet_4 rfl ?_
    refine aw_aload_n d_P_hasSet_5 rfl ?_
    refine mm_geti f_P_15 d_P_hasSet_6 (by decide) rfl rfl ?_
    refine aw_icmp_ge (tgt := 16) d_P_hasSet_9 rfl (fun g9 => ?_) (fun g9 => ?_)
    · refine aw_iconst (v := 0) d_P_hasSet_16 (by decide) ?_
      refine aw_iret d_P_hasSet_17 rfl rfl ?_
      first | (rw [if_pos (by grind)] at hq; exact hq) | (rw [if_neg (by grind)] at hq; exact hq)
    · refine aw_iconst (v := 1) d_P_hasSet_12 (by decide) ?_
      refine aw_goto (tgt := 17) d_P_hasSet_13 rfl ?_
      refine aw_iret d_P_hasSet_17 rfl rfl ?_
      first | (rw [if_pos (by grind)] at hq; exact hq) | (rw [if_neg (by grind)] at hq; exact hq)
/-- P_hasField -/
theorem t_P_hasField {t f : Int32} {tc : Nat} (htc : M 1 0 = nI tc) (h4 : tc ≤ 4) (hq : Q (.inl (some (if 0 ≤ t ∧ t < M 1 0 ∧ 0 ≤ f ∧ f < M 2 t.toNatClampNeg then 1 else 0))) (mm M K b)) : MT l Y_P_hasField (1, 13) [.ref 1, .int t, .int f] (mm M K b) Q := by
  refine mt_of (k := 0) (by decide) cd_P_hasField.1 (by simp [Value.category]) rfl ?_
  refine aw_aload_n d_P_hasField_0 rfl ?_
  refine aw_iload_n d_P_hasField_1 rfl ?_
  refine aw_cV1 (d' := (0, 0)) d_P_hasField_2 lk_P_34 cd_P_hasType (Nat.le_of_ble_eq_true rfl) rfl rfl ⟨Nat.le_of_ble_eq_true rfl, Nat.le_of_ble_eq_true rfl⟩ (fun _ h => nomatch h) ?_
  refine t_P_hasType ?_
  refine ow_next_i ?_
  refine aw_if_eq (tgt := 26) d_P_hasField_5 rfl (fun g5 => ?_) (fun g5 => ?_)
  · refine aw_iconst (v := 0) d_P_hasField_26 (by decide) ?_
    refine aw_iret d_P_hasField_27 rfl rfl ?_
    first | (rw [if_pos (by grind [nI_clamp])] at hq; exact hq) | (rw [if_neg (by grind [nI_clamp])] at hq; exact hq)
  · obtain ⟨j, hj, rfl⟩ := nI_ix (x := t) (n := tc) (by grind) (by grind) (by omega)
    refine aw_iload_n d_P_hasField_8 rfl ?_
    refine aw_if_lt (tgt := 26) d_P_hasField_9 rfl (fun g9 => ?_) (fun g9 => ?_)
    · refine aw_iconst (v := 0) d_P_hasField_26 (by decide) ?_
      refine aw_iret d_P_hasField_27 rfl rfl ?_
      first | (rw [if_pos (by grind [nI_clamp])] at hq; exact hq) | (rw [if_neg (by grind [nI_clamp])] at hq; exact hq)
    · refine aw_iload_n d_P_hasField_12 rfl ?_
      refine aw_aload_n d_P_hasField_13 rfl ?_
      refine mm_getr (t := 2) f_P_18 d_P_hasField_14 (by decide) rfl rfl rfl ?_
      refine aw_iload_n d_P_hasField_17 rfl ?_
      refine mm_iald rfl d_P_hasField_18 (by decide) rfl (by omega) (by decide) ?_
      refine aw_icmp_ge (tgt := 26) d_P_hasField_19 rfl (fun g19 => ?_) (fun g19 => ?_)
      · refine aw_iconst (v := 0) d_P_hasField_26 (by decide) ?_
        refine aw_iret d_P_hasField_27 rfl rfl ?_
        first | (rw [if_pos (by grind [nI_clamp])] at hq; exact hq) | (rw [if_neg (by grind [nI_clamp])] at hq; exact hq)
      · refine aw_iconst (v := 1) d_P_hasField_22 (by decide) ?_
        refine aw_goto (tgt := 27) d_P_hasField_23 rfl ?_
        refine aw_iret d_P_hasField_27 rfl rfl ?_
        first | (rw [if_pos (by grind [nI_clamp])] at hq; exact hq) | (rw [if_neg (by grind [nI_clamp])] at hq; exact hq)
/-- P_joinsWhenStored -/
theorem t_P_joinsWhenStored {s : Nat} {t : Int32} (hs : s < 5) (hq : Q (.inl (some (if M 4 s = t ∧ 3 ≤ M 6 s then 1 else 0))) (mm M K b)) : MT l Y_P_joinsWhenStored (0, 0) [.ref 1, .int (nI s), .int t] (mm M K b) Q := by
  refine mt_of (k := 0) (by decide) cd_P_joinsWhenStored.1 (by simp [Value.category]) rfl ?_
  refine aw_aload_n d_P_joinsWhenStored_0 rfl ?_
  refine mm_getr (t := 4) f_P_25 d_P_joinsWhenStored_1 (by decide) rfl rfl rfl ?_
  refine aw_iload_n d_P_joinsWhenStored_4 rfl ?_
  refine mm_iald rfl d_P_joinsWhenStored_5 (by decide) rfl (by omega) (by decide) ?_
  refine aw_iload_n d_P_joinsWhenStored_6 rfl ?_
  refine aw_icmp_ne (tgt := 24) d_P_joinsWhenStored_7 rfl (fun g7 => ?_) (fun g7 => ?_)
  · refine aw_iconst (v := 0) d_P_joinsWhenStored_24 (by decide) ?_
    refine aw_iret d_P_joinsWhenStored_25 rfl rfl ?_
    first | (rw [if_pos (by grind)] at hq; exact hq) | (rw [if_neg (by grind)] at hq; exact hq)
  · refine aw_aload_n d_P_joinsWhenStored_10 rfl ?_
    refine mm_getr (t := 6) f_P_31 d_P_joinsWhenStored_11 (by decide) rfl rfl rfl ?_
    refine aw_iload_n d_P_joinsWhenStored_14 rfl ?_
    refine mm_iald rfl d_P_joinsWhenStored_15 (by decide) rfl (by omega) (by decide) ?_
    refine aw_iconst (v := 3) d_P_joinsWhenStored_16 (by decide) ?_
    refine aw_icmp_lt (tgt := 24) d_P_joinsWhenStored_17 rfl (fun g17 => ?_) (fun g17 => ?_)
    · refine aw_iconst (v := 0) d_P_joinsWhenStored_24 (by decide) ?_
      refine aw_iret d_P_joinsWhenStored_25 rfl rfl ?_
      first | (rw [if_pos (by grind)] at hq; exact hq) | (rw [if_neg (by grind)] at hq; exact hq)
    · refine aw_iconst (v := 1) d_P_joinsWhenStored_20 (by decide) ?_
      refine aw_goto (tgt := 25) d_P_joinsWhenStored_21 rfl ?_
      refine aw_iret d_P_joinsWhenStored_25 rfl rfl ?_
      first | (rw [if_pos (by grind)] at hq; exact hq) | (rw [if_neg (by grind)] at hq; exact hq)
/-- P_hold -/
theorem t_P_hold {s : Nat} (hs : s < 5) (hq : Q (.inl (some (M 6 s - M 6 s / 3 * 3))) (mm M K b)) : MT l Y_P_hold (0, 0) [.ref 1, .int (nI s)] (mm M K b) Q := by
  refine mt_of (k := 0) (by decide) cd_P_hold.1 (by simp [Value.category]) rfl ?_
  refine aw_aload_n d_P_hold_0 rfl ?_
  refine mm_getr (t := 6) f_P_31 d_P_hold_1 (by decide) rfl rfl rfl ?_
  refine aw_iload_n d_P_hold_4 rfl ?_
  refine mm_iald rfl d_P_hold_5 (by decide) rfl (by omega) (by decide) ?_
  refine aw_iconst (v := 3) d_P_hold_6 (by decide) ?_
  refine aw_irem d_P_hold_7 (by decide) ?_
  refine aw_iret d_P_hold_8 rfl rfl ?_
  exact hq
/-- P_goesWithOwner -/
theorem t_P_goesWithOwner {s : Nat} {m : Int32} (hs : s < 5) (hq : Q (.inl (some (if M 6 s - M 6 s / 3 * 3 < m then 1 else 0))) (mm M K b)) : MT l Y_P_goesWithOwner (1, 13) [.ref 1, .int (nI s), .int m] (mm M K b) Q := by
  refine mt_of (k := 0) (by decide) cd_P_goesWithOwner.1 (by simp [Value.category]) rfl ?_
  refine aw_aload_n d_P_goesWithOwner_0 rfl ?_
  refine aw_iload_n d_P_goesWithOwner_1 rfl ?_
  refine aw_cV1 (d' := (0, 0)) d_P_goesWithOwner_2 lk_P_42 cd_P_hold (Nat.le_of_ble_eq_true rfl) rfl rfl ⟨Nat.le_of_ble_eq_true rfl, Nat.le_of_ble_eq_true rfl⟩ (fun _ h => nomatch h) ?_
  refine t_P_hold hs ?_
  refine ow_next_i ?_
  refine aw_iload_n d_P_goesWithOwner_5 rfl ?_
  refine aw_icmp_ge (tgt := 13) d_P_goesWithOwner_6 rfl (fun g6 => ?_) (fun g6 => ?_)
  · refine aw_iconst (v := 0) d_P_goesWithOwner_13 (by decide) ?_
    refine aw_iret d_P_goesWithOwner_14 rfl rfl ?_
    first | (rw [if_pos (by grind)] at hq; exact hq) | (rw [if_neg (by grind)] at hq; exact hq)
  · refine aw_iconst (v := 1) d_P_goesWithOwner_9 (by decide) ?_
    refine aw_goto (tgt := 14) d_P_goesWithOwner_10 rfl ?_
    refine aw_iret d_P_goesWithOwner_14 rfl rfl ?_
    first | (rw [if_pos (by grind)] at hq; exact hq) | (rw [if_neg (by grind)] at hq; exact hq)
/-- P_isSorted -/
theorem t_P_isSorted {s : Nat} (hs : s < 5) (hq : Q (.inl (some (if 10 ≤ M 5 s then 1 else 0))) (mm M K b)) : MT l Y_P_isSorted (0, 0) [.ref 1, .int (nI s)] (mm M K b) Q := by
  refine mt_of (k := 0) (by decide) cd_P_isSorted.1 (by simp [Value.category]) rfl ?_
  refine aw_aload_n d_P_isSorted_0 rfl ?_
  refine mm_getr (t := 5) f_P_28 d_P_isSorted_1 (by decide) rfl rfl rfl ?_
  refine aw_iload_n d_P_isSorted_4 rfl ?_
  refine mm_iald rfl d_P_isSorted_5 (by decide) rfl (by omega) (by decide) ?_
  refine aw_bipush (v := 10) d_P_isSorted_6 (by decide) ?_
  refine aw_icmp_lt (tgt := 15) d_P_isSorted_8 rfl (fun g8 => ?_) (fun g8 => ?_)
  · refine aw_iconst (v := 0) d_P_isSorted_15 (by decide) ?_
    refine aw_iret d_P_isSorted_16 rfl rfl ?_
    first | (rw [if_pos (by grind)] at hq; exact hq) | (rw [if_neg (by grind)] at hq; exact hq)
  · refine aw_iconst (v := 1) d_P_isSorted_11 (by decide) ?_
    refine aw_goto (tgt := 16) d_P_isSorted_12 rfl ?_
    refine aw_iret d_P_isSorted_16 rfl rfl ?_
    first | (rw [if_pos (by grind)] at hq; exact hq) | (rw [if_neg (by grind)] at hq; exact hq)
/-- P_sortField -/
theorem t_P_sortField {s : Nat} (hs : s < 5) (hq : Q (.inl (some (M 5 s - M 5 s / 10 * 10))) (mm M K b)) : MT l Y_P_sortField (0, 0) [.ref 1, .int (nI s)] (mm M K b) Q := by
  refine mt_of (k := 0) (by decide) cd_P_sortField.1 (by simp [Value.category]) rfl ?_
  refine aw_aload_n d_P_sortField_0 rfl ?_
  refine mm_getr (t := 5) f_P_28 d_P_sortField_1 (by decide) rfl rfl rfl ?_
  refine aw_iload_n d_P_sortField_4 rfl ?_
  refine mm_iald rfl d_P_sortField_5 (by decide) rfl (by omega) (by decide) ?_
  refine aw_bipush (v := 10) d_P_sortField_6 (by decide) ?_
  refine aw_irem d_P_sortField_8 (by decide) ?_
  refine aw_iret d_P_sortField_9 rfl rfl ?_
  exact hq
/-- P_isSortedBy -/
theorem t_P_isSortedBy {s : Nat} {f : Int32} (hs : s < 5) (hq : Q (.inl (some (if 10 ≤ M 5 s ∧ M 5 s - M 5 s / 10 * 10 = f then 1 else 0))) (mm M K b)) : MT l Y_P_isSortedBy (1, 13) [.ref 1, .int (nI s), .int f] (mm M K b) Q := by
  refine mt_of (k := 0) (by decide) cd_P_isSortedBy.1 (by simp [Value.category]) rfl ?_
  refine aw_aload_n d_P_isSortedBy_0 rfl ?_
  refine aw_iload_n d_P_isSortedBy_1 rfl ?_
  refine aw_cV1 (d' := (0, 0)) d_P_isSortedBy_2 lk_P_46 cd_P_isSorted (Nat.le_of_ble_eq_true rfl) rfl rfl ⟨Nat.le_of_ble_eq_true rfl, Nat.le_of_ble_eq_true rfl⟩ (fun _ h => nomatch h) ?_
  refine t_P_isSorted hs ?_
  refine ow_next_i ?_
  refine aw_if_eq (tgt := 21) d_P_isSortedBy_5 rfl (fun g5 => ?_) (fun g5 => ?_)
  · refine aw_iconst (v := 0) d_P_isSortedBy_21 (by decide) ?_
    refine aw_iret d_P_isSortedBy_22 rfl rfl ?_
    first | (rw [if_pos (by grind)] at hq; exact hq) | (rw [if_neg (by grind)] at hq; exact hq)
  · refine aw_aload_n d_P_isSortedBy_8 rfl ?_
    refine aw_iload_n d_P_isSortedBy_9 rfl ?_
    refine aw_cV1 (d' := (0, 0)) d_P_isSortedBy_10 lk_P_49 cd_P_sortField (Nat.le_of_ble_eq_true rfl) rfl rfl ⟨Nat.le_of_ble_eq_true rfl, Nat.le_of_ble_eq_true rfl⟩ (fun _ h => nomatch h) ?_
    refine t_P_sortField hs ?_
    refine ow_next_i ?_
    refine aw_iload_n d_P_isSortedBy_13 rfl ?_
    refine aw_icmp_ne (tgt := 21) d_P_isSortedBy_14 rfl (fun g14 => ?_) (fun g14 => ?_)
    · refine aw_iconst (v := 0) d_P_isSortedBy_21 (by decide) ?_
      refine aw_iret d_P_isSortedBy_22 rfl rfl ?_
      first | (rw [if_pos (by grind)] at hq; exact hq) | (rw [if_neg (by grind)] at hq; exact hq)
    · refine aw_iconst (v := 1) d_P_isSortedBy_17 (by decide) ?_
      refine aw_goto (tgt := 22) d_P_isSortedBy_18 rfl ?_
      refine aw_iret d_P_isSortedBy_22 rfl rfl ?_
      first | (rw [if_pos (by grind)] at hq; exact hq) | (rw [if_neg (by grind)] at hq; exact hq)
end TPlan
end
section
/-! Base; the last rows of Plan -/
theorem loop_dn {P : Nat → Prop} (N : Nat) (h : ∀ i, i ≤ N → (i < N → P (i + 1)) → P i) : ∀ i, i ≤ N → P i := by
  have key : ∀ k i, i + k = N → P i := by
    intro k
    induction k with
    | zero => intro i hi; exact h i (by omega) (fun h2 => by omega)
    | succ k ih => intro i hi; exact h i (by omega) (fun _ => ih (i + 1) (by omega))
  intro i hi
  exact key (N - i) i (by omega)
theorem ge_n {i n : Nat} {x : Int32} (hx : x = nI n) (hi : i ≤ n) (hn : n < 2 ^ 31) (g : x ≤ nI i) : i = n := by
  subst hx
  have := (nI_leI hn (by omega)).mp g
  omega
theorem lt_n {i n : Nat} {x : Int32} (hx : x = nI n) (hi : i ≤ n) (hn : n < 2 ^ 31) (g : ¬ x ≤ nI i) : i < n := by
  subst hx
  have := mt (nI_leI (a := n) (b := i) hn (by omega)).mpr g
  omega
theorem q_mem {Q : ow_R → ow_M → Prop} {r : ow_R} {M M' : Nat → Nat → Int32} {K : Int64} {b : Nat} (h : Q r (mm M K b)) (e : M' = M) : Q r (mm M' K b) := e ▸ h
/-- how many k below n -/
def cn (p : Nat → Bool) : Nat → Nat
  | 0 => 0
  | n + 1 => cn p n + (if p n = true then 1 else 0)
theorem cn_le (p : Nat → Bool) (n : Nat) : cn p n ≤ n := by
  induction n with
  | zero => exact Nat.le_refl _
  | succ n ih => simp only [cn]; split <;> omega
/-- the ring o of the set s moved by 'by' from 'fr' on, the places below i -/
def shf (M : Nat → Nat → Int32) (s : Nat) (ow fr by_ : Int32) (i : Nat) : Nat → Nat → Int32 := fun c p => if c = 21 + s ∧ p < i ∧ M (15 + s) p = ow ∧ fr ≤ M (21 + s) p then M c p + by_ else M c p
theorem shf_0 (M : Nat → Nat → Int32) (s : Nat) (ow fr by_ : Int32) : shf M s ow fr by_ 0 = M := by
  funext c p; simp [shf]
theorem shf_no {M : Nat → Nat → Int32} {s i : Nat} {ow fr by_ : Int32} (h : ¬ (M (15 + s) i = ow ∧ fr ≤ M (21 + s) i)) : shf M s ow fr by_ (i + 1) = shf M s ow fr by_ i := by
  funext c p
  by_cases hp : p = i
  · subst hp; simp only [shf]; simp [h]
  · simp only [shf]
    have : p < i + 1 ↔ p < i := by omega
    simp only [this]
theorem shf_yes {M : Nat → Nat → Int32} {s i : Nat} {ow fr by_ : Int32} (h : M (15 + s) i = ow ∧ fr ≤ M (21 + s) i) : shf M s ow fr by_ (i + 1) = ow_u (shf M s ow fr by_ i) (21 + s) i (M (21 + s) i + by_) := by
  funext c p
  by_cases hc : c = 21 + s
  · subst hc
    by_cases hp : p = i
    · subst hp; simp [shf, ow_u, upd, h]
    · have : p < i + 1 ↔ p < i := by omega
      simp [shf, ow_u, upd, hp, this]
  · simp [shf, ow_u, hc]
theorem shf_own {M : Nat → Nat → Int32} {s i : Nat} {ow fr by_ : Int32} {c : Nat} (h : c ≠ 21 + s) : shf M s ow fr by_ i c = M c := by
  funext p; simp [shf, h]
theorem shf_at {M : Nat → Nat → Int32} {s i : Nat} {ow fr by_ : Int32} {p : Nat} (h : i ≤ p) : shf M s ow fr by_ i (21 + s) p = M (21 + s) p := by
  simp [shf, Nat.not_lt.mpr h]
section TBase
variable {l : Launch} {Q : ow_R → ow_M → Prop} {M : Nat → Nat → Int32} {K : Int64} {b : Nat}
/-- P_isOrder -/
theorem t_P_isOrder {x t : Int32} {tc : Nat} (htc : M 1 0 = nI tc) (h4 : tc ≤ 4) (hq : Q (.inl (some (if (0 ≤ x ∧ x ≤ 3) ∨ (10 ≤ x ∧ x < 40 ∧ 0 ≤ t ∧ t < M 1 0 ∧ 0 ≤ x - x / 10 * 10 ∧ x - x / 10 * 10 < M 2 t.toNatClampNeg) then 1 else 0))) (mm M K b)) : MT l Y_P_isOrder (2, 27) [.ref 1, .int x, .int t] (mm M K b) Q := by
  refine mt_of (k := 0) (by decide) cd_P_isOrder.1 (by simp [Value.category]) rfl ?_
  refine aw_iload_n d_P_isOrder_0 rfl ?_
  refine aw_if_lt (tgt := 11) d_P_isOrder_1 rfl (fun g1 => ?_) (fun g1 => ?_)
  · refine aw_iload_n d_P_isOrder_11 rfl ?_
    refine aw_bipush (v := 10) d_P_isOrder_12 (by decide) ?_
    refine aw_icmp_lt (tgt := 39) d_P_isOrder_14 rfl (fun g14 => ?_) (fun g14 => ?_)
    · refine aw_iconst (v := 0) d_P_isOrder_39 (by decide) ?_
      refine aw_iret d_P_isOrder_40 rfl rfl ?_
      first | (rw [if_pos (by grind)] at hq; exact hq) | (rw [if_neg (by grind)] at hq; exact hq)
    · refine aw_iload_n d_P_isOrder_17 rfl ?_
      refine aw_bipush (v := 40) d_P_isOrder_18 (by decide) ?_
      refine aw_icmp_ge (tgt := 39) d_P_isOrder_20 rfl (fun g20 => ?_) (fun g20 => ?_)
      · refine aw_iconst (v := 0) d_P_isOrder_39 (by decide) ?_
        refine aw_iret d_P_isOrder_40 rfl rfl ?_
        first | (rw [if_pos (by grind)] at hq; exact hq) | (rw [if_neg (by grind)] at hq; exact hq)
      · refine aw_aload_n d_P_isOrder_23 rfl ?_
        refine aw_iload_n d_P_isOrder_24 rfl ?_
        refine aw_iload_n d_P_isOrder_25 rfl ?_
        refine aw_bipush (v := 10) d_P_isOrder_26 (by decide) ?_
        refine aw_irem d_P_isOrder_28 (by decide) ?_
        refine aw_cV2 (d' := (1, 13)) d_P_isOrder_29 lk_P_38 cd_P_hasField (Nat.le_of_ble_eq_true rfl) rfl rfl ⟨Nat.le_of_ble_eq_true rfl, Nat.le_of_ble_eq_true rfl⟩ (fun _ h => nomatch h) ?_
        refine t_P_hasField htc h4 ?_
        refine ow_next_i ?_
        refine aw_if_eq (tgt := 39) d_P_isOrder_32 rfl (fun g32 => ?_) (fun g32 => ?_)
        · refine aw_iconst (v := 0) d_P_isOrder_39 (by decide) ?_
          refine aw_iret d_P_isOrder_40 rfl rfl ?_
          first | (rw [if_pos (by grind)] at hq; exact hq) | (rw [if_neg (by grind)] at hq; exact hq)
        · refine aw_iconst (v := 1) d_P_isOrder_35 (by decide) ?_
          refine aw_goto (tgt := 40) d_P_isOrder_36 rfl ?_
          refine aw_iret d_P_isOrder_40 rfl rfl ?_
          first | (rw [if_pos (by grind)] at hq; exact hq) | (rw [if_neg (by grind)] at hq; exact hq)
  · refine aw_iload_n d_P_isOrder_4 rfl ?_
    refine aw_iconst (v := 3) d_P_isOrder_5 (by decide) ?_
    refine aw_icmp_gt (tgt := 11) d_P_isOrder_6 rfl (fun g6 => ?_) (fun g6 => ?_)
    · refine aw_iload_n d_P_isOrder_11 rfl ?_
      refine aw_bipush (v := 10) d_P_isOrder_12 (by decide) ?_
      refine aw_icmp_lt (tgt := 39) d_P_isOrder_14 rfl (fun g14 => ?_) (fun g14 => ?_)
      · refine aw_iconst (v := 0) d_P_isOrder_39 (by decide) ?_
        refine aw_iret d_P_isOrder_40 rfl rfl ?_
        first | (rw [if_pos (by grind)] at hq; exact hq) | (rw [if_neg (by grind)] at hq; exact hq)
      · refine aw_iload_n d_P_isOrder_17 rfl ?_
        refine aw_bipush (v := 40) d_P_isOrder_18 (by decide) ?_
        refine aw_icmp_ge (tgt := 39) d_P_isOrder_20 rfl (fun g20 => ?_) (fun g20 => ?_)
        · refine aw_iconst (v := 0) d_P_isOrder_39 (by decide) ?_
          refine aw_iret d_P_isOrder_40 rfl rfl ?_
          first | (rw [if_pos (by grind)] at hq; exact hq) | (rw [if_neg (by grind)] at hq; exact hq)
        · refine aw_aload_n d_P_isOrder_23 rfl ?_
          refine aw_iload_n d_P_isOrder_24 rfl ?_
          refine aw_iload_n d_P_isOrder_25 rfl ?_
          refine aw_bipush (v := 10) d_P_isOrder_26 (by decide) ?_
          refine aw_irem d_P_isOrder_28 (by decide) ?_
          refine aw_cV2 (d' := (1, 13)) d_P_isOrder_29 lk_P_38 cd_P_hasField (Nat.le_of_ble_eq_true rfl) rfl rfl ⟨Nat.le_of_ble_eq_true rfl, Nat.le_of_ble_eq_true rfl⟩ (fun _ h => nomatch h) ?_
          refine t_P_hasField htc h4 ?_
          refine ow_next_i ?_
          refine aw_if_eq (tgt := 39) d_P_isOrder_32 rfl (fun g32 => ?_) (fun g32 => ?_)
          · refine aw_iconst (v := 0) d_P_isOrder_39 (by decide) ?_
            refine aw_iret d_P_isOrder_40 rfl rfl ?_
            first | (rw [if_pos (by grind)] at hq; exact hq) | (rw [if_neg (by grind)] at hq; exact hq)
          · refine aw_iconst (v := 1) d_P_isOrder_35 (by decide) ?_
            refine aw_goto (tgt := 40) d_P_isOrder_36 rfl ?_
            refine aw_iret d_P_isOrder_40 rfl rfl ?_
            first | (rw [if_pos (by grind)] at hq; exact hq) | (rw [if_neg (by grind)] at hq; exact hq)
    · refine aw_iconst (v := 1) d_P_isOrder_9 (by decide) ?_
      refine aw_iret d_P_isOrder_10 rfl rfl ?_
      first | (rw [if_pos (by grind)] at hq; exact hq) | (rw [if_neg (by grind)] at hq; exact hq)
/-- P_addType -/
theorem t_P_addType {x : Int32} {tc : Nat} (htc : M 1 0 = nI tc) (h4 : tc < 4) (hq : Q (.inl (some (M 1 0 + 1 - 1))) (mm (ow_u (ow_u M 2 tc x) 1 0 (M 1 0 + 1)) K b)) : MT l Y_P_addType (0, 0) [.ref 1, .int x] (mm M K b) Q := by
  refine mt_of (k := 0) (by decide) cd_P_addType.1 (by simp [Value.category]) rfl ?_
  refine aw_aload_n d_P_addType_0 rfl ?_
  refine mm_getr (t := 2) f_P_18 d_P_addType_1 (by decide) rfl rfl rfl ?_
  refine aw_aload_n d_P_addType_4 rfl ?_
  refine mm_geti f_P_9 d_P_addType_5 (by decide) rfl rfl ?_
  refine aw_iload_n d_P_addType_8 rfl ?_
  refine mm_iast htc d_P_addType_9 (by decide) rfl (by omega) (by decide) ?_
  refine aw_aload_n d_P_addType_10 rfl ?_
  refine aw_dup d_P_addType_11 rfl ?_
  refine mm_geti f_P_9 d_P_addType_12 (by decide) rfl rfl ?_
  refine aw_iconst (v := 1) d_P_addType_15 (by decide) ?_
  refine aw_iadd d_P_addType_16 ?_
  refine mm_puti fw_P_9 d_P_addType_17 (by decide) rfl rfl rfl rfl ?_
  refine aw_aload_n d_P_addType_20 rfl ?_
  refine mm_geti f_P_9 d_P_addType_21 (by decide) rfl rfl ?_
  refine aw_iconst (v := 1) d_P_addType_24 (by decide) ?_
  refine aw_isub d_P_addType_25 ?_
  refine aw_iret d_P_addType_26 rfl rfl ?_
  simpa [ow_u, upd] using hq
/-- P_addSet -/
theorem t_P_addSet {x1 x2 x3 x4 : Int32} {sc : Nat} (hsc : M 1 1 = nI sc) (h5 : sc < 5) (hq : Q (.inl (some (M 1 1 + 1 - 1))) (mm (ow_u (ow_u (ow_u (ow_u (ow_u M 3 sc x1) 4 sc x2) 5 sc x3) 6 sc x4) 1 1 (M 1 1 + 1)) K b)) : MT l Y_P_addSet (0, 0) [.ref 1, .int x1, .int x2, .int x3, .int x4] (mm M K b) Q := by
  refine mt_of (k := 0) (by decide) cd_P_addSet.1 (by simp [Value.category]) rfl ?_
  refine aw_aload_n d_P_addSet_0 rfl ?_
  refine mm_getr (t := 3) f_P_22 d_P_addSet_1 (by decide) rfl rfl rfl ?_
  refine aw_aload_n d_P_addSet_4 rfl ?_
  refine mm_geti f_P_15 d_P_addSet_5 (by decide) rfl rfl ?_
  refine aw_iload_n d_P_addSet_8 rfl ?_
  refine mm_iast (by simpa [ow_u] using hsc) d_P_addSet_9 (by decide) rfl (by omega) (by decide) ?_
  refine aw_aload_n d_P_addSet_10 rfl ?_
  refine mm_getr (t := 4) f_P_25 d_P_addSet_11 (by decide) rfl rfl rfl ?_
  refine aw_aload_n d_P_addSet_14 rfl ?_
  refine mm_geti f_P_15 d_P_addSet_15 (by decide) rfl rfl ?_
  refine aw_iload_n d_P_addSet_18 rfl ?_
  refine mm_iast (by simpa [ow_u] using hsc) d_P_addSet_19 (by decide) rfl (by omega) (by decide) ?_
  refine aw_aload_n d_P_addSet_20 rfl ?_
  refine mm_getr (t := 5) f_P_28 d_P_addSet_21 (by decide) rfl rfl rfl ?_
  refine aw_aload_n d_P_addSet_24 rfl ?_
  refine mm_geti f_P_15 d_P_addSet_25 (by decide) rfl rfl ?_
  refine aw_iload_n d_P_addSet_28 rfl ?_
  refine mm_iast (by simpa [ow_u] using hsc) d_P_addSet_29 (by decide) rfl (by omega) (by decide) ?_
  refine aw_aload_n d_P_addSet_30 rfl ?_
  refine mm_getr (t := 6) f_P_31 d_P_addSet_31 (by decide) rfl rfl rfl ?_
  refine aw_aload_n d_P_addSet_34 rfl ?_
  refine mm_geti f_P_15 d_P_addSet_35 (by decide) rfl rfl ?_
  refine aw_iload d_P_addSet_38 rfl ?_
  refine mm_iast (by simpa [ow_u] using hsc) d_P_addSet_40 (by decide) rfl (by omega) (by decide) ?_
  refine aw_aload_n d_P_addSet_41 rfl ?_
  refine aw_dup d_P_addSet_42 rfl ?_
  refine mm_geti f_P_15 d_P_addSet_43 (by decide) rfl rfl ?_
  refine aw_iconst (v := 1) d_P_addSet_46 (by decide) ?_
  refine aw_iadd d_P_addSet_47 ?_
  refine mm_puti fw_P_15 d_P_addSet_48 (by decide) rfl rfl rfl rfl ?_
  refine aw_aload_n d_P_addSet_51 rfl ?_
  refine mm_geti f_P_15 d_P_addSet_52 (by decide) rfl rfl ?_
  refine aw_iconst (v := 1) d_P_addSet_55 (by decide) ?_
  refine aw_isub d_P_addSet_56 ?_
  refine aw_iret d_P_addSet_57 rfl rfl ?_
  simpa [ow_u, upd] using hq
/-- B_writeFields -/
theorem t_B_writeFields {p : Nat} {x y z : Int32} (hp : p < 24) (hq : Q (.inl none) (mm (ow_u (ow_u (ow_u M 11 p x) 12 p y) 13 p z) K b)) : MT l Y_B_writeFields (0, 0) [.ref 7, .int (nI p), .int x, .int y, .int z] (mm M K b) Q := by
  refine mt_of (k := 0) (by decide) cd_B_writeFields.1 (by simp [Value.category]) rfl ?_
  refine aw_aload_n d_B_writeFields_0 rfl ?_
  refine mm_getr (t := 10) f_B_27 d_B_writeFields_1 (by decide) rfl rfl rfl ?_
  refine aw_iconst (v := 0) d_B_writeFields_4 (by decide) ?_
  refine mm_aald nI_0.symm d_B_writeFields_5 (by decide) rfl (show 0 < 3 by decide) (by decide) (rF_fld (show 0 < 3 by decide)) ?_
  refine aw_iload_n d_B_writeFields_6 rfl ?_
  refine aw_iload_n d_B_writeFields_7 rfl ?_
  refine mm_iast rfl d_B_writeFields_8 (by omega) (kd_fld (show 0 < 3 by decide)) (by omega) (by decide) ?_
  refine aw_aload_n d_B_writeFields_9 rfl ?_
  refine mm_getr (t := 10) f_B_27 d_B_writeFields_10 (by decide) rfl rfl rfl ?_
  refine aw_iconst (v := 1) d_B_writeFields_13 (by decide) ?_
  refine mm_aald (show (1 : Int32) = nI 1 from rfl) d_B_writeFields_14 (by decide) rfl (show 1 < 3 by decide) (by decide) (rF_fld (show 1 < 3 by decide)) ?_
  refine aw_iload_n d_B_writeFields_15 rfl ?_
  refine aw_iload_n d_B_writeFields_16 rfl ?_
  refine mm_iast rfl d_B_writeFields_17 (by omega) (kd_fld (show 1 < 3 by decide)) (by omega) (by decide) ?_
  refine aw_aload_n d_B_writeFields_18 rfl ?_
  refine mm_getr (t := 10) f_B_27 d_B_writeFields_19 (by decide) rfl rfl rfl ?_
  refine aw_iconst (v := 2) d_B_writeFields_22 (by decide) ?_
  refine mm_aald (show (2 : Int32) = nI 2 from rfl) d_B_writeFields_23 (by decide) rfl (show 2 < 3 by decide) (by decide) (rF_fld (show 2 < 3 by decide)) ?_
  refine aw_iload_n d_B_writeFields_24 rfl ?_
  refine aw_iload d_B_writeFields_25 rfl ?_
  refine mm_iast rfl d_B_writeFields_27 (by omega) (kd_fld (show 2 < 3 by decide)) (by omega) (by decide) ?_
  refine aw_vret d_B_writeFields_28 rfl ?_
  exact hq
/-- B_addRecord -/
theorem t_B_addRecord {p : Nat} {t : Int32} (hp : p < 24) (hq : Q (.inl none) (mm (ow_u (ow_u (ow_u (ow_u M 8 p (M 7 1)) 9 p t) 7 1 (M 7 1 + 1)) 7 0 (M 7 0 + 1)) K b)) : MT l Y_B_addRecord (0, 0) [.ref 7, .int (nI p), .int t] (mm M K b) Q := by
  refine mt_of (k := 0) (by decide) cd_B_addRecord.1 (by simp [Value.category]) rfl ?_
  refine aw_aload_n d_B_addRecord_0 rfl ?_
  refine mm_getr (t := 8) f_B_18 d_B_addRecord_1 (by decide) rfl rfl rfl ?_
  refine aw_iload_n d_B_addRecord_4 rfl ?_
  refine aw_aload_n d_B_addRecord_5 rfl ?_
  refine mm_geti f_B_15 d_B_addRecord_6 (by decide) rfl rfl ?_
  refine mm_iast rfl d_B_addRecord_9 (by decide) rfl (by omega) (by decide) ?_
  refine aw_aload_n d_B_addRecord_10 rfl ?_
  refine mm_getr (t := 9) f_B_22 d_B_addRecord_11 (by decide) rfl rfl rfl ?_
  refine aw_iload_n d_B_addRecord_14 rfl ?_
  refine aw_iload_n d_B_addRecord_15 rfl ?_
  refine mm_iast rfl d_B_addRecord_16 (by decide) rfl (by omega) (by decide) ?_
  refine aw_aload_n d_B_addRecord_17 rfl ?_
  refine aw_dup d_B_addRecord_18 rfl ?_
  refine mm_geti f_B_15 d_B_addRecord_19 (by decide) rfl rfl ?_
  refine aw_iconst (v := 1) d_B_addRecord_22 (by decide) ?_
  refine aw_iadd d_B_addRecord_23 ?_
  refine mm_puti fw_B_15 d_B_addRecord_24 (by decide) rfl rfl rfl rfl ?_
  refine aw_aload_n d_B_addRecord_27 rfl ?_
  refine aw_dup d_B_addRecord_28 rfl ?_
  refine mm_geti f_B_9 d_B_addRecord_29 (by decide) rfl rfl ?_
  refine aw_iconst (v := 1) d_B_addRecord_32 (by decide) ?_
  refine aw_iadd d_B_addRecord_33 ?_
  refine mm_puti fw_B_9 d_B_addRecord_34 (by decide) rfl rfl rfl rfl ?_
  refine aw_vret d_B_addRecord_37 rfl ?_
  exact q_mem hq (by simp [ow_u, upd])
/-- B_dropRecord -/
theorem t_B_dropRecord {p : Nat} (hp : p < 24) (hq : Q (.inl none) (mm (ow_u (ow_u M 8 p 0) 7 0 (M 7 0 - 1)) K b)) : MT l Y_B_dropRecord (0, 0) [.ref 7, .int (nI p)] (mm M K b) Q := by
  refine mt_of (k := 0) (by decide) cd_B_dropRecord.1 (by simp [Value.category]) rfl ?_
  refine aw_aload_n d_B_dropRecord_0 rfl ?_
  refine mm_getr (t := 8) f_B_18 d_B_dropRecord_1 (by decide) rfl rfl rfl ?_
  refine aw_iload_n d_B_dropRecord_4 rfl ?_
  refine aw_iconst (v := 0) d_B_dropRecord_5 (by decide) ?_
  refine mm_iast rfl d_B_dropRecord_6 (by decide) rfl (by omega) (by decide) ?_
  refine aw_aload_n d_B_dropRecord_7 rfl ?_
  refine aw_dup d_B_dropRecord_8 rfl ?_
  refine mm_geti f_B_9 d_B_dropRecord_9 (by decide) rfl rfl ?_
  refine aw_iconst (v := 1) d_B_dropRecord_12 (by decide) ?_
  refine aw_isub d_B_dropRecord_13 ?_
  refine mm_puti fw_B_9 d_B_dropRecord_14 (by decide) rfl rfl rfl rfl ?_
  refine aw_vret d_B_dropRecord_17 rfl ?_
  exact q_mem hq (by simp [ow_u, upd])
/-- B_isMember -/
theorem t_B_isMember {s p : Nat} (hs : s < 5) (hp : p < 24) (hq : Q (.inl (some (if M (15 + s) p = -1 then 0 else 1))) (mm M K b)) : MT l Y_B_isMember (0, 0) [.ref 7, .int (nI s), .int (nI p)] (mm M K b) Q := by
  refine mt_of (k := 0) (by decide) cd_B_isMember.1 (by simp [Value.category]) rfl ?_
  refine aw_aload_n d_B_isMember_0 rfl ?_
  refine mm_getr (t := 14) f_B_30 d_B_isMember_1 (by decide) rfl rfl rfl ?_
  refine aw_iload_n d_B_isMember_4 rfl ?_
  refine mm_aald rfl d_B_isMember_5 (by decide) rfl hs (by decide) (rF_own hs) ?_
  refine aw_iload_n d_B_isMember_6 rfl ?_
  refine mm_iald rfl d_B_isMember_7 (by omega) (kd_own hs) (by omega) (by decide) ?_
  refine aw_iconst (v := -1) d_B_isMember_8 (by decide) ?_
  refine aw_icmp_eq (tgt := 16) d_B_isMember_9 rfl (fun g9 => ?_) (fun g9 => ?_)
  · refine aw_iconst (v := 0) d_B_isMember_16 (by decide) ?_
    refine aw_iret d_B_isMember_17 rfl rfl ?_
    first | (rw [if_pos (by grind)] at hq; exact hq) | (rw [if_neg (by grind)] at hq; exact hq)
  · refine aw_iconst (v := 1) d_B_isMember_12 (by decide) ?_
    refine aw_goto (tgt := 17) d_B_isMember_13 rfl ?_
    refine aw_iret d_B_isMember_17 rfl rfl ?_
    first | (rw [if_pos (by grind)] at hq; exact hq) | (rw [if_neg (by grind)] at hq; exact hq)
/-- B_keyAt -/
theorem t_B_keyAt {x : Int32} (hx : x = -1 ∨ ∃ p, p < 24 ∧ x = nI p) (hq : Q (.inl (some (if x = -1 then 0 else M 8 x.toNatClampNeg))) (mm M K b)) : MT l Y_B_keyAt (0, 0) [.ref 7, .int x] (mm M K b) Q := by
  refine mt_of (k := 0) (by decide) cd_B_keyAt.1 (by simp [Value.category]) rfl ?_
  refine aw_iload_n d_B_keyAt_0 rfl ?_
  refine aw_iconst (v := -1) d_B_keyAt_1 (by decide) ?_
  refine aw_icmp_ne (tgt := 9) d_B_keyAt_2 rfl (fun g2 => ?_) (fun g2 => ?_)
  · obtain ⟨p, hp, rfl⟩ := hx.resolve_left (by grind)
    refine aw_aload_n d_B_keyAt_9 rfl ?_
    refine mm_getr (t := 8) f_B_18 d_B_keyAt_10 (by decide) rfl rfl rfl ?_
    refine aw_iload_n d_B_keyAt_13 rfl ?_
    refine mm_iald rfl d_B_keyAt_14 (by decide) rfl (by omega) (by decide) ?_
    refine aw_iret d_B_keyAt_15 rfl rfl ?_
    first | (rw [if_pos (by grind)] at hq; exact hq) | (rw [if_neg (by grind), nI_clamp (by omega)] at hq; exact hq)
  · refine aw_iconst (v := 0) d_B_keyAt_5 (by decide) ?_
    refine aw_goto (tgt := 15) d_B_keyAt_6 rfl ?_
    refine aw_iret d_B_keyAt_15 rfl rfl ?_
    first | (rw [if_pos (by grind)] at hq; exact hq) | (rw [if_neg (by grind), nI_clamp (by omega)] at hq; exact hq)
/-- B_freePlace -/
theorem t_B_freePlace (h0 : (∀ k, k < 24 → ¬ M 8 k = 0) → Q (.inl (some (-1))) (mm M K b)) (h1 : ∀ k, k < 24 → M 8 k = 0 → (∀ j, j < k → ¬ M 8 j = 0) → Q (.inl (some (nI k))) (mm M K b)) : MT l Y_B_freePlace (0, 0) [.ref 7] (mm M K b) Q := by
  refine mt_of (k := 1) (by decide) cd_B_freePlace.1 (by simp [Value.category]) rfl ?_
  have lp : ∀ i, i ≤ 24 → (∀ k, k < i → ¬ M 8 k = 0) → AW l Y_B_freePlace none (0, 0) Q 2 [some (.ref 7), some (.int (nI i))] [] (mm M K b) := by
    refine loop_dn 24 (fun i hi ih => ?_)
    intro hn
    refine aw_iload_n d_B_freePlace_2 rfl ?_
    refine aw_bipush (v := 24) d_B_freePlace_3 (by decide) ?_
    refine aw_icmp_ge (tgt := 25) d_B_freePlace_5 rfl (fun g5 => ?_) (fun g5 => ?_)
    · have hi2 := ge_n (n := 24) rfl hi (by omega) g5
      subst hi2
      refine aw_iconst (v := -1) d_B_freePlace_25 (by decide) ?_
      refine aw_iret d_B_freePlace_26 rfl rfl ?_
      exact h0 hn
    · have hi2 := lt_n (n := 24) rfl hi (by omega) g5
      refine aw_aload_n d_B_freePlace_8 rfl ?_
      refine mm_getr (t := 8) f_B_18 d_B_freePlace_9 (by decide) rfl rfl rfl ?_
      refine aw_iload_n d_B_freePlace_12 rfl ?_
      refine mm_iald rfl d_B_freePlace_13 (by decide) rfl (by omega) (by decide) ?_
      refine aw_if_ne (tgt := 19) d_B_freePlace_14 rfl (fun g14 => ?_) (fun g14 => ?_)
      · refine aw_iinc (v := nI (i + 1)) d_B_freePlace_19 rfl (nI_succ i).symm (by decide) ?_
        refine aw_goto (tgt := 2) d_B_freePlace_22 rfl ?_
        refine ih hi2 (fun k hk => ?_)
        rcases Nat.lt_succ_iff_lt_or_eq.mp hk with h | h
        · exact hn k h
        · subst h; exact g14
      · refine aw_iload_n d_B_freePlace_17 rfl ?_
        refine aw_iret d_B_freePlace_18 rfl rfl ?_
        exact h1 i hi2 g14 hn
  refine aw_iconst (v := 0) d_B_freePlace_0 (by decide) ?_
  refine aw_istore_n d_B_freePlace_1 (by decide) ?_
  exact lp 0 (by omega) (fun k hk => by omega)
/-- B_placeOf -/
theorem t_B_placeOf {x : Int32} (h0 : (∀ k, k < 24 → ¬ (¬ M 8 k = 0 ∧ M 8 k = x)) → Q (.inl (some (-1))) (mm M K b)) (h1 : ∀ k, k < 24 → ¬ M 8 k = 0 → M 8 k = x → (∀ j, j < k → ¬ (¬ M 8 j = 0 ∧ M 8 j = x)) → Q (.inl (some (nI k))) (mm M K b)) : MT l Y_B_placeOf (0, 0) [.ref 7, .int x] (mm M K b) Q := by
  refine mt_of (k := 1) (by decide) cd_B_placeOf.1 (by simp [Value.category]) rfl ?_
  have lp : ∀ i, i ≤ 24 → (∀ k, k < i → ¬ (¬ M 8 k = 0 ∧ M 8 k = x)) → AW l Y_B_placeOf none (0, 0) Q 2 [some (.ref 7), some (.int x), some (.int (nI i))] [] (mm M K b) := by
    refine loop_dn 24 (fun i hi ih => ?_)
    intro hn
    refine aw_iload_n d_B_placeOf_2 rfl ?_
    refine aw_bipush (v := 24) d_B_placeOf_3 (by decide) ?_
    refine aw_icmp_ge (tgt := 35) d_B_placeOf_5 rfl (fun g5 => ?_) (fun g5 => ?_)
    · have hi2 := ge_n (n := 24) rfl hi (by omega) g5
      subst hi2
      refine aw_iconst (v := -1) d_B_placeOf_35 (by decide) ?_
      refine aw_iret d_B_placeOf_36 rfl rfl ?_
      exact h0 hn
    · have hi2 := lt_n (n := 24) rfl hi (by omega) g5
      refine aw_aload_n d_B_placeOf_8 rfl ?_
      refine mm_getr (t := 8) f_B_18 d_B_placeOf_9 (by decide) rfl rfl rfl ?_
      refine aw_iload_n d_B_placeOf_12 rfl ?_
      refine mm_iald rfl d_B_placeOf_13 (by decide) rfl (by omega) (by decide) ?_
      refine aw_if_eq (tgt := 29) d_B_placeOf_14 rfl (fun g14 => ?_) (fun g14 => ?_)
      · refine aw_iinc (v := nI (i + 1)) d_B_placeOf_29 rfl (nI_succ i).symm (by decide) ?_
        refine aw_goto (tgt := 2) d_B_placeOf_32 rfl ?_
        refine ih hi2 (fun k hk => ?_)
        rcases Nat.lt_succ_iff_lt_or_eq.mp hk with h | h
        · exact hn k h
        · subst h; grind
      · refine aw_aload_n d_B_placeOf_17 rfl ?_
        refine mm_getr (t := 8) f_B_18 d_B_placeOf_18 (by decide) rfl rfl rfl ?_
        refine aw_iload_n d_B_placeOf_21 rfl ?_
        refine mm_iald rfl d_B_placeOf_22 (by decide) rfl (by omega) (by decide) ?_
        refine aw_iload_n d_B_placeOf_23 rfl ?_
        refine aw_icmp_ne (tgt := 29) d_B_placeOf_24 rfl (fun g24 => ?_) (fun g24 => ?_)
        · refine aw_iinc (v := nI (i + 1)) d_B_placeOf_29 rfl (nI_succ i).symm (by decide) ?_
          refine aw_goto (tgt := 2) d_B_placeOf_32 rfl ?_
          refine ih hi2 (fun k hk => ?_)
          rcases Nat.lt_succ_iff_lt_or_eq.mp hk with h | h
          · exact hn k h
          · subst h; grind
        · refine aw_iload_n d_B_placeOf_27 rfl ?_
          refine aw_iret d_B_placeOf_28 rfl rfl ?_
          exact h1 i hi2 g14 g24 hn
  refine aw_iconst (v := 0) d_B_placeOf_0 (by decide) ?_
  refine aw_istore_n d_B_placeOf_1 (by decide) ?_
  exact lp 0 (by omega) (fun k hk => by omega)
/-- B_ringSize -/
theorem t_B_ringSize {s : Nat} {ow : Int32} (hs : s < 5) (hq : Q (.inl (some (nI (cn (fun p => M (15 + s) p == ow) 24)))) (mm M K b)) : MT l Y_B_ringSize (0, 0) [.ref 7, .int (nI s), .int ow] (mm M K b) Q := by
  refine mt_of (k := 2) (by decide) cd_B_ringSize.1 (by simp [Value.category]) rfl ?_
  have lp : ∀ i, i ≤ 24 → AW l Y_B_ringSize none (0, 0) Q 5 [some (.ref 7), some (.int (nI s)), some (.int ow), some (.int (nI (cn (fun p => M (15 + s) p == ow) i))), some (.int (nI i))] [] (mm M K b) := by
    refine loop_dn 24 (fun i hi ih => ?_)
    refine aw_iload d_B_ringSize_5 rfl ?_
    refine aw_bipush (v := 24) d_B_ringSize_7 (by decide) ?_
    refine aw_icmp_ge (tgt := 34) d_B_ringSize_9 rfl (fun g9 => ?_) (fun g9 => ?_)
    · have hi2 := ge_n (n := 24) rfl hi (by omega) g9
      subst hi2
      refine aw_iload_n d_B_ringSize_34 rfl ?_
      refine aw_iret d_B_ringSize_35 rfl rfl ?_
      exact hq
    · have hi2 := lt_n (n := 24) rfl hi (by omega) g9
      refine aw_aload_n d_B_ringSize_12 rfl ?_
      refine mm_getr (t := 14) f_B_30 d_B_ringSize_13 (by decide) rfl rfl rfl ?_
      refine aw_iload_n d_B_ringSize_16 rfl ?_
      refine mm_aald rfl d_B_ringSize_17 (by decide) rfl hs (by decide) (rF_own hs) ?_
      refine aw_iload d_B_ringSize_18 rfl ?_
      refine mm_iald rfl d_B_ringSize_20 (by omega) (kd_own hs) (by omega) (by decide) ?_
      refine aw_iload_n d_B_ringSize_21 rfl ?_
      refine aw_icmp_ne (tgt := 28) d_B_ringSize_22 rfl (fun g22 => ?_) (fun g22 => ?_)
      · refine aw_iinc (v := nI (i + 1)) d_B_ringSize_28 rfl (nI_succ i).symm (by decide) ?_
        refine aw_goto (tgt := 5) d_B_ringSize_31 rfl ?_
        have e : cn (fun p => M (15 + s) p == ow) (i + 1) = cn (fun p => M (15 + s) p == ow) i := by simp [cn, g22]
        rw [e] at ih
        exact ih hi2
      · refine aw_iinc (v := nI (cn (fun p => M (15 + s) p == ow) i + 1)) d_B_ringSize_25 rfl (nI_succ _).symm (by decide) ?_
        refine aw_iinc (v := nI (i + 1)) d_B_ringSize_28 rfl (nI_succ i).symm (by decide) ?_
        refine aw_goto (tgt := 5) d_B_ringSize_31 rfl ?_
        have e : cn (fun p => M (15 + s) p == ow) (i + 1) = cn (fun p => M (15 + s) p == ow) i + 1 := by simp [cn, g22]
        rw [e] at ih
        exact ih hi2
  refine aw_iconst (v := 0) d_B_ringSize_0 (by decide) ?_
  refine aw_istore_n d_B_ringSize_1 (by decide) ?_
  refine aw_iconst (v := 0) d_B_ringSize_2 (by decide) ?_
  refine aw_istore d_B_ringSize_3 (by decide) ?_
  exact lp 0 (by omega)
/-- B_memberAt -/
theorem t_B_memberAt {s : Nat} {ow x : Int32} (hs : s < 5) (h0 : (∀ k, k < 24 → ¬ (M (15 + s) k = ow ∧ M (21 + s) k = x)) → Q (.inl (some (-1))) (mm M K b)) (h1 : ∀ k, k < 24 → M (15 + s) k = ow → M (21 + s) k = x → Q (.inl (some (nI k))) (mm M K b)) : MT l Y_B_memberAt (0, 0) [.ref 7, .int (nI s), .int ow, .int x] (mm M K b) Q := by
  refine mt_of (k := 1) (by decide) cd_B_memberAt.1 (by simp [Value.category]) rfl ?_
  have lp : ∀ i, i ≤ 24 → (∀ k, k < i → ¬ (M (15 + s) k = ow ∧ M (21 + s) k = x)) → AW l Y_B_memberAt none (0, 0) Q 3 [some (.ref 7), some (.int (nI s)), some (.int ow), some (.int x), some (.int (nI i))] [] (mm M K b) := by
    refine loop_dn 24 (fun i hi ih => ?_)
    intro hn
    refine aw_iload d_B_memberAt_3 rfl ?_
    refine aw_bipush (v := 24) d_B_memberAt_5 (by decide) ?_
    refine aw_icmp_ge (tgt := 45) d_B_memberAt_7 rfl (fun g7 => ?_) (fun g7 => ?_)
    · have hi2 := ge_n (n := 24) rfl hi (by omega) g7
      subst hi2
      refine aw_iconst (v := -1) d_B_memberAt_45 (by decide) ?_
      refine aw_iret d_B_memberAt_46 rfl rfl ?_
      exact h0 hn
    · have hi2 := lt_n (n := 24) rfl hi (by omega) g7
      refine aw_aload_n d_B_memberAt_10 rfl ?_
      refine mm_getr (t := 14) f_B_30 d_B_memberAt_11 (by decide) rfl rfl rfl ?_
      refine aw_iload_n d_B_memberAt_14 rfl ?_
      refine mm_aald rfl d_B_memberAt_15 (by decide) rfl hs (by decide) (rF_own hs) ?_
      refine aw_iload d_B_memberAt_16 rfl ?_
      refine mm_iald rfl d_B_memberAt_18 (by omega) (kd_own hs) (by omega) (by decide) ?_
      refine aw_iload_n d_B_memberAt_19 rfl ?_
      refine aw_icmp_ne (tgt := 39) d_B_memberAt_20 rfl (fun g20 => ?_) (fun g20 => ?_)
      · refine aw_iinc (v := nI (i + 1)) d_B_memberAt_39 rfl (nI_succ i).symm (by decide) ?_
        refine aw_goto (tgt := 3) d_B_memberAt_42 rfl ?_
        refine ih hi2 (fun k hk => ?_)
        rcases Nat.lt_succ_iff_lt_or_eq.mp hk with h | h
        · exact hn k h
        · subst h; grind
      · refine aw_aload_n d_B_memberAt_23 rfl ?_
        refine mm_getr (t := 20) f_B_33 d_B_memberAt_24 (by decide) rfl rfl rfl ?_
        refine aw_iload_n d_B_memberAt_27 rfl ?_
        refine mm_aald rfl d_B_memberAt_28 (by decide) rfl hs (by decide) (rF_pos hs) ?_
        refine aw_iload d_B_memberAt_29 rfl ?_
        refine mm_iald rfl d_B_memberAt_31 (by omega) (kd_pos hs) (by omega) (by decide) ?_
        refine aw_iload_n d_B_memberAt_32 rfl ?_
        refine aw_icmp_ne (tgt := 39) d_B_memberAt_33 rfl (fun g33 => ?_) (fun g33 => ?_)
        · refine aw_iinc (v := nI (i + 1)) d_B_memberAt_39 rfl (nI_succ i).symm (by decide) ?_
          refine aw_goto (tgt := 3) d_B_memberAt_42 rfl ?_
          refine ih hi2 (fun k hk => ?_)
          rcases Nat.lt_succ_iff_lt_or_eq.mp hk with h | h
          · exact hn k h
          · subst h; grind
        · refine aw_iload d_B_memberAt_36 rfl ?_
          refine aw_iret d_B_memberAt_38 rfl rfl ?_
          exact h1 i hi2 g20 g33
  refine aw_iconst (v := 0) d_B_memberAt_0 (by decide) ?_
  refine aw_istore d_B_memberAt_1 (by decide) ?_
  exact lp 0 (by omega) (fun k hk => by omega)
/-- B_hasOtherWithValue -/
theorem t_B_hasOtherWithValue {s f : Nat} {ow pl x : Int32} (hs : s < 5) (hf : f < 3) (h0 : (∀ k, k < 24 → ¬ (¬ nI k = pl ∧ M (15 + s) k = ow ∧ M (11 + f) k = x)) → Q (.inl (some 0)) (mm M K b)) (h1 : ∀ k, k < 24 → ¬ nI k = pl → M (15 + s) k = ow → M (11 + f) k = x → Q (.inl (some 1)) (mm M K b)) : MT l Y_B_hasOtherWithValue (0, 0) [.ref 7, .int (nI s), .int ow, .int pl, .int (nI f), .int x] (mm M K b) Q := by
  refine mt_of (k := 1) (by decide) cd_B_hasOtherWithValue.1 (by simp [Value.category]) rfl ?_
  have lp : ∀ i, i ≤ 24 → (∀ k, k < i → ¬ (¬ nI k = pl ∧ M (15 + s) k = ow ∧ M (11 + f) k = x)) → AW l Y_B_hasOtherWithValue none (0, 0) Q 3 [some (.ref 7), some (.int (nI s)), some (.int ow), some (.int pl), some (.int (nI f)), some (.int x), some (.int (nI i))] [] (mm M K b) := by
    refine loop_dn 24 (fun i hi ih => ?_)
    intro hn
    refine aw_iload d_B_hasOtherWithValue_3 rfl ?_
    refine aw_bipush (v := 24) d_B_hasOtherWithValue_5 (by decide) ?_
    refine aw_icmp_ge (tgt := 52) d_B_hasOtherWithValue_7 rfl (fun g7 => ?_) (fun g7 => ?_)
    · have hi2 := ge_n (n := 24) rfl hi (by omega) g7
      subst hi2
      refine aw_iconst (v := 0) d_B_hasOtherWithValue_52 (by decide) ?_
      refine aw_iret d_B_hasOtherWithValue_53 rfl rfl ?_
      exact h0 hn
    · have hi2 := lt_n (n := 24) rfl hi (by omega) g7
      refine aw_iload d_B_hasOtherWithValue_10 rfl ?_
      refine aw_iload_n d_B_hasOtherWithValue_12 rfl ?_
      refine aw_icmp_eq (tgt := 46) d_B_hasOtherWithValue_13 rfl (fun g13 => ?_) (fun g13 => ?_)
      · refine aw_iinc (v := nI (i + 1)) d_B_hasOtherWithValue_46 rfl (nI_succ i).symm (by decide) ?_
        refine aw_goto (tgt := 3) d_B_hasOtherWithValue_49 rfl ?_
        refine ih hi2 (fun k hk => ?_)
        rcases Nat.lt_succ_iff_lt_or_eq.mp hk with h | h
        · exact hn k h
        · subst h; grind
      · refine aw_aload_n d_B_hasOtherWithValue_16 rfl ?_
        refine mm_getr (t := 14) f_B_30 d_B_hasOtherWithValue_17 (by decide) rfl rfl rfl ?_
        refine aw_iload_n d_B_hasOtherWithValue_20 rfl ?_
        refine mm_aald rfl d_B_hasOtherWithValue_21 (by decide) rfl hs (by decide) (rF_own hs) ?_
        refine aw_iload d_B_hasOtherWithValue_22 rfl ?_
        refine mm_iald rfl d_B_hasOtherWithValue_24 (by omega) (kd_own hs) (by omega) (by decide) ?_
        refine aw_iload_n d_B_hasOtherWithValue_25 rfl ?_
        refine aw_icmp_ne (tgt := 46) d_B_hasOtherWithValue_26 rfl (fun g26 => ?_) (fun g26 => ?_)
        · refine aw_iinc (v := nI (i + 1)) d_B_hasOtherWithValue_46 rfl (nI_succ i).symm (by decide) ?_
          refine aw_goto (tgt := 3) d_B_hasOtherWithValue_49 rfl ?_
          refine ih hi2 (fun k hk => ?_)
          rcases Nat.lt_succ_iff_lt_or_eq.mp hk with h | h
          · exact hn k h
          · subst h; grind
        · refine aw_aload_n d_B_hasOtherWithValue_29 rfl ?_
          refine mm_getr (t := 10) f_B_27 d_B_hasOtherWithValue_30 (by decide) rfl rfl rfl ?_
          refine aw_iload d_B_hasOtherWithValue_33 rfl ?_
          refine mm_aald rfl d_B_hasOtherWithValue_35 (by decide) rfl hf (by decide) (rF_fld hf) ?_
          refine aw_iload d_B_hasOtherWithValue_36 rfl ?_
          refine mm_iald rfl d_B_hasOtherWithValue_38 (by omega) (kd_fld hf) (by omega) (by decide) ?_
          refine aw_iload d_B_hasOtherWithValue_39 rfl ?_
          refine aw_icmp_ne (tgt := 46) d_B_hasOtherWithValue_41 rfl (fun g41 => ?_) (fun g41 => ?_)
          · refine aw_iinc (v := nI (i + 1)) d_B_hasOtherWithValue_46 rfl (nI_succ i).symm (by decide) ?_
            refine aw_goto (tgt := 3) d_B_hasOtherWithValue_49 rfl ?_
            refine ih hi2 (fun k hk => ?_)
            rcases Nat.lt_succ_iff_lt_or_eq.mp hk with h | h
            · exact hn k h
            · subst h; grind
          · refine aw_iconst (v := 1) d_B_hasOtherWithValue_44 (by decide) ?_
            refine aw_iret d_B_hasOtherWithValue_45 rfl rfl ?_
            exact h1 i hi2 g13 g26 g41
  refine aw_iconst (v := 0) d_B_hasOtherWithValue_0 (by decide) ?_
  refine aw_istore d_B_hasOtherWithValue_1 (by decide) ?_
  exact lp 0 (by omega) (fun k hk => by omega)
/-- B_shiftRing -/
theorem t_B_shiftRing {s : Nat} {ow fr by_ : Int32} (hs : s < 5) (hq : Q (.inl none) (mm (shf M s ow fr by_ 24) K b)) : MT l Y_B_shiftRing (0, 0) [.ref 7, .int (nI s), .int ow, .int fr, .int by_] (mm M K b) Q := by
  refine mt_of (k := 1) (by decide) cd_B_shiftRing.1 (by simp [Value.category]) rfl ?_
  have lp : ∀ i, i ≤ 24 → AW l Y_B_shiftRing none (0, 0) Q 3 [some (.ref 7), some (.int (nI s)), some (.int ow), some (.int fr), some (.int by_), some (.int (nI i))] [] (mm (shf M s ow fr by_ i) K b) := by
    refine loop_dn 24 (fun i hi ih => ?_)
    refine aw_iload d_B_shiftRing_3 rfl ?_
    refine aw_bipush (v := 24) d_B_shiftRing_5 (by decide) ?_
    refine aw_icmp_ge (tgt := 56) d_B_shiftRing_7 rfl (fun g7 => ?_) (fun g7 => ?_)
    · have hi2 := ge_n (n := 24) rfl hi (by omega) g7
      subst hi2
      refine aw_vret d_B_shiftRing_56 rfl ?_
      exact hq
    · have hi2 := lt_n (n := 24) rfl hi (by omega) g7
      refine aw_aload_n d_B_shiftRing_10 rfl ?_
      refine mm_getr (t := 14) f_B_30 d_B_shiftRing_11 (by decide) rfl rfl rfl ?_
      refine aw_iload_n d_B_shiftRing_14 rfl ?_
      refine mm_aald rfl d_B_shiftRing_15 (by decide) rfl hs (by decide) (rF_own hs) ?_
      refine aw_iload d_B_shiftRing_16 rfl ?_
      refine mm_iald rfl d_B_shiftRing_18 (by omega) (kd_own hs) (by omega) (by decide) ?_
      refine aw_iload_n d_B_shiftRing_19 rfl ?_
      rw [shf_own (show 15 + s ≠ 21 + s by omega)]
      refine aw_icmp_ne (tgt := 50) d_B_shiftRing_20 rfl (fun g20 => ?_) (fun g20 => ?_)
      · refine aw_iinc (v := nI (i + 1)) d_B_shiftRing_50 rfl (nI_succ i).symm (by decide) ?_
        refine aw_goto (tgt := 3) d_B_shiftRing_53 rfl ?_
        first
          | (rw [shf_no (by intro hc; grind)] at ih; exact ih hi2)
          | (rw [shf_yes ⟨g20, Int32.not_lt.mp g33⟩] at ih; exact ih hi2)
      · refine aw_aload_n d_B_shiftRing_23 rfl ?_
        refine mm_getr (t := 20) f_B_33 d_B_shiftRing_24 (by decide) rfl rfl rfl ?_
        refine aw_iload_n d_B_shiftRing_27 rfl ?_
        refine mm_aald rfl d_B_shiftRing_28 (by decide) rfl hs (by decide) (rF_pos hs) ?_
        refine aw_iload d_B_shiftRing_29 rfl ?_
        refine mm_iald rfl d_B_shiftRing_31 (by omega) (kd_pos hs) (by omega) (by decide) ?_
        refine aw_iload_n d_B_shiftRing_32 rfl ?_
        rw [shf_at (Nat.le_refl i)]
        refine aw_icmp_lt (tgt := 50) d_B_shiftRing_33 rfl (fun g33 => ?_) (fun g33 => ?_)
        · refine aw_iinc (v := nI (i + 1)) d_B_shiftRing_50 rfl (nI_succ i).symm (by decide) ?_
          refine aw_goto (tgt := 3) d_B_shiftRing_53 rfl ?_
          first
            | (rw [shf_no (by intro hc; grind)] at ih; exact ih hi2)
            | (rw [shf_yes ⟨g20, Int32.not_lt.mp g33⟩] at ih; exact ih hi2)
        · refine aw_aload_n d_B_shiftRing_36 rfl ?_
          refine mm_getr (t := 20) f_B_33 d_B_shiftRing_37 (by decide) rfl rfl rfl ?_
          refine aw_iload_n d_B_shiftRing_40 rfl ?_
          refine mm_aald rfl d_B_shiftRing_41 (by decide) rfl hs (by decide) (rF_pos hs) ?_
          refine aw_iload d_B_shiftRing_42 rfl ?_
          refine aw_dup2 d_B_shiftRing_44 rfl rfl ?_
          refine mm_iald rfl d_B_shiftRing_45 (by omega) (kd_pos hs) (by omega) (by decide) ?_
          refine aw_iload d_B_shiftRing_46 rfl ?_
          rw [shf_at (Nat.le_refl i)]
          refine aw_iadd d_B_shiftRing_48 ?_
          refine mm_iast rfl d_B_shiftRing_49 (by omega) (kd_pos hs) (by omega) (by decide) ?_
          refine aw_iinc (v := nI (i + 1)) d_B_shiftRing_50 rfl (nI_succ i).symm (by decide) ?_
          refine aw_goto (tgt := 3) d_B_shiftRing_53 rfl ?_
          first
            | (rw [shf_no (by intro hc; grind)] at ih; exact ih hi2)
            | (rw [shf_yes ⟨g20, Int32.not_lt.mp g33⟩] at ih; exact ih hi2)
  refine aw_iconst (v := 0) d_B_shiftRing_0 (by decide) ?_
  refine aw_istore d_B_shiftRing_1 (by decide) ?_
  have h0 := lp 0 (by omega)
  rw [shf_0] at h0
  exact h0
end TBase
end
