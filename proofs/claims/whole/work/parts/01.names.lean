-- ===== PART A: goes FIRST, ahead of the names: the tables' words, and 'selects' of the private methods out of them =====
/-- a private method of a class that the tables say can be made, by its rows of tables_1 -/
def lw_okq (q : MethodName × Nat) : Prop := (q.1.cls ≠ "java/lang/invoke/MethodHandle" ∧ q.1.cls ≠ "java/lang/invoke/VarHandle") ∧ Cond.instantiable q.1.cls q.2 ∈ tables_1 ∧ Cond.privateMethod q.1 ∈ tables_1 ∧ Cond.instanceMethod q.1 ∈ tables_1
theorem lw_p0 : lw_okq (⟨"ViewMediator$Relation", "placeOf", "(II)I"⟩, 5) := ⟨⟨by decide +kernel, by decide +kernel⟩, List.mem_of_getElem? (i := 206) (by decide +kernel), List.mem_of_getElem? (i := 276) (by decide +kernel), List.mem_of_getElem? (i := 277) (by decide +kernel)⟩
theorem lw_p1 : lw_okq (⟨"ViewMediator$AtomList", "set", "(IIII)V"⟩, 4) := ⟨⟨by decide +kernel, by decide +kernel⟩, List.mem_of_getElem? (i := 26) (by decide +kernel), List.mem_of_getElem? (i := 324) (by decide +kernel), List.mem_of_getElem? (i := 325) (by decide +kernel)⟩
theorem lw_p2 : lw_okq (⟨"ViewMediator", "isBad", "()Z"⟩, 5) := ⟨⟨by decide +kernel, by decide +kernel⟩, List.mem_of_getElem? (i := 14) (by decide +kernel), List.mem_of_getElem? (i := 350) (by decide +kernel), List.mem_of_getElem? (i := 351) (by decide +kernel)⟩
theorem lw_p3 : lw_okq (⟨"ViewMediator$AtomList", "has", "(I)Z"⟩, 4) := ⟨⟨by decide +kernel, by decide +kernel⟩, List.mem_of_getElem? (i := 26) (by decide +kernel), List.mem_of_getElem? (i := 358) (by decide +kernel), List.mem_of_getElem? (i := 359) (by decide +kernel)⟩
theorem lw_p4 : lw_okq (⟨"ViewMediator$Plan", "unfoldFrom", "(ILViewMediator$AtomList;[LViewMediator$View;)V"⟩, 4) := ⟨⟨by decide +kernel, by decide +kernel⟩, List.mem_of_getElem? (i := 62) (by decide +kernel), List.mem_of_getElem? (i := 375) (by decide +kernel), List.mem_of_getElem? (i := 376) (by decide +kernel)⟩
theorem lw_p5 : lw_okq (⟨"ViewMediator$Plan", "formDisjunct", "(LViewMediator$AtomList;)V"⟩, 4) := ⟨⟨by decide +kernel, by decide +kernel⟩, List.mem_of_getElem? (i := 62) (by decide +kernel), List.mem_of_getElem? (i := 379) (by decide +kernel), List.mem_of_getElem? (i := 380) (by decide +kernel)⟩
theorem lw_p6 : lw_okq (⟨"ViewMediator$Mapper", "mapsFrom", "(I)Z"⟩, 4) := ⟨⟨by decide +kernel, by decide +kernel⟩, List.mem_of_getElem? (i := 72) (by decide +kernel), List.mem_of_getElem? (i := 407) (by decide +kernel), List.mem_of_getElem? (i := 408) (by decide +kernel)⟩
theorem lw_p7 : lw_okq (⟨"ViewMediator$Mapper", "mapsOnto", "(II)Z"⟩, 4) := ⟨⟨by decide +kernel, by decide +kernel⟩, List.mem_of_getElem? (i := 72) (by decide +kernel), List.mem_of_getElem? (i := 411) (by decide +kernel), List.mem_of_getElem? (i := 412) (by decide +kernel)⟩
theorem lw_p8 : lw_okq (⟨"ViewMediator$AtomList", "moveToEnd", "(I)V"⟩, 4) := ⟨⟨by decide +kernel, by decide +kernel⟩, List.mem_of_getElem? (i := 26) (by decide +kernel), List.mem_of_getElem? (i := 423) (by decide +kernel), List.mem_of_getElem? (i := 424) (by decide +kernel)⟩
theorem lw_p9 : lw_okq (⟨"ViewMediator$AtomList", "swapWithNext", "(I)V"⟩, 4) := ⟨⟨by decide +kernel, by decide +kernel⟩, List.mem_of_getElem? (i := 26) (by decide +kernel), List.mem_of_getElem? (i := 427) (by decide +kernel), List.mem_of_getElem? (i := 428) (by decide +kernel)⟩
theorem lw_p10 : lw_okq (⟨"ViewMediator$Plan", "isCovered", "(I)Z"⟩, 4) := ⟨⟨by decide +kernel, by decide +kernel⟩, List.mem_of_getElem? (i := 62) (by decide +kernel), List.mem_of_getElem? (i := 431) (by decide +kernel), List.mem_of_getElem? (i := 432) (by decide +kernel)⟩
theorem lw_p11 : lw_okq (⟨"ViewMediator$Plan", "closeGaps", "()V"⟩, 4) := ⟨⟨by decide +kernel, by decide +kernel⟩, List.mem_of_getElem? (i := 62) (by decide +kernel), List.mem_of_getElem? (i := 436) (by decide +kernel), List.mem_of_getElem? (i := 437) (by decide +kernel)⟩
theorem lw_p12 : lw_okq (⟨"ViewMediator$Disjunct", "putNext", "(IJ[LViewMediator$Relation;)Z"⟩, 4) := ⟨⟨by decide +kernel, by decide +kernel⟩, List.mem_of_getElem? (i := 102) (by decide +kernel), List.mem_of_getElem? (i := 445) (by decide +kernel), List.mem_of_getElem? (i := 446) (by decide +kernel)⟩
theorem lw_p13 : lw_okq (⟨"ViewMediator$Disjunct", "knownHalves", "(IJ)I"⟩, 4) := ⟨⟨by decide +kernel, by decide +kernel⟩, List.mem_of_getElem? (i := 102) (by decide +kernel), List.mem_of_getElem? (i := 449) (by decide +kernel), List.mem_of_getElem? (i := 450) (by decide +kernel)⟩
theorem lw_p14 : lw_okq (⟨"ViewMediator$Asker", "askDisjunct", "()Z"⟩, 12) := ⟨⟨by decide +kernel, by decide +kernel⟩, List.mem_of_getElem? (i := 147) (by decide +kernel), List.mem_of_getElem? (i := 476) (by decide +kernel), List.mem_of_getElem? (i := 477) (by decide +kernel)⟩
theorem lw_p15 : lw_okq (⟨"ViewMediator$Asker", "walkRoadsTo", "(I)V"⟩, 12) := ⟨⟨by decide +kernel, by decide +kernel⟩, List.mem_of_getElem? (i := 147) (by decide +kernel), List.mem_of_getElem? (i := 480) (by decide +kernel), List.mem_of_getElem? (i := 481) (by decide +kernel)⟩
def lw_privs_1 : List (MethodName × Nat) := [(⟨"ViewMediator$Relation", "placeOf", "(II)I"⟩, 5), (⟨"ViewMediator$AtomList", "set", "(IIII)V"⟩, 4), (⟨"ViewMediator", "isBad", "()Z"⟩, 5), (⟨"ViewMediator$AtomList", "has", "(I)Z"⟩, 4), (⟨"ViewMediator$Plan", "unfoldFrom", "(ILViewMediator$AtomList;[LViewMediator$View;)V"⟩, 4), (⟨"ViewMediator$Plan", "formDisjunct", "(LViewMediator$AtomList;)V"⟩, 4), (⟨"ViewMediator$Mapper", "mapsFrom", "(I)Z"⟩, 4), (⟨"ViewMediator$Mapper", "mapsOnto", "(II)Z"⟩, 4), (⟨"ViewMediator$AtomList", "moveToEnd", "(I)V"⟩, 4), (⟨"ViewMediator$AtomList", "swapWithNext", "(I)V"⟩, 4), (⟨"ViewMediator$Plan", "isCovered", "(I)Z"⟩, 4), (⟨"ViewMediator$Plan", "closeGaps", "()V"⟩, 4), (⟨"ViewMediator$Disjunct", "putNext", "(IJ[LViewMediator$Relation;)Z"⟩, 4), (⟨"ViewMediator$Disjunct", "knownHalves", "(IJ)I"⟩, 4), (⟨"ViewMediator$Asker", "askDisjunct", "()Z"⟩, 12), (⟨"ViewMediator$Asker", "walkRoadsTo", "(I)V"⟩, 12)]
theorem lw_r1 : ∀ q ∈ lw_privs_1, lw_okq q := List.forall_mem_cons.mpr ⟨lw_p0, List.forall_mem_cons.mpr ⟨lw_p1, List.forall_mem_cons.mpr ⟨lw_p2, List.forall_mem_cons.mpr ⟨lw_p3, List.forall_mem_cons.mpr ⟨lw_p4, List.forall_mem_cons.mpr ⟨lw_p5, List.forall_mem_cons.mpr ⟨lw_p6, List.forall_mem_cons.mpr ⟨lw_p7, List.forall_mem_cons.mpr ⟨lw_p8, List.forall_mem_cons.mpr ⟨lw_p9, List.forall_mem_cons.mpr ⟨lw_p10, List.forall_mem_cons.mpr ⟨lw_p11, List.forall_mem_cons.mpr ⟨lw_p12, List.forall_mem_cons.mpr ⟨lw_p13, List.forall_mem_cons.mpr ⟨lw_p14, List.forall_mem_cons.mpr ⟨lw_p15, fun _ h => absurd h List.not_mem_nil⟩⟩⟩⟩⟩⟩⟩⟩⟩⟩⟩⟩⟩⟩⟩⟩
theorem lw_p16 : lw_okq (⟨"ViewMediator$Asker", "noteLastUses", "()V"⟩, 12) := ⟨⟨by decide +kernel, by decide +kernel⟩, List.mem_of_getElem? (i := 147) (by decide +kernel), List.mem_of_getElem? (i := 484) (by decide +kernel), List.mem_of_getElem? (i := 485) (by decide +kernel)⟩
theorem lw_p17 : lw_okq (⟨"ViewMediator$Asker", "walk", "(I)V"⟩, 12) := ⟨⟨by decide +kernel, by decide +kernel⟩, List.mem_of_getElem? (i := 147) (by decide +kernel), List.mem_of_getElem? (i := 489) (by decide +kernel), List.mem_of_getElem? (i := 490) (by decide +kernel)⟩
theorem lw_p18 : lw_okq (⟨"ViewMediator$Asker", "arrive", "()V"⟩, 12) := ⟨⟨by decide +kernel, by decide +kernel⟩, List.mem_of_getElem? (i := 147) (by decide +kernel), List.mem_of_getElem? (i := 493) (by decide +kernel), List.mem_of_getElem? (i := 494) (by decide +kernel)⟩
theorem lw_p19 : lw_okq (⟨"ViewMediator$Asker", "requestCode", "()I"⟩, 12) := ⟨⟨by decide +kernel, by decide +kernel⟩, List.mem_of_getElem? (i := 147) (by decide +kernel), List.mem_of_getElem? (i := 501) (by decide +kernel), List.mem_of_getElem? (i := 502) (by decide +kernel)⟩
theorem lw_p20 : lw_okq (⟨"ViewMediator$Asker", "tryRelation", "(LViewMediator$Relation;)Z"⟩, 12) := ⟨⟨by decide +kernel, by decide +kernel⟩, List.mem_of_getElem? (i := 147) (by decide +kernel), List.mem_of_getElem? (i := 506) (by decide +kernel), List.mem_of_getElem? (i := 507) (by decide +kernel)⟩
theorem lw_p21 : lw_okq (⟨"ViewMediator$Asker", "listResults", "()V"⟩, 12) := ⟨⟨by decide +kernel, by decide +kernel⟩, List.mem_of_getElem? (i := 147) (by decide +kernel), List.mem_of_getElem? (i := 510) (by decide +kernel), List.mem_of_getElem? (i := 511) (by decide +kernel)⟩
theorem lw_p22 : lw_okq (⟨"ViewMediatorModel", "rowOf", "(III)I"⟩, 30) := ⟨⟨by decide +kernel, by decide +kernel⟩, List.mem_of_getElem? (i := 551) (by decide +kernel), List.mem_of_getElem? (i := 659) (by decide +kernel), List.mem_of_getElem? (i := 660) (by decide +kernel)⟩
theorem lw_p23 : lw_okq (⟨"ViewMediatorModel", "good", "()Z"⟩, 30) := ⟨⟨by decide +kernel, by decide +kernel⟩, List.mem_of_getElem? (i := 551) (by decide +kernel), List.mem_of_getElem? (i := 709) (by decide +kernel), List.mem_of_getElem? (i := 710) (by decide +kernel)⟩
theorem lw_p24 : lw_okq (⟨"ViewMediatorModel", "safeRule", "(I)Z"⟩, 30) := ⟨⟨by decide +kernel, by decide +kernel⟩, List.mem_of_getElem? (i := 551) (by decide +kernel), List.mem_of_getElem? (i := 713) (by decide +kernel), List.mem_of_getElem? (i := 714) (by decide +kernel)⟩
theorem lw_p25 : lw_okq (⟨"ViewMediatorModel", "unfold", "(II)V"⟩, 30) := ⟨⟨by decide +kernel, by decide +kernel⟩, List.mem_of_getElem? (i := 551) (by decide +kernel), List.mem_of_getElem? (i := 717) (by decide +kernel), List.mem_of_getElem? (i := 718) (by decide +kernel)⟩
theorem lw_p26 : lw_okq (⟨"ViewMediatorModel", "reduce", "(I)V"⟩, 30) := ⟨⟨by decide +kernel, by decide +kernel⟩, List.mem_of_getElem? (i := 551) (by decide +kernel), List.mem_of_getElem? (i := 724) (by decide +kernel), List.mem_of_getElem? (i := 725) (by decide +kernel)⟩
theorem lw_p27 : lw_okq (⟨"ViewMediatorModel", "maps", "(III)Z"⟩, 30) := ⟨⟨by decide +kernel, by decide +kernel⟩, List.mem_of_getElem? (i := 551) (by decide +kernel), List.mem_of_getElem? (i := 728) (by decide +kernel), List.mem_of_getElem? (i := 729) (by decide +kernel)⟩
theorem lw_p28 : lw_okq (⟨"ViewMediatorModel", "fits", "(III)Z"⟩, 30) := ⟨⟨by decide +kernel, by decide +kernel⟩, List.mem_of_getElem? (i := 551) (by decide +kernel), List.mem_of_getElem? (i := 732) (by decide +kernel), List.mem_of_getElem? (i := 733) (by decide +kernel)⟩
theorem lw_p29 : lw_okq (⟨"ViewMediatorModel", "move", "(II)V"⟩, 30) := ⟨⟨by decide +kernel, by decide +kernel⟩, List.mem_of_getElem? (i := 551) (by decide +kernel), List.mem_of_getElem? (i := 736) (by decide +kernel), List.mem_of_getElem? (i := 737) (by decide +kernel)⟩
theorem lw_p30 : lw_okq (⟨"ViewMediatorModel", "drop", "()V"⟩, 30) := ⟨⟨by decide +kernel, by decide +kernel⟩, List.mem_of_getElem? (i := 551) (by decide +kernel), List.mem_of_getElem? (i := 740) (by decide +kernel), List.mem_of_getElem? (i := 741) (by decide +kernel)⟩
theorem lw_p31 : lw_okq (⟨"ViewMediatorModel", "order", "(I)V"⟩, 30) := ⟨⟨by decide +kernel, by decide +kernel⟩, List.mem_of_getElem? (i := 551) (by decide +kernel), List.mem_of_getElem? (i := 744) (by decide +kernel), List.mem_of_getElem? (i := 745) (by decide +kernel)⟩
def lw_privs_2 : List (MethodName × Nat) := [(⟨"ViewMediator$Asker", "noteLastUses", "()V"⟩, 12), (⟨"ViewMediator$Asker", "walk", "(I)V"⟩, 12), (⟨"ViewMediator$Asker", "arrive", "()V"⟩, 12), (⟨"ViewMediator$Asker", "requestCode", "()I"⟩, 12), (⟨"ViewMediator$Asker", "tryRelation", "(LViewMediator$Relation;)Z"⟩, 12), (⟨"ViewMediator$Asker", "listResults", "()V"⟩, 12), (⟨"ViewMediatorModel", "rowOf", "(III)I"⟩, 30), (⟨"ViewMediatorModel", "good", "()Z"⟩, 30), (⟨"ViewMediatorModel", "safeRule", "(I)Z"⟩, 30), (⟨"ViewMediatorModel", "unfold", "(II)V"⟩, 30), (⟨"ViewMediatorModel", "reduce", "(I)V"⟩, 30), (⟨"ViewMediatorModel", "maps", "(III)Z"⟩, 30), (⟨"ViewMediatorModel", "fits", "(III)Z"⟩, 30), (⟨"ViewMediatorModel", "move", "(II)V"⟩, 30), (⟨"ViewMediatorModel", "drop", "()V"⟩, 30), (⟨"ViewMediatorModel", "order", "(I)V"⟩, 30)]
theorem lw_r2 : ∀ q ∈ lw_privs_2, lw_okq q := List.forall_mem_cons.mpr ⟨lw_p16, List.forall_mem_cons.mpr ⟨lw_p17, List.forall_mem_cons.mpr ⟨lw_p18, List.forall_mem_cons.mpr ⟨lw_p19, List.forall_mem_cons.mpr ⟨lw_p20, List.forall_mem_cons.mpr ⟨lw_p21, List.forall_mem_cons.mpr ⟨lw_p22, List.forall_mem_cons.mpr ⟨lw_p23, List.forall_mem_cons.mpr ⟨lw_p24, List.forall_mem_cons.mpr ⟨lw_p25, List.forall_mem_cons.mpr ⟨lw_p26, List.forall_mem_cons.mpr ⟨lw_p27, List.forall_mem_cons.mpr ⟨lw_p28, List.forall_mem_cons.mpr ⟨lw_p29, List.forall_mem_cons.mpr ⟨lw_p30, List.forall_mem_cons.mpr ⟨lw_p31, fun _ h => absurd h List.not_mem_nil⟩⟩⟩⟩⟩⟩⟩⟩⟩⟩⟩⟩⟩⟩⟩⟩
theorem lw_p32 : lw_okq (⟨"ViewMediatorModel", "best", "(III)I"⟩, 30) := ⟨⟨by decide +kernel, by decide +kernel⟩, List.mem_of_getElem? (i := 551) (by decide +kernel), List.mem_of_getElem? (i := 748) (by decide +kernel), List.mem_of_getElem? (i := 749) (by decide +kernel)⟩
theorem lw_p33 : lw_okq (⟨"ViewMediatorModel", "known", "(III)Z"⟩, 30) := ⟨⟨by decide +kernel, by decide +kernel⟩, List.mem_of_getElem? (i := 551) (by decide +kernel), List.mem_of_getElem? (i := 752) (by decide +kernel), List.mem_of_getElem? (i := 753) (by decide +kernel)⟩
theorem lw_p34 : lw_okq (⟨"ViewMediatorModel", "tell", "(II)Z"⟩, 30) := ⟨⟨by decide +kernel, by decide +kernel⟩, List.mem_of_getElem? (i := 551) (by decide +kernel), List.mem_of_getElem? (i := 756) (by decide +kernel), List.mem_of_getElem? (i := 757) (by decide +kernel)⟩
theorem lw_p35 : lw_okq (⟨"ViewMediatorModel", "roads", "(II)V"⟩, 30) := ⟨⟨by decide +kernel, by decide +kernel⟩, List.mem_of_getElem? (i := 551) (by decide +kernel), List.mem_of_getElem? (i := 760) (by decide +kernel), List.mem_of_getElem? (i := 761) (by decide +kernel)⟩
theorem lw_p36 : lw_okq (⟨"ViewMediatorModel", "request", "(II)V"⟩, 30) := ⟨⟨by decide +kernel, by decide +kernel⟩, List.mem_of_getElem? (i := 551) (by decide +kernel), List.mem_of_getElem? (i := 764) (by decide +kernel), List.mem_of_getElem? (i := 765) (by decide +kernel)⟩
theorem lw_p37 : lw_okq (⟨"ViewMediatorModel", "held", "(III)I"⟩, 30) := ⟨⟨by decide +kernel, by decide +kernel⟩, List.mem_of_getElem? (i := 551) (by decide +kernel), List.mem_of_getElem? (i := 768) (by decide +kernel), List.mem_of_getElem? (i := 769) (by decide +kernel)⟩
theorem lw_p38 : lw_okq (⟨"ViewMediatorModel", "agrees", "(II)Z"⟩, 30) := ⟨⟨by decide +kernel, by decide +kernel⟩, List.mem_of_getElem? (i := 551) (by decide +kernel), List.mem_of_getElem? (i := 772) (by decide +kernel), List.mem_of_getElem? (i := 773) (by decide +kernel)⟩
theorem lw_p39 : lw_okq (⟨"ViewMediatorModel", "mean", "(II)V"⟩, 30) := ⟨⟨by decide +kernel, by decide +kernel⟩, List.mem_of_getElem? (i := 551) (by decide +kernel), List.mem_of_getElem? (i := 776) (by decide +kernel), List.mem_of_getElem? (i := 777) (by decide +kernel)⟩
theorem lw_p40 : lw_okq (⟨"ViewMediatorModel", "meaning", "(IIIII)I"⟩, 30) := ⟨⟨by decide +kernel, by decide +kernel⟩, List.mem_of_getElem? (i := 551) (by decide +kernel), List.mem_of_getElem? (i := 780) (by decide +kernel), List.mem_of_getElem? (i := 781) (by decide +kernel)⟩
theorem lw_p41 : lw_okq (⟨"ViewMediatorModel", "solve", "()V"⟩, 30) := ⟨⟨by decide +kernel, by decide +kernel⟩, List.mem_of_getElem? (i := 551) (by decide +kernel), List.mem_of_getElem? (i := 787) (by decide +kernel), List.mem_of_getElem? (i := 788) (by decide +kernel)⟩
theorem lw_p42 : lw_okq (⟨"ViewMediatorModel", "holds", "(I)Z"⟩, 30) := ⟨⟨by decide +kernel, by decide +kernel⟩, List.mem_of_getElem? (i := 551) (by decide +kernel), List.mem_of_getElem? (i := 791) (by decide +kernel), List.mem_of_getElem? (i := 792) (by decide +kernel)⟩
theorem lw_p43 : lw_okq (⟨"ViewMediatorModel", "bound", "(II)I"⟩, 30) := ⟨⟨by decide +kernel, by decide +kernel⟩, List.mem_of_getElem? (i := 551) (by decide +kernel), List.mem_of_getElem? (i := 795) (by decide +kernel), List.mem_of_getElem? (i := 796) (by decide +kernel)⟩
theorem lw_p44 : lw_okq (⟨"ViewMediatorModel", "results", "()I"⟩, 30) := ⟨⟨by decide +kernel, by decide +kernel⟩, List.mem_of_getElem? (i := 551) (by decide +kernel), List.mem_of_getElem? (i := 799) (by decide +kernel), List.mem_of_getElem? (i := 800) (by decide +kernel)⟩
theorem lw_p45 : lw_okq (⟨"ViewMediatorModel", "isAtom", "(II)Z"⟩, 30) := ⟨⟨by decide +kernel, by decide +kernel⟩, List.mem_of_getElem? (i := 551) (by decide +kernel), List.mem_of_getElem? (i := 819) (by decide +kernel), List.mem_of_getElem? (i := 820) (by decide +kernel)⟩
def lw_privs_3 : List (MethodName × Nat) := [(⟨"ViewMediatorModel", "best", "(III)I"⟩, 30), (⟨"ViewMediatorModel", "known", "(III)Z"⟩, 30), (⟨"ViewMediatorModel", "tell", "(II)Z"⟩, 30), (⟨"ViewMediatorModel", "roads", "(II)V"⟩, 30), (⟨"ViewMediatorModel", "request", "(II)V"⟩, 30), (⟨"ViewMediatorModel", "held", "(III)I"⟩, 30), (⟨"ViewMediatorModel", "agrees", "(II)Z"⟩, 30), (⟨"ViewMediatorModel", "mean", "(II)V"⟩, 30), (⟨"ViewMediatorModel", "meaning", "(IIIII)I"⟩, 30), (⟨"ViewMediatorModel", "solve", "()V"⟩, 30), (⟨"ViewMediatorModel", "holds", "(I)Z"⟩, 30), (⟨"ViewMediatorModel", "bound", "(II)I"⟩, 30), (⟨"ViewMediatorModel", "results", "()I"⟩, 30), (⟨"ViewMediatorModel", "isAtom", "(II)Z"⟩, 30)]
theorem lw_r3 : ∀ q ∈ lw_privs_3, lw_okq q := List.forall_mem_cons.mpr ⟨lw_p32, List.forall_mem_cons.mpr ⟨lw_p33, List.forall_mem_cons.mpr ⟨lw_p34, List.forall_mem_cons.mpr ⟨lw_p35, List.forall_mem_cons.mpr ⟨lw_p36, List.forall_mem_cons.mpr ⟨lw_p37, List.forall_mem_cons.mpr ⟨lw_p38, List.forall_mem_cons.mpr ⟨lw_p39, List.forall_mem_cons.mpr ⟨lw_p40, List.forall_mem_cons.mpr ⟨lw_p41, List.forall_mem_cons.mpr ⟨lw_p42, List.forall_mem_cons.mpr ⟨lw_p43, List.forall_mem_cons.mpr ⟨lw_p44, List.forall_mem_cons.mpr ⟨lw_p45, fun _ h => absurd h List.not_mem_nil⟩⟩⟩⟩⟩⟩⟩⟩⟩⟩⟩⟩⟩⟩
def lw_privs : List (MethodName × Nat) := lw_privs_1 ++ (lw_privs_2 ++ (lw_privs_3))
def lw_tbl : List Cond := k2_sels lw_privs ++ tables_1
theorem lw_privs_ok : ∀ q ∈ lw_privs, lw_okq q := by
  show ∀ q ∈ lw_privs_1 ++ (lw_privs_2 ++ (lw_privs_3)), lw_okq q
  exact List.forall_mem_append.mpr ⟨lw_r1, List.forall_mem_append.mpr ⟨lw_r2, lw_r3⟩⟩
def R_VM : String := "ViewMediator"
def F_VM : u_T := fun k => match k with
  | 0 => (R_VM, "relations", "[LViewMediator$Relation;", true)
  | 1 => (R_VM, "views", "[LViewMediator$View;", true)
  | 2 => (R_VM, "query", "LViewMediator$AtomList;", true)
  | 3 => (R_VM, "plan", "LViewMediator$Plan;", true)
  | _ => (R_VM, "asker", "LViewMediator$Asker;", true)
def t_VM : Nat → FieldType := fun k => match k with
  | 0 => (.array (.object "ViewMediator$Relation"))
  | 1 => (.array (.object "ViewMediator$View"))
  | 2 => (.object "ViewMediator$AtomList")
  | 3 => (.object "ViewMediator$Plan")
  | _ => (.object "ViewMediator$Asker")
theorem n_VM : ∀ a, a < 5 → ∀ b, b < 5 → a ≠ b → (F_VM a).2.1 ≠ (F_VM b).2.1 := by decide +kernel
theorem p_VM : ∀ k, k < 5 → parseFieldDescriptor (F_VM k).2.2.1 = some (t_VM k) := by decide +kernel
def R_Mod : String := "ViewMediatorModel"
def F_Mod : u_T := fun k => match k with
  | 0 => (R_Mod, "rows", "[I", true)
  | 1 => (R_Mod, "rowX", "[I", true)
  | 2 => (R_Mod, "rowY", "[I", true)
  | 3 => (R_Mod, "patterns", "[I", true)
  | 4 => (R_Mod, "failing", "[I", true)
  | 5 => (R_Mod, "rules", "[I", true)
  | 6 => (R_Mod, "atoms", "[I", true)
  | 7 => (R_Mod, "atomR", "[I", true)
  | 8 => (R_Mod, "atomA", "[I", true)
  | 9 => (R_Mod, "atomB", "[I", true)
  | 10 => (R_Mod, "asked", "I", false)
  | 11 => (R_Mod, "askV", "[I", true)
  | 12 => (R_Mod, "askA", "[I", true)
  | 13 => (R_Mod, "askB", "[I", true)
  | 14 => (R_Mod, "many", "I", false)
  | 15 => (R_Mod, "sizes", "[I", true)
  | 16 => (R_Mod, "listR", "[I", true)
  | 17 => (R_Mod, "listA", "[I", true)
  | 18 => (R_Mod, "listB", "[I", true)
  | 19 => (R_Mod, "mode", "[I", true)
  | 20 => (R_Mod, "dropped", "[Z", true)
  | 21 => (R_Mod, "stuck", "Z", false)
  | 22 => (R_Mod, "pick", "[I", true)
  | 23 => (R_Mod, "made", "[Z", true)
  | 24 => (R_Mod, "wanted", "[Z", true)
  | 25 => (R_Mod, "needed", "I", false)
  | 26 => (R_Mod, "requested", "I", false)
  | 27 => (R_Mod, "tried", "I", false)
  | 28 => (R_Mod, "pairs", "[Z", true)
  | _ => (R_Mod, "found", "[Z", true)
def t_Mod : Nat → FieldType := fun k => match k with
  | 0 => (.array .int)
  | 1 => (.array .int)
  | 2 => (.array .int)
  | 3 => (.array .int)
  | 4 => (.array .int)
  | 5 => (.array .int)
  | 6 => (.array .int)
  | 7 => (.array .int)
  | 8 => (.array .int)
  | 9 => (.array .int)
  | 10 => .int
  | 11 => (.array .int)
  | 12 => (.array .int)
  | 13 => (.array .int)
  | 14 => .int
  | 15 => (.array .int)
  | 16 => (.array .int)
  | 17 => (.array .int)
  | 18 => (.array .int)
  | 19 => (.array .int)
  | 20 => (.array .boolean)
  | 21 => .boolean
  | 22 => (.array .int)
  | 23 => (.array .boolean)
  | 24 => (.array .boolean)
  | 25 => .int
  | 26 => .int
  | 27 => .int
  | 28 => (.array .boolean)
  | _ => (.array .boolean)
theorem n_Mod : ∀ a, a < 30 → ∀ b, b < 30 → a ≠ b → (F_Mod a).2.1 ≠ (F_Mod b).2.1 := by decide +kernel
theorem p_Mod : ∀ k, k < 30 → parseFieldDescriptor (F_Mod k).2.2.1 = some (t_Mod k) := by decide +kernel
def R_Asker : String := "ViewMediator$Asker"
def F_Asker : u_T := fun k => match k with
  | 0 => (R_Asker, "results", "[I", true)
  | 1 => (R_Asker, "resultCount", "I", false)
  | 2 => (R_Asker, "requestCount", "I", false)
  | 3 => (R_Asker, "tryCount", "I", false)
  | 4 => (R_Asker, "found", "LViewMediator$Marks;", true)
  | 5 => (R_Asker, "made", "LViewMediator$Marks;", true)
  | 6 => (R_Asker, "values", "LViewMediator$Images;", true)
  | 7 => (R_Asker, "lastUse", "[I", true)
  | 8 => (R_Asker, "relations", "[LViewMediator$Relation;", false)
  | 9 => (R_Asker, "disjunct", "LViewMediator$Disjunct;", false)
  | 10 => (R_Asker, "goal", "I", false)
  | _ => (R_Asker, "freshRequests", "I", false)
def t_Asker : Nat → FieldType := fun k => match k with
  | 0 => (.array .int)
  | 1 => .int
  | 2 => .int
  | 3 => .int
  | 4 => (.object "ViewMediator$Marks")
  | 5 => (.object "ViewMediator$Marks")
  | 6 => (.object "ViewMediator$Images")
  | 7 => (.array .int)
  | 8 => (.array (.object "ViewMediator$Relation"))
  | 9 => (.object "ViewMediator$Disjunct")
  | 10 => .int
  | _ => .int
theorem n_Asker : ∀ a, a < 12 → ∀ b, b < 12 → a ≠ b → (F_Asker a).2.1 ≠ (F_Asker b).2.1 := by decide +kernel
theorem p_Asker : ∀ k, k < 12 → parseFieldDescriptor (F_Asker k).2.2.1 = some (t_Asker k) := by decide +kernel
def R_AtomList : String := "ViewMediator$AtomList"
def F_AtomList : u_T := fun k => match k with
  | 0 => (R_AtomList, "heads", "[I", true)
  | 1 => (R_AtomList, "firsts", "[I", true)
  | 2 => (R_AtomList, "seconds", "[I", true)
  | _ => (R_AtomList, "length", "I", false)
def t_AtomList : Nat → FieldType := fun k => match k with
  | 0 => (.array .int)
  | 1 => (.array .int)
  | 2 => (.array .int)
  | _ => .int
theorem n_AtomList : ∀ a, a < 4 → ∀ b, b < 4 → a ≠ b → (F_AtomList a).2.1 ≠ (F_AtomList b).2.1 := by decide +kernel
theorem p_AtomList : ∀ k, k < 4 → parseFieldDescriptor (F_AtomList k).2.2.1 = some (t_AtomList k) := by decide +kernel
def R_Disjunct : String := "ViewMediator$Disjunct"
def F_Disjunct : u_T := fun k => match k with
  | 0 => (R_Disjunct, "atoms", "LViewMediator$AtomList;", true)
  | 1 => (R_Disjunct, "patterns", "[I", true)
  | 2 => (R_Disjunct, "dropped", "Z", false)
  | _ => (R_Disjunct, "blocked", "Z", false)
def t_Disjunct : Nat → FieldType := fun k => match k with
  | 0 => (.object "ViewMediator$AtomList")
  | 1 => (.array .int)
  | 2 => .boolean
  | _ => .boolean
theorem n_Disjunct : ∀ a, a < 4 → ∀ b, b < 4 → a ≠ b → (F_Disjunct a).2.1 ≠ (F_Disjunct b).2.1 := by decide +kernel
theorem p_Disjunct : ∀ k, k < 4 → parseFieldDescriptor (F_Disjunct k).2.2.1 = some (t_Disjunct k) := by decide +kernel
def R_Images : String := "ViewMediator$Images"
def F_Images : u_T := fun k => match k with
  | _ => (R_Images, "of", "[I", true)
def t_Images : Nat → FieldType := fun k => match k with
  | _ => (.array .int)
theorem n_Images : ∀ a, a < 1 → ∀ b, b < 1 → a ≠ b → (F_Images a).2.1 ≠ (F_Images b).2.1 := by decide +kernel
theorem p_Images : ∀ k, k < 1 → parseFieldDescriptor (F_Images k).2.2.1 = some (t_Images k) := by decide +kernel
def R_Mapper : String := "ViewMediator$Mapper"
def F_Mapper : u_T := fun k => match k with
  | 0 => (R_Mapper, "images", "LViewMediator$Images;", true)
  | 1 => (R_Mapper, "source", "LViewMediator$AtomList;", false)
  | 2 => (R_Mapper, "target", "LViewMediator$AtomList;", false)
  | _ => (R_Mapper, "leftOut", "I", false)
def t_Mapper : Nat → FieldType := fun k => match k with
  | 0 => (.object "ViewMediator$Images")
  | 1 => (.object "ViewMediator$AtomList")
  | 2 => (.object "ViewMediator$AtomList")
  | _ => .int
theorem n_Mapper : ∀ a, a < 4 → ∀ b, b < 4 → a ≠ b → (F_Mapper a).2.1 ≠ (F_Mapper b).2.1 := by decide +kernel
theorem p_Mapper : ∀ k, k < 4 → parseFieldDescriptor (F_Mapper k).2.2.1 = some (t_Mapper k) := by decide +kernel
def R_Marks : String := "ViewMediator$Marks"
def F_Marks : u_T := fun k => match k with
  | _ => (R_Marks, "words", "[J", true)
def t_Marks : Nat → FieldType := fun k => match k with
  | _ => (.array .long)
theorem n_Marks : ∀ a, a < 1 → ∀ b, b < 1 → a ≠ b → (F_Marks a).2.1 ≠ (F_Marks b).2.1 := by decide +kernel
theorem p_Marks : ∀ k, k < 1 → parseFieldDescriptor (F_Marks k).2.2.1 = some (t_Marks k) := by decide +kernel
def R_Plan : String := "ViewMediator$Plan"
def F_Plan : u_T := fun k => match k with
  | 0 => (R_Plan, "disjuncts", "[LViewMediator$Disjunct;", true)
  | 1 => (R_Plan, "count", "I", false)
  | 2 => (R_Plan, "chosen", "[LViewMediator$AtomList;", true)
  | _ => (R_Plan, "mapper", "LViewMediator$Mapper;", true)
def t_Plan : Nat → FieldType := fun k => match k with
  | 0 => (.array (.object "ViewMediator$Disjunct"))
  | 1 => .int
  | 2 => (.array (.object "ViewMediator$AtomList"))
  | _ => (.object "ViewMediator$Mapper")
theorem n_Plan : ∀ a, a < 4 → ∀ b, b < 4 → a ≠ b → (F_Plan a).2.1 ≠ (F_Plan b).2.1 := by decide +kernel
theorem p_Plan : ∀ k, k < 4 → parseFieldDescriptor (F_Plan k).2.2.1 = some (t_Plan k) := by decide +kernel
def R_Relation : String := "ViewMediator$Relation"
def F_Relation : u_T := fun k => match k with
  | 0 => (R_Relation, "xs", "[I", true)
  | 1 => (R_Relation, "ys", "[I", true)
  | 2 => (R_Relation, "rowCount", "I", false)
  | 3 => (R_Relation, "allowed", "I", false)
  | _ => (R_Relation, "failing", "I", false)
def t_Relation : Nat → FieldType := fun k => match k with
  | 0 => (.array .int)
  | 1 => (.array .int)
  | 2 => .int
  | 3 => .int
  | _ => .int
theorem n_Relation : ∀ a, a < 5 → ∀ b, b < 5 → a ≠ b → (F_Relation a).2.1 ≠ (F_Relation b).2.1 := by decide +kernel
theorem p_Relation : ∀ k, k < 5 → parseFieldDescriptor (F_Relation k).2.2.1 = some (t_Relation k) := by decide +kernel
def R_View : String := "ViewMediator$View"
def F_View : u_T := fun k => match k with
  | 0 => (R_View, "rules", "[LViewMediator$AtomList;", true)
  | _ => (R_View, "ruleCount", "I", false)
def t_View : Nat → FieldType := fun k => match k with
  | 0 => (.array (.object "ViewMediator$AtomList"))
  | _ => .int
theorem n_View : ∀ a, a < 2 → ∀ b, b < 2 → a ≠ b → (F_View a).2.1 ≠ (F_View b).2.1 := by decide +kernel
theorem p_View : ∀ k, k < 2 → parseFieldDescriptor (F_View k).2.2.1 = some (t_View k) := by decide +kernel
abbrev x_cl : List vw_C := [(R_VM, F_VM, 5), (R_Mod, F_Mod, 30), (R_Asker, F_Asker, 12), (R_AtomList, F_AtomList, 4), (R_Disjunct, F_Disjunct, 4), (R_Images, F_Images, 1), (R_Mapper, F_Mapper, 4), (R_Marks, F_Marks, 1), (R_Plan, F_Plan, 4), (R_Relation, F_Relation, 5), (R_View, F_View, 2)]
abbrev x_tys : List FieldType := [.int, .long, .boolean, .object "ViewMediator$Relation", .object "ViewMediator$View", .object "ViewMediator$Disjunct", .object "ViewMediator$AtomList"]
def y_VM_init : MethodName := ⟨"ViewMediator", "<init>", "()V"⟩
abbrev k_VM_init : MethodName × ByteArray × Nat × Option FieldType := (y_VM_init, prog_1_method_1_code, 2, none)
def y_VM_fact : MethodName := ⟨"ViewMediator", "fact", "(III)Z"⟩
abbrev k_VM_fact : MethodName × ByteArray × Nat × Option FieldType := (y_VM_fact, prog_1_method_2_code, 4, some .boolean)
def y_VM_retract : MethodName := ⟨"ViewMediator", "retract", "(III)Z"⟩
abbrev k_VM_retract : MethodName × ByteArray × Nat × Option FieldType := (y_VM_retract, prog_1_method_3_code, 4, some .boolean)
def y_VM_allow : MethodName := ⟨"ViewMediator", "allow", "(II)Z"⟩
abbrev k_VM_allow : MethodName × ByteArray × Nat × Option FieldType := (y_VM_allow, prog_1_method_4_code, 3, some .boolean)
def y_VM_fail : MethodName := ⟨"ViewMediator", "fail", "(II)Z"⟩
abbrev k_VM_fail : MethodName × ByteArray × Nat × Option FieldType := (y_VM_fail, prog_1_method_5_code, 3, some .boolean)
def y_VM_failures : MethodName := ⟨"ViewMediator", "failures", "(I)I"⟩
abbrev k_VM_failures : MethodName × ByteArray × Nat × Option FieldType := (y_VM_failures, prog_1_method_6_code, 2, some .int)
def y_VM_rule : MethodName := ⟨"ViewMediator", "rule", "(I)I"⟩
abbrev k_VM_rule : MethodName × ByteArray × Nat × Option FieldType := (y_VM_rule, prog_1_method_7_code, 2, some .int)
def y_VM_atom : MethodName := ⟨"ViewMediator", "atom", "(IIII)Z"⟩
abbrev k_VM_atom : MethodName × ByteArray × Nat × Option FieldType := (y_VM_atom, prog_1_method_8_code, 5, some .boolean)
def y_VM_forget : MethodName := ⟨"ViewMediator", "forget", "(I)I"⟩
abbrev k_VM_forget : MethodName × ByteArray × Nat × Option FieldType := (y_VM_forget, prog_1_method_9_code, 2, some .int)
def y_VM_ask : MethodName := ⟨"ViewMediator", "ask", "(III)Z"⟩
abbrev k_VM_ask : MethodName × ByteArray × Nat × Option FieldType := (y_VM_ask, prog_1_method_10_code, 4, some .boolean)
def y_VM_clear : MethodName := ⟨"ViewMediator", "clear", "()V"⟩
abbrev k_VM_clear : MethodName × ByteArray × Nat × Option FieldType := (y_VM_clear, prog_1_method_11_code, 1, none)
def y_VM_run : MethodName := ⟨"ViewMediator", "run", "()I"⟩
abbrev k_VM_run : MethodName × ByteArray × Nat × Option FieldType := (y_VM_run, prog_1_method_12_code, 1, some .int)
def y_VM_result : MethodName := ⟨"ViewMediator", "result", "(I)I"⟩
abbrev k_VM_result : MethodName × ByteArray × Nat × Option FieldType := (y_VM_result, prog_1_method_13_code, 2, some .int)
def y_VM_disjuncts : MethodName := ⟨"ViewMediator", "disjuncts", "()I"⟩
abbrev k_VM_disjuncts : MethodName × ByteArray × Nat × Option FieldType := (y_VM_disjuncts, prog_1_method_14_code, 1, some .int)
def y_VM_size : MethodName := ⟨"ViewMediator", "size", "(I)I"⟩
abbrev k_VM_size : MethodName × ByteArray × Nat × Option FieldType := (y_VM_size, prog_1_method_15_code, 2, some .int)
def y_VM_atomAt : MethodName := ⟨"ViewMediator", "atomAt", "(II)I"⟩
abbrev k_VM_atomAt : MethodName × ByteArray × Nat × Option FieldType := (y_VM_atomAt, prog_1_method_16_code, 3, some .int)
def y_VM_patternAt : MethodName := ⟨"ViewMediator", "patternAt", "(II)I"⟩
abbrev k_VM_patternAt : MethodName × ByteArray × Nat × Option FieldType := (y_VM_patternAt, prog_1_method_17_code, 3, some .int)
def y_VM_requests : MethodName := ⟨"ViewMediator", "requests", "()I"⟩
abbrev k_VM_requests : MethodName × ByteArray × Nat × Option FieldType := (y_VM_requests, prog_1_method_18_code, 1, some .int)
def y_VM_tries : MethodName := ⟨"ViewMediator", "tries", "()I"⟩
abbrev k_VM_tries : MethodName × ByteArray × Nat × Option FieldType := (y_VM_tries, prog_1_method_19_code, 1, some .int)
def y_VM_isBelow : MethodName := ⟨"ViewMediator", "isBelow", "(II)Z"⟩
abbrev k_VM_isBelow : MethodName × ByteArray × Nat × Option FieldType := (y_VM_isBelow, prog_1_method_20_code, 2, some .boolean)
def y_VM_isBad : MethodName := ⟨"ViewMediator", "isBad", "()Z"⟩
abbrev k_VM_isBad : MethodName × ByteArray × Nat × Option FieldType := (y_VM_isBad, prog_1_method_21_code, 2, some .boolean)
def y_Mod_init : MethodName := ⟨"ViewMediatorModel", "<init>", "()V"⟩
abbrev k_Mod_init : MethodName × ByteArray × Nat × Option FieldType := (y_Mod_init, prog_12_method_1_code, 1, none)
def y_Mod_value : MethodName := ⟨"ViewMediatorModel", "value", "(I)Z"⟩
abbrev k_Mod_value : MethodName × ByteArray × Nat × Option FieldType := (y_Mod_value, prog_12_method_2_code, 1, some .boolean)
def y_Mod_relationOk : MethodName := ⟨"ViewMediatorModel", "relationOk", "(I)Z"⟩
abbrev k_Mod_relationOk : MethodName × ByteArray × Nat × Option FieldType := (y_Mod_relationOk, prog_12_method_3_code, 1, some .boolean)
def y_Mod_viewOk : MethodName := ⟨"ViewMediatorModel", "viewOk", "(I)Z"⟩
abbrev k_Mod_viewOk : MethodName × ByteArray × Nat × Option FieldType := (y_Mod_viewOk, prog_12_method_4_code, 1, some .boolean)
def y_Mod_term : MethodName := ⟨"ViewMediatorModel", "term", "(I)Z"⟩
abbrev k_Mod_term : MethodName × ByteArray × Nat × Option FieldType := (y_Mod_term, prog_12_method_5_code, 1, some .boolean)
def y_Mod_rowOf : MethodName := ⟨"ViewMediatorModel", "rowOf", "(III)I"⟩
abbrev k_Mod_rowOf : MethodName × ByteArray × Nat × Option FieldType := (y_Mod_rowOf, prog_12_method_6_code, 5, some .int)
def y_Mod_fact : MethodName := ⟨"ViewMediatorModel", "fact", "(III)Z"⟩
abbrev k_Mod_fact : MethodName × ByteArray × Nat × Option FieldType := (y_Mod_fact, prog_12_method_7_code, 4, some .boolean)
def y_Mod_retract : MethodName := ⟨"ViewMediatorModel", "retract", "(III)Z"⟩
abbrev k_Mod_retract : MethodName × ByteArray × Nat × Option FieldType := (y_Mod_retract, prog_12_method_8_code, 6, some .boolean)
def y_Mod_allow : MethodName := ⟨"ViewMediatorModel", "allow", "(II)Z"⟩
abbrev k_Mod_allow : MethodName × ByteArray × Nat × Option FieldType := (y_Mod_allow, prog_12_method_9_code, 3, some .boolean)
def y_Mod_fail : MethodName := ⟨"ViewMediatorModel", "fail", "(II)Z"⟩
abbrev k_Mod_fail : MethodName × ByteArray × Nat × Option FieldType := (y_Mod_fail, prog_12_method_10_code, 3, some .boolean)
def y_Mod_failures : MethodName := ⟨"ViewMediatorModel", "failures", "(I)I"⟩
abbrev k_Mod_failures : MethodName × ByteArray × Nat × Option FieldType := (y_Mod_failures, prog_12_method_11_code, 2, some .int)
def y_Mod_rule : MethodName := ⟨"ViewMediatorModel", "rule", "(I)I"⟩
abbrev k_Mod_rule : MethodName × ByteArray × Nat × Option FieldType := (y_Mod_rule, prog_12_method_12_code, 2, some .int)
def y_Mod_atom : MethodName := ⟨"ViewMediatorModel", "atom", "(IIII)Z"⟩
abbrev k_Mod_atom : MethodName × ByteArray × Nat × Option FieldType := (y_Mod_atom, prog_12_method_13_code, 7, some .boolean)
def y_Mod_forget : MethodName := ⟨"ViewMediatorModel", "forget", "(I)I"⟩
abbrev k_Mod_forget : MethodName × ByteArray × Nat × Option FieldType := (y_Mod_forget, prog_12_method_14_code, 3, some .int)
def y_Mod_ask : MethodName := ⟨"ViewMediatorModel", "ask", "(III)Z"⟩
abbrev k_Mod_ask : MethodName × ByteArray × Nat × Option FieldType := (y_Mod_ask, prog_12_method_15_code, 4, some .boolean)
def y_Mod_clear : MethodName := ⟨"ViewMediatorModel", "clear", "()V"⟩
abbrev k_Mod_clear : MethodName × ByteArray × Nat × Option FieldType := (y_Mod_clear, prog_12_method_16_code, 1, none)
def y_Mod_safeRule : MethodName := ⟨"ViewMediatorModel", "safeRule", "(I)Z"⟩
abbrev k_Mod_safeRule : MethodName × ByteArray × Nat × Option FieldType := (y_Mod_safeRule, prog_12_method_17_code, 5, some .boolean)
def y_Mod_good : MethodName := ⟨"ViewMediatorModel", "good", "()Z"⟩
abbrev k_Mod_good : MethodName × ByteArray × Nat × Option FieldType := (y_Mod_good, prog_12_method_18_code, 7, some .boolean)
def y_Mod_changed : MethodName := ⟨"ViewMediatorModel", "changed", "(IIII)I"⟩
abbrev k_Mod_changed : MethodName × ByteArray × Nat × Option FieldType := (y_Mod_changed, prog_12_method_19_code, 4, some .int)
def y_Mod_unfold : MethodName := ⟨"ViewMediatorModel", "unfold", "(II)V"⟩
abbrev k_Mod_unfold : MethodName × ByteArray × Nat × Option FieldType := (y_Mod_unfold, prog_12_method_20_code, 8, none)
def y_Mod_fits : MethodName := ⟨"ViewMediatorModel", "fits", "(III)Z"⟩
abbrev k_Mod_fits : MethodName × ByteArray × Nat × Option FieldType := (y_Mod_fits, prog_12_method_21_code, 10, some .boolean)
def y_Mod_maps : MethodName := ⟨"ViewMediatorModel", "maps", "(III)Z"⟩
abbrev k_Mod_maps : MethodName × ByteArray × Nat × Option FieldType := (y_Mod_maps, prog_12_method_22_code, 5, some .boolean)
def y_Mod_move : MethodName := ⟨"ViewMediatorModel", "move", "(II)V"⟩
abbrev k_Mod_move : MethodName × ByteArray × Nat × Option FieldType := (y_Mod_move, prog_12_method_23_code, 3, none)
def y_Mod_reduce : MethodName := ⟨"ViewMediatorModel", "reduce", "(I)V"⟩
abbrev k_Mod_reduce : MethodName × ByteArray × Nat × Option FieldType := (y_Mod_reduce, prog_12_method_24_code, 4, none)
def y_Mod_drop : MethodName := ⟨"ViewMediatorModel", "drop", "()V"⟩
abbrev k_Mod_drop : MethodName × ByteArray × Nat × Option FieldType := (y_Mod_drop, prog_12_method_25_code, 4, none)
def y_Mod_known : MethodName := ⟨"ViewMediatorModel", "known", "(III)Z"⟩
abbrev k_Mod_known : MethodName × ByteArray × Nat × Option FieldType := (y_Mod_known, prog_12_method_26_code, 6, some .boolean)
def y_Mod_best : MethodName := ⟨"ViewMediatorModel", "best", "(III)I"⟩
abbrev k_Mod_best : MethodName × ByteArray × Nat × Option FieldType := (y_Mod_best, prog_12_method_27_code, 7, some .int)
def y_Mod_order : MethodName := ⟨"ViewMediatorModel", "order", "(I)V"⟩
abbrev k_Mod_order : MethodName × ByteArray × Nat × Option FieldType := (y_Mod_order, prog_12_method_28_code, 10, none)
def y_Mod_held : MethodName := ⟨"ViewMediatorModel", "held", "(III)I"⟩
abbrev k_Mod_held : MethodName × ByteArray × Nat × Option FieldType := (y_Mod_held, prog_12_method_29_code, 6, some .int)
def y_Mod_agrees : MethodName := ⟨"ViewMediatorModel", "agrees", "(II)Z"⟩
abbrev k_Mod_agrees : MethodName × ByteArray × Nat × Option FieldType := (y_Mod_agrees, prog_12_method_30_code, 7, some .boolean)
def y_Mod_request : MethodName := ⟨"ViewMediatorModel", "request", "(II)V"⟩
abbrev k_Mod_request : MethodName × ByteArray × Nat × Option FieldType := (y_Mod_request, prog_12_method_31_code, 7, none)
def y_Mod_roads : MethodName := ⟨"ViewMediatorModel", "roads", "(II)V"⟩
abbrev k_Mod_roads : MethodName × ByteArray × Nat × Option FieldType := (y_Mod_roads, prog_12_method_32_code, 4, none)
def y_Mod_tell : MethodName := ⟨"ViewMediatorModel", "tell", "(II)Z"⟩
abbrev k_Mod_tell : MethodName × ByteArray × Nat × Option FieldType := (y_Mod_tell, prog_12_method_33_code, 5, some .boolean)
def y_Mod_mean : MethodName := ⟨"ViewMediatorModel", "mean", "(II)V"⟩
abbrev k_Mod_mean : MethodName × ByteArray × Nat × Option FieldType := (y_Mod_mean, prog_12_method_34_code, 11, none)
def y_Mod_meaning : MethodName := ⟨"ViewMediatorModel", "meaning", "(IIIII)I"⟩
abbrev k_Mod_meaning : MethodName × ByteArray × Nat × Option FieldType := (y_Mod_meaning, prog_12_method_35_code, 7, some .int)
def y_Mod_joined : MethodName := ⟨"ViewMediatorModel", "joined", "(IZI)I"⟩
abbrev k_Mod_joined : MethodName × ByteArray × Nat × Option FieldType := (y_Mod_joined, prog_12_method_36_code, 3, some .int)
def y_Mod_bound : MethodName := ⟨"ViewMediatorModel", "bound", "(II)I"⟩
abbrev k_Mod_bound : MethodName × ByteArray × Nat × Option FieldType := (y_Mod_bound, prog_12_method_37_code, 5, some .int)
def y_Mod_holds : MethodName := ⟨"ViewMediatorModel", "holds", "(I)Z"⟩
abbrev k_Mod_holds : MethodName × ByteArray × Nat × Option FieldType := (y_Mod_holds, prog_12_method_38_code, 5, some .boolean)
def y_Mod_solve : MethodName := ⟨"ViewMediatorModel", "solve", "()V"⟩
abbrev k_Mod_solve : MethodName × ByteArray × Nat × Option FieldType := (y_Mod_solve, prog_12_method_39_code, 4, none)
def y_Mod_run : MethodName := ⟨"ViewMediatorModel", "run", "()I"⟩
abbrev k_Mod_run : MethodName × ByteArray × Nat × Option FieldType := (y_Mod_run, prog_12_method_40_code, 3, some .int)
def y_Mod_results : MethodName := ⟨"ViewMediatorModel", "results", "()I"⟩
abbrev k_Mod_results : MethodName × ByteArray × Nat × Option FieldType := (y_Mod_results, prog_12_method_41_code, 3, some .int)
def y_Mod_result : MethodName := ⟨"ViewMediatorModel", "result", "(I)I"⟩
abbrev k_Mod_result : MethodName × ByteArray × Nat × Option FieldType := (y_Mod_result, prog_12_method_42_code, 4, some .int)
def y_Mod_disjuncts : MethodName := ⟨"ViewMediatorModel", "disjuncts", "()I"⟩
abbrev k_Mod_disjuncts : MethodName × ByteArray × Nat × Option FieldType := (y_Mod_disjuncts, prog_12_method_43_code, 1, some .int)
def y_Mod_size : MethodName := ⟨"ViewMediatorModel", "size", "(I)I"⟩
abbrev k_Mod_size : MethodName × ByteArray × Nat × Option FieldType := (y_Mod_size, prog_12_method_44_code, 2, some .int)
def y_Mod_isAtom : MethodName := ⟨"ViewMediatorModel", "isAtom", "(II)Z"⟩
abbrev k_Mod_isAtom : MethodName × ByteArray × Nat × Option FieldType := (y_Mod_isAtom, prog_12_method_45_code, 3, some .boolean)
def y_Mod_atomAt : MethodName := ⟨"ViewMediatorModel", "atomAt", "(II)I"⟩
abbrev k_Mod_atomAt : MethodName × ByteArray × Nat × Option FieldType := (y_Mod_atomAt, prog_12_method_46_code, 4, some .int)
def y_Mod_patternAt : MethodName := ⟨"ViewMediatorModel", "patternAt", "(II)I"⟩
abbrev k_Mod_patternAt : MethodName × ByteArray × Nat × Option FieldType := (y_Mod_patternAt, prog_12_method_47_code, 3, some .int)
def y_Mod_requests : MethodName := ⟨"ViewMediatorModel", "requests", "()I"⟩
abbrev k_Mod_requests : MethodName × ByteArray × Nat × Option FieldType := (y_Mod_requests, prog_12_method_48_code, 1, some .int)
def y_Mod_tries : MethodName := ⟨"ViewMediatorModel", "tries", "()I"⟩
abbrev k_Mod_tries : MethodName × ByteArray × Nat × Option FieldType := (y_Mod_tries, prog_12_method_49_code, 1, some .int)
def y_Asker_init : MethodName := ⟨"ViewMediator$Asker", "<init>", "()V"⟩
abbrev k_Asker_init : MethodName × ByteArray × Nat × Option FieldType := (y_Asker_init, prog_2_method_1_code, 1, none)
def y_Asker_begin : MethodName := ⟨"ViewMediator$Asker", "begin", "()V"⟩
abbrev k_Asker_begin : MethodName × ByteArray × Nat × Option FieldType := (y_Asker_begin, prog_2_method_2_code, 1, none)
def y_Asker_askAll : MethodName := ⟨"ViewMediator$Asker", "askAll", "(LViewMediator$Plan;[LViewMediator$Relation;)Z"⟩
abbrev k_Asker_askAll : MethodName × ByteArray × Nat × Option FieldType := (y_Asker_askAll, prog_2_method_3_code, 4, some .boolean)
def y_Asker_askDisjunct : MethodName := ⟨"ViewMediator$Asker", "askDisjunct", "()Z"⟩
abbrev k_Asker_askDisjunct : MethodName × ByteArray × Nat × Option FieldType := (y_Asker_askDisjunct, prog_2_method_4_code, 3, some .boolean)
def y_Asker_tryRelation : MethodName := ⟨"ViewMediator$Asker", "tryRelation", "(LViewMediator$Relation;)Z"⟩
abbrev k_Asker_tryRelation : MethodName × ByteArray × Nat × Option FieldType := (y_Asker_tryRelation, prog_2_method_5_code, 2, some .boolean)
def y_Asker_listResults : MethodName := ⟨"ViewMediator$Asker", "listResults", "()V"⟩
abbrev k_Asker_listResults : MethodName × ByteArray × Nat × Option FieldType := (y_Asker_listResults, prog_2_method_6_code, 2, none)
def y_Asker_walkRoadsTo : MethodName := ⟨"ViewMediator$Asker", "walkRoadsTo", "(I)V"⟩
abbrev k_Asker_walkRoadsTo : MethodName × ByteArray × Nat × Option FieldType := (y_Asker_walkRoadsTo, prog_2_method_7_code, 2, none)
def y_Asker_noteLastUses : MethodName := ⟨"ViewMediator$Asker", "noteLastUses", "()V"⟩
abbrev k_Asker_noteLastUses : MethodName × ByteArray × Nat × Option FieldType := (y_Asker_noteLastUses, prog_2_method_8_code, 3, none)
def y_Asker_walk : MethodName := ⟨"ViewMediator$Asker", "walk", "(I)V"⟩
abbrev k_Asker_walk : MethodName × ByteArray × Nat × Option FieldType := (y_Asker_walk, prog_2_method_9_code, 12, none)
def y_Asker_arrive : MethodName := ⟨"ViewMediator$Asker", "arrive", "()V"⟩
abbrev k_Asker_arrive : MethodName × ByteArray × Nat × Option FieldType := (y_Asker_arrive, prog_2_method_10_code, 1, none)
def y_Asker_requestCode : MethodName := ⟨"ViewMediator$Asker", "requestCode", "()I"⟩
abbrev k_Asker_requestCode : MethodName × ByteArray × Nat × Option FieldType := (y_Asker_requestCode, prog_2_method_11_code, 5, some .int)
def y_AtomList_init : MethodName := ⟨"ViewMediator$AtomList", "<init>", "(I)V"⟩
abbrev k_AtomList_init : MethodName × ByteArray × Nat × Option FieldType := (y_AtomList_init, prog_3_method_1_code, 2, none)
def y_AtomList_add : MethodName := ⟨"ViewMediator$AtomList", "add", "(III)Z"⟩
abbrev k_AtomList_add : MethodName × ByteArray × Nat × Option FieldType := (y_AtomList_add, prog_3_method_2_code, 4, some .boolean)
def y_AtomList_makeEmpty : MethodName := ⟨"ViewMediator$AtomList", "makeEmpty", "()V"⟩
abbrev k_AtomList_makeEmpty : MethodName × ByteArray × Nat × Option FieldType := (y_AtomList_makeEmpty, prog_3_method_3_code, 1, none)
def y_AtomList_takeOut : MethodName := ⟨"ViewMediator$AtomList", "takeOut", "(I)V"⟩
abbrev k_AtomList_takeOut : MethodName × ByteArray × Nat × Option FieldType := (y_AtomList_takeOut, prog_3_method_4_code, 2, none)
def y_AtomList_moveToEnd : MethodName := ⟨"ViewMediator$AtomList", "moveToEnd", "(I)V"⟩
abbrev k_AtomList_moveToEnd : MethodName × ByteArray × Nat × Option FieldType := (y_AtomList_moveToEnd, prog_3_method_5_code, 3, none)
def y_AtomList_moveForward : MethodName := ⟨"ViewMediator$AtomList", "moveForward", "(II)V"⟩
abbrev k_AtomList_moveForward : MethodName × ByteArray × Nat × Option FieldType := (y_AtomList_moveForward, prog_3_method_6_code, 4, none)
def y_AtomList_swapWithNext : MethodName := ⟨"ViewMediator$AtomList", "swapWithNext", "(I)V"⟩
abbrev k_AtomList_swapWithNext : MethodName × ByteArray × Nat × Option FieldType := (y_AtomList_swapWithNext, prog_3_method_7_code, 5, none)
def y_AtomList_set : MethodName := ⟨"ViewMediator$AtomList", "set", "(IIII)V"⟩
abbrev k_AtomList_set : MethodName × ByteArray × Nat × Option FieldType := (y_AtomList_set, prog_3_method_8_code, 5, none)
def y_AtomList_isSafe : MethodName := ⟨"ViewMediator$AtomList", "isSafe", "()Z"⟩
abbrev k_AtomList_isSafe : MethodName × ByteArray × Nat × Option FieldType := (y_AtomList_isSafe, prog_3_method_9_code, 1, some .boolean)
def y_AtomList_has : MethodName := ⟨"ViewMediator$AtomList", "has", "(I)Z"⟩
abbrev k_AtomList_has : MethodName × ByteArray × Nat × Option FieldType := (y_AtomList_has, prog_3_method_10_code, 3, some .boolean)
def y_AtomList_codeAt : MethodName := ⟨"ViewMediator$AtomList", "codeAt", "(I)I"⟩
abbrev k_AtomList_codeAt : MethodName × ByteArray × Nat × Option FieldType := (y_AtomList_codeAt, prog_3_method_11_code, 2, some .int)
def y_Disjunct_init : MethodName := ⟨"ViewMediator$Disjunct", "<init>", "()V"⟩
abbrev k_Disjunct_init : MethodName × ByteArray × Nat × Option FieldType := (y_Disjunct_init, prog_4_method_1_code, 1, none)
def y_Disjunct_begin : MethodName := ⟨"ViewMediator$Disjunct", "begin", "()V"⟩
abbrev k_Disjunct_begin : MethodName × ByteArray × Nat × Option FieldType := (y_Disjunct_begin, prog_4_method_2_code, 1, none)
def y_Disjunct_addUnfolded : MethodName := ⟨"ViewMediator$Disjunct", "addUnfolded", "(LViewMediator$AtomList;LViewMediator$AtomList;I)V"⟩
abbrev k_Disjunct_addUnfolded : MethodName × ByteArray × Nat × Option FieldType := (y_Disjunct_addUnfolded, prog_4_method_3_code, 5, none)
def y_Disjunct_unfolded : MethodName := ⟨"ViewMediator$Disjunct", "unfolded", "(ILViewMediator$AtomList;I)I"⟩
abbrev k_Disjunct_unfolded : MethodName × ByteArray × Nat × Option FieldType := (y_Disjunct_unfolded, prog_4_method_4_code, 3, some .int)
def y_Disjunct_takeSuperfluousOut : MethodName := ⟨"ViewMediator$Disjunct", "takeSuperfluousOut", "(LViewMediator$Mapper;)V"⟩
abbrev k_Disjunct_takeSuperfluousOut : MethodName × ByteArray × Nat × Option FieldType := (y_Disjunct_takeSuperfluousOut, prog_4_method_5_code, 4, none)
def y_Disjunct_putInOrder : MethodName := ⟨"ViewMediator$Disjunct", "putInOrder", "([LViewMediator$Relation;)V"⟩
abbrev k_Disjunct_putInOrder : MethodName × ByteArray × Nat × Option FieldType := (y_Disjunct_putInOrder, prog_4_method_6_code, 5, none)
def y_Disjunct_putNext : MethodName := ⟨"ViewMediator$Disjunct", "putNext", "(IJ[LViewMediator$Relation;)Z"⟩
abbrev k_Disjunct_putNext : MethodName × ByteArray × Nat × Option FieldType := (y_Disjunct_putNext, prog_4_method_7_code, 7, some .boolean)
def y_Disjunct_knownHalves : MethodName := ⟨"ViewMediator$Disjunct", "knownHalves", "(IJ)I"⟩
abbrev k_Disjunct_knownHalves : MethodName × ByteArray × Nat × Option FieldType := (y_Disjunct_knownHalves, prog_4_method_8_code, 6, some .int)
def y_Images_init : MethodName := ⟨"ViewMediator$Images", "<init>", "(I)V"⟩
abbrev k_Images_init : MethodName × ByteArray × Nat × Option FieldType := (y_Images_init, prog_5_method_1_code, 3, none)
def y_Images_letBecome : MethodName := ⟨"ViewMediator$Images", "letBecome", "(II)Z"⟩
abbrev k_Images_letBecome : MethodName × ByteArray × Nat × Option FieldType := (y_Images_letBecome, prog_5_method_2_code, 3, some .boolean)
def y_Mapper_init : MethodName := ⟨"ViewMediator$Mapper", "<init>", "()V"⟩
abbrev k_Mapper_init : MethodName × ByteArray × Nat × Option FieldType := (y_Mapper_init, prog_6_method_1_code, 1, none)
def y_Mapper_maps : MethodName := ⟨"ViewMediator$Mapper", "maps", "(LViewMediator$AtomList;LViewMediator$AtomList;I)Z"⟩
abbrev k_Mapper_maps : MethodName × ByteArray × Nat × Option FieldType := (y_Mapper_maps, prog_6_method_2_code, 4, some .boolean)
def y_Mapper_mapsFrom : MethodName := ⟨"ViewMediator$Mapper", "mapsFrom", "(I)Z"⟩
abbrev k_Mapper_mapsFrom : MethodName × ByteArray × Nat × Option FieldType := (y_Mapper_mapsFrom, prog_6_method_3_code, 3, some .boolean)
def y_Mapper_mapsOnto : MethodName := ⟨"ViewMediator$Mapper", "mapsOnto", "(II)Z"⟩
abbrev k_Mapper_mapsOnto : MethodName × ByteArray × Nat × Option FieldType := (y_Mapper_mapsOnto, prog_6_method_4_code, 8, some .boolean)
def y_Marks_init : MethodName := ⟨"ViewMediator$Marks", "<init>", "(I)V"⟩
abbrev k_Marks_init : MethodName × ByteArray × Nat × Option FieldType := (y_Marks_init, prog_7_method_1_code, 2, none)
def y_Marks_makeEmpty : MethodName := ⟨"ViewMediator$Marks", "makeEmpty", "()V"⟩
abbrev k_Marks_makeEmpty : MethodName × ByteArray × Nat × Option FieldType := (y_Marks_makeEmpty, prog_7_method_2_code, 1, none)
def y_Marks_has : MethodName := ⟨"ViewMediator$Marks", "has", "(I)Z"⟩
abbrev k_Marks_has : MethodName × ByteArray × Nat × Option FieldType := (y_Marks_has, prog_7_method_3_code, 2, some .boolean)
def y_Marks_add : MethodName := ⟨"ViewMediator$Marks", "add", "(I)Z"⟩
abbrev k_Marks_add : MethodName × ByteArray × Nat × Option FieldType := (y_Marks_add, prog_7_method_4_code, 5, some .boolean)
def y_Plan_init : MethodName := ⟨"ViewMediator$Plan", "<init>", "()V"⟩
abbrev k_Plan_init : MethodName × ByteArray × Nat × Option FieldType := (y_Plan_init, prog_8_method_1_code, 2, none)
def y_Plan_make : MethodName := ⟨"ViewMediator$Plan", "make", "(LViewMediator$AtomList;[LViewMediator$View;[LViewMediator$Relation;)V"⟩
abbrev k_Plan_make : MethodName × ByteArray × Nat × Option FieldType := (y_Plan_make, prog_8_method_2_code, 5, none)
def y_Plan_unfoldFrom : MethodName := ⟨"ViewMediator$Plan", "unfoldFrom", "(ILViewMediator$AtomList;[LViewMediator$View;)V"⟩
abbrev k_Plan_unfoldFrom : MethodName × ByteArray × Nat × Option FieldType := (y_Plan_unfoldFrom, prog_8_method_3_code, 6, none)
def y_Plan_formDisjunct : MethodName := ⟨"ViewMediator$Plan", "formDisjunct", "(LViewMediator$AtomList;)V"⟩
abbrev k_Plan_formDisjunct : MethodName × ByteArray × Nat × Option FieldType := (y_Plan_formDisjunct, prog_8_method_4_code, 4, none)
def y_Plan_isCovered : MethodName := ⟨"ViewMediator$Plan", "isCovered", "(I)Z"⟩
abbrev k_Plan_isCovered : MethodName × ByteArray × Nat × Option FieldType := (y_Plan_isCovered, prog_8_method_5_code, 3, some .boolean)
def y_Plan_closeGaps : MethodName := ⟨"ViewMediator$Plan", "closeGaps", "()V"⟩
abbrev k_Plan_closeGaps : MethodName × ByteArray × Nat × Option FieldType := (y_Plan_closeGaps, prog_8_method_6_code, 4, none)
def y_Plan_isBlocked : MethodName := ⟨"ViewMediator$Plan", "isBlocked", "()Z"⟩
abbrev k_Plan_isBlocked : MethodName × ByteArray × Nat × Option FieldType := (y_Plan_isBlocked, prog_8_method_7_code, 2, some .boolean)
def y_Relation_init : MethodName := ⟨"ViewMediator$Relation", "<init>", "()V"⟩
abbrev k_Relation_init : MethodName × ByteArray × Nat × Option FieldType := (y_Relation_init, prog_9_method_1_code, 1, none)
def y_Relation_put : MethodName := ⟨"ViewMediator$Relation", "put", "(II)Z"⟩
abbrev k_Relation_put : MethodName × ByteArray × Nat × Option FieldType := (y_Relation_put, prog_9_method_2_code, 3, some .boolean)
def y_Relation_takeOut : MethodName := ⟨"ViewMediator$Relation", "takeOut", "(II)Z"⟩
abbrev k_Relation_takeOut : MethodName × ByteArray × Nat × Option FieldType := (y_Relation_takeOut, prog_9_method_3_code, 4, some .boolean)
def y_Relation_placeOf : MethodName := ⟨"ViewMediator$Relation", "placeOf", "(II)I"⟩
abbrev k_Relation_placeOf : MethodName × ByteArray × Nat × Option FieldType := (y_Relation_placeOf, prog_9_method_4_code, 4, some .int)
def y_Relation_greatestPattern : MethodName := ⟨"ViewMediator$Relation", "greatestPattern", "(I)I"⟩
abbrev k_Relation_greatestPattern : MethodName × ByteArray × Nat × Option FieldType := (y_Relation_greatestPattern, prog_9_method_5_code, 3, some .int)
def y_View_init : MethodName := ⟨"ViewMediator$View", "<init>", "()V"⟩
abbrev k_View_init : MethodName × ByteArray × Nat × Option FieldType := (y_View_init, prog_10_method_1_code, 2, none)
def y_View_beginRule : MethodName := ⟨"ViewMediator$View", "beginRule", "()I"⟩
abbrev k_View_beginRule : MethodName × ByteArray × Nat × Option FieldType := (y_View_beginRule, prog_10_method_2_code, 1, some .int)
def y_View_addAtom : MethodName := ⟨"ViewMediator$View", "addAtom", "(III)Z"⟩
abbrev k_View_addAtom : MethodName × ByteArray × Nat × Option FieldType := (y_View_addAtom, prog_10_method_3_code, 4, some .boolean)
def y_View_takeRulesOut : MethodName := ⟨"ViewMediator$View", "takeRulesOut", "()I"⟩
abbrev k_View_takeRulesOut : MethodName × ByteArray × Nat × Option FieldType := (y_View_takeRulesOut, prog_10_method_4_code, 2, some .int)
def y_View_isSafe : MethodName := ⟨"ViewMediator$View", "isSafe", "()Z"⟩
abbrev k_View_isSafe : MethodName × ByteArray × Nat × Option FieldType := (y_View_isSafe, prog_10_method_5_code, 2, some .boolean)
def y_Law_law : MethodName := ⟨"ViewMediatorLaw", "law", "([I)Z"⟩
abbrev k_Law_law : MethodName × ByteArray × Nat × Option FieldType := (y_Law_law, code, 4, some .boolean)
def y_Arr_fill_II : MethodName := ⟨"java/util/Arrays", "fill", "([II)V"⟩
abbrev k_Arr_fill_II : MethodName × ByteArray × Nat × Option FieldType := (y_Arr_fill_II, prog_13_method_103_code, 4, none)
def y_Arr_fill_JJ : MethodName := ⟨"java/util/Arrays", "fill", "([JJ)V"⟩
abbrev k_Arr_fill_JJ : MethodName × ByteArray × Nat × Option FieldType := (y_Arr_fill_JJ, prog_13_method_101_code, 5, none)
