section
-- ===== PART A: goes FIRST, ahead of the names: the tables' words, and 'selects' of the private methods out of them =====
/-- a private method of a class that the tables say can be made, by its rows of tables_1 -/
def lw_okq (q : MethodName × Nat) : Prop := (q.1.cls ≠ "java/lang/invoke/MethodHandle" ∧ q.1.cls ≠ "java/lang/invoke/VarHandle") ∧ Cond.instantiable q.1.cls q.2 ∈ tables_1 ∧ Cond.privateMethod q.1 ∈ tables_1 ∧ Cond.instanceMethod q.1 ∈ tables_1
theorem lw_p0 : lw_okq (⟨"NestedStore", "hasRoomForOne", "()Z"⟩, 7) := ⟨⟨by decide +kernel, by decide +kernel⟩, List.mem_of_getElem? (i := 11) (by decide +kernel), List.mem_of_getElem? (i := 257) (by decide +kernel), List.mem_of_getElem? (i := 258) (by decide +kernel)⟩
theorem lw_p1 : lw_okq (⟨"NestedStore", "openUpdateCount", "()I"⟩, 7) := ⟨⟨by decide +kernel, by decide +kernel⟩, List.mem_of_getElem? (i := 11) (by decide +kernel), List.mem_of_getElem? (i := 261) (by decide +kernel), List.mem_of_getElem? (i := 262) (by decide +kernel)⟩
theorem lw_p2 : lw_okq (⟨"NestedStore", "isOpen", "(I)Z"⟩, 7) := ⟨⟨by decide +kernel, by decide +kernel⟩, List.mem_of_getElem? (i := 11) (by decide +kernel), List.mem_of_getElem? (i := 265) (by decide +kernel), List.mem_of_getElem? (i := 266) (by decide +kernel)⟩
theorem lw_p3 : lw_okq (⟨"NestedStore", "prepare", "(IIIII)I"⟩, 7) := ⟨⟨by decide +kernel, by decide +kernel⟩, List.mem_of_getElem? (i := 11) (by decide +kernel), List.mem_of_getElem? (i := 305) (by decide +kernel), List.mem_of_getElem? (i := 306) (by decide +kernel)⟩
theorem lw_p4 : lw_okq (⟨"NestedStore", "refusalOf", "(I)I"⟩, 7) := ⟨⟨by decide +kernel, by decide +kernel⟩, List.mem_of_getElem? (i := 11) (by decide +kernel), List.mem_of_getElem? (i := 312) (by decide +kernel), List.mem_of_getElem? (i := 313) (by decide +kernel)⟩
theorem lw_p5 : lw_okq (⟨"NestedStore", "request", "(I)I"⟩, 7) := ⟨⟨by decide +kernel, by decide +kernel⟩, List.mem_of_getElem? (i := 11) (by decide +kernel), List.mem_of_getElem? (i := 328) (by decide +kernel), List.mem_of_getElem? (i := 329) (by decide +kernel)⟩
theorem lw_p6 : lw_okq (⟨"NestedStore", "takeLocks", "(I)Z"⟩, 7) := ⟨⟨by decide +kernel, by decide +kernel⟩, List.mem_of_getElem? (i := 11) (by decide +kernel), List.mem_of_getElem? (i := 332) (by decide +kernel), List.mem_of_getElem? (i := 333) (by decide +kernel)⟩
theorem lw_p7 : lw_okq (⟨"NestedStore", "planLocks", "(I)V"⟩, 7) := ⟨⟨by decide +kernel, by decide +kernel⟩, List.mem_of_getElem? (i := 11) (by decide +kernel), List.mem_of_getElem? (i := 336) (by decide +kernel), List.mem_of_getElem? (i := 337) (by decide +kernel)⟩
theorem lw_p8 : lw_okq (⟨"NestedStore", "freeLocks", "(I)I"⟩, 7) := ⟨⟨by decide +kernel, by decide +kernel⟩, List.mem_of_getElem? (i := 11) (by decide +kernel), List.mem_of_getElem? (i := 352) (by decide +kernel), List.mem_of_getElem? (i := 353) (by decide +kernel)⟩
theorem lw_p9 : lw_okq (⟨"NestedStore", "carryOut", "(I)I"⟩, 7) := ⟨⟨by decide +kernel, by decide +kernel⟩, List.mem_of_getElem? (i := 11) (by decide +kernel), List.mem_of_getElem? (i := 370) (by decide +kernel), List.mem_of_getElem? (i := 371) (by decide +kernel)⟩
theorem lw_p10 : lw_okq (⟨"NestedStore", "update", "(IIZI)V"⟩, 7) := ⟨⟨by decide +kernel, by decide +kernel⟩, List.mem_of_getElem? (i := 11) (by decide +kernel), List.mem_of_getElem? (i := 385) (by decide +kernel), List.mem_of_getElem? (i := 386) (by decide +kernel)⟩
theorem lw_p11 : lw_okq (⟨"NestedStore", "countAndSum", "(II)I"⟩, 7) := ⟨⟨by decide +kernel, by decide +kernel⟩, List.mem_of_getElem? (i := 11) (by decide +kernel), List.mem_of_getElem? (i := 399) (by decide +kernel), List.mem_of_getElem? (i := 400) (by decide +kernel)⟩
theorem lw_p12 : lw_okq (⟨"NestedStore", "victimOfCircle", "(I)I"⟩, 7) := ⟨⟨by decide +kernel, by decide +kernel⟩, List.mem_of_getElem? (i := 11) (by decide +kernel), List.mem_of_getElem? (i := 403) (by decide +kernel), List.mem_of_getElem? (i := 404) (by decide +kernel)⟩
theorem lw_p13 : lw_okq (⟨"NestedStore", "leadsOf", "(I)J"⟩, 7) := ⟨⟨by decide +kernel, by decide +kernel⟩, List.mem_of_getElem? (i := 11) (by decide +kernel), List.mem_of_getElem? (i := 408) (by decide +kernel), List.mem_of_getElem? (i := 409) (by decide +kernel)⟩
theorem lw_p14 : lw_okq (⟨"NestedStore", "blockersOf", "(I)J"⟩, 7) := ⟨⟨by decide +kernel, by decide +kernel⟩, List.mem_of_getElem? (i := 11) (by decide +kernel), List.mem_of_getElem? (i := 417) (by decide +kernel), List.mem_of_getElem? (i := 418) (by decide +kernel)⟩
theorem lw_p15 : lw_okq (⟨"NestedStore$Leads", "reachedFrom", "(II)J"⟩, 1) := ⟨⟨by decide +kernel, by decide +kernel⟩, List.mem_of_getElem? (i := 104) (by decide +kernel), List.mem_of_getElem? (i := 425) (by decide +kernel), List.mem_of_getElem? (i := 426) (by decide +kernel)⟩
def lw_privs_1 : List (MethodName × Nat) := [(⟨"NestedStore", "hasRoomForOne", "()Z"⟩, 7), (⟨"NestedStore", "openUpdateCount", "()I"⟩, 7), (⟨"NestedStore", "isOpen", "(I)Z"⟩, 7), (⟨"NestedStore", "prepare", "(IIIII)I"⟩, 7), (⟨"NestedStore", "refusalOf", "(I)I"⟩, 7), (⟨"NestedStore", "request", "(I)I"⟩, 7), (⟨"NestedStore", "takeLocks", "(I)Z"⟩, 7), (⟨"NestedStore", "planLocks", "(I)V"⟩, 7), (⟨"NestedStore", "freeLocks", "(I)I"⟩, 7), (⟨"NestedStore", "carryOut", "(I)I"⟩, 7), (⟨"NestedStore", "update", "(IIZI)V"⟩, 7), (⟨"NestedStore", "countAndSum", "(II)I"⟩, 7), (⟨"NestedStore", "victimOfCircle", "(I)I"⟩, 7), (⟨"NestedStore", "leadsOf", "(I)J"⟩, 7), (⟨"NestedStore", "blockersOf", "(I)J"⟩, 7), (⟨"NestedStore$Leads", "reachedFrom", "(II)J"⟩, 1)]
theorem lw_r1 : ∀ q ∈ lw_privs_1, lw_okq q := List.forall_mem_cons.mpr ⟨lw_p0, List.forall_mem_cons.mpr ⟨lw_p1, List.forall_mem_cons.mpr ⟨lw_p2, List.forall_mem_cons.mpr ⟨lw_p3, List.forall_mem_cons.mpr ⟨lw_p4, List.forall_mem_cons.mpr ⟨lw_p5, List.forall_mem_cons.mpr ⟨lw_p6, List.forall_mem_cons.mpr ⟨lw_p7, List.forall_mem_cons.mpr ⟨lw_p8, List.forall_mem_cons.mpr ⟨lw_p9, List.forall_mem_cons.mpr ⟨lw_p10, List.forall_mem_cons.mpr ⟨lw_p11, List.forall_mem_cons.mpr ⟨lw_p12, List.forall_mem_cons.mpr ⟨lw_p13, List.forall_mem_cons.mpr ⟨lw_p14, List.forall_mem_cons.mpr ⟨lw_p15, fun _ h => absurd h List.not_mem_nil⟩⟩⟩⟩⟩⟩⟩⟩⟩⟩⟩⟩⟩⟩⟩⟩
theorem lw_p16 : lw_okq (⟨"NestedStore$Leads", "leadingTo", "(II)J"⟩, 1) := ⟨⟨by decide +kernel, by decide +kernel⟩, List.mem_of_getElem? (i := 104) (by decide +kernel), List.mem_of_getElem? (i := 429) (by decide +kernel), List.mem_of_getElem? (i := 430) (by decide +kernel)⟩
theorem lw_p17 : lw_okq (⟨"NestedStore", "abortWithDescendants", "(I)I"⟩, 7) := ⟨⟨by decide +kernel, by decide +kernel⟩, List.mem_of_getElem? (i := 11) (by decide +kernel), List.mem_of_getElem? (i := 433) (by decide +kernel), List.mem_of_getElem? (i := 434) (by decide +kernel)⟩
theorem lw_p18 : lw_okq (⟨"NestedStore", "undoOpenUpdates", "(II)I"⟩, 7) := ⟨⟨by decide +kernel, by decide +kernel⟩, List.mem_of_getElem? (i := 11) (by decide +kernel), List.mem_of_getElem? (i := 437) (by decide +kernel), List.mem_of_getElem? (i := 438) (by decide +kernel)⟩
theorem lw_p19 : lw_okq (⟨"NestedStore", "undo", "(II)V"⟩, 7) := ⟨⟨by decide +kernel, by decide +kernel⟩, List.mem_of_getElem? (i := 11) (by decide +kernel), List.mem_of_getElem? (i := 445) (by decide +kernel), List.mem_of_getElem? (i := 446) (by decide +kernel)⟩
theorem lw_p20 : lw_okq (⟨"NestedStore", "redoLog", "()V"⟩, 7) := ⟨⟨by decide +kernel, by decide +kernel⟩, List.mem_of_getElem? (i := 11) (by decide +kernel), List.mem_of_getElem? (i := 535) (by decide +kernel), List.mem_of_getElem? (i := 536) (by decide +kernel)⟩
theorem lw_p21 : lw_okq (⟨"NestedStore", "redo", "(I)V"⟩, 7) := ⟨⟨by decide +kernel, by decide +kernel⟩, List.mem_of_getElem? (i := 11) (by decide +kernel), List.mem_of_getElem? (i := 539) (by decide +kernel), List.mem_of_getElem? (i := 540) (by decide +kernel)⟩
theorem lw_p22 : lw_okq (⟨"NestedStore", "undoUncommitted", "()I"⟩, 7) := ⟨⟨by decide +kernel, by decide +kernel⟩, List.mem_of_getElem? (i := 11) (by decide +kernel), List.mem_of_getElem? (i := 543) (by decide +kernel), List.mem_of_getElem? (i := 544) (by decide +kernel)⟩
theorem lw_p23 : lw_okq (⟨"NestedStoreModel", "active", "(I)Z"⟩, 39) := ⟨⟨by decide +kernel, by decide +kernel⟩, List.mem_of_getElem? (i := 588) (by decide +kernel), List.mem_of_getElem? (i := 716) (by decide +kernel), List.mem_of_getElem? (i := 717) (by decide +kernel)⟩
theorem lw_p24 : lw_okq (⟨"NestedStoreModel", "is", "(I)Z"⟩, 39) := ⟨⟨by decide +kernel, by decide +kernel⟩, List.mem_of_getElem? (i := 588) (by decide +kernel), List.mem_of_getElem? (i := 720) (by decide +kernel), List.mem_of_getElem? (i := 721) (by decide +kernel)⟩
theorem lw_p25 : lw_okq (⟨"NestedStoreModel", "depth", "(I)I"⟩, 39) := ⟨⟨by decide +kernel, by decide +kernel⟩, List.mem_of_getElem? (i := 588) (by decide +kernel), List.mem_of_getElem? (i := 724) (by decide +kernel), List.mem_of_getElem? (i := 725) (by decide +kernel)⟩
theorem lw_p26 : lw_okq (⟨"NestedStoreModel", "full", "()Z"⟩, 39) := ⟨⟨by decide +kernel, by decide +kernel⟩, List.mem_of_getElem? (i := 588) (by decide +kernel), List.mem_of_getElem? (i := 728) (by decide +kernel), List.mem_of_getElem? (i := 729) (by decide +kernel)⟩
theorem lw_p27 : lw_okq (⟨"NestedStoreModel", "opens", "()I"⟩, 39) := ⟨⟨by decide +kernel, by decide +kernel⟩, List.mem_of_getElem? (i := 588) (by decide +kernel), List.mem_of_getElem? (i := 732) (by decide +kernel), List.mem_of_getElem? (i := 733) (by decide +kernel)⟩
theorem lw_p28 : lw_okq (⟨"NestedStoreModel", "open", "(I)Z"⟩, 39) := ⟨⟨by decide +kernel, by decide +kernel⟩, List.mem_of_getElem? (i := 588) (by decide +kernel), List.mem_of_getElem? (i := 736) (by decide +kernel), List.mem_of_getElem? (i := 737) (by decide +kernel)⟩
theorem lw_p29 : lw_okq (⟨"NestedStoreModel", "top", "(I)I"⟩, 39) := ⟨⟨by decide +kernel, by decide +kernel⟩, List.mem_of_getElem? (i := 588) (by decide +kernel), List.mem_of_getElem? (i := 740) (by decide +kernel), List.mem_of_getElem? (i := 741) (by decide +kernel)⟩
theorem lw_p30 : lw_okq (⟨"NestedStoreModel", "undone", "(I)Z"⟩, 39) := ⟨⟨by decide +kernel, by decide +kernel⟩, List.mem_of_getElem? (i := 588) (by decide +kernel), List.mem_of_getElem? (i := 744) (by decide +kernel), List.mem_of_getElem? (i := 745) (by decide +kernel)⟩
theorem lw_p31 : lw_okq (⟨"NestedStoreModel", "lives", "()I"⟩, 39) := ⟨⟨by decide +kernel, by decide +kernel⟩, List.mem_of_getElem? (i := 588) (by decide +kernel), List.mem_of_getElem? (i := 748) (by decide +kernel), List.mem_of_getElem? (i := 749) (by decide +kernel)⟩
def lw_privs_2 : List (MethodName × Nat) := [(⟨"NestedStore$Leads", "leadingTo", "(II)J"⟩, 1), (⟨"NestedStore", "abortWithDescendants", "(I)I"⟩, 7), (⟨"NestedStore", "undoOpenUpdates", "(II)I"⟩, 7), (⟨"NestedStore", "undo", "(II)V"⟩, 7), (⟨"NestedStore", "redoLog", "()V"⟩, 7), (⟨"NestedStore", "redo", "(I)V"⟩, 7), (⟨"NestedStore", "undoUncommitted", "()I"⟩, 7), (⟨"NestedStoreModel", "active", "(I)Z"⟩, 39), (⟨"NestedStoreModel", "is", "(I)Z"⟩, 39), (⟨"NestedStoreModel", "depth", "(I)I"⟩, 39), (⟨"NestedStoreModel", "full", "()Z"⟩, 39), (⟨"NestedStoreModel", "opens", "()I"⟩, 39), (⟨"NestedStoreModel", "open", "(I)Z"⟩, 39), (⟨"NestedStoreModel", "top", "(I)I"⟩, 39), (⟨"NestedStoreModel", "undone", "(I)Z"⟩, 39), (⟨"NestedStoreModel", "lives", "()I"⟩, 39)]
theorem lw_r2 : ∀ q ∈ lw_privs_2, lw_okq q := List.forall_mem_cons.mpr ⟨lw_p16, List.forall_mem_cons.mpr ⟨lw_p17, List.forall_mem_cons.mpr ⟨lw_p18, List.forall_mem_cons.mpr ⟨lw_p19, List.forall_mem_cons.mpr ⟨lw_p20, List.forall_mem_cons.mpr ⟨lw_p21, List.forall_mem_cons.mpr ⟨lw_p22, List.forall_mem_cons.mpr ⟨lw_p23, List.forall_mem_cons.mpr ⟨lw_p24, List.forall_mem_cons.mpr ⟨lw_p25, List.forall_mem_cons.mpr ⟨lw_p26, List.forall_mem_cons.mpr ⟨lw_p27, List.forall_mem_cons.mpr ⟨lw_p28, List.forall_mem_cons.mpr ⟨lw_p29, List.forall_mem_cons.mpr ⟨lw_p30, List.forall_mem_cons.mpr ⟨lw_p31, fun _ h => absurd h List.not_mem_nil⟩⟩⟩⟩⟩⟩⟩⟩⟩⟩⟩⟩⟩⟩⟩⟩
theorem lw_p32 : lw_okq (⟨"NestedStoreModel", "live", "(I)Z"⟩, 39) := ⟨⟨by decide +kernel, by decide +kernel⟩, List.mem_of_getElem? (i := 588) (by decide +kernel), List.mem_of_getElem? (i := 752) (by decide +kernel), List.mem_of_getElem? (i := 753) (by decide +kernel)⟩
theorem lw_p33 : lw_okq (⟨"NestedStoreModel", "append", "(III)I"⟩, 39) := ⟨⟨by decide +kernel, by decide +kernel⟩, List.mem_of_getElem? (i := 588) (by decide +kernel), List.mem_of_getElem? (i := 756) (by decide +kernel), List.mem_of_getElem? (i := 757) (by decide +kernel)⟩
theorem lw_p34 : lw_okq (⟨"NestedStoreModel", "last", "()I"⟩, 39) := ⟨⟨by decide +kernel, by decide +kernel⟩, List.mem_of_getElem? (i := 588) (by decide +kernel), List.mem_of_getElem? (i := 760) (by decide +kernel), List.mem_of_getElem? (i := 761) (by decide +kernel)⟩
theorem lw_p35 : lw_okq (⟨"NestedStoreModel", "ask", "(IIII)I"⟩, 39) := ⟨⟨by decide +kernel, by decide +kernel⟩, List.mem_of_getElem? (i := 588) (by decide +kernel), List.mem_of_getElem? (i := 771) (by decide +kernel), List.mem_of_getElem? (i := 772) (by decide +kernel)⟩
theorem lw_p36 : lw_okq (⟨"NestedStoreModel", "busy", "(I)Z"⟩, 39) := ⟨⟨by decide +kernel, by decide +kernel⟩, List.mem_of_getElem? (i := 588) (by decide +kernel), List.mem_of_getElem? (i := 775) (by decide +kernel), List.mem_of_getElem? (i := 776) (by decide +kernel)⟩
theorem lw_p37 : lw_okq (⟨"NestedStoreModel", "request", "(IIII)I"⟩, 39) := ⟨⟨by decide +kernel, by decide +kernel⟩, List.mem_of_getElem? (i := 588) (by decide +kernel), List.mem_of_getElem? (i := 779) (by decide +kernel), List.mem_of_getElem? (i := 780) (by decide +kernel)⟩
theorem lw_p38 : lw_okq (⟨"NestedStoreModel", "needs", "(III)V"⟩, 39) := ⟨⟨by decide +kernel, by decide +kernel⟩, List.mem_of_getElem? (i := 588) (by decide +kernel), List.mem_of_getElem? (i := 783) (by decide +kernel), List.mem_of_getElem? (i := 784) (by decide +kernel)⟩
theorem lw_p39 : lw_okq (⟨"NestedStoreModel", "isThereNow", "(I)Z"⟩, 39) := ⟨⟨by decide +kernel, by decide +kernel⟩, List.mem_of_getElem? (i := 588) (by decide +kernel), List.mem_of_getElem? (i := 787) (by decide +kernel), List.mem_of_getElem? (i := 788) (by decide +kernel)⟩
theorem lw_p40 : lw_okq (⟨"NestedStoreModel", "want", "(I)V"⟩, 39) := ⟨⟨by decide +kernel, by decide +kernel⟩, List.mem_of_getElem? (i := 588) (by decide +kernel), List.mem_of_getElem? (i := 791) (by decide +kernel), List.mem_of_getElem? (i := 792) (by decide +kernel)⟩
theorem lw_p41 : lw_okq (⟨"NestedStoreModel", "next", "(I)I"⟩, 39) := ⟨⟨by decide +kernel, by decide +kernel⟩, List.mem_of_getElem? (i := 588) (by decide +kernel), List.mem_of_getElem? (i := 795) (by decide +kernel), List.mem_of_getElem? (i := 796) (by decide +kernel)⟩
theorem lw_p42 : lw_okq (⟨"NestedStoreModel", "may", "(III)Z"⟩, 39) := ⟨⟨by decide +kernel, by decide +kernel⟩, List.mem_of_getElem? (i := 588) (by decide +kernel), List.mem_of_getElem? (i := 799) (by decide +kernel), List.mem_of_getElem? (i := 800) (by decide +kernel)⟩
theorem lw_p43 : lw_okq (⟨"NestedStoreModel", "bars", "(IIII)Z"⟩, 39) := ⟨⟨by decide +kernel, by decide +kernel⟩, List.mem_of_getElem? (i := 588) (by decide +kernel), List.mem_of_getElem? (i := 803) (by decide +kernel), List.mem_of_getElem? (i := 804) (by decide +kernel)⟩
theorem lw_p44 : lw_okq (⟨"NestedStoreModel", "above", "(II)Z"⟩, 39) := ⟨⟨by decide +kernel, by decide +kernel⟩, List.mem_of_getElem? (i := 588) (by decide +kernel), List.mem_of_getElem? (i := 807) (by decide +kernel), List.mem_of_getElem? (i := 808) (by decide +kernel)⟩
theorem lw_p45 : lw_okq (⟨"NestedStoreModel", "stays", "(IIII)I"⟩, 39) := ⟨⟨by decide +kernel, by decide +kernel⟩, List.mem_of_getElem? (i := 588) (by decide +kernel), List.mem_of_getElem? (i := 811) (by decide +kernel), List.mem_of_getElem? (i := 812) (by decide +kernel)⟩
theorem lw_p46 : lw_okq (⟨"NestedStoreModel", "victim", "(I)I"⟩, 39) := ⟨⟨by decide +kernel, by decide +kernel⟩, List.mem_of_getElem? (i := 588) (by decide +kernel), List.mem_of_getElem? (i := 815) (by decide +kernel), List.mem_of_getElem? (i := 816) (by decide +kernel)⟩
theorem lw_p47 : lw_okq (⟨"NestedStoreModel", "look", "()V"⟩, 39) := ⟨⟨by decide +kernel, by decide +kernel⟩, List.mem_of_getElem? (i := 588) (by decide +kernel), List.mem_of_getElem? (i := 819) (by decide +kernel), List.mem_of_getElem? (i := 820) (by decide +kernel)⟩
def lw_privs_3 : List (MethodName × Nat) := [(⟨"NestedStoreModel", "live", "(I)Z"⟩, 39), (⟨"NestedStoreModel", "append", "(III)I"⟩, 39), (⟨"NestedStoreModel", "last", "()I"⟩, 39), (⟨"NestedStoreModel", "ask", "(IIII)I"⟩, 39), (⟨"NestedStoreModel", "busy", "(I)Z"⟩, 39), (⟨"NestedStoreModel", "request", "(IIII)I"⟩, 39), (⟨"NestedStoreModel", "needs", "(III)V"⟩, 39), (⟨"NestedStoreModel", "isThereNow", "(I)Z"⟩, 39), (⟨"NestedStoreModel", "want", "(I)V"⟩, 39), (⟨"NestedStoreModel", "next", "(I)I"⟩, 39), (⟨"NestedStoreModel", "may", "(III)Z"⟩, 39), (⟨"NestedStoreModel", "bars", "(IIII)Z"⟩, 39), (⟨"NestedStoreModel", "above", "(II)Z"⟩, 39), (⟨"NestedStoreModel", "stays", "(IIII)I"⟩, 39), (⟨"NestedStoreModel", "victim", "(I)I"⟩, 39), (⟨"NestedStoreModel", "look", "()V"⟩, 39)]
theorem lw_r3 : ∀ q ∈ lw_privs_3, lw_okq q := List.forall_mem_cons.mpr ⟨lw_p32, List.forall_mem_cons.mpr ⟨lw_p33, List.forall_mem_cons.mpr ⟨lw_p34, List.forall_mem_cons.mpr ⟨lw_p35, List.forall_mem_cons.mpr ⟨lw_p36, List.forall_mem_cons.mpr ⟨lw_p37, List.forall_mem_cons.mpr ⟨lw_p38, List.forall_mem_cons.mpr ⟨lw_p39, List.forall_mem_cons.mpr ⟨lw_p40, List.forall_mem_cons.mpr ⟨lw_p41, List.forall_mem_cons.mpr ⟨lw_p42, List.forall_mem_cons.mpr ⟨lw_p43, List.forall_mem_cons.mpr ⟨lw_p44, List.forall_mem_cons.mpr ⟨lw_p45, List.forall_mem_cons.mpr ⟨lw_p46, List.forall_mem_cons.mpr ⟨lw_p47, fun _ h => absurd h List.not_mem_nil⟩⟩⟩⟩⟩⟩⟩⟩⟩⟩⟩⟩⟩⟩⟩⟩
theorem lw_p48 : lw_okq (⟨"NestedStoreModel", "leads", "(II)Z"⟩, 39) := ⟨⟨by decide +kernel, by decide +kernel⟩, List.mem_of_getElem? (i := 588) (by decide +kernel), List.mem_of_getElem? (i := 823) (by decide +kernel), List.mem_of_getElem? (i := 824) (by decide +kernel)⟩
theorem lw_p49 : lw_okq (⟨"NestedStoreModel", "aborts", "(I)I"⟩, 39) := ⟨⟨by decide +kernel, by decide +kernel⟩, List.mem_of_getElem? (i := 588) (by decide +kernel), List.mem_of_getElem? (i := 827) (by decide +kernel), List.mem_of_getElem? (i := 828) (by decide +kernel)⟩
theorem lw_p50 : lw_okq (⟨"NestedStoreModel", "undoes", "(II)I"⟩, 39) := ⟨⟨by decide +kernel, by decide +kernel⟩, List.mem_of_getElem? (i := 588) (by decide +kernel), List.mem_of_getElem? (i := 831) (by decide +kernel), List.mem_of_getElem? (i := 832) (by decide +kernel)⟩
theorem lw_p51 : lw_okq (⟨"NestedStoreModel", "undo", "(II)V"⟩, 39) := ⟨⟨by decide +kernel, by decide +kernel⟩, List.mem_of_getElem? (i := 588) (by decide +kernel), List.mem_of_getElem? (i := 835) (by decide +kernel), List.mem_of_getElem? (i := 836) (by decide +kernel)⟩
theorem lw_p52 : lw_okq (⟨"NestedStoreModel", "touch", "(I)V"⟩, 39) := ⟨⟨by decide +kernel, by decide +kernel⟩, List.mem_of_getElem? (i := 588) (by decide +kernel), List.mem_of_getElem? (i := 839) (by decide +kernel), List.mem_of_getElem? (i := 840) (by decide +kernel)⟩
theorem lw_p53 : lw_okq (⟨"NestedStoreModel", "writes", "(I)V"⟩, 39) := ⟨⟨by decide +kernel, by decide +kernel⟩, List.mem_of_getElem? (i := 588) (by decide +kernel), List.mem_of_getElem? (i := 843) (by decide +kernel), List.mem_of_getElem? (i := 844) (by decide +kernel)⟩
theorem lw_p54 : lw_okq (⟨"NestedStoreModel", "become", "(IZII)V"⟩, 39) := ⟨⟨by decide +kernel, by decide +kernel⟩, List.mem_of_getElem? (i := 588) (by decide +kernel), List.mem_of_getElem? (i := 847) (by decide +kernel), List.mem_of_getElem? (i := 848) (by decide +kernel)⟩
theorem lw_p55 : lw_okq (⟨"NestedStoreModel", "unlock", "(I)V"⟩, 39) := ⟨⟨by decide +kernel, by decide +kernel⟩, List.mem_of_getElem? (i := 588) (by decide +kernel), List.mem_of_getElem? (i := 851) (by decide +kernel), List.mem_of_getElem? (i := 852) (by decide +kernel)⟩
theorem lw_p56 : lw_okq (⟨"NestedStoreModel", "valueNow", "(I)I"⟩, 39) := ⟨⟨by decide +kernel, by decide +kernel⟩, List.mem_of_getElem? (i := 588) (by decide +kernel), List.mem_of_getElem? (i := 855) (by decide +kernel), List.mem_of_getElem? (i := 856) (by decide +kernel)⟩
theorem lw_p57 : lw_okq (⟨"NestedStoreModel", "scanned", "(II)I"⟩, 39) := ⟨⟨by decide +kernel, by decide +kernel⟩, List.mem_of_getElem? (i := 588) (by decide +kernel), List.mem_of_getElem? (i := 859) (by decide +kernel), List.mem_of_getElem? (i := 860) (by decide +kernel)⟩
theorem lw_p58 : lw_okq (⟨"NestedStoreModel", "update", "(IIZI)V"⟩, 39) := ⟨⟨by decide +kernel, by decide +kernel⟩, List.mem_of_getElem? (i := 588) (by decide +kernel), List.mem_of_getElem? (i := 863) (by decide +kernel), List.mem_of_getElem? (i := 864) (by decide +kernel)⟩
theorem lw_p59 : lw_okq (⟨"NestedStoreModel", "committed", "(I)Z"⟩, 39) := ⟨⟨by decide +kernel, by decide +kernel⟩, List.mem_of_getElem? (i := 588) (by decide +kernel), List.mem_of_getElem? (i := 919) (by decide +kernel), List.mem_of_getElem? (i := 920) (by decide +kernel)⟩
theorem lw_p60 : lw_okq (⟨"NestedStoreModel", "lsnNow", "(I)I"⟩, 39) := ⟨⟨by decide +kernel, by decide +kernel⟩, List.mem_of_getElem? (i := 588) (by decide +kernel), List.mem_of_getElem? (i := 959) (by decide +kernel), List.mem_of_getElem? (i := 960) (by decide +kernel)⟩
def lw_privs_4 : List (MethodName × Nat) := [(⟨"NestedStoreModel", "leads", "(II)Z"⟩, 39), (⟨"NestedStoreModel", "aborts", "(I)I"⟩, 39), (⟨"NestedStoreModel", "undoes", "(II)I"⟩, 39), (⟨"NestedStoreModel", "undo", "(II)V"⟩, 39), (⟨"NestedStoreModel", "touch", "(I)V"⟩, 39), (⟨"NestedStoreModel", "writes", "(I)V"⟩, 39), (⟨"NestedStoreModel", "become", "(IZII)V"⟩, 39), (⟨"NestedStoreModel", "unlock", "(I)V"⟩, 39), (⟨"NestedStoreModel", "valueNow", "(I)I"⟩, 39), (⟨"NestedStoreModel", "scanned", "(II)I"⟩, 39), (⟨"NestedStoreModel", "update", "(IIZI)V"⟩, 39), (⟨"NestedStoreModel", "committed", "(I)Z"⟩, 39), (⟨"NestedStoreModel", "lsnNow", "(I)I"⟩, 39)]
theorem lw_r4 : ∀ q ∈ lw_privs_4, lw_okq q := List.forall_mem_cons.mpr ⟨lw_p48, List.forall_mem_cons.mpr ⟨lw_p49, List.forall_mem_cons.mpr ⟨lw_p50, List.forall_mem_cons.mpr ⟨lw_p51, List.forall_mem_cons.mpr ⟨lw_p52, List.forall_mem_cons.mpr ⟨lw_p53, List.forall_mem_cons.mpr ⟨lw_p54, List.forall_mem_cons.mpr ⟨lw_p55, List.forall_mem_cons.mpr ⟨lw_p56, List.forall_mem_cons.mpr ⟨lw_p57, List.forall_mem_cons.mpr ⟨lw_p58, List.forall_mem_cons.mpr ⟨lw_p59, List.forall_mem_cons.mpr ⟨lw_p60, fun _ h => absurd h List.not_mem_nil⟩⟩⟩⟩⟩⟩⟩⟩⟩⟩⟩⟩⟩
def lw_privs : List (MethodName × Nat) := lw_privs_1 ++ (lw_privs_2 ++ (lw_privs_3 ++ (lw_privs_4)))
def lw_tbl : List Cond := k2_sels lw_privs ++ tables_1
theorem lw_privs_ok : ∀ q ∈ lw_privs, lw_okq q := by
  show ∀ q ∈ lw_privs_1 ++ (lw_privs_2 ++ (lw_privs_3 ++ (lw_privs_4))), lw_okq q
  exact List.forall_mem_append.mpr ⟨lw_r1, List.forall_mem_append.mpr ⟨lw_r2, List.forall_mem_append.mpr ⟨lw_r3, lw_r4⟩⟩⟩
end
section
def R_N : String := "NestedStore"
def F_N : u_T := fun k => match k with
  | 0 => ("NestedStore", "transactions", "LNestedStore$Transactions;", true)
  | 1 => ("NestedStore", "locks", "LNestedStore$Locks;", true)
  | 2 => ("NestedStore", "plan", "LNestedStore$Plan;", true)
  | 3 => ("NestedStore", "leads", "LNestedStore$Leads;", true)
  | 4 => ("NestedStore", "log", "LNestedStore$Log;", true)
  | 5 => ("NestedStore", "pages", "LNestedStore$Pages;", true)
  | _ => ("NestedStore", "latestValue", "I", false)
def ty_N : Nat → FieldType := fun k => match k with
  | 0 => .object "NestedStore$Transactions"
  | 1 => .object "NestedStore$Locks"
  | 2 => .object "NestedStore$Plan"
  | 3 => .object "NestedStore$Leads"
  | 4 => .object "NestedStore$Log"
  | 5 => .object "NestedStore$Pages"
  | _ => .int
theorem nmx_N : ∀ a, a < 7 → ∀ b, b < 7 → a ≠ b → (F_N a).2.1 ≠ (F_N b).2.1 := by decide +kernel
theorem ty_N_ok : ∀ k, k < 7 → parseFieldDescriptor (F_N k).2.2.1 = some (ty_N k) := by decide +kernel
abbrev b_N_init : ByteArray := prog_1_method_1_code
def y_N_init : MethodName := ⟨R_N, "<init>", "(I)V"⟩
abbrev b_N_begin : ByteArray := prog_1_method_2_code
def y_N_begin : MethodName := ⟨R_N, "begin", "(I)I"⟩
abbrev b_N_get : ByteArray := prog_1_method_3_code
def y_N_get : MethodName := ⟨R_N, "get", "(II)I"⟩
abbrev b_N_put : ByteArray := prog_1_method_4_code
def y_N_put : MethodName := ⟨R_N, "put", "(III)I"⟩
abbrev b_N_delete : ByteArray := prog_1_method_5_code
def y_N_delete : MethodName := ⟨R_N, "delete", "(II)I"⟩
abbrev b_N_scan : ByteArray := prog_1_method_6_code
def y_N_scan : MethodName := ⟨R_N, "scan", "(III)I"⟩
abbrev b_N_resume : ByteArray := prog_1_method_7_code
def y_N_resume : MethodName := ⟨R_N, "resume", "(I)I"⟩
abbrev b_N_value : ByteArray := prog_1_method_8_code
def y_N_value : MethodName := ⟨R_N, "value", "()I"⟩
abbrev b_N_commit : ByteArray := prog_1_method_9_code
def y_N_commit : MethodName := ⟨R_N, "commit", "(I)I"⟩
abbrev b_N_abort : ByteArray := prog_1_method_10_code
def y_N_abort : MethodName := ⟨R_N, "abort", "(I)I"⟩
abbrev b_N_save : ByteArray := prog_1_method_11_code
def y_N_save : MethodName := ⟨R_N, "save", "(I)I"⟩
abbrev b_N_rollback : ByteArray := prog_1_method_12_code
def y_N_rollback : MethodName := ⟨R_N, "rollback", "(II)I"⟩
abbrev b_N_write : ByteArray := prog_1_method_13_code
def y_N_write : MethodName := ⟨R_N, "write", "(I)Z"⟩
abbrev b_N_archive : ByteArray := prog_1_method_14_code
def y_N_archive : MethodName := ⟨R_N, "archive", "()I"⟩
abbrev b_N_crash : ByteArray := prog_1_method_15_code
def y_N_crash : MethodName := ⟨R_N, "crash", "(I)I"⟩
abbrev b_N_state : ByteArray := prog_1_method_16_code
def y_N_state : MethodName := ⟨R_N, "state", "(I)I"⟩
abbrev b_N_parent : ByteArray := prog_1_method_17_code
def y_N_parent : MethodName := ⟨R_N, "parent", "(I)I"⟩
abbrev b_N_lock : ByteArray := prog_1_method_18_code
def y_N_lock : MethodName := ⟨R_N, "lock", "(II)I"⟩
abbrev b_N_waits : ByteArray := prog_1_method_19_code
def y_N_waits : MethodName := ⟨R_N, "waits", "(II)Z"⟩
abbrev b_N_entry : ByteArray := prog_1_method_20_code
def y_N_entry : MethodName := ⟨R_N, "entry", "(II)I"⟩
abbrev b_N_log : ByteArray := prog_1_method_21_code
def y_N_log : MethodName := ⟨R_N, "log", "(I)I"⟩
abbrev b_N_key : ByteArray := prog_1_method_22_code
def y_N_key : MethodName := ⟨R_N, "key", "(II)I"⟩
abbrev b_N_frame : ByteArray := prog_1_method_23_code
def y_N_frame : MethodName := ⟨R_N, "frame", "(I)I"⟩
abbrev b_N_page : ByteArray := prog_1_method_24_code
def y_N_page : MethodName := ⟨R_N, "page", "(I)I"⟩
abbrev b_N_isKey : ByteArray := prog_1_method_25_code
def y_N_isKey : MethodName := ⟨R_N, "isKey", "(I)Z"⟩
abbrev b_N_isPage : ByteArray := prog_1_method_26_code
def y_N_isPage : MethodName := ⟨R_N, "isPage", "(I)Z"⟩
abbrev b_N_asNumber : ByteArray := prog_1_method_27_code
def y_N_asNumber : MethodName := ⟨R_N, "asNumber", "(Z)I"⟩
abbrev b_N_refusalOf : ByteArray := prog_1_method_28_code
def y_N_refusalOf : MethodName := ⟨R_N, "refusalOf", "(I)I"⟩
abbrev b_N_prepare : ByteArray := prog_1_method_29_code
def y_N_prepare : MethodName := ⟨R_N, "prepare", "(IIIII)I"⟩
abbrev b_N_request : ByteArray := prog_1_method_30_code
def y_N_request : MethodName := ⟨R_N, "request", "(I)I"⟩
abbrev b_N_takeLocks : ByteArray := prog_1_method_31_code
def y_N_takeLocks : MethodName := ⟨R_N, "takeLocks", "(I)Z"⟩
abbrev b_N_blockersOf : ByteArray := prog_1_method_32_code
def y_N_blockersOf : MethodName := ⟨R_N, "blockersOf", "(I)J"⟩
abbrev b_N_freeLocks : ByteArray := prog_1_method_33_code
def y_N_freeLocks : MethodName := ⟨R_N, "freeLocks", "(I)I"⟩
abbrev b_N_planLocks : ByteArray := prog_1_method_34_code
def y_N_planLocks : MethodName := ⟨R_N, "planLocks", "(I)V"⟩
abbrev b_N_carryOut : ByteArray := prog_1_method_35_code
def y_N_carryOut : MethodName := ⟨R_N, "carryOut", "(I)I"⟩
abbrev b_N_countAndSum : ByteArray := prog_1_method_36_code
def y_N_countAndSum : MethodName := ⟨R_N, "countAndSum", "(II)I"⟩
abbrev b_N_update : ByteArray := prog_1_method_37_code
def y_N_update : MethodName := ⟨R_N, "update", "(IIZI)V"⟩
abbrev b_N_undo : ByteArray := prog_1_method_38_code
def y_N_undo : MethodName := ⟨R_N, "undo", "(II)V"⟩
abbrev b_N_isOpen : ByteArray := prog_1_method_39_code
def y_N_isOpen : MethodName := ⟨R_N, "isOpen", "(I)Z"⟩
abbrev b_N_openUpdateCount : ByteArray := prog_1_method_40_code
def y_N_openUpdateCount : MethodName := ⟨R_N, "openUpdateCount", "()I"⟩
abbrev b_N_hasRoomForOne : ByteArray := prog_1_method_41_code
def y_N_hasRoomForOne : MethodName := ⟨R_N, "hasRoomForOne", "()Z"⟩
abbrev b_N_undoOpenUpdates : ByteArray := prog_1_method_42_code
def y_N_undoOpenUpdates : MethodName := ⟨R_N, "undoOpenUpdates", "(II)I"⟩
abbrev b_N_abortWithDescendants : ByteArray := prog_1_method_43_code
def y_N_abortWithDescendants : MethodName := ⟨R_N, "abortWithDescendants", "(I)I"⟩
abbrev b_N_victimOfCircle : ByteArray := prog_1_method_44_code
def y_N_victimOfCircle : MethodName := ⟨R_N, "victimOfCircle", "(I)I"⟩
abbrev b_N_leadsOf : ByteArray := prog_1_method_45_code
def y_N_leadsOf : MethodName := ⟨R_N, "leadsOf", "(I)J"⟩
abbrev b_N_redoLog : ByteArray := prog_1_method_46_code
def y_N_redoLog : MethodName := ⟨R_N, "redoLog", "()V"⟩
abbrev b_N_redo : ByteArray := prog_1_method_47_code
def y_N_redo : MethodName := ⟨R_N, "redo", "(I)V"⟩
abbrev b_N_undoUncommitted : ByteArray := prog_1_method_48_code
def y_N_undoUncommitted : MethodName := ⟨R_N, "undoUncommitted", "()I"⟩
def R_T : String := "NestedStore$Transactions"
def F_T : u_T := fun k => match k with
  | 0 => ("NestedStore$Transactions", "count", "I", false)
  | 1 => ("NestedStore$Transactions", "parent", "[I", true)
  | 2 => ("NestedStore$Transactions", "top", "[I", true)
  | 3 => ("NestedStore$Transactions", "depth", "[I", true)
  | 4 => ("NestedStore$Transactions", "state", "[I", true)
  | 5 => ("NestedStore$Transactions", "begun", "[I", true)
  | 6 => ("NestedStore$Transactions", "lineage", "[J", true)
  | 7 => ("NestedStore$Transactions", "kind", "[I", true)
  | 8 => ("NestedStore$Transactions", "low", "[I", true)
  | 9 => ("NestedStore$Transactions", "high", "[I", true)
  | _ => ("NestedStore$Transactions", "newValue", "[I", true)
def ty_T : Nat → FieldType := fun k => match k with
  | 0 => .int
  | 1 => .array .int
  | 2 => .array .int
  | 3 => .array .int
  | 4 => .array .int
  | 5 => .array .int
  | 6 => .array .long
  | 7 => .array .int
  | 8 => .array .int
  | 9 => .array .int
  | _ => .array .int
theorem nmx_T : ∀ a, a < 11 → ∀ b, b < 11 → a ≠ b → (F_T a).2.1 ≠ (F_T b).2.1 := by decide +kernel
theorem ty_T_ok : ∀ k, k < 11 → parseFieldDescriptor (F_T k).2.2.1 = some (ty_T k) := by decide +kernel
abbrev b_T_init : ByteArray := prog_7_method_1_code
def y_T_init : MethodName := ⟨R_T, "<init>", "()V"⟩
abbrev b_T_exists : ByteArray := prog_7_method_2_code
def y_T_exists : MethodName := ⟨R_T, "exists", "(I)Z"⟩
abbrev b_T_isActive : ByteArray := prog_7_method_3_code
def y_T_isActive : MethodName := ⟨R_T, "isActive", "(I)Z"⟩
abbrev b_T_isWaiting : ByteArray := prog_7_method_4_code
def y_T_isWaiting : MethodName := ⟨R_T, "isWaiting", "(I)Z"⟩
abbrev b_T_isLive : ByteArray := prog_7_method_5_code
def y_T_isLive : MethodName := ⟨R_T, "isLive", "(I)Z"⟩
abbrev b_T_isTopLive : ByteArray := prog_7_method_6_code
def y_T_isTopLive : MethodName := ⟨R_T, "isTopLive", "(I)Z"⟩
abbrev b_T_isWithin : ByteArray := prog_7_method_7_code
def y_T_isWithin : MethodName := ⟨R_T, "isWithin", "(II)Z"⟩
abbrev b_T_isBusy : ByteArray := prog_7_method_8_code
def y_T_isBusy : MethodName := ⟨R_T, "isBusy", "(I)Z"⟩
abbrev b_T_liveChildren : ByteArray := prog_7_method_9_code
def y_T_liveChildren : MethodName := ⟨R_T, "liveChildren", "(I)J"⟩
abbrev b_T_liveCount : ByteArray := prog_7_method_10_code
def y_T_liveCount : MethodName := ⟨R_T, "liveCount", "()I"⟩
abbrev b_T_add : ByteArray := prog_7_method_11_code
def y_T_add : MethodName := ⟨R_T, "add", "(II)I"⟩
abbrev b_T_setRequest : ByteArray := prog_7_method_12_code
def y_T_setRequest : MethodName := ⟨R_T, "setRequest", "(IIIII)V"⟩
abbrev b_T_abortUncommitted : ByteArray := prog_7_method_13_code
def y_T_abortUncommitted : MethodName := ⟨R_T, "abortUncommitted", "()V"⟩
def R_K : String := "NestedStore$Locks"
def F_K : u_T := fun k => match k with
  | 0 => ("NestedStore$Locks", "shared", "[J", true)
  | _ => ("NestedStore$Locks", "exclusive", "[J", true)
def ty_K : Nat → FieldType := fun k => match k with
  | 0 => .array .long
  | _ => .array .long
theorem nmx_K : ∀ a, a < 2 → ∀ b, b < 2 → a ≠ b → (F_K a).2.1 ≠ (F_K b).2.1 := by decide +kernel
theorem ty_K_ok : ∀ k, k < 2 → parseFieldDescriptor (F_K k).2.2.1 = some (ty_K k) := by decide +kernel
abbrev b_K_init : ByteArray := prog_3_method_1_code
def y_K_init : MethodName := ⟨R_K, "<init>", "()V"⟩
abbrev b_K_heldBy : ByteArray := prog_3_method_2_code
def y_K_heldBy : MethodName := ⟨R_K, "heldBy", "(II)I"⟩
abbrev b_K_blockers : ByteArray := prog_3_method_3_code
def y_K_blockers : MethodName := ⟨R_K, "blockers", "(IIJ)J"⟩
abbrev b_K_grant : ByteArray := prog_3_method_4_code
def y_K_grant : MethodName := ⟨R_K, "grant", "(III)V"⟩
abbrev b_K_passOn : ByteArray := prog_3_method_5_code
def y_K_passOn : MethodName := ⟨R_K, "passOn", "(II)V"⟩
abbrev b_K_release : ByteArray := prog_3_method_6_code
def y_K_release : MethodName := ⟨R_K, "release", "(I)V"⟩
abbrev b_K_releaseAll : ByteArray := prog_3_method_7_code
def y_K_releaseAll : MethodName := ⟨R_K, "releaseAll", "()V"⟩
def R_P : String := "NestedStore$Plan"
def F_P : u_T := fun k => match k with
  | 0 => ("NestedStore$Plan", "mode", "I", false)
  | 1 => ("NestedStore$Plan", "size", "I", false)
  | _ => ("NestedStore$Plan", "items", "[I", true)
def ty_P : Nat → FieldType := fun k => match k with
  | 0 => .int
  | 1 => .int
  | _ => .array .int
theorem nmx_P : ∀ a, a < 3 → ∀ b, b < 3 → a ≠ b → (F_P a).2.1 ≠ (F_P b).2.1 := by decide +kernel
theorem ty_P_ok : ∀ k, k < 3 → parseFieldDescriptor (F_P k).2.2.1 = some (ty_P k) := by decide +kernel
abbrev b_P_init : ByteArray := prog_6_method_1_code
def y_P_init : MethodName := ⟨R_P, "<init>", "()V"⟩
abbrev b_P_start : ByteArray := prog_6_method_2_code
def y_P_start : MethodName := ⟨R_P, "start", "(I)V"⟩
abbrev b_P_add : ByteArray := prog_6_method_3_code
def y_P_add : MethodName := ⟨R_P, "add", "(I)V"⟩
def R_D : String := "NestedStore$Leads"
def F_D : u_T := fun k => match k with
  | _ => ("NestedStore$Leads", "from", "[J", true)
def ty_D : Nat → FieldType := fun k => match k with
  | _ => .array .long
theorem nmx_D : ∀ a, a < 1 → ∀ b, b < 1 → a ≠ b → (F_D a).2.1 ≠ (F_D b).2.1 := by decide +kernel
theorem ty_D_ok : ∀ k, k < 1 → parseFieldDescriptor (F_D k).2.2.1 = some (ty_D k) := by decide +kernel
abbrev b_D_init : ByteArray := prog_2_method_1_code
def y_D_init : MethodName := ⟨R_D, "<init>", "()V"⟩
abbrev b_D_greatestInCircle : ByteArray := prog_2_method_2_code
def y_D_greatestInCircle : MethodName := ⟨R_D, "greatestInCircle", "(II)I"⟩
abbrev b_D_reachedFrom : ByteArray := prog_2_method_3_code
def y_D_reachedFrom : MethodName := ⟨R_D, "reachedFrom", "(II)J"⟩
abbrev b_D_leadingTo : ByteArray := prog_2_method_4_code
def y_D_leadingTo : MethodName := ⟨R_D, "leadingTo", "(II)J"⟩
def R_G : String := "NestedStore$Log"
def F_G : u_T := fun k => match k with
  | 0 => ("NestedStore$Log", "base", "I", false)
  | 1 => ("NestedStore$Log", "size", "I", false)
  | 2 => ("NestedStore$Log", "flushed", "I", false)
  | 3 => ("NestedStore$Log", "kind", "[I", true)
  | 4 => ("NestedStore$Log", "transaction", "[I", true)
  | 5 => ("NestedStore$Log", "subject", "[I", true)
  | 6 => ("NestedStore$Log", "wasThere", "[Z", true)
  | 7 => ("NestedStore$Log", "oldValue", "[I", true)
  | 8 => ("NestedStore$Log", "isThere", "[Z", true)
  | 9 => ("NestedStore$Log", "newValue", "[I", true)
  | 10 => ("NestedStore$Log", "undoes", "[I", true)
  | _ => ("NestedStore$Log", "undone", "[Z", true)
def ty_G : Nat → FieldType := fun k => match k with
  | 0 => .int
  | 1 => .int
  | 2 => .int
  | 3 => .array .int
  | 4 => .array .int
  | 5 => .array .int
  | 6 => .array .boolean
  | 7 => .array .int
  | 8 => .array .boolean
  | 9 => .array .int
  | 10 => .array .int
  | _ => .array .boolean
theorem nmx_G : ∀ a, a < 12 → ∀ b, b < 12 → a ≠ b → (F_G a).2.1 ≠ (F_G b).2.1 := by decide +kernel
theorem ty_G_ok : ∀ k, k < 12 → parseFieldDescriptor (F_G k).2.2.1 = some (ty_G k) := by decide +kernel
abbrev b_G_init : ByteArray := prog_4_method_1_code
def y_G_init : MethodName := ⟨R_G, "<init>", "()V"⟩
abbrev b_G_last : ByteArray := prog_4_method_2_code
def y_G_last : MethodName := ⟨R_G, "last", "()I"⟩
abbrev b_G_lsnOf : ByteArray := prog_4_method_3_code
def y_G_lsnOf : MethodName := ⟨R_G, "lsnOf", "(I)I"⟩
abbrev b_G_rowOf : ByteArray := prog_4_method_4_code
def y_G_rowOf : MethodName := ⟨R_G, "rowOf", "(I)I"⟩
abbrev b_G_append : ByteArray := prog_4_method_5_code
def y_G_append : MethodName := ⟨R_G, "append", "(III)I"⟩
abbrev b_G_setBefore : ByteArray := prog_4_method_6_code
def y_G_setBefore : MethodName := ⟨R_G, "setBefore", "(IZI)V"⟩
abbrev b_G_setAfter : ByteArray := prog_4_method_7_code
def y_G_setAfter : MethodName := ⟨R_G, "setAfter", "(IZI)V"⟩
abbrev b_G_loseUnflushed : ByteArray := prog_4_method_8_code
def y_G_loseUnflushed : MethodName := ⟨R_G, "loseUnflushed", "()V"⟩
abbrev b_G_empty : ByteArray := prog_4_method_9_code
def y_G_empty : MethodName := ⟨R_G, "empty", "()V"⟩
def R_A : String := "NestedStore$Pages"
def F_A : u_T := fun k => match k with
  | 0 => ("NestedStore$Pages", "frames", "I", true)
  | 1 => ("NestedStore$Pages", "framesInUse", "I", false)
  | 2 => ("NestedStore$Pages", "byTouch", "[I", true)
  | 3 => ("NestedStore$Pages", "dirty", "[Z", true)
  | 4 => ("NestedStore$Pages", "lsn", "[I", true)
  | 5 => ("NestedStore$Pages", "there", "[Z", true)
  | 6 => ("NestedStore$Pages", "value", "[I", true)
  | 7 => ("NestedStore$Pages", "diskLsn", "[I", true)
  | 8 => ("NestedStore$Pages", "diskThere", "[Z", true)
  | _ => ("NestedStore$Pages", "diskValue", "[I", true)
def ty_A : Nat → FieldType := fun k => match k with
  | 0 => .int
  | 1 => .int
  | 2 => .array .int
  | 3 => .array .boolean
  | 4 => .array .int
  | 5 => .array .boolean
  | 6 => .array .int
  | 7 => .array .int
  | 8 => .array .boolean
  | _ => .array .int
theorem nmx_A : ∀ a, a < 10 → ∀ b, b < 10 → a ≠ b → (F_A a).2.1 ≠ (F_A b).2.1 := by decide +kernel
theorem ty_A_ok : ∀ k, k < 10 → parseFieldDescriptor (F_A k).2.2.1 = some (ty_A k) := by decide +kernel
abbrev b_A_init : ByteArray := prog_5_method_1_code
def y_A_init : MethodName := ⟨R_A, "<init>", "(I)V"⟩
abbrev b_A_nextItem : ByteArray := prog_5_method_2_code
def y_A_nextItem : MethodName := ⟨R_A, "nextItem", "(I)I"⟩
abbrev b_A_touch : ByteArray := prog_5_method_3_code
def y_A_touch : MethodName := ⟨R_A, "touch", "(ILNestedStore$Log;)V"⟩
abbrev b_A_putOnDisk : ByteArray := prog_5_method_4_code
def y_A_putOnDisk : MethodName := ⟨R_A, "putOnDisk", "(ILNestedStore$Log;)V"⟩
abbrev b_A_change : ByteArray := prog_5_method_5_code
def y_A_change : MethodName := ⟨R_A, "change", "(IZII)V"⟩
abbrev b_A_loseFrames : ByteArray := prog_5_method_6_code
def y_A_loseFrames : MethodName := ⟨R_A, "loseFrames", "()V"⟩
def R_M : String := "NestedStoreModel"
def F_M : u_T := fun k => match k with
  | 0 => ("NestedStoreModel", "frames", "I", true)
  | 1 => ("NestedStoreModel", "diskThere", "[Z", true)
  | 2 => ("NestedStoreModel", "diskValue", "[I", true)
  | 3 => ("NestedStoreModel", "diskLsn", "[I", true)
  | 4 => ("NestedStoreModel", "there", "[Z", true)
  | 5 => ("NestedStoreModel", "value", "[I", true)
  | 6 => ("NestedStoreModel", "lsn", "[I", true)
  | 7 => ("NestedStoreModel", "inFrame", "[Z", true)
  | 8 => ("NestedStoreModel", "dirty", "[Z", true)
  | 9 => ("NestedStoreModel", "touched", "[I", true)
  | 10 => ("NestedStoreModel", "clock", "I", false)
  | 11 => ("NestedStoreModel", "base", "I", false)
  | 12 => ("NestedStoreModel", "records", "I", false)
  | 13 => ("NestedStoreModel", "flushed", "I", false)
  | 14 => ("NestedStoreModel", "kind", "[I", true)
  | 15 => ("NestedStoreModel", "by", "[I", true)
  | 16 => ("NestedStoreModel", "about", "[I", true)
  | 17 => ("NestedStoreModel", "of", "[I", true)
  | 18 => ("NestedStoreModel", "wasThere", "[Z", true)
  | 19 => ("NestedStoreModel", "wasValue", "[I", true)
  | 20 => ("NestedStoreModel", "isThere", "[Z", true)
  | 21 => ("NestedStoreModel", "isValue", "[I", true)
  | 22 => ("NestedStoreModel", "many", "I", false)
  | 23 => ("NestedStoreModel", "state", "[I", true)
  | 24 => ("NestedStoreModel", "parent", "[I", true)
  | 25 => ("NestedStoreModel", "began", "[I", true)
  | 26 => ("NestedStoreModel", "locks", "[I", true)
  | 27 => ("NestedStoreModel", "asks", "[I", true)
  | 28 => ("NestedStoreModel", "first", "[I", true)
  | 29 => ("NestedStoreModel", "second", "[I", true)
  | 30 => ("NestedStoreModel", "wanted", "I", false)
  | 31 => ("NestedStoreModel", "item", "[I", true)
  | 32 => ("NestedStoreModel", "mode", "I", false)
  | 33 => ("NestedStoreModel", "lacks", "[I", true)
  | 34 => ("NestedStoreModel", "lackMode", "[I", true)
  | 35 => ("NestedStoreModel", "ahead", "[Z", true)
  | 36 => ("NestedStoreModel", "back", "[Z", true)
  | 37 => ("NestedStoreModel", "falls", "[Z", true)
  | _ => ("NestedStoreModel", "latest", "I", false)
def ty_M : Nat → FieldType := fun k => match k with
  | 0 => .int
  | 1 => .array .boolean
  | 2 => .array .int
  | 3 => .array .int
  | 4 => .array .boolean
  | 5 => .array .int
  | 6 => .array .int
  | 7 => .array .boolean
  | 8 => .array .boolean
  | 9 => .array .int
  | 10 => .int
  | 11 => .int
  | 12 => .int
  | 13 => .int
  | 14 => .array .int
  | 15 => .array .int
  | 16 => .array .int
  | 17 => .array .int
  | 18 => .array .boolean
  | 19 => .array .int
  | 20 => .array .boolean
  | 21 => .array .int
  | 22 => .int
  | 23 => .array .int
  | 24 => .array .int
  | 25 => .array .int
  | 26 => .array .int
  | 27 => .array .int
  | 28 => .array .int
  | 29 => .array .int
  | 30 => .int
  | 31 => .array .int
  | 32 => .int
  | 33 => .array .int
  | 34 => .array .int
  | 35 => .array .boolean
  | 36 => .array .boolean
  | 37 => .array .boolean
  | _ => .int
theorem nmx_M : ∀ a, a < 39 → ∀ b, b < 39 → a ≠ b → (F_M a).2.1 ≠ (F_M b).2.1 := by decide +kernel
theorem ty_M_ok : ∀ k, k < 39 → parseFieldDescriptor (F_M k).2.2.1 = some (ty_M k) := by decide +kernel
abbrev b_M_init : ByteArray := prog_9_method_1_code
def y_M_init : MethodName := ⟨R_M, "<init>", "(I)V"⟩
abbrev b_M_isKey : ByteArray := prog_9_method_2_code
def y_M_isKey : MethodName := ⟨R_M, "isKey", "(I)Z"⟩
abbrev b_M_isPage : ByteArray := prog_9_method_3_code
def y_M_isPage : MethodName := ⟨R_M, "isPage", "(I)Z"⟩
abbrev b_M_isThereNow : ByteArray := prog_9_method_4_code
def y_M_isThereNow : MethodName := ⟨R_M, "isThereNow", "(I)Z"⟩
abbrev b_M_valueNow : ByteArray := prog_9_method_5_code
def y_M_valueNow : MethodName := ⟨R_M, "valueNow", "(I)I"⟩
abbrev b_M_lsnNow : ByteArray := prog_9_method_6_code
def y_M_lsnNow : MethodName := ⟨R_M, "lsnNow", "(I)I"⟩
abbrev b_M_writes : ByteArray := prog_9_method_7_code
def y_M_writes : MethodName := ⟨R_M, "writes", "(I)V"⟩
abbrev b_M_touch : ByteArray := prog_9_method_8_code
def y_M_touch : MethodName := ⟨R_M, "touch", "(I)V"⟩
abbrev b_M_become : ByteArray := prog_9_method_9_code
def y_M_become : MethodName := ⟨R_M, "become", "(IZII)V"⟩
abbrev b_M_last : ByteArray := prog_9_method_10_code
def y_M_last : MethodName := ⟨R_M, "last", "()I"⟩
abbrev b_M_append : ByteArray := prog_9_method_11_code
def y_M_append : MethodName := ⟨R_M, "append", "(III)I"⟩
abbrev b_M_update : ByteArray := prog_9_method_12_code
def y_M_update : MethodName := ⟨R_M, "update", "(IIZI)V"⟩
abbrev b_M_undo : ByteArray := prog_9_method_13_code
def y_M_undo : MethodName := ⟨R_M, "undo", "(II)V"⟩
abbrev b_M_undone : ByteArray := prog_9_method_14_code
def y_M_undone : MethodName := ⟨R_M, "undone", "(I)Z"⟩
abbrev b_M_top : ByteArray := prog_9_method_15_code
def y_M_top : MethodName := ⟨R_M, "top", "(I)I"⟩
abbrev b_M_open : ByteArray := prog_9_method_16_code
def y_M_open : MethodName := ⟨R_M, "open", "(I)Z"⟩
abbrev b_M_opens : ByteArray := prog_9_method_17_code
def y_M_opens : MethodName := ⟨R_M, "opens", "()I"⟩
abbrev b_M_live : ByteArray := prog_9_method_18_code
def y_M_live : MethodName := ⟨R_M, "live", "(I)Z"⟩
abbrev b_M_lives : ByteArray := prog_9_method_19_code
def y_M_lives : MethodName := ⟨R_M, "lives", "()I"⟩
abbrev b_M_full : ByteArray := prog_9_method_20_code
def y_M_full : MethodName := ⟨R_M, "full", "()Z"⟩
abbrev b_M_is : ByteArray := prog_9_method_21_code
def y_M_is : MethodName := ⟨R_M, "is", "(I)Z"⟩
abbrev b_M_active : ByteArray := prog_9_method_22_code
def y_M_active : MethodName := ⟨R_M, "active", "(I)Z"⟩
abbrev b_M_above : ByteArray := prog_9_method_23_code
def y_M_above : MethodName := ⟨R_M, "above", "(II)Z"⟩
abbrev b_M_busy : ByteArray := prog_9_method_24_code
def y_M_busy : MethodName := ⟨R_M, "busy", "(I)Z"⟩
abbrev b_M_depth : ByteArray := prog_9_method_25_code
def y_M_depth : MethodName := ⟨R_M, "depth", "(I)I"⟩
abbrev b_M_begin : ByteArray := prog_9_method_26_code
def y_M_begin : MethodName := ⟨R_M, "begin", "(I)I"⟩
abbrev b_M_next : ByteArray := prog_9_method_27_code
def y_M_next : MethodName := ⟨R_M, "next", "(I)I"⟩
abbrev b_M_want : ByteArray := prog_9_method_28_code
def y_M_want : MethodName := ⟨R_M, "want", "(I)V"⟩
abbrev b_M_needs : ByteArray := prog_9_method_29_code
def y_M_needs : MethodName := ⟨R_M, "needs", "(III)V"⟩
abbrev b_M_bars : ByteArray := prog_9_method_30_code
def y_M_bars : MethodName := ⟨R_M, "bars", "(IIII)Z"⟩
abbrev b_M_may : ByteArray := prog_9_method_31_code
def y_M_may : MethodName := ⟨R_M, "may", "(III)Z"⟩
abbrev b_M_look : ByteArray := prog_9_method_32_code
def y_M_look : MethodName := ⟨R_M, "look", "()V"⟩
abbrev b_M_leads : ByteArray := prog_9_method_33_code
def y_M_leads : MethodName := ⟨R_M, "leads", "(II)Z"⟩
abbrev b_M_victim : ByteArray := prog_9_method_34_code
def y_M_victim : MethodName := ⟨R_M, "victim", "(I)I"⟩
abbrev b_M_request : ByteArray := prog_9_method_35_code
def y_M_request : MethodName := ⟨R_M, "request", "(IIII)I"⟩
abbrev b_M_scanned : ByteArray := prog_9_method_36_code
def y_M_scanned : MethodName := ⟨R_M, "scanned", "(II)I"⟩
abbrev b_M_stays : ByteArray := prog_9_method_37_code
def y_M_stays : MethodName := ⟨R_M, "stays", "(IIII)I"⟩
abbrev b_M_ask : ByteArray := prog_9_method_38_code
def y_M_ask : MethodName := ⟨R_M, "ask", "(IIII)I"⟩
abbrev b_M_get : ByteArray := prog_9_method_39_code
def y_M_get : MethodName := ⟨R_M, "get", "(II)I"⟩
abbrev b_M_put : ByteArray := prog_9_method_40_code
def y_M_put : MethodName := ⟨R_M, "put", "(III)I"⟩
abbrev b_M_delete : ByteArray := prog_9_method_41_code
def y_M_delete : MethodName := ⟨R_M, "delete", "(II)I"⟩
abbrev b_M_scan : ByteArray := prog_9_method_42_code
def y_M_scan : MethodName := ⟨R_M, "scan", "(III)I"⟩
abbrev b_M_resume : ByteArray := prog_9_method_43_code
def y_M_resume : MethodName := ⟨R_M, "resume", "(I)I"⟩
abbrev b_M_value : ByteArray := prog_9_method_44_code
def y_M_value : MethodName := ⟨R_M, "value", "()I"⟩
abbrev b_M_unlock : ByteArray := prog_9_method_45_code
def y_M_unlock : MethodName := ⟨R_M, "unlock", "(I)V"⟩
abbrev b_M_commit : ByteArray := prog_9_method_46_code
def y_M_commit : MethodName := ⟨R_M, "commit", "(I)I"⟩
abbrev b_M_undoes : ByteArray := prog_9_method_47_code
def y_M_undoes : MethodName := ⟨R_M, "undoes", "(II)I"⟩
abbrev b_M_aborts : ByteArray := prog_9_method_48_code
def y_M_aborts : MethodName := ⟨R_M, "aborts", "(I)I"⟩
abbrev b_M_abort : ByteArray := prog_9_method_49_code
def y_M_abort : MethodName := ⟨R_M, "abort", "(I)I"⟩
abbrev b_M_save : ByteArray := prog_9_method_50_code
def y_M_save : MethodName := ⟨R_M, "save", "(I)I"⟩
abbrev b_M_rollback : ByteArray := prog_9_method_51_code
def y_M_rollback : MethodName := ⟨R_M, "rollback", "(II)I"⟩
abbrev b_M_write : ByteArray := prog_9_method_52_code
def y_M_write : MethodName := ⟨R_M, "write", "(I)Z"⟩
abbrev b_M_archive : ByteArray := prog_9_method_53_code
def y_M_archive : MethodName := ⟨R_M, "archive", "()I"⟩
abbrev b_M_committed : ByteArray := prog_9_method_54_code
def y_M_committed : MethodName := ⟨R_M, "committed", "(I)Z"⟩
abbrev b_M_crash : ByteArray := prog_9_method_55_code
def y_M_crash : MethodName := ⟨R_M, "crash", "(I)I"⟩
abbrev b_M_state : ByteArray := prog_9_method_56_code
def y_M_state : MethodName := ⟨R_M, "state", "(I)I"⟩
abbrev b_M_parent : ByteArray := prog_9_method_57_code
def y_M_parent : MethodName := ⟨R_M, "parent", "(I)I"⟩
abbrev b_M_lock : ByteArray := prog_9_method_58_code
def y_M_lock : MethodName := ⟨R_M, "lock", "(II)I"⟩
abbrev b_M_waits : ByteArray := prog_9_method_59_code
def y_M_waits : MethodName := ⟨R_M, "waits", "(II)Z"⟩
abbrev b_M_entry : ByteArray := prog_9_method_60_code
def y_M_entry : MethodName := ⟨R_M, "entry", "(II)I"⟩
abbrev b_M_log : ByteArray := prog_9_method_61_code
def y_M_log : MethodName := ⟨R_M, "log", "(I)I"⟩
abbrev b_M_key : ByteArray := prog_9_method_62_code
def y_M_key : MethodName := ⟨R_M, "key", "(II)I"⟩
abbrev b_M_frame : ByteArray := prog_9_method_63_code
def y_M_frame : MethodName := ⟨R_M, "frame", "(I)I"⟩
abbrev b_M_page : ByteArray := prog_9_method_64_code
def y_M_page : MethodName := ⟨R_M, "page", "(I)I"⟩
end
section
abbrev clZ : List vw_C := [(R_N, F_N, 7), (R_T, F_T, 11), (R_K, F_K, 2), (R_P, F_P, 3), (R_D, F_D, 1), (R_G, F_G, 12), (R_A, F_A, 10), (R_M, F_M, 39)]
def wA : List Cond := lw_tbl.filter goodWord
theorem wA_t {w : Cond} (k : Nat) (h : tables_1[k]? = some w) (hg : goodWord w = true) : w ∈ wA := List.mem_filter.mpr ⟨List.mem_append_right _ (List.mem_of_getElem? h), hg⟩
theorem wA_p {y : MethodName} {n : Nat} (h : (y, n) ∈ lw_privs) : Cond.selects y.cls y y ∈ wA := List.mem_filter.mpr ⟨List.mem_append_left _ (List.mem_map.mpr ⟨(y, n), h, rfl⟩), rfl⟩
theorem wA_good {w : Cond} (h : w ∈ wA) : (w.onTables && w.keeps) = true ∨ ∃ ty, w = .arrayClass ty := good_of_word (List.mem_filter.mp h).2
theorem gw_V {own C : String} {ix maxL : Nat} {y : MethodName} {b : ByteArray} {ret : Option FieldType} {c0 : Cond} (h1 : Cond.methodLink own ix y ∈ wA) (h2 : Cond.instanceMethod y ∈ wA) (h3 : Cond.selects C y y ∈ wA) (h4 : Cond.initialized C ∈ wA) (h5 : Cond.code y b maxL ret ∈ wA) : GoodIn (c0 :: wA) (wsV own ix C y (.code y b maxL ret :: wA)) := by
  have key : ∀ w ∈ wsV own ix C y (.code y b maxL ret :: wA), w ∈ wA := by
    intro w hw
    simp only [wsV, List.cons_append, List.nil_append, List.mem_cons] at hw
    rcases hw with rfl | rfl | rfl | rfl | rfl | hw
    · exact h1
    · exact h2
    · exact h3
    · exact h4
    · exact h5
    · exact hw
  exact fun w hw => ⟨List.mem_cons_of_mem _ (key w hw), wA_good (key w hw)⟩
theorem gw_S {own : String} {ix maxL : Nat} {y : MethodName} {b : ByteArray} {ret : Option FieldType} {c0 : Cond} (h1 : Cond.methodLink own ix y ∈ wA) (h2 : Cond.static y ∈ wA) (h4 : Cond.initialized own ∈ wA) (h5 : Cond.code y b maxL ret ∈ wA) : GoodIn (c0 :: wA) (wsS own ix y (.code y b maxL ret :: wA)) := by
  have key : ∀ w ∈ wsS own ix y (.code y b maxL ret :: wA), w ∈ wA := by
    intro w hw
    simp only [wsS, List.cons_append, List.nil_append, List.mem_cons] at hw
    rcases hw with rfl | rfl | rfl | rfl | hw
    · exact h1
    · exact h2
    · exact h4
    · exact h5
    · exact hw
  exact fun w hw => ⟨List.mem_cons_of_mem _ (key w hw), wA_good (key w hw)⟩
theorem ii_1 (x : Int32) : x + Int32.ofInt 1 = x + 1 := rfl
theorem ii_m1 (x : Int32) : x + Int32.ofInt (-1) = x + (-1) := rfl
theorem in_N : ∀ w ∈ u_ws R_N F_N 7, w ∈ wA := by
  intro w hw
  obtain ⟨k, hk, rfl⟩ := List.mem_map.mp hw
  have hk := List.mem_range.mp hk
  match k, hk with
  | 0, _ => exact wA_t 229 (by decide +kernel) rfl
  | 1, _ => exact wA_t 231 (by decide +kernel) rfl
  | 2, _ => exact wA_t 233 (by decide +kernel) rfl
  | 3, _ => exact wA_t 235 (by decide +kernel) rfl
  | 4, _ => exact wA_t 237 (by decide +kernel) rfl
  | 5, _ => exact wA_t 239 (by decide +kernel) rfl
  | 6, _ => exact wA_t 241 (by decide +kernel) rfl
theorem in_T : ∀ w ∈ u_ws R_T F_T 11, w ∈ wA := by
  intro w hw
  obtain ⟨k, hk, rfl⟩ := List.mem_map.mp hw
  have hk := List.mem_range.mp hk
  match k, hk with
  | 0, _ => exact wA_t 46 (by decide +kernel) rfl
  | 1, _ => exact wA_t 48 (by decide +kernel) rfl
  | 2, _ => exact wA_t 50 (by decide +kernel) rfl
  | 3, _ => exact wA_t 52 (by decide +kernel) rfl
  | 4, _ => exact wA_t 54 (by decide +kernel) rfl
  | 5, _ => exact wA_t 56 (by decide +kernel) rfl
  | 6, _ => exact wA_t 58 (by decide +kernel) rfl
  | 7, _ => exact wA_t 60 (by decide +kernel) rfl
  | 8, _ => exact wA_t 62 (by decide +kernel) rfl
  | 9, _ => exact wA_t 64 (by decide +kernel) rfl
  | 10, _ => exact wA_t 66 (by decide +kernel) rfl
theorem in_K : ∀ w ∈ u_ws R_K F_K 2, w ∈ wA := by
  intro w hw
  obtain ⟨k, hk, rfl⟩ := List.mem_map.mp hw
  have hk := List.mem_range.mp hk
  match k, hk with
  | 0, _ => exact wA_t 79 (by decide +kernel) rfl
  | 1, _ => exact wA_t 81 (by decide +kernel) rfl
theorem in_P : ∀ w ∈ u_ws R_P F_P 3, w ∈ wA := by
  intro w hw
  obtain ⟨k, hk, rfl⟩ := List.mem_map.mp hw
  have hk := List.mem_range.mp hk
  match k, hk with
  | 0, _ => exact wA_t 96 (by decide +kernel) rfl
  | 1, _ => exact wA_t 98 (by decide +kernel) rfl
  | 2, _ => exact wA_t 100 (by decide +kernel) rfl
theorem in_D : ∀ w ∈ u_ws R_D F_D 1, w ∈ wA := by
  intro w hw
  obtain ⟨k, hk, rfl⟩ := List.mem_map.mp hw
  have hk := List.mem_range.mp hk
  match k, hk with
  | 0, _ => exact wA_t 111 (by decide +kernel) rfl
theorem in_G : ∀ w ∈ u_ws R_G F_G 12, w ∈ wA := by
  intro w hw
  obtain ⟨k, hk, rfl⟩ := List.mem_map.mp hw
  have hk := List.mem_range.mp hk
  match k, hk with
  | 0, _ => exact wA_t 145 (by decide +kernel) rfl
  | 1, _ => exact wA_t 147 (by decide +kernel) rfl
  | 2, _ => exact wA_t 149 (by decide +kernel) rfl
  | 3, _ => exact wA_t 151 (by decide +kernel) rfl
  | 4, _ => exact wA_t 153 (by decide +kernel) rfl
  | 5, _ => exact wA_t 155 (by decide +kernel) rfl
  | 6, _ => exact wA_t 157 (by decide +kernel) rfl
  | 7, _ => exact wA_t 159 (by decide +kernel) rfl
  | 8, _ => exact wA_t 161 (by decide +kernel) rfl
  | 9, _ => exact wA_t 163 (by decide +kernel) rfl
  | 10, _ => exact wA_t 165 (by decide +kernel) rfl
  | 11, _ => exact wA_t 167 (by decide +kernel) rfl
theorem in_A : ∀ w ∈ u_ws R_A F_A 10, w ∈ wA := by
  intro w hw
  obtain ⟨k, hk, rfl⟩ := List.mem_map.mp hw
  have hk := List.mem_range.mp hk
  match k, hk with
  | 0, _ => exact wA_t 201 (by decide +kernel) rfl
  | 1, _ => exact wA_t 203 (by decide +kernel) rfl
  | 2, _ => exact wA_t 205 (by decide +kernel) rfl
  | 3, _ => exact wA_t 207 (by decide +kernel) rfl
  | 4, _ => exact wA_t 209 (by decide +kernel) rfl
  | 5, _ => exact wA_t 211 (by decide +kernel) rfl
  | 6, _ => exact wA_t 213 (by decide +kernel) rfl
  | 7, _ => exact wA_t 215 (by decide +kernel) rfl
  | 8, _ => exact wA_t 217 (by decide +kernel) rfl
  | 9, _ => exact wA_t 219 (by decide +kernel) rfl
theorem k_A_9 : Cond.fieldLink R_A 9 R_A "byTouch" "[I" ∈ wA := wA_t 186 (by decide +kernel) rfl
theorem k_A_15 : Cond.fieldLink R_A 15 R_A "dirty" "[Z" ∈ wA := wA_t 188 (by decide +kernel) rfl
theorem k_A_19 : Cond.fieldLink R_A 19 R_A "lsn" "[I" ∈ wA := wA_t 190 (by decide +kernel) rfl
theorem k_A_22 : Cond.fieldLink R_A 22 R_A "there" "[Z" ∈ wA := wA_t 192 (by decide +kernel) rfl
theorem k_A_25 : Cond.fieldLink R_A 25 R_A "value" "[I" ∈ wA := wA_t 194 (by decide +kernel) rfl
theorem k_A_28 : Cond.fieldLink R_A 28 R_A "diskLsn" "[I" ∈ wA := wA_t 196 (by decide +kernel) rfl
theorem k_A_31 : Cond.fieldLink R_A 31 R_A "diskThere" "[Z" ∈ wA := wA_t 197 (by decide +kernel) rfl
theorem k_A_34 : Cond.fieldLink R_A 34 R_A "diskValue" "[I" ∈ wA := wA_t 199 (by decide +kernel) rfl
theorem k_A_37 : Cond.fieldLink R_A 37 R_A "frames" "I" ∈ wA := wA_t 183 (by decide +kernel) rfl
theorem k_A_41 : Cond.fieldLink R_A 41 R_A "framesInUse" "I" ∈ wA := wA_t 184 (by decide +kernel) rfl
theorem k_A_48 : Cond.fieldLink R_A 48 R_G "flushed" "I" ∈ wA := wA_t 124 (by decide +kernel) rfl
theorem k_D_9 : Cond.fieldLink R_D 9 R_D "from" "[J" ∈ wA := wA_t 109 (by decide +kernel) rfl
theorem k_G_9 : Cond.fieldLink R_G 9 R_G "kind" "[I" ∈ wA := wA_t 127 (by decide +kernel) rfl
theorem k_G_15 : Cond.fieldLink R_G 15 R_G "transaction" "[I" ∈ wA := wA_t 129 (by decide +kernel) rfl
theorem k_G_18 : Cond.fieldLink R_G 18 R_G "subject" "[I" ∈ wA := wA_t 131 (by decide +kernel) rfl
theorem k_G_21 : Cond.fieldLink R_G 21 R_G "wasThere" "[Z" ∈ wA := wA_t 133 (by decide +kernel) rfl
theorem k_G_25 : Cond.fieldLink R_G 25 R_G "oldValue" "[I" ∈ wA := wA_t 135 (by decide +kernel) rfl
theorem k_G_28 : Cond.fieldLink R_G 28 R_G "isThere" "[Z" ∈ wA := wA_t 137 (by decide +kernel) rfl
theorem k_G_31 : Cond.fieldLink R_G 31 R_G "newValue" "[I" ∈ wA := wA_t 139 (by decide +kernel) rfl
theorem k_G_34 : Cond.fieldLink R_G 34 R_G "undoes" "[I" ∈ wA := wA_t 141 (by decide +kernel) rfl
theorem k_G_37 : Cond.fieldLink R_G 37 R_G "undone" "[Z" ∈ wA := wA_t 143 (by decide +kernel) rfl
theorem k_G_40 : Cond.fieldLink R_G 40 R_G "base" "I" ∈ wA := wA_t 120 (by decide +kernel) rfl
theorem k_G_44 : Cond.fieldLink R_G 44 R_G "size" "I" ∈ wA := wA_t 122 (by decide +kernel) rfl
theorem k_G_54 : Cond.fieldLink R_G 54 R_G "flushed" "I" ∈ wA := wA_t 125 (by decide +kernel) rfl
theorem k_K_9 : Cond.fieldLink R_K 9 R_K "shared" "[J" ∈ wA := wA_t 77 (by decide +kernel) rfl
theorem k_K_15 : Cond.fieldLink R_K 15 R_K "exclusive" "[J" ∈ wA := wA_t 78 (by decide +kernel) rfl
theorem k_N_12 : Cond.fieldLink R_N 12 R_N "transactions" "LNestedStore$Transactions;" ∈ wA := wA_t 222 (by decide +kernel) rfl
theorem k_N_19 : Cond.fieldLink R_N 19 R_N "locks" "LNestedStore$Locks;" ∈ wA := wA_t 223 (by decide +kernel) rfl
theorem k_N_26 : Cond.fieldLink R_N 26 R_N "plan" "LNestedStore$Plan;" ∈ wA := wA_t 224 (by decide +kernel) rfl
theorem k_N_33 : Cond.fieldLink R_N 33 R_N "leads" "LNestedStore$Leads;" ∈ wA := wA_t 225 (by decide +kernel) rfl
theorem k_N_40 : Cond.fieldLink R_N 40 R_N "log" "LNestedStore$Log;" ∈ wA := wA_t 226 (by decide +kernel) rfl
theorem k_N_58 : Cond.fieldLink R_N 58 R_N "pages" "LNestedStore$Pages;" ∈ wA := wA_t 227 (by decide +kernel) rfl
theorem k_N_66 : Cond.fieldLink R_N 66 R_T "depth" "[I" ∈ wA := wA_t 31 (by decide +kernel) rfl
theorem k_N_70 : Cond.fieldLink R_N 70 R_T "count" "I" ∈ wA := wA_t 25 (by decide +kernel) rfl
theorem k_N_100 : Cond.fieldLink R_N 100 R_N "latestValue" "I" ∈ wA := wA_t 228 (by decide +kernel) rfl
theorem k_N_106 : Cond.fieldLink R_N 106 R_T "state" "[I" ∈ wA := wA_t 33 (by decide +kernel) rfl
theorem k_N_109 : Cond.fieldLink R_N 109 R_T "parent" "[I" ∈ wA := wA_t 27 (by decide +kernel) rfl
theorem k_N_112 : Cond.fieldLink R_N 112 R_G "flushed" "I" ∈ wA := wA_t 126 (by decide +kernel) rfl
theorem k_N_128 : Cond.fieldLink R_N 128 R_T "begun" "[I" ∈ wA := wA_t 35 (by decide +kernel) rfl
theorem k_N_140 : Cond.fieldLink R_N 140 R_A "dirty" "[Z" ∈ wA := wA_t 189 (by decide +kernel) rfl
theorem k_N_182 : Cond.fieldLink R_N 182 R_G "base" "I" ∈ wA := wA_t 121 (by decide +kernel) rfl
theorem k_N_188 : Cond.fieldLink R_N 188 R_G "kind" "[I" ∈ wA := wA_t 128 (by decide +kernel) rfl
theorem k_N_191 : Cond.fieldLink R_N 191 R_G "transaction" "[I" ∈ wA := wA_t 130 (by decide +kernel) rfl
theorem k_N_194 : Cond.fieldLink R_N 194 R_G "subject" "[I" ∈ wA := wA_t 132 (by decide +kernel) rfl
theorem k_N_197 : Cond.fieldLink R_N 197 R_G "undoes" "[I" ∈ wA := wA_t 142 (by decide +kernel) rfl
theorem k_N_200 : Cond.fieldLink R_N 200 R_G "wasThere" "[Z" ∈ wA := wA_t 134 (by decide +kernel) rfl
theorem k_N_207 : Cond.fieldLink R_N 207 R_G "isThere" "[Z" ∈ wA := wA_t 138 (by decide +kernel) rfl
theorem k_N_210 : Cond.fieldLink R_N 210 R_G "newValue" "[I" ∈ wA := wA_t 140 (by decide +kernel) rfl
theorem k_N_213 : Cond.fieldLink R_N 213 R_G "size" "I" ∈ wA := wA_t 123 (by decide +kernel) rfl
theorem k_N_222 : Cond.fieldLink R_N 222 R_A "there" "[Z" ∈ wA := wA_t 193 (by decide +kernel) rfl
theorem k_N_225 : Cond.fieldLink R_N 225 R_A "value" "[I" ∈ wA := wA_t 195 (by decide +kernel) rfl
theorem k_N_228 : Cond.fieldLink R_N 228 R_A "diskThere" "[Z" ∈ wA := wA_t 198 (by decide +kernel) rfl
theorem k_N_231 : Cond.fieldLink R_N 231 R_A "diskValue" "[I" ∈ wA := wA_t 200 (by decide +kernel) rfl
theorem k_N_234 : Cond.fieldLink R_N 234 R_A "framesInUse" "I" ∈ wA := wA_t 185 (by decide +kernel) rfl
theorem k_N_237 : Cond.fieldLink R_N 237 R_A "byTouch" "[I" ∈ wA := wA_t 187 (by decide +kernel) rfl
theorem k_N_240 : Cond.fieldLink R_N 240 R_A "lsn" "[I" ∈ wA := wA_t 191 (by decide +kernel) rfl
theorem k_N_262 : Cond.fieldLink R_N 262 R_P "items" "[I" ∈ wA := wA_t 95 (by decide +kernel) rfl
theorem k_N_265 : Cond.fieldLink R_N 265 R_P "mode" "I" ∈ wA := wA_t 91 (by decide +kernel) rfl
theorem k_N_272 : Cond.fieldLink R_N 272 R_P "size" "I" ∈ wA := wA_t 93 (by decide +kernel) rfl
theorem k_N_273 : Cond.fieldLink R_N 273 R_T "lineage" "[J" ∈ wA := wA_t 37 (by decide +kernel) rfl
theorem k_N_281 : Cond.fieldLink R_N 281 R_T "low" "[I" ∈ wA := wA_t 41 (by decide +kernel) rfl
theorem k_N_284 : Cond.fieldLink R_N 284 R_T "high" "[I" ∈ wA := wA_t 43 (by decide +kernel) rfl
theorem k_N_287 : Cond.fieldLink R_N 287 R_T "kind" "[I" ∈ wA := wA_t 39 (by decide +kernel) rfl
theorem k_N_299 : Cond.fieldLink R_N 299 R_T "newValue" "[I" ∈ wA := wA_t 45 (by decide +kernel) rfl
theorem k_N_321 : Cond.fieldLink R_N 321 R_G "oldValue" "[I" ∈ wA := wA_t 136 (by decide +kernel) rfl
theorem k_N_324 : Cond.fieldLink R_N 324 R_G "undone" "[Z" ∈ wA := wA_t 144 (by decide +kernel) rfl
theorem k_N_340 : Cond.fieldLink R_N 340 R_D "from" "[J" ∈ wA := wA_t 110 (by decide +kernel) rfl
theorem k_N_355 : Cond.fieldLink R_N 355 R_T "top" "[I" ∈ wA := wA_t 29 (by decide +kernel) rfl
theorem k_P_9 : Cond.fieldLink R_P 9 R_P "items" "[I" ∈ wA := wA_t 94 (by decide +kernel) rfl
theorem k_P_15 : Cond.fieldLink R_P 15 R_P "mode" "I" ∈ wA := wA_t 90 (by decide +kernel) rfl
theorem k_P_19 : Cond.fieldLink R_P 19 R_P "size" "I" ∈ wA := wA_t 92 (by decide +kernel) rfl
theorem k_T_9 : Cond.fieldLink R_T 9 R_T "parent" "[I" ∈ wA := wA_t 26 (by decide +kernel) rfl
theorem k_T_15 : Cond.fieldLink R_T 15 R_T "top" "[I" ∈ wA := wA_t 28 (by decide +kernel) rfl
theorem k_T_18 : Cond.fieldLink R_T 18 R_T "depth" "[I" ∈ wA := wA_t 30 (by decide +kernel) rfl
theorem k_T_21 : Cond.fieldLink R_T 21 R_T "state" "[I" ∈ wA := wA_t 32 (by decide +kernel) rfl
theorem k_T_24 : Cond.fieldLink R_T 24 R_T "begun" "[I" ∈ wA := wA_t 34 (by decide +kernel) rfl
theorem k_T_27 : Cond.fieldLink R_T 27 R_T "lineage" "[J" ∈ wA := wA_t 36 (by decide +kernel) rfl
theorem k_T_31 : Cond.fieldLink R_T 31 R_T "kind" "[I" ∈ wA := wA_t 38 (by decide +kernel) rfl
theorem k_T_34 : Cond.fieldLink R_T 34 R_T "low" "[I" ∈ wA := wA_t 40 (by decide +kernel) rfl
theorem k_T_37 : Cond.fieldLink R_T 37 R_T "high" "[I" ∈ wA := wA_t 42 (by decide +kernel) rfl
theorem k_T_40 : Cond.fieldLink R_T 40 R_T "newValue" "[I" ∈ wA := wA_t 44 (by decide +kernel) rfl
theorem k_T_43 : Cond.fieldLink R_T 43 R_T "count" "I" ∈ wA := wA_t 24 (by decide +kernel) rfl
theorem hd_A_putOnDisk : y_A_putOnDisk.cls = R_A ∧ y_A_putOnDisk.cls ≠ "java/lang/invoke/MethodHandle" ∧ y_A_putOnDisk.cls ≠ "java/lang/invoke/VarHandle" ∧ (parseMethodDescriptor y_A_putOnDisk.desc).map (fun d => d.parameters.length) = some 2 := by decide +kernel
theorem g_A_44 {c0 : Cond} : GoodIn (c0 :: wA) (wsV R_A 44 R_A y_A_putOnDisk (.code y_A_putOnDisk b_A_putOnDisk 5 none :: wA)) := gw_V (wA_t 377 (by decide +kernel) rfl) (wA_t 378 (by decide +kernel) rfl) (wA_t 379 (by decide +kernel) rfl) (wA_t 7 (by decide +kernel) rfl) (wA_t 380 (by decide +kernel) rfl)
theorem hd_D_reachedFrom : y_D_reachedFrom.cls = R_D ∧ y_D_reachedFrom.cls ≠ "java/lang/invoke/MethodHandle" ∧ y_D_reachedFrom.cls ≠ "java/lang/invoke/VarHandle" ∧ (parseMethodDescriptor y_D_reachedFrom.desc).map (fun d => d.parameters.length) = some 2 := by decide +kernel
theorem g_D_15 {c0 : Cond} : GoodIn (c0 :: wA) (wsV R_D 15 R_D y_D_reachedFrom (.code y_D_reachedFrom b_D_reachedFrom 9 (some .long) :: wA)) := gw_V (wA_t 424 (by decide +kernel) rfl) (wA_t 426 (by decide +kernel) rfl) (wA_p (y := y_D_reachedFrom) (n := 1) (by decide +kernel)) (wA_t 5 (by decide +kernel) rfl) (wA_t 427 (by decide +kernel) rfl)
theorem hd_D_leadingTo : y_D_leadingTo.cls = R_D ∧ y_D_leadingTo.cls ≠ "java/lang/invoke/MethodHandle" ∧ y_D_leadingTo.cls ≠ "java/lang/invoke/VarHandle" ∧ (parseMethodDescriptor y_D_leadingTo.desc).map (fun d => d.parameters.length) = some 2 := by decide +kernel
theorem g_D_19 {c0 : Cond} : GoodIn (c0 :: wA) (wsV R_D 19 R_D y_D_leadingTo (.code y_D_leadingTo b_D_leadingTo 9 (some .long) :: wA)) := gw_V (wA_t 428 (by decide +kernel) rfl) (wA_t 430 (by decide +kernel) rfl) (wA_p (y := y_D_leadingTo) (n := 1) (by decide +kernel)) (wA_t 5 (by decide +kernel) rfl) (wA_t 431 (by decide +kernel) rfl)
theorem hd_G_setBefore : y_G_setBefore.cls = R_G ∧ y_G_setBefore.cls ≠ "java/lang/invoke/MethodHandle" ∧ y_G_setBefore.cls ≠ "java/lang/invoke/VarHandle" ∧ (parseMethodDescriptor y_G_setBefore.desc).map (fun d => d.parameters.length) = some 3 := by decide +kernel
theorem g_G_47 {c0 : Cond} : GoodIn (c0 :: wA) (wsV R_G 47 R_G y_G_setBefore (.code y_G_setBefore b_G_setBefore 4 none :: wA)) := gw_V (wA_t 292 (by decide +kernel) rfl) (wA_t 293 (by decide +kernel) rfl) (wA_t 294 (by decide +kernel) rfl) (wA_t 6 (by decide +kernel) rfl) (wA_t 295 (by decide +kernel) rfl)
theorem hd_G_setAfter : y_G_setAfter.cls = R_G ∧ y_G_setAfter.cls ≠ "java/lang/invoke/MethodHandle" ∧ y_G_setAfter.cls ≠ "java/lang/invoke/VarHandle" ∧ (parseMethodDescriptor y_G_setAfter.desc).map (fun d => d.parameters.length) = some 3 := by decide +kernel
theorem g_G_51 {c0 : Cond} : GoodIn (c0 :: wA) (wsV R_G 51 R_G y_G_setAfter (.code y_G_setAfter b_G_setAfter 4 none :: wA)) := gw_V (wA_t 296 (by decide +kernel) rfl) (wA_t 297 (by decide +kernel) rfl) (wA_t 298 (by decide +kernel) rfl) (wA_t 6 (by decide +kernel) rfl) (wA_t 299 (by decide +kernel) rfl)
theorem hd_G_rowOf : y_G_rowOf.cls = R_G ∧ y_G_rowOf.cls ≠ "java/lang/invoke/MethodHandle" ∧ y_G_rowOf.cls ≠ "java/lang/invoke/VarHandle" ∧ (parseMethodDescriptor y_G_rowOf.desc).map (fun d => d.parameters.length) = some 1 := by decide +kernel
theorem g_G_57 {c0 : Cond} : GoodIn (c0 :: wA) (wsV R_G 57 R_G y_G_rowOf (.code y_G_rowOf b_G_rowOf 2 (some .int) :: wA)) := gw_V (wA_t 518 (by decide +kernel) rfl) (wA_t 519 (by decide +kernel) rfl) (wA_t 520 (by decide +kernel) rfl) (wA_t 6 (by decide +kernel) rfl) (wA_t 521 (by decide +kernel) rfl)
theorem hd_G_last : y_G_last.cls = R_G ∧ y_G_last.cls ≠ "java/lang/invoke/MethodHandle" ∧ y_G_last.cls ≠ "java/lang/invoke/VarHandle" ∧ (parseMethodDescriptor y_G_last.desc).map (fun d => d.parameters.length) = some 0 := by decide +kernel
theorem g_G_61 {c0 : Cond} : GoodIn (c0 :: wA) (wsV R_G 61 R_G y_G_last (.code y_G_last b_G_last 1 (some .int) :: wA)) := gw_V (wA_t 509 (by decide +kernel) rfl) (wA_t 281 (by decide +kernel) rfl) (wA_t 282 (by decide +kernel) rfl) (wA_t 6 (by decide +kernel) rfl) (wA_t 283 (by decide +kernel) rfl)
theorem hd_K_heldBy : y_K_heldBy.cls = R_K ∧ y_K_heldBy.cls ≠ "java/lang/invoke/MethodHandle" ∧ y_K_heldBy.cls ≠ "java/lang/invoke/VarHandle" ∧ (parseMethodDescriptor y_K_heldBy.desc).map (fun d => d.parameters.length) = some 2 := by decide +kernel
theorem g_K_20 {c0 : Cond} : GoodIn (c0 :: wA) (wsV R_K 20 R_K y_K_heldBy (.code y_K_heldBy b_K_heldBy 3 (some .int) :: wA)) := gw_V (wA_t 368 (by decide +kernel) rfl) (wA_t 356 (by decide +kernel) rfl) (wA_t 357 (by decide +kernel) rfl) (wA_t 3 (by decide +kernel) rfl) (wA_t 358 (by decide +kernel) rfl)
theorem hd_K_grant : y_K_grant.cls = R_K ∧ y_K_grant.cls ≠ "java/lang/invoke/MethodHandle" ∧ y_K_grant.cls ≠ "java/lang/invoke/VarHandle" ∧ (parseMethodDescriptor y_K_grant.desc).map (fun d => d.parameters.length) = some 3 := by decide +kernel
theorem g_K_24 {c0 : Cond} : GoodIn (c0 :: wA) (wsV R_K 24 R_K y_K_grant (.code y_K_grant b_K_grant 4 none :: wA)) := gw_V (wA_t 480 (by decide +kernel) rfl) (wA_t 365 (by decide +kernel) rfl) (wA_t 366 (by decide +kernel) rfl) (wA_t 3 (by decide +kernel) rfl) (wA_t 367 (by decide +kernel) rfl)
theorem hd_T_isActive : y_T_isActive.cls = R_T ∧ y_T_isActive.cls ≠ "java/lang/invoke/MethodHandle" ∧ y_T_isActive.cls ≠ "java/lang/invoke/VarHandle" ∧ (parseMethodDescriptor y_T_isActive.desc).map (fun d => d.parameters.length) = some 1 := by decide +kernel
theorem g_N_62 {c0 : Cond} : GoodIn (c0 :: wA) (wsV R_N 62 R_T y_T_isActive (.code y_T_isActive b_T_isActive 2 (some .boolean) :: wA)) := gw_V (wA_t 248 (by decide +kernel) rfl) (wA_t 249 (by decide +kernel) rfl) (wA_t 250 (by decide +kernel) rfl) (wA_t 2 (by decide +kernel) rfl) (wA_t 251 (by decide +kernel) rfl)
theorem hd_N_hasRoomForOne : y_N_hasRoomForOne.cls = R_N ∧ y_N_hasRoomForOne.cls ≠ "java/lang/invoke/MethodHandle" ∧ y_N_hasRoomForOne.cls ≠ "java/lang/invoke/VarHandle" ∧ (parseMethodDescriptor y_N_hasRoomForOne.desc).map (fun d => d.parameters.length) = some 0 := by decide +kernel
theorem g_N_74 {c0 : Cond} : GoodIn (c0 :: wA) (wsV R_N 74 R_N y_N_hasRoomForOne (.code y_N_hasRoomForOne b_N_hasRoomForOne 2 (some .boolean) :: wA)) := gw_V (wA_t 256 (by decide +kernel) rfl) (wA_t 258 (by decide +kernel) rfl) (wA_p (y := y_N_hasRoomForOne) (n := 7) (by decide +kernel)) (wA_t 1 (by decide +kernel) rfl) (wA_t 259 (by decide +kernel) rfl)
theorem g_N_78 {c0 : Cond} : GoodIn (c0 :: wA) (wsV R_N 78 R_G y_G_last (.code y_G_last b_G_last 1 (some .int) :: wA)) := gw_V (wA_t 280 (by decide +kernel) rfl) (wA_t 281 (by decide +kernel) rfl) (wA_t 282 (by decide +kernel) rfl) (wA_t 6 (by decide +kernel) rfl) (wA_t 283 (by decide +kernel) rfl)
theorem hd_T_add : y_T_add.cls = R_T ∧ y_T_add.cls ≠ "java/lang/invoke/MethodHandle" ∧ y_T_add.cls ≠ "java/lang/invoke/VarHandle" ∧ (parseMethodDescriptor y_T_add.desc).map (fun d => d.parameters.length) = some 2 := by decide +kernel
theorem g_N_82 {c0 : Cond} : GoodIn (c0 :: wA) (wsV R_N 82 R_T y_T_add (.code y_T_add b_T_add 5 (some .int) :: wA)) := gw_V (wA_t 284 (by decide +kernel) rfl) (wA_t 285 (by decide +kernel) rfl) (wA_t 286 (by decide +kernel) rfl) (wA_t 2 (by decide +kernel) rfl) (wA_t 287 (by decide +kernel) rfl)
theorem hd_G_append : y_G_append.cls = R_G ∧ y_G_append.cls ≠ "java/lang/invoke/MethodHandle" ∧ y_G_append.cls ≠ "java/lang/invoke/VarHandle" ∧ (parseMethodDescriptor y_G_append.desc).map (fun d => d.parameters.length) = some 3 := by decide +kernel
theorem g_N_85 {c0 : Cond} : GoodIn (c0 :: wA) (wsV R_N 85 R_G y_G_append (.code y_G_append b_G_append 5 (some .int) :: wA)) := gw_V (wA_t 288 (by decide +kernel) rfl) (wA_t 289 (by decide +kernel) rfl) (wA_t 290 (by decide +kernel) rfl) (wA_t 6 (by decide +kernel) rfl) (wA_t 291 (by decide +kernel) rfl)
theorem hd_N_prepare : y_N_prepare.cls = R_N ∧ y_N_prepare.cls ≠ "java/lang/invoke/MethodHandle" ∧ y_N_prepare.cls ≠ "java/lang/invoke/VarHandle" ∧ (parseMethodDescriptor y_N_prepare.desc).map (fun d => d.parameters.length) = some 5 := by decide +kernel
theorem g_N_89 {c0 : Cond} : GoodIn (c0 :: wA) (wsV R_N 89 R_N y_N_prepare (.code y_N_prepare b_N_prepare 7 (some .int) :: wA)) := gw_V (wA_t 304 (by decide +kernel) rfl) (wA_t 306 (by decide +kernel) rfl) (wA_p (y := y_N_prepare) (n := 7) (by decide +kernel)) (wA_t 1 (by decide +kernel) rfl) (wA_t 307 (by decide +kernel) rfl)
theorem hd_N_request : y_N_request.cls = R_N ∧ y_N_request.cls ≠ "java/lang/invoke/MethodHandle" ∧ y_N_request.cls ≠ "java/lang/invoke/VarHandle" ∧ (parseMethodDescriptor y_N_request.desc).map (fun d => d.parameters.length) = some 1 := by decide +kernel
theorem g_N_93 {c0 : Cond} : GoodIn (c0 :: wA) (wsV R_N 93 R_N y_N_request (.code y_N_request b_N_request 4 (some .int) :: wA)) := gw_V (wA_t 327 (by decide +kernel) rfl) (wA_t 329 (by decide +kernel) rfl) (wA_p (y := y_N_request) (n := 7) (by decide +kernel)) (wA_t 1 (by decide +kernel) rfl) (wA_t 330 (by decide +kernel) rfl)
theorem hd_T_isWaiting : y_T_isWaiting.cls = R_T ∧ y_T_isWaiting.cls ≠ "java/lang/invoke/MethodHandle" ∧ y_T_isWaiting.cls ≠ "java/lang/invoke/VarHandle" ∧ (parseMethodDescriptor y_T_isWaiting.desc).map (fun d => d.parameters.length) = some 1 := by decide +kernel
theorem g_N_97 {c0 : Cond} : GoodIn (c0 :: wA) (wsV R_N 97 R_T y_T_isWaiting (.code y_T_isWaiting b_T_isWaiting 2 (some .boolean) :: wA)) := gw_V (wA_t 412 (by decide +kernel) rfl) (wA_t 413 (by decide +kernel) rfl) (wA_t 414 (by decide +kernel) rfl) (wA_t 2 (by decide +kernel) rfl) (wA_t 415 (by decide +kernel) rfl)
theorem hd_N_refusalOf : y_N_refusalOf.cls = R_N ∧ y_N_refusalOf.cls ≠ "java/lang/invoke/MethodHandle" ∧ y_N_refusalOf.cls ≠ "java/lang/invoke/VarHandle" ∧ (parseMethodDescriptor y_N_refusalOf.desc).map (fun d => d.parameters.length) = some 1 := by decide +kernel
theorem g_N_103 {c0 : Cond} : GoodIn (c0 :: wA) (wsV R_N 103 R_N y_N_refusalOf (.code y_N_refusalOf b_N_refusalOf 2 (some .int) :: wA)) := gw_V (wA_t 311 (by decide +kernel) rfl) (wA_t 313 (by decide +kernel) rfl) (wA_p (y := y_N_refusalOf) (n := 7) (by decide +kernel)) (wA_t 1 (by decide +kernel) rfl) (wA_t 314 (by decide +kernel) rfl)
theorem hd_K_passOn : y_K_passOn.cls = R_K ∧ y_K_passOn.cls ≠ "java/lang/invoke/MethodHandle" ∧ y_K_passOn.cls ≠ "java/lang/invoke/VarHandle" ∧ (parseMethodDescriptor y_K_passOn.desc).map (fun d => d.parameters.length) = some 2 := by decide +kernel
theorem g_N_115 {c0 : Cond} : GoodIn (c0 :: wA) (wsV R_N 115 R_K y_K_passOn (.code y_K_passOn b_K_passOn 4 none :: wA)) := gw_V (wA_t 476 (by decide +kernel) rfl) (wA_t 477 (by decide +kernel) rfl) (wA_t 478 (by decide +kernel) rfl) (wA_t 3 (by decide +kernel) rfl) (wA_t 479 (by decide +kernel) rfl)
theorem hd_K_release : y_K_release.cls = R_K ∧ y_K_release.cls ≠ "java/lang/invoke/MethodHandle" ∧ y_K_release.cls ≠ "java/lang/invoke/VarHandle" ∧ (parseMethodDescriptor y_K_release.desc).map (fun d => d.parameters.length) = some 1 := by decide +kernel
theorem g_N_119 {c0 : Cond} : GoodIn (c0 :: wA) (wsV R_N 119 R_K y_K_release (.code y_K_release b_K_release 3 none :: wA)) := gw_V (wA_t 448 (by decide +kernel) rfl) (wA_t 449 (by decide +kernel) rfl) (wA_t 450 (by decide +kernel) rfl) (wA_t 3 (by decide +kernel) rfl) (wA_t 451 (by decide +kernel) rfl)
theorem hd_T_isLive : y_T_isLive.cls = R_T ∧ y_T_isLive.cls ≠ "java/lang/invoke/MethodHandle" ∧ y_T_isLive.cls ≠ "java/lang/invoke/VarHandle" ∧ (parseMethodDescriptor y_T_isLive.desc).map (fun d => d.parameters.length) = some 1 := by decide +kernel
theorem g_N_122 {c0 : Cond} : GoodIn (c0 :: wA) (wsV R_N 122 R_T y_T_isLive (.code y_T_isLive b_T_isLive 2 (some .boolean) :: wA)) := gw_V (wA_t 406 (by decide +kernel) rfl) (wA_t 277 (by decide +kernel) rfl) (wA_t 278 (by decide +kernel) rfl) (wA_t 2 (by decide +kernel) rfl) (wA_t 279 (by decide +kernel) rfl)
theorem hd_N_abortWithDescendants : y_N_abortWithDescendants.cls = R_N ∧ y_N_abortWithDescendants.cls ≠ "java/lang/invoke/MethodHandle" ∧ y_N_abortWithDescendants.cls ≠ "java/lang/invoke/VarHandle" ∧ (parseMethodDescriptor y_N_abortWithDescendants.desc).map (fun d => d.parameters.length) = some 1 := by decide +kernel
theorem g_N_125 {c0 : Cond} : GoodIn (c0 :: wA) (wsV R_N 125 R_N y_N_abortWithDescendants (.code y_N_abortWithDescendants b_N_abortWithDescendants 4 (some .int) :: wA)) := gw_V (wA_t 432 (by decide +kernel) rfl) (wA_t 434 (by decide +kernel) rfl) (wA_p (y := y_N_abortWithDescendants) (n := 7) (by decide +kernel)) (wA_t 1 (by decide +kernel) rfl) (wA_t 435 (by decide +kernel) rfl)
theorem hd_T_isBusy : y_T_isBusy.cls = R_T ∧ y_T_isBusy.cls ≠ "java/lang/invoke/MethodHandle" ∧ y_T_isBusy.cls ≠ "java/lang/invoke/VarHandle" ∧ (parseMethodDescriptor y_T_isBusy.desc).map (fun d => d.parameters.length) = some 1 := by decide +kernel
theorem g_N_131 {c0 : Cond} : GoodIn (c0 :: wA) (wsV R_N 131 R_T y_T_isBusy (.code y_T_isBusy b_T_isBusy 2 (some .boolean) :: wA)) := gw_V (wA_t 315 (by decide +kernel) rfl) (wA_t 316 (by decide +kernel) rfl) (wA_t 317 (by decide +kernel) rfl) (wA_t 2 (by decide +kernel) rfl) (wA_t 318 (by decide +kernel) rfl)
theorem hd_N_undoOpenUpdates : y_N_undoOpenUpdates.cls = R_N ∧ y_N_undoOpenUpdates.cls ≠ "java/lang/invoke/MethodHandle" ∧ y_N_undoOpenUpdates.cls ≠ "java/lang/invoke/VarHandle" ∧ (parseMethodDescriptor y_N_undoOpenUpdates.desc).map (fun d => d.parameters.length) = some 2 := by decide +kernel
theorem g_N_134 {c0 : Cond} : GoodIn (c0 :: wA) (wsV R_N 134 R_N y_N_undoOpenUpdates (.code y_N_undoOpenUpdates b_N_undoOpenUpdates 5 (some .int) :: wA)) := gw_V (wA_t 436 (by decide +kernel) rfl) (wA_t 438 (by decide +kernel) rfl) (wA_p (y := y_N_undoOpenUpdates) (n := 7) (by decide +kernel)) (wA_t 1 (by decide +kernel) rfl) (wA_t 439 (by decide +kernel) rfl)
theorem hd_N_isPage : y_N_isPage.cls = R_N ∧ y_N_isPage.cls ≠ "java/lang/invoke/MethodHandle" ∧ y_N_isPage.cls ≠ "java/lang/invoke/VarHandle" ∧ (parseMethodDescriptor y_N_isPage.desc).map (fun d => d.parameters.length) = some 1 := by decide +kernel
theorem g_N_137 {c0 : Cond} : GoodIn (c0 :: wA) (wsS R_N 137 y_N_isPage (.code y_N_isPage b_N_isPage 1 (some .boolean) :: wA)) := gw_S (wA_t 497 (by decide +kernel) rfl) (wA_t 498 (by decide +kernel) rfl) (wA_t 1 (by decide +kernel) rfl) (wA_t 499 (by decide +kernel) rfl)
theorem g_N_144 {c0 : Cond} : GoodIn (c0 :: wA) (wsV R_N 144 R_A y_A_putOnDisk (.code y_A_putOnDisk b_A_putOnDisk 5 none :: wA)) := gw_V (wA_t 500 (by decide +kernel) rfl) (wA_t 378 (by decide +kernel) rfl) (wA_t 379 (by decide +kernel) rfl) (wA_t 7 (by decide +kernel) rfl) (wA_t 380 (by decide +kernel) rfl)
theorem hd_T_liveCount : y_T_liveCount.cls = R_T ∧ y_T_liveCount.cls ≠ "java/lang/invoke/MethodHandle" ∧ y_T_liveCount.cls ≠ "java/lang/invoke/VarHandle" ∧ (parseMethodDescriptor y_T_liveCount.desc).map (fun d => d.parameters.length) = some 0 := by decide +kernel
theorem g_N_148 {c0 : Cond} : GoodIn (c0 :: wA) (wsV R_N 148 R_T y_T_liveCount (.code y_T_liveCount b_T_liveCount 3 (some .int) :: wA)) := gw_V (wA_t 272 (by decide +kernel) rfl) (wA_t 273 (by decide +kernel) rfl) (wA_t 274 (by decide +kernel) rfl) (wA_t 2 (by decide +kernel) rfl) (wA_t 275 (by decide +kernel) rfl)
theorem hd_G_empty : y_G_empty.cls = R_G ∧ y_G_empty.cls ≠ "java/lang/invoke/MethodHandle" ∧ y_G_empty.cls ≠ "java/lang/invoke/VarHandle" ∧ (parseMethodDescriptor y_G_empty.desc).map (fun d => d.parameters.length) = some 0 := by decide +kernel
theorem g_N_151 {c0 : Cond} : GoodIn (c0 :: wA) (wsV R_N 151 R_G y_G_empty (.code y_G_empty b_G_empty 1 none :: wA)) := gw_V (wA_t 505 (by decide +kernel) rfl) (wA_t 506 (by decide +kernel) rfl) (wA_t 507 (by decide +kernel) rfl) (wA_t 6 (by decide +kernel) rfl) (wA_t 508 (by decide +kernel) rfl)
theorem hd_G_loseUnflushed : y_G_loseUnflushed.cls = R_G ∧ y_G_loseUnflushed.cls ≠ "java/lang/invoke/MethodHandle" ∧ y_G_loseUnflushed.cls ≠ "java/lang/invoke/VarHandle" ∧ (parseMethodDescriptor y_G_loseUnflushed.desc).map (fun d => d.parameters.length) = some 0 := by decide +kernel
theorem g_N_154 {c0 : Cond} : GoodIn (c0 :: wA) (wsV R_N 154 R_G y_G_loseUnflushed (.code y_G_loseUnflushed b_G_loseUnflushed 3 none :: wA)) := gw_V (wA_t 514 (by decide +kernel) rfl) (wA_t 515 (by decide +kernel) rfl) (wA_t 516 (by decide +kernel) rfl) (wA_t 6 (by decide +kernel) rfl) (wA_t 517 (by decide +kernel) rfl)
theorem hd_A_loseFrames : y_A_loseFrames.cls = R_A ∧ y_A_loseFrames.cls ≠ "java/lang/invoke/MethodHandle" ∧ y_A_loseFrames.cls ≠ "java/lang/invoke/VarHandle" ∧ (parseMethodDescriptor y_A_loseFrames.desc).map (fun d => d.parameters.length) = some 0 := by decide +kernel
theorem g_N_157 {c0 : Cond} : GoodIn (c0 :: wA) (wsV R_N 157 R_A y_A_loseFrames (.code y_A_loseFrames b_A_loseFrames 2 none :: wA)) := gw_V (wA_t 522 (by decide +kernel) rfl) (wA_t 523 (by decide +kernel) rfl) (wA_t 524 (by decide +kernel) rfl) (wA_t 7 (by decide +kernel) rfl) (wA_t 525 (by decide +kernel) rfl)
theorem hd_K_releaseAll : y_K_releaseAll.cls = R_K ∧ y_K_releaseAll.cls ≠ "java/lang/invoke/MethodHandle" ∧ y_K_releaseAll.cls ≠ "java/lang/invoke/VarHandle" ∧ (parseMethodDescriptor y_K_releaseAll.desc).map (fun d => d.parameters.length) = some 0 := by decide +kernel
theorem g_N_160 {c0 : Cond} : GoodIn (c0 :: wA) (wsV R_N 160 R_K y_K_releaseAll (.code y_K_releaseAll b_K_releaseAll 2 none :: wA)) := gw_V (wA_t 526 (by decide +kernel) rfl) (wA_t 527 (by decide +kernel) rfl) (wA_t 528 (by decide +kernel) rfl) (wA_t 3 (by decide +kernel) rfl) (wA_t 529 (by decide +kernel) rfl)
theorem hd_T_abortUncommitted : y_T_abortUncommitted.cls = R_T ∧ y_T_abortUncommitted.cls ≠ "java/lang/invoke/MethodHandle" ∧ y_T_abortUncommitted.cls ≠ "java/lang/invoke/VarHandle" ∧ (parseMethodDescriptor y_T_abortUncommitted.desc).map (fun d => d.parameters.length) = some 0 := by decide +kernel
theorem g_N_163 {c0 : Cond} : GoodIn (c0 :: wA) (wsV R_N 163 R_T y_T_abortUncommitted (.code y_T_abortUncommitted b_T_abortUncommitted 2 none :: wA)) := gw_V (wA_t 530 (by decide +kernel) rfl) (wA_t 531 (by decide +kernel) rfl) (wA_t 532 (by decide +kernel) rfl) (wA_t 2 (by decide +kernel) rfl) (wA_t 533 (by decide +kernel) rfl)
theorem hd_N_redoLog : y_N_redoLog.cls = R_N ∧ y_N_redoLog.cls ≠ "java/lang/invoke/MethodHandle" ∧ y_N_redoLog.cls ≠ "java/lang/invoke/VarHandle" ∧ (parseMethodDescriptor y_N_redoLog.desc).map (fun d => d.parameters.length) = some 0 := by decide +kernel
theorem g_N_166 {c0 : Cond} : GoodIn (c0 :: wA) (wsV R_N 166 R_N y_N_redoLog (.code y_N_redoLog b_N_redoLog 2 none :: wA)) := gw_V (wA_t 534 (by decide +kernel) rfl) (wA_t 536 (by decide +kernel) rfl) (wA_p (y := y_N_redoLog) (n := 7) (by decide +kernel)) (wA_t 1 (by decide +kernel) rfl) (wA_t 537 (by decide +kernel) rfl)
theorem hd_N_undoUncommitted : y_N_undoUncommitted.cls = R_N ∧ y_N_undoUncommitted.cls ≠ "java/lang/invoke/MethodHandle" ∧ y_N_undoUncommitted.cls ≠ "java/lang/invoke/VarHandle" ∧ (parseMethodDescriptor y_N_undoUncommitted.desc).map (fun d => d.parameters.length) = some 0 := by decide +kernel
theorem g_N_169 {c0 : Cond} : GoodIn (c0 :: wA) (wsV R_N 169 R_N y_N_undoUncommitted (.code y_N_undoUncommitted b_N_undoUncommitted 4 (some .int) :: wA)) := gw_V (wA_t 542 (by decide +kernel) rfl) (wA_t 544 (by decide +kernel) rfl) (wA_p (y := y_N_undoUncommitted) (n := 7) (by decide +kernel)) (wA_t 1 (by decide +kernel) rfl) (wA_t 545 (by decide +kernel) rfl)
theorem hd_T_exists : y_T_exists.cls = R_T ∧ y_T_exists.cls ≠ "java/lang/invoke/MethodHandle" ∧ y_T_exists.cls ≠ "java/lang/invoke/VarHandle" ∧ (parseMethodDescriptor y_T_exists.desc).map (fun d => d.parameters.length) = some 1 := by decide +kernel
theorem g_N_172 {c0 : Cond} : GoodIn (c0 :: wA) (wsV R_N 172 R_T y_T_exists (.code y_T_exists b_T_exists 2 (some .boolean) :: wA)) := gw_V (wA_t 550 (by decide +kernel) rfl) (wA_t 253 (by decide +kernel) rfl) (wA_t 254 (by decide +kernel) rfl) (wA_t 2 (by decide +kernel) rfl) (wA_t 255 (by decide +kernel) rfl)
theorem g_N_175 {c0 : Cond} : GoodIn (c0 :: wA) (wsV R_N 175 R_K y_K_heldBy (.code y_K_heldBy b_K_heldBy 3 (some .int) :: wA)) := gw_V (wA_t 355 (by decide +kernel) rfl) (wA_t 356 (by decide +kernel) rfl) (wA_t 357 (by decide +kernel) rfl) (wA_t 3 (by decide +kernel) rfl) (wA_t 358 (by decide +kernel) rfl)
theorem hd_N_blockersOf : y_N_blockersOf.cls = R_N ∧ y_N_blockersOf.cls ≠ "java/lang/invoke/MethodHandle" ∧ y_N_blockersOf.cls ≠ "java/lang/invoke/VarHandle" ∧ (parseMethodDescriptor y_N_blockersOf.desc).map (fun d => d.parameters.length) = some 1 := by decide +kernel
theorem g_N_178 {c0 : Cond} : GoodIn (c0 :: wA) (wsV R_N 178 R_N y_N_blockersOf (.code y_N_blockersOf b_N_blockersOf 3 (some .long) :: wA)) := gw_V (wA_t 416 (by decide +kernel) rfl) (wA_t 418 (by decide +kernel) rfl) (wA_p (y := y_N_blockersOf) (n := 7) (by decide +kernel)) (wA_t 1 (by decide +kernel) rfl) (wA_t 419 (by decide +kernel) rfl)
theorem g_N_185 {c0 : Cond} : GoodIn (c0 :: wA) (wsV R_N 185 R_G y_G_rowOf (.code y_G_rowOf b_G_rowOf 2 (some .int) :: wA)) := gw_V (wA_t 567 (by decide +kernel) rfl) (wA_t 519 (by decide +kernel) rfl) (wA_t 520 (by decide +kernel) rfl) (wA_t 6 (by decide +kernel) rfl) (wA_t 521 (by decide +kernel) rfl)
theorem hd_N_asNumber : y_N_asNumber.cls = R_N ∧ y_N_asNumber.cls ≠ "java/lang/invoke/MethodHandle" ∧ y_N_asNumber.cls ≠ "java/lang/invoke/VarHandle" ∧ (parseMethodDescriptor y_N_asNumber.desc).map (fun d => d.parameters.length) = some 1 := by decide +kernel
theorem g_N_203 {c0 : Cond} : GoodIn (c0 :: wA) (wsS R_N 203 y_N_asNumber (.code y_N_asNumber b_N_asNumber 1 (some .int) :: wA)) := gw_S (wA_t 381 (by decide +kernel) rfl) (wA_t 382 (by decide +kernel) rfl) (wA_t 1 (by decide +kernel) rfl) (wA_t 383 (by decide +kernel) rfl)
theorem hd_N_openUpdateCount : y_N_openUpdateCount.cls = R_N ∧ y_N_openUpdateCount.cls ≠ "java/lang/invoke/MethodHandle" ∧ y_N_openUpdateCount.cls ≠ "java/lang/invoke/VarHandle" ∧ (parseMethodDescriptor y_N_openUpdateCount.desc).map (fun d => d.parameters.length) = some 0 := by decide +kernel
theorem g_N_216 {c0 : Cond} : GoodIn (c0 :: wA) (wsV R_N 216 R_N y_N_openUpdateCount (.code y_N_openUpdateCount b_N_openUpdateCount 3 (some .int) :: wA)) := gw_V (wA_t 260 (by decide +kernel) rfl) (wA_t 262 (by decide +kernel) rfl) (wA_p (y := y_N_openUpdateCount) (n := 7) (by decide +kernel)) (wA_t 1 (by decide +kernel) rfl) (wA_t 263 (by decide +kernel) rfl)
theorem hd_N_isKey : y_N_isKey.cls = R_N ∧ y_N_isKey.cls ≠ "java/lang/invoke/MethodHandle" ∧ y_N_isKey.cls ≠ "java/lang/invoke/VarHandle" ∧ (parseMethodDescriptor y_N_isKey.desc).map (fun d => d.parameters.length) = some 1 := by decide +kernel
theorem g_N_219 {c0 : Cond} : GoodIn (c0 :: wA) (wsS R_N 219 y_N_isKey (.code y_N_isKey b_N_isKey 1 (some .boolean) :: wA)) := gw_S (wA_t 308 (by decide +kernel) rfl) (wA_t 309 (by decide +kernel) rfl) (wA_t 1 (by decide +kernel) rfl) (wA_t 310 (by decide +kernel) rfl)
theorem hd_T_setRequest : y_T_setRequest.cls = R_T ∧ y_T_setRequest.cls ≠ "java/lang/invoke/MethodHandle" ∧ y_T_setRequest.cls ≠ "java/lang/invoke/VarHandle" ∧ (parseMethodDescriptor y_T_setRequest.desc).map (fun d => d.parameters.length) = some 5 := by decide +kernel
theorem g_N_243 {c0 : Cond} : GoodIn (c0 :: wA) (wsV R_N 243 R_T y_T_setRequest (.code y_T_setRequest b_T_setRequest 6 none :: wA)) := gw_V (wA_t 323 (by decide +kernel) rfl) (wA_t 324 (by decide +kernel) rfl) (wA_t 325 (by decide +kernel) rfl) (wA_t 2 (by decide +kernel) rfl) (wA_t 326 (by decide +kernel) rfl)
theorem hd_N_takeLocks : y_N_takeLocks.cls = R_N ∧ y_N_takeLocks.cls ≠ "java/lang/invoke/MethodHandle" ∧ y_N_takeLocks.cls ≠ "java/lang/invoke/VarHandle" ∧ (parseMethodDescriptor y_N_takeLocks.desc).map (fun d => d.parameters.length) = some 1 := by decide +kernel
theorem g_N_247 {c0 : Cond} : GoodIn (c0 :: wA) (wsV R_N 247 R_N y_N_takeLocks (.code y_N_takeLocks b_N_takeLocks 4 (some .boolean) :: wA)) := gw_V (wA_t 331 (by decide +kernel) rfl) (wA_t 333 (by decide +kernel) rfl) (wA_p (y := y_N_takeLocks) (n := 7) (by decide +kernel)) (wA_t 1 (by decide +kernel) rfl) (wA_t 334 (by decide +kernel) rfl)
theorem hd_N_carryOut : y_N_carryOut.cls = R_N ∧ y_N_carryOut.cls ≠ "java/lang/invoke/MethodHandle" ∧ y_N_carryOut.cls ≠ "java/lang/invoke/VarHandle" ∧ (parseMethodDescriptor y_N_carryOut.desc).map (fun d => d.parameters.length) = some 1 := by decide +kernel
theorem g_N_250 {c0 : Cond} : GoodIn (c0 :: wA) (wsV R_N 250 R_N y_N_carryOut (.code y_N_carryOut b_N_carryOut 3 (some .int) :: wA)) := gw_V (wA_t 369 (by decide +kernel) rfl) (wA_t 371 (by decide +kernel) rfl) (wA_p (y := y_N_carryOut) (n := 7) (by decide +kernel)) (wA_t 1 (by decide +kernel) rfl) (wA_t 372 (by decide +kernel) rfl)
theorem hd_N_victimOfCircle : y_N_victimOfCircle.cls = R_N ∧ y_N_victimOfCircle.cls ≠ "java/lang/invoke/MethodHandle" ∧ y_N_victimOfCircle.cls ≠ "java/lang/invoke/VarHandle" ∧ (parseMethodDescriptor y_N_victimOfCircle.desc).map (fun d => d.parameters.length) = some 1 := by decide +kernel
theorem g_N_253 {c0 : Cond} : GoodIn (c0 :: wA) (wsV R_N 253 R_N y_N_victimOfCircle (.code y_N_victimOfCircle b_N_victimOfCircle 3 (some .int) :: wA)) := gw_V (wA_t 402 (by decide +kernel) rfl) (wA_t 404 (by decide +kernel) rfl) (wA_p (y := y_N_victimOfCircle) (n := 7) (by decide +kernel)) (wA_t 1 (by decide +kernel) rfl) (wA_t 405 (by decide +kernel) rfl)
theorem hd_N_planLocks : y_N_planLocks.cls = R_N ∧ y_N_planLocks.cls ≠ "java/lang/invoke/MethodHandle" ∧ y_N_planLocks.cls ≠ "java/lang/invoke/VarHandle" ∧ (parseMethodDescriptor y_N_planLocks.desc).map (fun d => d.parameters.length) = some 1 := by decide +kernel
theorem g_N_256 {c0 : Cond} : GoodIn (c0 :: wA) (wsV R_N 256 R_N y_N_planLocks (.code y_N_planLocks b_N_planLocks 6 none :: wA)) := gw_V (wA_t 335 (by decide +kernel) rfl) (wA_t 337 (by decide +kernel) rfl) (wA_p (y := y_N_planLocks) (n := 7) (by decide +kernel)) (wA_t 1 (by decide +kernel) rfl) (wA_t 338 (by decide +kernel) rfl)
theorem hd_N_freeLocks : y_N_freeLocks.cls = R_N ∧ y_N_freeLocks.cls ≠ "java/lang/invoke/MethodHandle" ∧ y_N_freeLocks.cls ≠ "java/lang/invoke/VarHandle" ∧ (parseMethodDescriptor y_N_freeLocks.desc).map (fun d => d.parameters.length) = some 1 := by decide +kernel
theorem g_N_259 {c0 : Cond} : GoodIn (c0 :: wA) (wsV R_N 259 R_N y_N_freeLocks (.code y_N_freeLocks b_N_freeLocks 5 (some .int) :: wA)) := gw_V (wA_t 351 (by decide +kernel) rfl) (wA_t 353 (by decide +kernel) rfl) (wA_p (y := y_N_freeLocks) (n := 7) (by decide +kernel)) (wA_t 1 (by decide +kernel) rfl) (wA_t 354 (by decide +kernel) rfl)
theorem g_N_268 {c0 : Cond} : GoodIn (c0 :: wA) (wsV R_N 268 R_K y_K_grant (.code y_K_grant b_K_grant 4 none :: wA)) := gw_V (wA_t 364 (by decide +kernel) rfl) (wA_t 365 (by decide +kernel) rfl) (wA_t 366 (by decide +kernel) rfl) (wA_t 3 (by decide +kernel) rfl) (wA_t 367 (by decide +kernel) rfl)
theorem hd_K_blockers : y_K_blockers.cls = R_K ∧ y_K_blockers.cls ≠ "java/lang/invoke/MethodHandle" ∧ y_K_blockers.cls ≠ "java/lang/invoke/VarHandle" ∧ (parseMethodDescriptor y_K_blockers.desc).map (fun d => d.parameters.length) = some 3 := by decide +kernel
theorem g_N_277 {c0 : Cond} : GoodIn (c0 :: wA) (wsV R_N 277 R_K y_K_blockers (.code y_K_blockers b_K_blockers 7 (some .long) :: wA)) := gw_V (wA_t 359 (by decide +kernel) rfl) (wA_t 360 (by decide +kernel) rfl) (wA_t 361 (by decide +kernel) rfl) (wA_t 3 (by decide +kernel) rfl) (wA_t 362 (by decide +kernel) rfl)
theorem hd_P_start : y_P_start.cls = R_P ∧ y_P_start.cls ≠ "java/lang/invoke/MethodHandle" ∧ y_P_start.cls ≠ "java/lang/invoke/VarHandle" ∧ (parseMethodDescriptor y_P_start.desc).map (fun d => d.parameters.length) = some 1 := by decide +kernel
theorem g_N_288 {c0 : Cond} : GoodIn (c0 :: wA) (wsV R_N 288 R_P y_P_start (.code y_P_start b_P_start 2 none :: wA)) := gw_V (wA_t 339 (by decide +kernel) rfl) (wA_t 340 (by decide +kernel) rfl) (wA_t 341 (by decide +kernel) rfl) (wA_t 4 (by decide +kernel) rfl) (wA_t 342 (by decide +kernel) rfl)
theorem hd_A_nextItem : y_A_nextItem.cls = R_A ∧ y_A_nextItem.cls ≠ "java/lang/invoke/MethodHandle" ∧ y_A_nextItem.cls ≠ "java/lang/invoke/VarHandle" ∧ (parseMethodDescriptor y_A_nextItem.desc).map (fun d => d.parameters.length) = some 1 := by decide +kernel
theorem g_N_291 {c0 : Cond} : GoodIn (c0 :: wA) (wsV R_N 291 R_A y_A_nextItem (.code y_A_nextItem b_A_nextItem 3 (some .int) :: wA)) := gw_V (wA_t 343 (by decide +kernel) rfl) (wA_t 344 (by decide +kernel) rfl) (wA_t 345 (by decide +kernel) rfl) (wA_t 7 (by decide +kernel) rfl) (wA_t 346 (by decide +kernel) rfl)
theorem hd_P_add : y_P_add.cls = R_P ∧ y_P_add.cls ≠ "java/lang/invoke/MethodHandle" ∧ y_P_add.cls ≠ "java/lang/invoke/VarHandle" ∧ (parseMethodDescriptor y_P_add.desc).map (fun d => d.parameters.length) = some 1 := by decide +kernel
theorem g_N_294 {c0 : Cond} : GoodIn (c0 :: wA) (wsV R_N 294 R_P y_P_add (.code y_P_add b_P_add 2 none :: wA)) := gw_V (wA_t 347 (by decide +kernel) rfl) (wA_t 348 (by decide +kernel) rfl) (wA_t 349 (by decide +kernel) rfl) (wA_t 4 (by decide +kernel) rfl) (wA_t 350 (by decide +kernel) rfl)
theorem hd_A_touch : y_A_touch.cls = R_A ∧ y_A_touch.cls ≠ "java/lang/invoke/MethodHandle" ∧ y_A_touch.cls ≠ "java/lang/invoke/VarHandle" ∧ (parseMethodDescriptor y_A_touch.desc).map (fun d => d.parameters.length) = some 2 := by decide +kernel
theorem g_N_296 {c0 : Cond} : GoodIn (c0 :: wA) (wsV R_N 296 R_A y_A_touch (.code y_A_touch b_A_touch 5 none :: wA)) := gw_V (wA_t 373 (by decide +kernel) rfl) (wA_t 374 (by decide +kernel) rfl) (wA_t 375 (by decide +kernel) rfl) (wA_t 7 (by decide +kernel) rfl) (wA_t 376 (by decide +kernel) rfl)
theorem hd_N_update : y_N_update.cls = R_N ∧ y_N_update.cls ≠ "java/lang/invoke/MethodHandle" ∧ y_N_update.cls ≠ "java/lang/invoke/VarHandle" ∧ (parseMethodDescriptor y_N_update.desc).map (fun d => d.parameters.length) = some 4 := by decide +kernel
theorem g_N_300 {c0 : Cond} : GoodIn (c0 :: wA) (wsV R_N 300 R_N y_N_update (.code y_N_update b_N_update 6 none :: wA)) := gw_V (wA_t 384 (by decide +kernel) rfl) (wA_t 386 (by decide +kernel) rfl) (wA_p (y := y_N_update) (n := 7) (by decide +kernel)) (wA_t 1 (by decide +kernel) rfl) (wA_t 387 (by decide +kernel) rfl)
theorem hd_N_countAndSum : y_N_countAndSum.cls = R_N ∧ y_N_countAndSum.cls ≠ "java/lang/invoke/MethodHandle" ∧ y_N_countAndSum.cls ≠ "java/lang/invoke/VarHandle" ∧ (parseMethodDescriptor y_N_countAndSum.desc).map (fun d => d.parameters.length) = some 2 := by decide +kernel
theorem g_N_304 {c0 : Cond} : GoodIn (c0 :: wA) (wsV R_N 304 R_N y_N_countAndSum (.code y_N_countAndSum b_N_countAndSum 6 (some .int) :: wA)) := gw_V (wA_t 398 (by decide +kernel) rfl) (wA_t 400 (by decide +kernel) rfl) (wA_p (y := y_N_countAndSum) (n := 7) (by decide +kernel)) (wA_t 1 (by decide +kernel) rfl) (wA_t 401 (by decide +kernel) rfl)
theorem g_N_307 {c0 : Cond} : GoodIn (c0 :: wA) (wsV R_N 307 R_G y_G_setBefore (.code y_G_setBefore b_G_setBefore 4 none :: wA)) := gw_V (wA_t 388 (by decide +kernel) rfl) (wA_t 293 (by decide +kernel) rfl) (wA_t 294 (by decide +kernel) rfl) (wA_t 6 (by decide +kernel) rfl) (wA_t 295 (by decide +kernel) rfl)
theorem g_N_311 {c0 : Cond} : GoodIn (c0 :: wA) (wsV R_N 311 R_G y_G_setAfter (.code y_G_setAfter b_G_setAfter 4 none :: wA)) := gw_V (wA_t 389 (by decide +kernel) rfl) (wA_t 297 (by decide +kernel) rfl) (wA_t 298 (by decide +kernel) rfl) (wA_t 6 (by decide +kernel) rfl) (wA_t 299 (by decide +kernel) rfl)
theorem hd_G_lsnOf : y_G_lsnOf.cls = R_G ∧ y_G_lsnOf.cls ≠ "java/lang/invoke/MethodHandle" ∧ y_G_lsnOf.cls ≠ "java/lang/invoke/VarHandle" ∧ (parseMethodDescriptor y_G_lsnOf.desc).map (fun d => d.parameters.length) = some 1 := by decide +kernel
theorem g_N_314 {c0 : Cond} : GoodIn (c0 :: wA) (wsV R_N 314 R_G y_G_lsnOf (.code y_G_lsnOf b_G_lsnOf 2 (some .int) :: wA)) := gw_V (wA_t 390 (by decide +kernel) rfl) (wA_t 391 (by decide +kernel) rfl) (wA_t 392 (by decide +kernel) rfl) (wA_t 6 (by decide +kernel) rfl) (wA_t 393 (by decide +kernel) rfl)
theorem hd_A_change : y_A_change.cls = R_A ∧ y_A_change.cls ≠ "java/lang/invoke/MethodHandle" ∧ y_A_change.cls ≠ "java/lang/invoke/VarHandle" ∧ (parseMethodDescriptor y_A_change.desc).map (fun d => d.parameters.length) = some 4 := by decide +kernel
theorem g_N_317 {c0 : Cond} : GoodIn (c0 :: wA) (wsV R_N 317 R_A y_A_change (.code y_A_change b_A_change 6 none :: wA)) := gw_V (wA_t 394 (by decide +kernel) rfl) (wA_t 395 (by decide +kernel) rfl) (wA_t 396 (by decide +kernel) rfl) (wA_t 7 (by decide +kernel) rfl) (wA_t 397 (by decide +kernel) rfl)
theorem hd_T_isTopLive : y_T_isTopLive.cls = R_T ∧ y_T_isTopLive.cls ≠ "java/lang/invoke/MethodHandle" ∧ y_T_isTopLive.cls ≠ "java/lang/invoke/VarHandle" ∧ (parseMethodDescriptor y_T_isTopLive.desc).map (fun d => d.parameters.length) = some 1 := by decide +kernel
theorem g_N_327 {c0 : Cond} : GoodIn (c0 :: wA) (wsV R_N 327 R_T y_T_isTopLive (.code y_T_isTopLive b_T_isTopLive 3 (some .boolean) :: wA)) := gw_V (wA_t 268 (by decide +kernel) rfl) (wA_t 269 (by decide +kernel) rfl) (wA_t 270 (by decide +kernel) rfl) (wA_t 2 (by decide +kernel) rfl) (wA_t 271 (by decide +kernel) rfl)
theorem hd_N_isOpen : y_N_isOpen.cls = R_N ∧ y_N_isOpen.cls ≠ "java/lang/invoke/MethodHandle" ∧ y_N_isOpen.cls ≠ "java/lang/invoke/VarHandle" ∧ (parseMethodDescriptor y_N_isOpen.desc).map (fun d => d.parameters.length) = some 1 := by decide +kernel
theorem g_N_330 {c0 : Cond} : GoodIn (c0 :: wA) (wsV R_N 330 R_N y_N_isOpen (.code y_N_isOpen b_N_isOpen 2 (some .boolean) :: wA)) := gw_V (wA_t 264 (by decide +kernel) rfl) (wA_t 266 (by decide +kernel) rfl) (wA_p (y := y_N_isOpen) (n := 7) (by decide +kernel)) (wA_t 1 (by decide +kernel) rfl) (wA_t 267 (by decide +kernel) rfl)
theorem hd_T_isWithin : y_T_isWithin.cls = R_T ∧ y_T_isWithin.cls ≠ "java/lang/invoke/MethodHandle" ∧ y_T_isWithin.cls ≠ "java/lang/invoke/VarHandle" ∧ (parseMethodDescriptor y_T_isWithin.desc).map (fun d => d.parameters.length) = some 2 := by decide +kernel
theorem g_N_333 {c0 : Cond} : GoodIn (c0 :: wA) (wsV R_N 333 R_T y_T_isWithin (.code y_T_isWithin b_T_isWithin 3 (some .boolean) :: wA)) := gw_V (wA_t 440 (by decide +kernel) rfl) (wA_t 441 (by decide +kernel) rfl) (wA_t 442 (by decide +kernel) rfl) (wA_t 2 (by decide +kernel) rfl) (wA_t 443 (by decide +kernel) rfl)
theorem hd_N_undo : y_N_undo.cls = R_N ∧ y_N_undo.cls ≠ "java/lang/invoke/MethodHandle" ∧ y_N_undo.cls ≠ "java/lang/invoke/VarHandle" ∧ (parseMethodDescriptor y_N_undo.desc).map (fun d => d.parameters.length) = some 2 := by decide +kernel
theorem g_N_337 {c0 : Cond} : GoodIn (c0 :: wA) (wsV R_N 337 R_N y_N_undo (.code y_N_undo b_N_undo 7 none :: wA)) := gw_V (wA_t 444 (by decide +kernel) rfl) (wA_t 446 (by decide +kernel) rfl) (wA_p (y := y_N_undo) (n := 7) (by decide +kernel)) (wA_t 1 (by decide +kernel) rfl) (wA_t 447 (by decide +kernel) rfl)
theorem hd_N_leadsOf : y_N_leadsOf.cls = R_N ∧ y_N_leadsOf.cls ≠ "java/lang/invoke/MethodHandle" ∧ y_N_leadsOf.cls ≠ "java/lang/invoke/VarHandle" ∧ (parseMethodDescriptor y_N_leadsOf.desc).map (fun d => d.parameters.length) = some 1 := by decide +kernel
theorem g_N_343 {c0 : Cond} : GoodIn (c0 :: wA) (wsV R_N 343 R_N y_N_leadsOf (.code y_N_leadsOf b_N_leadsOf 4 (some .long) :: wA)) := gw_V (wA_t 407 (by decide +kernel) rfl) (wA_t 409 (by decide +kernel) rfl) (wA_p (y := y_N_leadsOf) (n := 7) (by decide +kernel)) (wA_t 1 (by decide +kernel) rfl) (wA_t 410 (by decide +kernel) rfl)
theorem hd_D_greatestInCircle : y_D_greatestInCircle.cls = R_D ∧ y_D_greatestInCircle.cls ≠ "java/lang/invoke/MethodHandle" ∧ y_D_greatestInCircle.cls ≠ "java/lang/invoke/VarHandle" ∧ (parseMethodDescriptor y_D_greatestInCircle.desc).map (fun d => d.parameters.length) = some 2 := by decide +kernel
theorem g_N_346 {c0 : Cond} : GoodIn (c0 :: wA) (wsV R_N 346 R_D y_D_greatestInCircle (.code y_D_greatestInCircle b_D_greatestInCircle 8 (some .int) :: wA)) := gw_V (wA_t 420 (by decide +kernel) rfl) (wA_t 421 (by decide +kernel) rfl) (wA_t 422 (by decide +kernel) rfl) (wA_t 5 (by decide +kernel) rfl) (wA_t 423 (by decide +kernel) rfl)
theorem hd_T_liveChildren : y_T_liveChildren.cls = R_T ∧ y_T_liveChildren.cls ≠ "java/lang/invoke/MethodHandle" ∧ y_T_liveChildren.cls ≠ "java/lang/invoke/VarHandle" ∧ (parseMethodDescriptor y_T_liveChildren.desc).map (fun d => d.parameters.length) = some 1 := by decide +kernel
theorem g_N_349 {c0 : Cond} : GoodIn (c0 :: wA) (wsV R_N 349 R_T y_T_liveChildren (.code y_T_liveChildren b_T_liveChildren 5 (some .long) :: wA)) := gw_V (wA_t 411 (by decide +kernel) rfl) (wA_t 320 (by decide +kernel) rfl) (wA_t 321 (by decide +kernel) rfl) (wA_t 2 (by decide +kernel) rfl) (wA_t 322 (by decide +kernel) rfl)
theorem hd_N_redo : y_N_redo.cls = R_N ∧ y_N_redo.cls ≠ "java/lang/invoke/MethodHandle" ∧ y_N_redo.cls ≠ "java/lang/invoke/VarHandle" ∧ (parseMethodDescriptor y_N_redo.desc).map (fun d => d.parameters.length) = some 1 := by decide +kernel
theorem g_N_352 {c0 : Cond} : GoodIn (c0 :: wA) (wsV R_N 352 R_N y_N_redo (.code y_N_redo b_N_redo 4 none :: wA)) := gw_V (wA_t 538 (by decide +kernel) rfl) (wA_t 540 (by decide +kernel) rfl) (wA_p (y := y_N_redo) (n := 7) (by decide +kernel)) (wA_t 1 (by decide +kernel) rfl) (wA_t 541 (by decide +kernel) rfl)
theorem g_T_47 {c0 : Cond} : GoodIn (c0 :: wA) (wsV R_T 47 R_T y_T_exists (.code y_T_exists b_T_exists 2 (some .boolean) :: wA)) := gw_V (wA_t 252 (by decide +kernel) rfl) (wA_t 253 (by decide +kernel) rfl) (wA_t 254 (by decide +kernel) rfl) (wA_t 2 (by decide +kernel) rfl) (wA_t 255 (by decide +kernel) rfl)
theorem g_T_51 {c0 : Cond} : GoodIn (c0 :: wA) (wsV R_T 51 R_T y_T_liveChildren (.code y_T_liveChildren b_T_liveChildren 5 (some .long) :: wA)) := gw_V (wA_t 319 (by decide +kernel) rfl) (wA_t 320 (by decide +kernel) rfl) (wA_t 321 (by decide +kernel) rfl) (wA_t 2 (by decide +kernel) rfl) (wA_t 322 (by decide +kernel) rfl)
theorem g_T_55 {c0 : Cond} : GoodIn (c0 :: wA) (wsV R_T 55 R_T y_T_isLive (.code y_T_isLive b_T_isLive 2 (some .boolean) :: wA)) := gw_V (wA_t 276 (by decide +kernel) rfl) (wA_t 277 (by decide +kernel) rfl) (wA_t 278 (by decide +kernel) rfl) (wA_t 2 (by decide +kernel) rfl) (wA_t 279 (by decide +kernel) rfl)
abbrev ws_N_init : List Cond := .code y_N_init b_N_init 2 none :: wA
abbrev rm_N_init : Room := { frames := 2, cells := 0, slots := 0, locals := 42 }
abbrev ws_N_begin : List Cond := .code y_N_begin b_N_begin 4 (some .int) :: wA
abbrev rm_N_begin : Room := { frames := 4, cells := 0, slots := 0, locals := 86 }
abbrev ws_N_get : List Cond := .code y_N_get b_N_get 4 (some .int) :: wA
abbrev rm_N_get : Room := { frames := 6, cells := 0, slots := 0, locals := 144 }
abbrev ws_N_put : List Cond := .code y_N_put b_N_put 5 (some .int) :: wA
abbrev rm_N_put : Room := { frames := 6, cells := 0, slots := 0, locals := 144 }
abbrev ws_N_delete : List Cond := .code y_N_delete b_N_delete 4 (some .int) :: wA
abbrev rm_N_delete : Room := { frames := 6, cells := 0, slots := 0, locals := 144 }
abbrev ws_N_scan : List Cond := .code y_N_scan b_N_scan 5 (some .int) :: wA
abbrev rm_N_scan : Room := { frames := 6, cells := 0, slots := 0, locals := 144 }
abbrev ws_N_resume : List Cond := .code y_N_resume b_N_resume 2 (some .int) :: wA
abbrev rm_N_resume : Room := { frames := 6, cells := 0, slots := 0, locals := 144 }
abbrev ws_N_value : List Cond := .code y_N_value b_N_value 1 (some .int) :: wA
abbrev rm_N_value : Room := { frames := 0, cells := 0, slots := 0, locals := 0 }
abbrev ws_N_commit : List Cond := .code y_N_commit b_N_commit 4 (some .int) :: wA
abbrev rm_N_commit : Room := { frames := 5, cells := 0, slots := 0, locals := 108 }
abbrev ws_N_abort : List Cond := .code y_N_abort b_N_abort 2 (some .int) :: wA
abbrev rm_N_abort : Room := { frames := 5, cells := 0, slots := 0, locals := 121 }
abbrev ws_N_save : List Cond := .code y_N_save b_N_save 3 (some .int) :: wA
abbrev rm_N_save : Room := { frames := 5, cells := 0, slots := 0, locals := 108 }
abbrev ws_N_rollback : List Cond := .code y_N_rollback b_N_rollback 3 (some .int) :: wA
abbrev rm_N_rollback : Room := { frames := 4, cells := 0, slots := 0, locals := 98 }
abbrev ws_N_write : List Cond := .code y_N_write b_N_write 2 (some .boolean) :: wA
abbrev rm_N_write : Room := { frames := 1, cells := 0, slots := 0, locals := 24 }
abbrev ws_N_archive : List Cond := .code y_N_archive b_N_archive 3 (some .int) :: wA
abbrev rm_N_archive : Room := { frames := 3, cells := 0, slots := 0, locals := 64 }
abbrev ws_N_crash : List Cond := .code y_N_crash b_N_crash 3 (some .int) :: wA
abbrev rm_N_crash : Room := { frames := 4, cells := 0, slots := 0, locals := 97 }
abbrev ws_N_state : List Cond := .code y_N_state b_N_state 2 (some .int) :: wA
abbrev rm_N_state : Room := { frames := 1, cells := 0, slots := 0, locals := 21 }
abbrev ws_N_parent : List Cond := .code y_N_parent b_N_parent 2 (some .int) :: wA
abbrev rm_N_parent : Room := { frames := 1, cells := 0, slots := 0, locals := 21 }
abbrev ws_N_lock : List Cond := .code y_N_lock b_N_lock 3 (some .int) :: wA
abbrev rm_N_lock : Room := { frames := 1, cells := 0, slots := 0, locals := 22 }
abbrev ws_N_waits : List Cond := .code y_N_waits b_N_waits 3 (some .boolean) :: wA
abbrev rm_N_waits : Room := { frames := 3, cells := 0, slots := 0, locals := 72 }
abbrev ws_N_entry : List Cond := .code y_N_entry b_N_entry 4 (some .int) :: wA
abbrev rm_N_entry : Room := { frames := 1, cells := 0, slots := 0, locals := 21 }
abbrev ws_N_log : List Cond := .code y_N_log b_N_log 2 (some .int) :: wA
abbrev rm_N_log : Room := { frames := 3, cells := 0, slots := 0, locals := 65 }
abbrev ws_N_key : List Cond := .code y_N_key b_N_key 3 (some .int) :: wA
abbrev rm_N_key : Room := { frames := 1, cells := 0, slots := 0, locals := 20 }
abbrev ws_N_frame : List Cond := .code y_N_frame b_N_frame 3 (some .int) :: wA
abbrev rm_N_frame : Room := { frames := 1, cells := 0, slots := 0, locals := 20 }
abbrev ws_N_page : List Cond := .code y_N_page b_N_page 2 (some .int) :: wA
abbrev rm_N_page : Room := { frames := 1, cells := 0, slots := 0, locals := 20 }
abbrev ws_N_isKey : List Cond := .code y_N_isKey b_N_isKey 1 (some .boolean) :: wA
abbrev rm_N_isKey : Room := { frames := 0, cells := 0, slots := 0, locals := 0 }
abbrev ws_N_isPage : List Cond := .code y_N_isPage b_N_isPage 1 (some .boolean) :: wA
abbrev rm_N_isPage : Room := { frames := 0, cells := 0, slots := 0, locals := 0 }
abbrev ws_N_asNumber : List Cond := .code y_N_asNumber b_N_asNumber 1 (some .int) :: wA
abbrev rm_N_asNumber : Room := { frames := 0, cells := 0, slots := 0, locals := 0 }
abbrev ws_N_refusalOf : List Cond := .code y_N_refusalOf b_N_refusalOf 2 (some .int) :: wA
abbrev rm_N_refusalOf : Room := { frames := 4, cells := 0, slots := 0, locals := 87 }
abbrev ws_N_prepare : List Cond := .code y_N_prepare b_N_prepare 7 (some .int) :: wA
abbrev rm_N_prepare : Room := { frames := 5, cells := 0, slots := 0, locals := 108 }
abbrev ws_N_request : List Cond := .code y_N_request b_N_request 4 (some .int) :: wA
abbrev rm_N_request : Room := { frames := 5, cells := 0, slots := 0, locals := 121 }
abbrev ws_N_takeLocks : List Cond := .code y_N_takeLocks b_N_takeLocks 4 (some .boolean) :: wA
abbrev rm_N_takeLocks : Room := { frames := 2, cells := 0, slots := 0, locals := 50 }
abbrev ws_N_blockersOf : List Cond := .code y_N_blockersOf b_N_blockersOf 3 (some .long) :: wA
abbrev rm_N_blockersOf : Room := { frames := 2, cells := 0, slots := 0, locals := 50 }
abbrev ws_N_freeLocks : List Cond := .code y_N_freeLocks b_N_freeLocks 5 (some .int) :: wA
abbrev rm_N_freeLocks : Room := { frames := 1, cells := 0, slots := 0, locals := 26 }
abbrev ws_N_planLocks : List Cond := .code y_N_planLocks b_N_planLocks 6 none :: wA
abbrev rm_N_planLocks : Room := { frames := 1, cells := 0, slots := 0, locals := 22 }
abbrev ws_N_carryOut : List Cond := .code y_N_carryOut b_N_carryOut 3 (some .int) :: wA
abbrev rm_N_carryOut : Room := { frames := 4, cells := 0, slots := 0, locals := 86 }
abbrev ws_N_countAndSum : List Cond := .code y_N_countAndSum b_N_countAndSum 6 (some .int) :: wA
abbrev rm_N_countAndSum : Room := { frames := 2, cells := 0, slots := 0, locals := 48 }
abbrev ws_N_update : List Cond := .code y_N_update b_N_update 6 none :: wA
abbrev rm_N_update : Room := { frames := 2, cells := 0, slots := 0, locals := 48 }
abbrev ws_N_undo : List Cond := .code y_N_undo b_N_undo 7 none :: wA
abbrev rm_N_undo : Room := { frames := 2, cells := 0, slots := 0, locals := 48 }
abbrev ws_N_isOpen : List Cond := .code y_N_isOpen b_N_isOpen 2 (some .boolean) :: wA
abbrev rm_N_isOpen : Room := { frames := 1, cells := 0, slots := 0, locals := 22 }
abbrev ws_N_openUpdateCount : List Cond := .code y_N_openUpdateCount b_N_openUpdateCount 3 (some .int) :: wA
abbrev rm_N_openUpdateCount : Room := { frames := 2, cells := 0, slots := 0, locals := 43 }
abbrev ws_N_hasRoomForOne : List Cond := .code y_N_hasRoomForOne b_N_hasRoomForOne 2 (some .boolean) :: wA
abbrev rm_N_hasRoomForOne : Room := { frames := 3, cells := 0, slots := 0, locals := 65 }
abbrev ws_N_undoOpenUpdates : List Cond := .code y_N_undoOpenUpdates b_N_undoOpenUpdates 5 (some .int) :: wA
abbrev rm_N_undoOpenUpdates : Room := { frames := 3, cells := 0, slots := 0, locals := 74 }
abbrev ws_N_abortWithDescendants : List Cond := .code y_N_abortWithDescendants b_N_abortWithDescendants 4 (some .int) :: wA
abbrev rm_N_abortWithDescendants : Room := { frames := 4, cells := 0, slots := 0, locals := 98 }
abbrev ws_N_victimOfCircle : List Cond := .code y_N_victimOfCircle b_N_victimOfCircle 3 (some .int) :: wA
abbrev rm_N_victimOfCircle : Room := { frames := 4, cells := 0, slots := 0, locals := 95 }
abbrev ws_N_leadsOf : List Cond := .code y_N_leadsOf b_N_leadsOf 4 (some .long) :: wA
abbrev rm_N_leadsOf : Room := { frames := 3, cells := 0, slots := 0, locals := 72 }
abbrev ws_N_redoLog : List Cond := .code y_N_redoLog b_N_redoLog 2 none :: wA
abbrev rm_N_redoLog : Room := { frames := 3, cells := 0, slots := 0, locals := 71 }
abbrev ws_N_redo : List Cond := .code y_N_redo b_N_redo 4 none :: wA
abbrev rm_N_redo : Room := { frames := 2, cells := 0, slots := 0, locals := 48 }
abbrev ws_N_undoUncommitted : List Cond := .code y_N_undoUncommitted b_N_undoUncommitted 4 (some .int) :: wA
abbrev rm_N_undoUncommitted : Room := { frames := 3, cells := 0, slots := 0, locals := 74 }
abbrev ws_D_init : List Cond := .code y_D_init b_D_init 1 none :: wA
abbrev rm_D_init : Room := { frames := 1, cells := 0, slots := 0, locals := 21 }
abbrev ws_D_greatestInCircle : List Cond := .code y_D_greatestInCircle b_D_greatestInCircle 8 (some .int) :: wA
abbrev rm_D_greatestInCircle : Room := { frames := 1, cells := 0, slots := 0, locals := 28 }
abbrev ws_D_reachedFrom : List Cond := .code y_D_reachedFrom b_D_reachedFrom 9 (some .long) :: wA
abbrev rm_D_reachedFrom : Room := { frames := 0, cells := 0, slots := 0, locals := 0 }
abbrev ws_D_leadingTo : List Cond := .code y_D_leadingTo b_D_leadingTo 9 (some .long) :: wA
abbrev rm_D_leadingTo : Room := { frames := 0, cells := 0, slots := 0, locals := 0 }
abbrev ws_K_init : List Cond := .code y_K_init b_K_init 1 none :: wA
abbrev rm_K_init : Room := { frames := 1, cells := 0, slots := 0, locals := 21 }
abbrev ws_K_heldBy : List Cond := .code y_K_heldBy b_K_heldBy 3 (some .int) :: wA
abbrev rm_K_heldBy : Room := { frames := 0, cells := 0, slots := 0, locals := 0 }
abbrev ws_K_blockers : List Cond := .code y_K_blockers b_K_blockers 7 (some .long) :: wA
abbrev rm_K_blockers : Room := { frames := 0, cells := 0, slots := 0, locals := 0 }
abbrev ws_K_grant : List Cond := .code y_K_grant b_K_grant 4 none :: wA
abbrev rm_K_grant : Room := { frames := 1, cells := 0, slots := 0, locals := 22 }
abbrev ws_K_passOn : List Cond := .code y_K_passOn b_K_passOn 4 none :: wA
abbrev rm_K_passOn : Room := { frames := 2, cells := 0, slots := 0, locals := 45 }
abbrev ws_K_release : List Cond := .code y_K_release b_K_release 3 none :: wA
abbrev rm_K_release : Room := { frames := 0, cells := 0, slots := 0, locals := 0 }
abbrev ws_K_releaseAll : List Cond := .code y_K_releaseAll b_K_releaseAll 2 none :: wA
abbrev rm_K_releaseAll : Room := { frames := 0, cells := 0, slots := 0, locals := 0 }
abbrev ws_G_init : List Cond := .code y_G_init b_G_init 1 none :: wA
abbrev rm_G_init : Room := { frames := 1, cells := 0, slots := 0, locals := 21 }
abbrev ws_G_last : List Cond := .code y_G_last b_G_last 1 (some .int) :: wA
abbrev rm_G_last : Room := { frames := 0, cells := 0, slots := 0, locals := 0 }
abbrev ws_G_lsnOf : List Cond := .code y_G_lsnOf b_G_lsnOf 2 (some .int) :: wA
abbrev rm_G_lsnOf : Room := { frames := 0, cells := 0, slots := 0, locals := 0 }
abbrev ws_G_rowOf : List Cond := .code y_G_rowOf b_G_rowOf 2 (some .int) :: wA
abbrev rm_G_rowOf : Room := { frames := 0, cells := 0, slots := 0, locals := 0 }
abbrev ws_G_append : List Cond := .code y_G_append b_G_append 5 (some .int) :: wA
abbrev rm_G_append : Room := { frames := 1, cells := 0, slots := 0, locals := 23 }
abbrev ws_G_setBefore : List Cond := .code y_G_setBefore b_G_setBefore 4 none :: wA
abbrev rm_G_setBefore : Room := { frames := 0, cells := 0, slots := 0, locals := 0 }
abbrev ws_G_setAfter : List Cond := .code y_G_setAfter b_G_setAfter 4 none :: wA
abbrev rm_G_setAfter : Room := { frames := 0, cells := 0, slots := 0, locals := 0 }
abbrev ws_G_loseUnflushed : List Cond := .code y_G_loseUnflushed b_G_loseUnflushed 3 none :: wA
abbrev rm_G_loseUnflushed : Room := { frames := 1, cells := 0, slots := 0, locals := 21 }
abbrev ws_G_empty : List Cond := .code y_G_empty b_G_empty 1 none :: wA
abbrev rm_G_empty : Room := { frames := 1, cells := 0, slots := 0, locals := 20 }
abbrev ws_A_init : List Cond := .code y_A_init b_A_init 2 none :: wA
abbrev rm_A_init : Room := { frames := 1, cells := 0, slots := 0, locals := 21 }
abbrev ws_A_nextItem : List Cond := .code y_A_nextItem b_A_nextItem 3 (some .int) :: wA
abbrev rm_A_nextItem : Room := { frames := 0, cells := 0, slots := 0, locals := 0 }
abbrev ws_A_touch : List Cond := .code y_A_touch b_A_touch 5 none :: wA
abbrev rm_A_touch : Room := { frames := 1, cells := 0, slots := 0, locals := 24 }
abbrev ws_A_putOnDisk : List Cond := .code y_A_putOnDisk b_A_putOnDisk 5 none :: wA
abbrev rm_A_putOnDisk : Room := { frames := 0, cells := 0, slots := 0, locals := 0 }
abbrev ws_A_change : List Cond := .code y_A_change b_A_change 6 none :: wA
abbrev rm_A_change : Room := { frames := 0, cells := 0, slots := 0, locals := 0 }
abbrev ws_A_loseFrames : List Cond := .code y_A_loseFrames b_A_loseFrames 2 none :: wA
abbrev rm_A_loseFrames : Room := { frames := 0, cells := 0, slots := 0, locals := 0 }
abbrev ws_P_init : List Cond := .code y_P_init b_P_init 1 none :: wA
abbrev rm_P_init : Room := { frames := 1, cells := 0, slots := 0, locals := 21 }
abbrev ws_P_start : List Cond := .code y_P_start b_P_start 2 none :: wA
abbrev rm_P_start : Room := { frames := 0, cells := 0, slots := 0, locals := 0 }
abbrev ws_P_add : List Cond := .code y_P_add b_P_add 2 none :: wA
abbrev rm_P_add : Room := { frames := 0, cells := 0, slots := 0, locals := 0 }
abbrev ws_T_init : List Cond := .code y_T_init b_T_init 1 none :: wA
abbrev rm_T_init : Room := { frames := 1, cells := 0, slots := 0, locals := 21 }
abbrev ws_T_exists : List Cond := .code y_T_exists b_T_exists 2 (some .boolean) :: wA
abbrev rm_T_exists : Room := { frames := 0, cells := 0, slots := 0, locals := 0 }
abbrev ws_T_isActive : List Cond := .code y_T_isActive b_T_isActive 2 (some .boolean) :: wA
abbrev rm_T_isActive : Room := { frames := 1, cells := 0, slots := 0, locals := 21 }
abbrev ws_T_isWaiting : List Cond := .code y_T_isWaiting b_T_isWaiting 2 (some .boolean) :: wA
abbrev rm_T_isWaiting : Room := { frames := 1, cells := 0, slots := 0, locals := 21 }
abbrev ws_T_isLive : List Cond := .code y_T_isLive b_T_isLive 2 (some .boolean) :: wA
abbrev rm_T_isLive : Room := { frames := 1, cells := 0, slots := 0, locals := 21 }
abbrev ws_T_isTopLive : List Cond := .code y_T_isTopLive b_T_isTopLive 3 (some .boolean) :: wA
abbrev rm_T_isTopLive : Room := { frames := 0, cells := 0, slots := 0, locals := 0 }
abbrev ws_T_isWithin : List Cond := .code y_T_isWithin b_T_isWithin 3 (some .boolean) :: wA
abbrev rm_T_isWithin : Room := { frames := 0, cells := 0, slots := 0, locals := 0 }
abbrev ws_T_isBusy : List Cond := .code y_T_isBusy b_T_isBusy 2 (some .boolean) :: wA
abbrev rm_T_isBusy : Room := { frames := 3, cells := 0, slots := 0, locals := 66 }
abbrev ws_T_liveChildren : List Cond := .code y_T_liveChildren b_T_liveChildren 5 (some .long) :: wA
abbrev rm_T_liveChildren : Room := { frames := 2, cells := 0, slots := 0, locals := 42 }
abbrev ws_T_liveCount : List Cond := .code y_T_liveCount b_T_liveCount 3 (some .int) :: wA
abbrev rm_T_liveCount : Room := { frames := 2, cells := 0, slots := 0, locals := 42 }
abbrev ws_T_add : List Cond := .code y_T_add b_T_add 5 (some .int) :: wA
abbrev rm_T_add : Room := { frames := 1, cells := 0, slots := 0, locals := 21 }
abbrev ws_T_setRequest : List Cond := .code y_T_setRequest b_T_setRequest 6 none :: wA
abbrev rm_T_setRequest : Room := { frames := 0, cells := 0, slots := 0, locals := 0 }
abbrev ws_T_abortUncommitted : List Cond := .code y_T_abortUncommitted b_T_abortUncommitted 2 none :: wA
abbrev rm_T_abortUncommitted : Room := { frames := 0, cells := 0, slots := 0, locals := 0 }
theorem in_M : ∀ w ∈ u_ws R_M F_M 39, w ∈ wA := by
  intro w hw
  obtain ⟨k, hk, rfl⟩ := List.mem_map.mp hw
  have hk := List.mem_range.mp hk
  match k, hk with
  | 0, _ => exact wA_t 632 (by decide +kernel) rfl
  | 1, _ => exact wA_t 634 (by decide +kernel) rfl
  | 2, _ => exact wA_t 636 (by decide +kernel) rfl
  | 3, _ => exact wA_t 638 (by decide +kernel) rfl
  | 4, _ => exact wA_t 640 (by decide +kernel) rfl
  | 5, _ => exact wA_t 642 (by decide +kernel) rfl
  | 6, _ => exact wA_t 644 (by decide +kernel) rfl
  | 7, _ => exact wA_t 646 (by decide +kernel) rfl
  | 8, _ => exact wA_t 648 (by decide +kernel) rfl
  | 9, _ => exact wA_t 650 (by decide +kernel) rfl
  | 10, _ => exact wA_t 652 (by decide +kernel) rfl
  | 11, _ => exact wA_t 654 (by decide +kernel) rfl
  | 12, _ => exact wA_t 656 (by decide +kernel) rfl
  | 13, _ => exact wA_t 658 (by decide +kernel) rfl
  | 14, _ => exact wA_t 660 (by decide +kernel) rfl
  | 15, _ => exact wA_t 662 (by decide +kernel) rfl
  | 16, _ => exact wA_t 664 (by decide +kernel) rfl
  | 17, _ => exact wA_t 666 (by decide +kernel) rfl
  | 18, _ => exact wA_t 668 (by decide +kernel) rfl
  | 19, _ => exact wA_t 670 (by decide +kernel) rfl
  | 20, _ => exact wA_t 672 (by decide +kernel) rfl
  | 21, _ => exact wA_t 674 (by decide +kernel) rfl
  | 22, _ => exact wA_t 676 (by decide +kernel) rfl
  | 23, _ => exact wA_t 678 (by decide +kernel) rfl
  | 24, _ => exact wA_t 680 (by decide +kernel) rfl
  | 25, _ => exact wA_t 682 (by decide +kernel) rfl
  | 26, _ => exact wA_t 684 (by decide +kernel) rfl
  | 27, _ => exact wA_t 686 (by decide +kernel) rfl
  | 28, _ => exact wA_t 688 (by decide +kernel) rfl
  | 29, _ => exact wA_t 690 (by decide +kernel) rfl
  | 30, _ => exact wA_t 692 (by decide +kernel) rfl
  | 31, _ => exact wA_t 694 (by decide +kernel) rfl
  | 32, _ => exact wA_t 696 (by decide +kernel) rfl
  | 33, _ => exact wA_t 698 (by decide +kernel) rfl
  | 34, _ => exact wA_t 700 (by decide +kernel) rfl
  | 35, _ => exact wA_t 702 (by decide +kernel) rfl
  | 36, _ => exact wA_t 704 (by decide +kernel) rfl
  | 37, _ => exact wA_t 706 (by decide +kernel) rfl
  | 38, _ => exact wA_t 708 (by decide +kernel) rfl
  | j + 39, h => omega
theorem k_M_7 : Cond.fieldLink R_M 7 R_M "diskThere" "[Z" ∈ wA := wA_t 594 (by decide +kernel) rfl
theorem k_M_13 : Cond.fieldLink R_M 13 R_M "diskValue" "[I" ∈ wA := wA_t 595 (by decide +kernel) rfl
theorem k_M_17 : Cond.fieldLink R_M 17 R_M "diskLsn" "[I" ∈ wA := wA_t 596 (by decide +kernel) rfl
theorem k_M_20 : Cond.fieldLink R_M 20 R_M "there" "[Z" ∈ wA := wA_t 597 (by decide +kernel) rfl
theorem k_M_23 : Cond.fieldLink R_M 23 R_M "value" "[I" ∈ wA := wA_t 598 (by decide +kernel) rfl
theorem k_M_26 : Cond.fieldLink R_M 26 R_M "lsn" "[I" ∈ wA := wA_t 599 (by decide +kernel) rfl
theorem k_M_29 : Cond.fieldLink R_M 29 R_M "inFrame" "[Z" ∈ wA := wA_t 600 (by decide +kernel) rfl
theorem k_M_32 : Cond.fieldLink R_M 32 R_M "dirty" "[Z" ∈ wA := wA_t 601 (by decide +kernel) rfl
theorem k_M_35 : Cond.fieldLink R_M 35 R_M "touched" "[I" ∈ wA := wA_t 602 (by decide +kernel) rfl
theorem k_M_38 : Cond.fieldLink R_M 38 R_M "kind" "[I" ∈ wA := wA_t 607 (by decide +kernel) rfl
theorem k_M_41 : Cond.fieldLink R_M 41 R_M "by" "[I" ∈ wA := wA_t 608 (by decide +kernel) rfl
theorem k_M_44 : Cond.fieldLink R_M 44 R_M "about" "[I" ∈ wA := wA_t 609 (by decide +kernel) rfl
theorem k_M_47 : Cond.fieldLink R_M 47 R_M "of" "[I" ∈ wA := wA_t 610 (by decide +kernel) rfl
theorem k_M_50 : Cond.fieldLink R_M 50 R_M "wasThere" "[Z" ∈ wA := wA_t 611 (by decide +kernel) rfl
theorem k_M_53 : Cond.fieldLink R_M 53 R_M "wasValue" "[I" ∈ wA := wA_t 612 (by decide +kernel) rfl
theorem k_M_56 : Cond.fieldLink R_M 56 R_M "isThere" "[Z" ∈ wA := wA_t 613 (by decide +kernel) rfl
theorem k_M_59 : Cond.fieldLink R_M 59 R_M "isValue" "[I" ∈ wA := wA_t 614 (by decide +kernel) rfl
theorem k_M_62 : Cond.fieldLink R_M 62 R_M "state" "[I" ∈ wA := wA_t 616 (by decide +kernel) rfl
theorem k_M_65 : Cond.fieldLink R_M 65 R_M "parent" "[I" ∈ wA := wA_t 617 (by decide +kernel) rfl
theorem k_M_68 : Cond.fieldLink R_M 68 R_M "began" "[I" ∈ wA := wA_t 618 (by decide +kernel) rfl
theorem k_M_71 : Cond.fieldLink R_M 71 R_M "locks" "[I" ∈ wA := wA_t 619 (by decide +kernel) rfl
theorem k_M_74 : Cond.fieldLink R_M 74 R_M "asks" "[I" ∈ wA := wA_t 620 (by decide +kernel) rfl
theorem k_M_77 : Cond.fieldLink R_M 77 R_M "first" "[I" ∈ wA := wA_t 621 (by decide +kernel) rfl
theorem k_M_80 : Cond.fieldLink R_M 80 R_M "second" "[I" ∈ wA := wA_t 622 (by decide +kernel) rfl
theorem k_M_83 : Cond.fieldLink R_M 83 R_M "item" "[I" ∈ wA := wA_t 624 (by decide +kernel) rfl
theorem k_M_86 : Cond.fieldLink R_M 86 R_M "lacks" "[I" ∈ wA := wA_t 626 (by decide +kernel) rfl
theorem k_M_89 : Cond.fieldLink R_M 89 R_M "lackMode" "[I" ∈ wA := wA_t 627 (by decide +kernel) rfl
theorem k_M_92 : Cond.fieldLink R_M 92 R_M "ahead" "[Z" ∈ wA := wA_t 628 (by decide +kernel) rfl
theorem k_M_95 : Cond.fieldLink R_M 95 R_M "back" "[Z" ∈ wA := wA_t 629 (by decide +kernel) rfl
theorem k_M_98 : Cond.fieldLink R_M 98 R_M "falls" "[Z" ∈ wA := wA_t 630 (by decide +kernel) rfl
theorem k_M_101 : Cond.fieldLink R_M 101 R_M "frames" "I" ∈ wA := wA_t 593 (by decide +kernel) rfl
theorem k_M_105 : Cond.fieldLink R_M 105 R_M "flushed" "I" ∈ wA := wA_t 606 (by decide +kernel) rfl
theorem k_M_108 : Cond.fieldLink R_M 108 R_M "clock" "I" ∈ wA := wA_t 603 (by decide +kernel) rfl
theorem k_M_115 : Cond.fieldLink R_M 115 R_M "base" "I" ∈ wA := wA_t 604 (by decide +kernel) rfl
theorem k_M_118 : Cond.fieldLink R_M 118 R_M "records" "I" ∈ wA := wA_t 605 (by decide +kernel) rfl
theorem k_M_147 : Cond.fieldLink R_M 147 R_M "many" "I" ∈ wA := wA_t 615 (by decide +kernel) rfl
theorem k_M_175 : Cond.fieldLink R_M 175 R_M "wanted" "I" ∈ wA := wA_t 623 (by decide +kernel) rfl
theorem k_M_178 : Cond.fieldLink R_M 178 R_M "mode" "I" ∈ wA := wA_t 625 (by decide +kernel) rfl
theorem k_M_216 : Cond.fieldLink R_M 216 R_M "latest" "I" ∈ wA := wA_t 631 (by decide +kernel) rfl
theorem hd_M_writes : y_M_writes.cls = R_M ∧ y_M_writes.cls ≠ "java/lang/invoke/MethodHandle" ∧ y_M_writes.cls ≠ "java/lang/invoke/VarHandle" ∧ (parseMethodDescriptor y_M_writes.desc).map (fun d => d.parameters.length) = some 1 := by decide +kernel
theorem g_M_111 {c0 : Cond} : GoodIn (c0 :: wA) (wsV R_M 111 R_M y_M_writes (.code y_M_writes b_M_writes 3 none :: wA)) := gw_V (wA_t 842 (by decide +kernel) rfl) (wA_t 844 (by decide +kernel) rfl) (wA_p (y := y_M_writes) (n := 39) (by decide +kernel)) (wA_t 9 (by decide +kernel) rfl) (wA_t 845 (by decide +kernel) rfl)
theorem hd_M_append : y_M_append.cls = R_M ∧ y_M_append.cls ≠ "java/lang/invoke/MethodHandle" ∧ y_M_append.cls ≠ "java/lang/invoke/VarHandle" ∧ (parseMethodDescriptor y_M_append.desc).map (fun d => d.parameters.length) = some 3 := by decide +kernel
theorem g_M_121 {c0 : Cond} : GoodIn (c0 :: wA) (wsV R_M 121 R_M y_M_append (.code y_M_append b_M_append 5 (some .int) :: wA)) := gw_V (wA_t 755 (by decide +kernel) rfl) (wA_t 757 (by decide +kernel) rfl) (wA_p (y := y_M_append) (n := 39) (by decide +kernel)) (wA_t 9 (by decide +kernel) rfl) (wA_t 758 (by decide +kernel) rfl)
theorem hd_M_touch : y_M_touch.cls = R_M ∧ y_M_touch.cls ≠ "java/lang/invoke/MethodHandle" ∧ y_M_touch.cls ≠ "java/lang/invoke/VarHandle" ∧ (parseMethodDescriptor y_M_touch.desc).map (fun d => d.parameters.length) = some 1 := by decide +kernel
theorem g_M_125 {c0 : Cond} : GoodIn (c0 :: wA) (wsV R_M 125 R_M y_M_touch (.code y_M_touch b_M_touch 5 none :: wA)) := gw_V (wA_t 838 (by decide +kernel) rfl) (wA_t 840 (by decide +kernel) rfl) (wA_p (y := y_M_touch) (n := 39) (by decide +kernel)) (wA_t 9 (by decide +kernel) rfl) (wA_t 841 (by decide +kernel) rfl)
theorem hd_M_last : y_M_last.cls = R_M ∧ y_M_last.cls ≠ "java/lang/invoke/MethodHandle" ∧ y_M_last.cls ≠ "java/lang/invoke/VarHandle" ∧ (parseMethodDescriptor y_M_last.desc).map (fun d => d.parameters.length) = some 0 := by decide +kernel
theorem g_M_128 {c0 : Cond} : GoodIn (c0 :: wA) (wsV R_M 128 R_M y_M_last (.code y_M_last b_M_last 1 (some .int) :: wA)) := gw_V (wA_t 759 (by decide +kernel) rfl) (wA_t 761 (by decide +kernel) rfl) (wA_p (y := y_M_last) (n := 39) (by decide +kernel)) (wA_t 9 (by decide +kernel) rfl) (wA_t 762 (by decide +kernel) rfl)
theorem hd_M_become : y_M_become.cls = R_M ∧ y_M_become.cls ≠ "java/lang/invoke/MethodHandle" ∧ y_M_become.cls ≠ "java/lang/invoke/VarHandle" ∧ (parseMethodDescriptor y_M_become.desc).map (fun d => d.parameters.length) = some 4 := by decide +kernel
theorem g_M_132 {c0 : Cond} : GoodIn (c0 :: wA) (wsV R_M 132 R_M y_M_become (.code y_M_become b_M_become 5 none :: wA)) := gw_V (wA_t 846 (by decide +kernel) rfl) (wA_t 848 (by decide +kernel) rfl) (wA_p (y := y_M_become) (n := 39) (by decide +kernel)) (wA_t 9 (by decide +kernel) rfl) (wA_t 849 (by decide +kernel) rfl)
theorem hd_M_top : y_M_top.cls = R_M ∧ y_M_top.cls ≠ "java/lang/invoke/MethodHandle" ∧ y_M_top.cls ≠ "java/lang/invoke/VarHandle" ∧ (parseMethodDescriptor y_M_top.desc).map (fun d => d.parameters.length) = some 1 := by decide +kernel
theorem g_M_136 {c0 : Cond} : GoodIn (c0 :: wA) (wsV R_M 136 R_M y_M_top (.code y_M_top b_M_top 4 (some .int) :: wA)) := gw_V (wA_t 739 (by decide +kernel) rfl) (wA_t 741 (by decide +kernel) rfl) (wA_p (y := y_M_top) (n := 39) (by decide +kernel)) (wA_t 9 (by decide +kernel) rfl) (wA_t 742 (by decide +kernel) rfl)
theorem hd_M_undone : y_M_undone.cls = R_M ∧ y_M_undone.cls ≠ "java/lang/invoke/MethodHandle" ∧ y_M_undone.cls ≠ "java/lang/invoke/VarHandle" ∧ (parseMethodDescriptor y_M_undone.desc).map (fun d => d.parameters.length) = some 1 := by decide +kernel
theorem g_M_140 {c0 : Cond} : GoodIn (c0 :: wA) (wsV R_M 140 R_M y_M_undone (.code y_M_undone b_M_undone 4 (some .boolean) :: wA)) := gw_V (wA_t 743 (by decide +kernel) rfl) (wA_t 745 (by decide +kernel) rfl) (wA_p (y := y_M_undone) (n := 39) (by decide +kernel)) (wA_t 9 (by decide +kernel) rfl) (wA_t 746 (by decide +kernel) rfl)
theorem hd_M_open : y_M_open.cls = R_M ∧ y_M_open.cls ≠ "java/lang/invoke/MethodHandle" ∧ y_M_open.cls ≠ "java/lang/invoke/VarHandle" ∧ (parseMethodDescriptor y_M_open.desc).map (fun d => d.parameters.length) = some 1 := by decide +kernel
theorem g_M_144 {c0 : Cond} : GoodIn (c0 :: wA) (wsV R_M 144 R_M y_M_open (.code y_M_open b_M_open 2 (some .boolean) :: wA)) := gw_V (wA_t 735 (by decide +kernel) rfl) (wA_t 737 (by decide +kernel) rfl) (wA_p (y := y_M_open) (n := 39) (by decide +kernel)) (wA_t 9 (by decide +kernel) rfl) (wA_t 738 (by decide +kernel) rfl)
theorem hd_M_live : y_M_live.cls = R_M ∧ y_M_live.cls ≠ "java/lang/invoke/MethodHandle" ∧ y_M_live.cls ≠ "java/lang/invoke/VarHandle" ∧ (parseMethodDescriptor y_M_live.desc).map (fun d => d.parameters.length) = some 1 := by decide +kernel
theorem g_M_150 {c0 : Cond} : GoodIn (c0 :: wA) (wsV R_M 150 R_M y_M_live (.code y_M_live b_M_live 2 (some .boolean) :: wA)) := gw_V (wA_t 751 (by decide +kernel) rfl) (wA_t 753 (by decide +kernel) rfl) (wA_p (y := y_M_live) (n := 39) (by decide +kernel)) (wA_t 9 (by decide +kernel) rfl) (wA_t 754 (by decide +kernel) rfl)
theorem hd_M_opens : y_M_opens.cls = R_M ∧ y_M_opens.cls ≠ "java/lang/invoke/MethodHandle" ∧ y_M_opens.cls ≠ "java/lang/invoke/VarHandle" ∧ (parseMethodDescriptor y_M_opens.desc).map (fun d => d.parameters.length) = some 0 := by decide +kernel
theorem g_M_153 {c0 : Cond} : GoodIn (c0 :: wA) (wsV R_M 153 R_M y_M_opens (.code y_M_opens b_M_opens 3 (some .int) :: wA)) := gw_V (wA_t 731 (by decide +kernel) rfl) (wA_t 733 (by decide +kernel) rfl) (wA_p (y := y_M_opens) (n := 39) (by decide +kernel)) (wA_t 9 (by decide +kernel) rfl) (wA_t 734 (by decide +kernel) rfl)
theorem hd_M_lives : y_M_lives.cls = R_M ∧ y_M_lives.cls ≠ "java/lang/invoke/MethodHandle" ∧ y_M_lives.cls ≠ "java/lang/invoke/VarHandle" ∧ (parseMethodDescriptor y_M_lives.desc).map (fun d => d.parameters.length) = some 0 := by decide +kernel
theorem g_M_156 {c0 : Cond} : GoodIn (c0 :: wA) (wsV R_M 156 R_M y_M_lives (.code y_M_lives b_M_lives 3 (some .int) :: wA)) := gw_V (wA_t 747 (by decide +kernel) rfl) (wA_t 749 (by decide +kernel) rfl) (wA_p (y := y_M_lives) (n := 39) (by decide +kernel)) (wA_t 9 (by decide +kernel) rfl) (wA_t 750 (by decide +kernel) rfl)
theorem hd_M_is : y_M_is.cls = R_M ∧ y_M_is.cls ≠ "java/lang/invoke/MethodHandle" ∧ y_M_is.cls ≠ "java/lang/invoke/VarHandle" ∧ (parseMethodDescriptor y_M_is.desc).map (fun d => d.parameters.length) = some 1 := by decide +kernel
theorem g_M_159 {c0 : Cond} : GoodIn (c0 :: wA) (wsV R_M 159 R_M y_M_is (.code y_M_is b_M_is 2 (some .boolean) :: wA)) := gw_V (wA_t 719 (by decide +kernel) rfl) (wA_t 721 (by decide +kernel) rfl) (wA_p (y := y_M_is) (n := 39) (by decide +kernel)) (wA_t 9 (by decide +kernel) rfl) (wA_t 722 (by decide +kernel) rfl)
theorem hd_M_active : y_M_active.cls = R_M ∧ y_M_active.cls ≠ "java/lang/invoke/MethodHandle" ∧ y_M_active.cls ≠ "java/lang/invoke/VarHandle" ∧ (parseMethodDescriptor y_M_active.desc).map (fun d => d.parameters.length) = some 1 := by decide +kernel
theorem g_M_162 {c0 : Cond} : GoodIn (c0 :: wA) (wsV R_M 162 R_M y_M_active (.code y_M_active b_M_active 2 (some .boolean) :: wA)) := gw_V (wA_t 715 (by decide +kernel) rfl) (wA_t 717 (by decide +kernel) rfl) (wA_p (y := y_M_active) (n := 39) (by decide +kernel)) (wA_t 9 (by decide +kernel) rfl) (wA_t 718 (by decide +kernel) rfl)
theorem hd_M_depth : y_M_depth.cls = R_M ∧ y_M_depth.cls ≠ "java/lang/invoke/MethodHandle" ∧ y_M_depth.cls ≠ "java/lang/invoke/VarHandle" ∧ (parseMethodDescriptor y_M_depth.desc).map (fun d => d.parameters.length) = some 1 := by decide +kernel
theorem g_M_165 {c0 : Cond} : GoodIn (c0 :: wA) (wsV R_M 165 R_M y_M_depth (.code y_M_depth b_M_depth 5 (some .int) :: wA)) := gw_V (wA_t 723 (by decide +kernel) rfl) (wA_t 725 (by decide +kernel) rfl) (wA_p (y := y_M_depth) (n := 39) (by decide +kernel)) (wA_t 9 (by decide +kernel) rfl) (wA_t 726 (by decide +kernel) rfl)
theorem hd_M_full : y_M_full.cls = R_M ∧ y_M_full.cls ≠ "java/lang/invoke/MethodHandle" ∧ y_M_full.cls ≠ "java/lang/invoke/VarHandle" ∧ (parseMethodDescriptor y_M_full.desc).map (fun d => d.parameters.length) = some 0 := by decide +kernel
theorem g_M_168 {c0 : Cond} : GoodIn (c0 :: wA) (wsV R_M 168 R_M y_M_full (.code y_M_full b_M_full 1 (some .boolean) :: wA)) := gw_V (wA_t 727 (by decide +kernel) rfl) (wA_t 729 (by decide +kernel) rfl) (wA_p (y := y_M_full) (n := 39) (by decide +kernel)) (wA_t 9 (by decide +kernel) rfl) (wA_t 730 (by decide +kernel) rfl)
theorem hd_M_isThereNow : y_M_isThereNow.cls = R_M ∧ y_M_isThereNow.cls ≠ "java/lang/invoke/MethodHandle" ∧ y_M_isThereNow.cls ≠ "java/lang/invoke/VarHandle" ∧ (parseMethodDescriptor y_M_isThereNow.desc).map (fun d => d.parameters.length) = some 1 := by decide +kernel
theorem g_M_172 {c0 : Cond} : GoodIn (c0 :: wA) (wsV R_M 172 R_M y_M_isThereNow (.code y_M_isThereNow b_M_isThereNow 2 (some .boolean) :: wA)) := gw_V (wA_t 786 (by decide +kernel) rfl) (wA_t 788 (by decide +kernel) rfl) (wA_p (y := y_M_isThereNow) (n := 39) (by decide +kernel)) (wA_t 9 (by decide +kernel) rfl) (wA_t 789 (by decide +kernel) rfl)
theorem hd_M_want : y_M_want.cls = R_M ∧ y_M_want.cls ≠ "java/lang/invoke/MethodHandle" ∧ y_M_want.cls ≠ "java/lang/invoke/VarHandle" ∧ (parseMethodDescriptor y_M_want.desc).map (fun d => d.parameters.length) = some 1 := by decide +kernel
theorem g_M_181 {c0 : Cond} : GoodIn (c0 :: wA) (wsV R_M 181 R_M y_M_want (.code y_M_want b_M_want 2 none :: wA)) := gw_V (wA_t 790 (by decide +kernel) rfl) (wA_t 792 (by decide +kernel) rfl) (wA_p (y := y_M_want) (n := 39) (by decide +kernel)) (wA_t 9 (by decide +kernel) rfl) (wA_t 793 (by decide +kernel) rfl)
theorem hd_M_next : y_M_next.cls = R_M ∧ y_M_next.cls ≠ "java/lang/invoke/MethodHandle" ∧ y_M_next.cls ≠ "java/lang/invoke/VarHandle" ∧ (parseMethodDescriptor y_M_next.desc).map (fun d => d.parameters.length) = some 1 := by decide +kernel
theorem g_M_184 {c0 : Cond} : GoodIn (c0 :: wA) (wsV R_M 184 R_M y_M_next (.code y_M_next b_M_next 3 (some .int) :: wA)) := gw_V (wA_t 794 (by decide +kernel) rfl) (wA_t 796 (by decide +kernel) rfl) (wA_p (y := y_M_next) (n := 39) (by decide +kernel)) (wA_t 9 (by decide +kernel) rfl) (wA_t 797 (by decide +kernel) rfl)
theorem hd_M_above : y_M_above.cls = R_M ∧ y_M_above.cls ≠ "java/lang/invoke/MethodHandle" ∧ y_M_above.cls ≠ "java/lang/invoke/VarHandle" ∧ (parseMethodDescriptor y_M_above.desc).map (fun d => d.parameters.length) = some 2 := by decide +kernel
theorem g_M_187 {c0 : Cond} : GoodIn (c0 :: wA) (wsV R_M 187 R_M y_M_above (.code y_M_above b_M_above 6 (some .boolean) :: wA)) := gw_V (wA_t 806 (by decide +kernel) rfl) (wA_t 808 (by decide +kernel) rfl) (wA_p (y := y_M_above) (n := 39) (by decide +kernel)) (wA_t 9 (by decide +kernel) rfl) (wA_t 809 (by decide +kernel) rfl)
theorem hd_M_bars : y_M_bars.cls = R_M ∧ y_M_bars.cls ≠ "java/lang/invoke/MethodHandle" ∧ y_M_bars.cls ≠ "java/lang/invoke/VarHandle" ∧ (parseMethodDescriptor y_M_bars.desc).map (fun d => d.parameters.length) = some 4 := by decide +kernel
theorem g_M_191 {c0 : Cond} : GoodIn (c0 :: wA) (wsV R_M 191 R_M y_M_bars (.code y_M_bars b_M_bars 6 (some .boolean) :: wA)) := gw_V (wA_t 802 (by decide +kernel) rfl) (wA_t 804 (by decide +kernel) rfl) (wA_p (y := y_M_bars) (n := 39) (by decide +kernel)) (wA_t 9 (by decide +kernel) rfl) (wA_t 805 (by decide +kernel) rfl)
theorem hd_M_needs : y_M_needs.cls = R_M ∧ y_M_needs.cls ≠ "java/lang/invoke/MethodHandle" ∧ y_M_needs.cls ≠ "java/lang/invoke/VarHandle" ∧ (parseMethodDescriptor y_M_needs.desc).map (fun d => d.parameters.length) = some 3 := by decide +kernel
theorem g_M_195 {c0 : Cond} : GoodIn (c0 :: wA) (wsV R_M 195 R_M y_M_needs (.code y_M_needs b_M_needs 6 none :: wA)) := gw_V (wA_t 782 (by decide +kernel) rfl) (wA_t 784 (by decide +kernel) rfl) (wA_p (y := y_M_needs) (n := 39) (by decide +kernel)) (wA_t 9 (by decide +kernel) rfl) (wA_t 785 (by decide +kernel) rfl)
theorem hd_M_may : y_M_may.cls = R_M ∧ y_M_may.cls ≠ "java/lang/invoke/MethodHandle" ∧ y_M_may.cls ≠ "java/lang/invoke/VarHandle" ∧ (parseMethodDescriptor y_M_may.desc).map (fun d => d.parameters.length) = some 3 := by decide +kernel
theorem g_M_199 {c0 : Cond} : GoodIn (c0 :: wA) (wsV R_M 199 R_M y_M_may (.code y_M_may b_M_may 6 (some .boolean) :: wA)) := gw_V (wA_t 798 (by decide +kernel) rfl) (wA_t 800 (by decide +kernel) rfl) (wA_p (y := y_M_may) (n := 39) (by decide +kernel)) (wA_t 9 (by decide +kernel) rfl) (wA_t 801 (by decide +kernel) rfl)
theorem hd_M_look : y_M_look.cls = R_M ∧ y_M_look.cls ≠ "java/lang/invoke/MethodHandle" ∧ y_M_look.cls ≠ "java/lang/invoke/VarHandle" ∧ (parseMethodDescriptor y_M_look.desc).map (fun d => d.parameters.length) = some 0 := by decide +kernel
theorem g_M_203 {c0 : Cond} : GoodIn (c0 :: wA) (wsV R_M 203 R_M y_M_look (.code y_M_look b_M_look 4 none :: wA)) := gw_V (wA_t 818 (by decide +kernel) rfl) (wA_t 820 (by decide +kernel) rfl) (wA_p (y := y_M_look) (n := 39) (by decide +kernel)) (wA_t 9 (by decide +kernel) rfl) (wA_t 821 (by decide +kernel) rfl)
theorem hd_M_leads : y_M_leads.cls = R_M ∧ y_M_leads.cls ≠ "java/lang/invoke/MethodHandle" ∧ y_M_leads.cls ≠ "java/lang/invoke/VarHandle" ∧ (parseMethodDescriptor y_M_leads.desc).map (fun d => d.parameters.length) = some 2 := by decide +kernel
theorem g_M_206 {c0 : Cond} : GoodIn (c0 :: wA) (wsV R_M 206 R_M y_M_leads (.code y_M_leads b_M_leads 3 (some .boolean) :: wA)) := gw_V (wA_t 822 (by decide +kernel) rfl) (wA_t 824 (by decide +kernel) rfl) (wA_p (y := y_M_leads) (n := 39) (by decide +kernel)) (wA_t 9 (by decide +kernel) rfl) (wA_t 825 (by decide +kernel) rfl)
theorem hd_M_stays : y_M_stays.cls = R_M ∧ y_M_stays.cls ≠ "java/lang/invoke/MethodHandle" ∧ y_M_stays.cls ≠ "java/lang/invoke/VarHandle" ∧ (parseMethodDescriptor y_M_stays.desc).map (fun d => d.parameters.length) = some 4 := by decide +kernel
theorem g_M_209 {c0 : Cond} : GoodIn (c0 :: wA) (wsV R_M 209 R_M y_M_stays (.code y_M_stays b_M_stays 7 (some .int) :: wA)) := gw_V (wA_t 810 (by decide +kernel) rfl) (wA_t 812 (by decide +kernel) rfl) (wA_p (y := y_M_stays) (n := 39) (by decide +kernel)) (wA_t 9 (by decide +kernel) rfl) (wA_t 813 (by decide +kernel) rfl)
theorem hd_M_valueNow : y_M_valueNow.cls = R_M ∧ y_M_valueNow.cls ≠ "java/lang/invoke/MethodHandle" ∧ y_M_valueNow.cls ≠ "java/lang/invoke/VarHandle" ∧ (parseMethodDescriptor y_M_valueNow.desc).map (fun d => d.parameters.length) = some 1 := by decide +kernel
theorem g_M_213 {c0 : Cond} : GoodIn (c0 :: wA) (wsV R_M 213 R_M y_M_valueNow (.code y_M_valueNow b_M_valueNow 2 (some .int) :: wA)) := gw_V (wA_t 854 (by decide +kernel) rfl) (wA_t 856 (by decide +kernel) rfl) (wA_p (y := y_M_valueNow) (n := 39) (by decide +kernel)) (wA_t 9 (by decide +kernel) rfl) (wA_t 857 (by decide +kernel) rfl)
theorem hd_M_scanned : y_M_scanned.cls = R_M ∧ y_M_scanned.cls ≠ "java/lang/invoke/MethodHandle" ∧ y_M_scanned.cls ≠ "java/lang/invoke/VarHandle" ∧ (parseMethodDescriptor y_M_scanned.desc).map (fun d => d.parameters.length) = some 2 := by decide +kernel
theorem g_M_219 {c0 : Cond} : GoodIn (c0 :: wA) (wsV R_M 219 R_M y_M_scanned (.code y_M_scanned b_M_scanned 5 (some .int) :: wA)) := gw_V (wA_t 858 (by decide +kernel) rfl) (wA_t 860 (by decide +kernel) rfl) (wA_p (y := y_M_scanned) (n := 39) (by decide +kernel)) (wA_t 9 (by decide +kernel) rfl) (wA_t 861 (by decide +kernel) rfl)
theorem hd_M_update : y_M_update.cls = R_M ∧ y_M_update.cls ≠ "java/lang/invoke/MethodHandle" ∧ y_M_update.cls ≠ "java/lang/invoke/VarHandle" ∧ (parseMethodDescriptor y_M_update.desc).map (fun d => d.parameters.length) = some 4 := by decide +kernel
theorem g_M_223 {c0 : Cond} : GoodIn (c0 :: wA) (wsV R_M 223 R_M y_M_update (.code y_M_update b_M_update 6 none :: wA)) := gw_V (wA_t 862 (by decide +kernel) rfl) (wA_t 864 (by decide +kernel) rfl) (wA_p (y := y_M_update) (n := 39) (by decide +kernel)) (wA_t 9 (by decide +kernel) rfl) (wA_t 865 (by decide +kernel) rfl)
theorem hd_M_victim : y_M_victim.cls = R_M ∧ y_M_victim.cls ≠ "java/lang/invoke/MethodHandle" ∧ y_M_victim.cls ≠ "java/lang/invoke/VarHandle" ∧ (parseMethodDescriptor y_M_victim.desc).map (fun d => d.parameters.length) = some 1 := by decide +kernel
theorem g_M_227 {c0 : Cond} : GoodIn (c0 :: wA) (wsV R_M 227 R_M y_M_victim (.code y_M_victim b_M_victim 8 (some .int) :: wA)) := gw_V (wA_t 814 (by decide +kernel) rfl) (wA_t 816 (by decide +kernel) rfl) (wA_p (y := y_M_victim) (n := 39) (by decide +kernel)) (wA_t 9 (by decide +kernel) rfl) (wA_t 817 (by decide +kernel) rfl)
theorem hd_M_aborts : y_M_aborts.cls = R_M ∧ y_M_aborts.cls ≠ "java/lang/invoke/MethodHandle" ∧ y_M_aborts.cls ≠ "java/lang/invoke/VarHandle" ∧ (parseMethodDescriptor y_M_aborts.desc).map (fun d => d.parameters.length) = some 1 := by decide +kernel
theorem g_M_230 {c0 : Cond} : GoodIn (c0 :: wA) (wsV R_M 230 R_M y_M_aborts (.code y_M_aborts b_M_aborts 5 (some .int) :: wA)) := gw_V (wA_t 826 (by decide +kernel) rfl) (wA_t 828 (by decide +kernel) rfl) (wA_p (y := y_M_aborts) (n := 39) (by decide +kernel)) (wA_t 9 (by decide +kernel) rfl) (wA_t 829 (by decide +kernel) rfl)
theorem hd_M_busy : y_M_busy.cls = R_M ∧ y_M_busy.cls ≠ "java/lang/invoke/MethodHandle" ∧ y_M_busy.cls ≠ "java/lang/invoke/VarHandle" ∧ (parseMethodDescriptor y_M_busy.desc).map (fun d => d.parameters.length) = some 1 := by decide +kernel
theorem g_M_233 {c0 : Cond} : GoodIn (c0 :: wA) (wsV R_M 233 R_M y_M_busy (.code y_M_busy b_M_busy 4 (some .boolean) :: wA)) := gw_V (wA_t 774 (by decide +kernel) rfl) (wA_t 776 (by decide +kernel) rfl) (wA_p (y := y_M_busy) (n := 39) (by decide +kernel)) (wA_t 9 (by decide +kernel) rfl) (wA_t 777 (by decide +kernel) rfl)
theorem hd_M_request : y_M_request.cls = R_M ∧ y_M_request.cls ≠ "java/lang/invoke/MethodHandle" ∧ y_M_request.cls ≠ "java/lang/invoke/VarHandle" ∧ (parseMethodDescriptor y_M_request.desc).map (fun d => d.parameters.length) = some 4 := by decide +kernel
theorem g_M_236 {c0 : Cond} : GoodIn (c0 :: wA) (wsV R_M 236 R_M y_M_request (.code y_M_request b_M_request 7 (some .int) :: wA)) := gw_V (wA_t 778 (by decide +kernel) rfl) (wA_t 780 (by decide +kernel) rfl) (wA_p (y := y_M_request) (n := 39) (by decide +kernel)) (wA_t 9 (by decide +kernel) rfl) (wA_t 781 (by decide +kernel) rfl)
theorem hd_M_isKey : y_M_isKey.cls = R_M ∧ y_M_isKey.cls ≠ "java/lang/invoke/MethodHandle" ∧ y_M_isKey.cls ≠ "java/lang/invoke/VarHandle" ∧ (parseMethodDescriptor y_M_isKey.desc).map (fun d => d.parameters.length) = some 1 := by decide +kernel
theorem g_M_239 {c0 : Cond} : GoodIn (c0 :: wA) (wsS R_M 239 y_M_isKey (.code y_M_isKey b_M_isKey 1 (some .boolean) :: wA)) := gw_S (wA_t 767 (by decide +kernel) rfl) (wA_t 768 (by decide +kernel) rfl) (wA_t 9 (by decide +kernel) rfl) (wA_t 769 (by decide +kernel) rfl)
theorem hd_M_ask : y_M_ask.cls = R_M ∧ y_M_ask.cls ≠ "java/lang/invoke/MethodHandle" ∧ y_M_ask.cls ≠ "java/lang/invoke/VarHandle" ∧ (parseMethodDescriptor y_M_ask.desc).map (fun d => d.parameters.length) = some 4 := by decide +kernel
theorem g_M_242 {c0 : Cond} : GoodIn (c0 :: wA) (wsV R_M 242 R_M y_M_ask (.code y_M_ask b_M_ask 5 (some .int) :: wA)) := gw_V (wA_t 770 (by decide +kernel) rfl) (wA_t 772 (by decide +kernel) rfl) (wA_p (y := y_M_ask) (n := 39) (by decide +kernel)) (wA_t 9 (by decide +kernel) rfl) (wA_t 773 (by decide +kernel) rfl)
theorem hd_M_unlock : y_M_unlock.cls = R_M ∧ y_M_unlock.cls ≠ "java/lang/invoke/MethodHandle" ∧ y_M_unlock.cls ≠ "java/lang/invoke/VarHandle" ∧ (parseMethodDescriptor y_M_unlock.desc).map (fun d => d.parameters.length) = some 1 := by decide +kernel
theorem g_M_245 {c0 : Cond} : GoodIn (c0 :: wA) (wsV R_M 245 R_M y_M_unlock (.code y_M_unlock b_M_unlock 3 none :: wA)) := gw_V (wA_t 850 (by decide +kernel) rfl) (wA_t 852 (by decide +kernel) rfl) (wA_p (y := y_M_unlock) (n := 39) (by decide +kernel)) (wA_t 9 (by decide +kernel) rfl) (wA_t 853 (by decide +kernel) rfl)
theorem hd_M_undo : y_M_undo.cls = R_M ∧ y_M_undo.cls ≠ "java/lang/invoke/MethodHandle" ∧ y_M_undo.cls ≠ "java/lang/invoke/VarHandle" ∧ (parseMethodDescriptor y_M_undo.desc).map (fun d => d.parameters.length) = some 2 := by decide +kernel
theorem g_M_248 {c0 : Cond} : GoodIn (c0 :: wA) (wsV R_M 248 R_M y_M_undo (.code y_M_undo b_M_undo 4 none :: wA)) := gw_V (wA_t 834 (by decide +kernel) rfl) (wA_t 836 (by decide +kernel) rfl) (wA_p (y := y_M_undo) (n := 39) (by decide +kernel)) (wA_t 9 (by decide +kernel) rfl) (wA_t 837 (by decide +kernel) rfl)
theorem hd_M_undoes : y_M_undoes.cls = R_M ∧ y_M_undoes.cls ≠ "java/lang/invoke/MethodHandle" ∧ y_M_undoes.cls ≠ "java/lang/invoke/VarHandle" ∧ (parseMethodDescriptor y_M_undoes.desc).map (fun d => d.parameters.length) = some 2 := by decide +kernel
theorem g_M_252 {c0 : Cond} : GoodIn (c0 :: wA) (wsV R_M 252 R_M y_M_undoes (.code y_M_undoes b_M_undoes 5 (some .int) :: wA)) := gw_V (wA_t 830 (by decide +kernel) rfl) (wA_t 832 (by decide +kernel) rfl) (wA_p (y := y_M_undoes) (n := 39) (by decide +kernel)) (wA_t 9 (by decide +kernel) rfl) (wA_t 833 (by decide +kernel) rfl)
theorem hd_M_isPage : y_M_isPage.cls = R_M ∧ y_M_isPage.cls ≠ "java/lang/invoke/MethodHandle" ∧ y_M_isPage.cls ≠ "java/lang/invoke/VarHandle" ∧ (parseMethodDescriptor y_M_isPage.desc).map (fun d => d.parameters.length) = some 1 := by decide +kernel
theorem g_M_255 {c0 : Cond} : GoodIn (c0 :: wA) (wsS R_M 255 y_M_isPage (.code y_M_isPage b_M_isPage 1 (some .boolean) :: wA)) := gw_S (wA_t 906 (by decide +kernel) rfl) (wA_t 907 (by decide +kernel) rfl) (wA_t 9 (by decide +kernel) rfl) (wA_t 908 (by decide +kernel) rfl)
theorem hd_M_write : y_M_write.cls = R_M ∧ y_M_write.cls ≠ "java/lang/invoke/MethodHandle" ∧ y_M_write.cls ≠ "java/lang/invoke/VarHandle" ∧ (parseMethodDescriptor y_M_write.desc).map (fun d => d.parameters.length) = some 1 := by decide +kernel
theorem g_M_258 {c0 : Cond} : GoodIn (c0 :: wA) (wsV R_M 258 R_M y_M_write (.code y_M_write b_M_write 2 (some .boolean) :: wA)) := gw_V (wA_t 913 (by decide +kernel) rfl) (wA_t 903 (by decide +kernel) rfl) (wA_t 904 (by decide +kernel) rfl) (wA_t 9 (by decide +kernel) rfl) (wA_t 905 (by decide +kernel) rfl)
theorem hd_M_committed : y_M_committed.cls = R_M ∧ y_M_committed.cls ≠ "java/lang/invoke/MethodHandle" ∧ y_M_committed.cls ≠ "java/lang/invoke/VarHandle" ∧ (parseMethodDescriptor y_M_committed.desc).map (fun d => d.parameters.length) = some 1 := by decide +kernel
theorem g_M_261 {c0 : Cond} : GoodIn (c0 :: wA) (wsV R_M 261 R_M y_M_committed (.code y_M_committed b_M_committed 4 (some .boolean) :: wA)) := gw_V (wA_t 918 (by decide +kernel) rfl) (wA_t 920 (by decide +kernel) rfl) (wA_p (y := y_M_committed) (n := 39) (by decide +kernel)) (wA_t 9 (by decide +kernel) rfl) (wA_t 921 (by decide +kernel) rfl)
theorem hd_M_lsnNow : y_M_lsnNow.cls = R_M ∧ y_M_lsnNow.cls ≠ "java/lang/invoke/MethodHandle" ∧ y_M_lsnNow.cls ≠ "java/lang/invoke/VarHandle" ∧ (parseMethodDescriptor y_M_lsnNow.desc).map (fun d => d.parameters.length) = some 1 := by decide +kernel
theorem g_M_264 {c0 : Cond} : GoodIn (c0 :: wA) (wsV R_M 264 R_M y_M_lsnNow (.code y_M_lsnNow b_M_lsnNow 2 (some .int) :: wA)) := gw_V (wA_t 958 (by decide +kernel) rfl) (wA_t 960 (by decide +kernel) rfl) (wA_p (y := y_M_lsnNow) (n := 39) (by decide +kernel)) (wA_t 9 (by decide +kernel) rfl) (wA_t 961 (by decide +kernel) rfl)
abbrev ws_M_init : List Cond := .code y_M_init b_M_init 2 none :: wA
abbrev rm_M_init : Room := { frames := 1, cells := 0, slots := 0, locals := 21 }
abbrev ws_M_isKey : List Cond := .code y_M_isKey b_M_isKey 1 (some .boolean) :: wA
abbrev rm_M_isKey : Room := { frames := 0, cells := 0, slots := 0, locals := 0 }
abbrev ws_M_isPage : List Cond := .code y_M_isPage b_M_isPage 1 (some .boolean) :: wA
abbrev rm_M_isPage : Room := { frames := 0, cells := 0, slots := 0, locals := 0 }
abbrev ws_M_isThereNow : List Cond := .code y_M_isThereNow b_M_isThereNow 2 (some .boolean) :: wA
abbrev rm_M_isThereNow : Room := { frames := 0, cells := 0, slots := 0, locals := 0 }
abbrev ws_M_valueNow : List Cond := .code y_M_valueNow b_M_valueNow 2 (some .int) :: wA
abbrev rm_M_valueNow : Room := { frames := 0, cells := 0, slots := 0, locals := 0 }
abbrev ws_M_lsnNow : List Cond := .code y_M_lsnNow b_M_lsnNow 2 (some .int) :: wA
abbrev rm_M_lsnNow : Room := { frames := 0, cells := 0, slots := 0, locals := 0 }
abbrev ws_M_writes : List Cond := .code y_M_writes b_M_writes 3 none :: wA
abbrev rm_M_writes : Room := { frames := 0, cells := 0, slots := 0, locals := 0 }
abbrev ws_M_touch : List Cond := .code y_M_touch b_M_touch 5 none :: wA
abbrev rm_M_touch : Room := { frames := 1, cells := 0, slots := 0, locals := 22 }
abbrev ws_M_become : List Cond := .code y_M_become b_M_become 5 none :: wA
abbrev rm_M_become : Room := { frames := 0, cells := 0, slots := 0, locals := 0 }
abbrev ws_M_last : List Cond := .code y_M_last b_M_last 1 (some .int) :: wA
abbrev rm_M_last : Room := { frames := 0, cells := 0, slots := 0, locals := 0 }
abbrev ws_M_append : List Cond := .code y_M_append b_M_append 5 (some .int) :: wA
abbrev rm_M_append : Room := { frames := 0, cells := 0, slots := 0, locals := 0 }
abbrev ws_M_update : List Cond := .code y_M_update b_M_update 6 none :: wA
abbrev rm_M_update : Room := { frames := 2, cells := 0, slots := 0, locals := 46 }
abbrev ws_M_undo : List Cond := .code y_M_undo b_M_undo 4 none :: wA
abbrev rm_M_undo : Room := { frames := 2, cells := 0, slots := 0, locals := 46 }
abbrev ws_M_undone : List Cond := .code y_M_undone b_M_undone 4 (some .boolean) :: wA
abbrev rm_M_undone : Room := { frames := 0, cells := 0, slots := 0, locals := 0 }
abbrev ws_M_top : List Cond := .code y_M_top b_M_top 4 (some .int) :: wA
abbrev rm_M_top : Room := { frames := 0, cells := 0, slots := 0, locals := 0 }
abbrev ws_M_open : List Cond := .code y_M_open b_M_open 2 (some .boolean) :: wA
abbrev rm_M_open : Room := { frames := 1, cells := 0, slots := 0, locals := 23 }
abbrev ws_M_opens : List Cond := .code y_M_opens b_M_opens 3 (some .int) :: wA
abbrev rm_M_opens : Room := { frames := 2, cells := 0, slots := 0, locals := 44 }
abbrev ws_M_live : List Cond := .code y_M_live b_M_live 2 (some .boolean) :: wA
abbrev rm_M_live : Room := { frames := 0, cells := 0, slots := 0, locals := 0 }
abbrev ws_M_lives : List Cond := .code y_M_lives b_M_lives 3 (some .int) :: wA
abbrev rm_M_lives : Room := { frames := 1, cells := 0, slots := 0, locals := 21 }
abbrev ws_M_full : List Cond := .code y_M_full b_M_full 1 (some .boolean) :: wA
abbrev rm_M_full : Room := { frames := 3, cells := 0, slots := 0, locals := 66 }
abbrev ws_M_is : List Cond := .code y_M_is b_M_is 2 (some .boolean) :: wA
abbrev rm_M_is : Room := { frames := 0, cells := 0, slots := 0, locals := 0 }
abbrev ws_M_active : List Cond := .code y_M_active b_M_active 2 (some .boolean) :: wA
abbrev rm_M_active : Room := { frames := 1, cells := 0, slots := 0, locals := 21 }
abbrev ws_M_above : List Cond := .code y_M_above b_M_above 6 (some .boolean) :: wA
abbrev rm_M_above : Room := { frames := 0, cells := 0, slots := 0, locals := 0 }
abbrev ws_M_busy : List Cond := .code y_M_busy b_M_busy 4 (some .boolean) :: wA
abbrev rm_M_busy : Room := { frames := 1, cells := 0, slots := 0, locals := 21 }
abbrev ws_M_depth : List Cond := .code y_M_depth b_M_depth 5 (some .int) :: wA
abbrev rm_M_depth : Room := { frames := 0, cells := 0, slots := 0, locals := 0 }
abbrev ws_M_begin : List Cond := .code y_M_begin b_M_begin 3 (some .int) :: wA
abbrev rm_M_begin : Room := { frames := 4, cells := 0, slots := 0, locals := 86 }
abbrev ws_M_next : List Cond := .code y_M_next b_M_next 3 (some .int) :: wA
abbrev rm_M_next : Room := { frames := 1, cells := 0, slots := 0, locals := 21 }
abbrev ws_M_want : List Cond := .code y_M_want b_M_want 2 none :: wA
abbrev rm_M_want : Room := { frames := 0, cells := 0, slots := 0, locals := 0 }
abbrev ws_M_needs : List Cond := .code y_M_needs b_M_needs 6 none :: wA
abbrev rm_M_needs : Room := { frames := 2, cells := 0, slots := 0, locals := 43 }
abbrev ws_M_bars : List Cond := .code y_M_bars b_M_bars 6 (some .boolean) :: wA
abbrev rm_M_bars : Room := { frames := 1, cells := 0, slots := 0, locals := 25 }
abbrev ws_M_may : List Cond := .code y_M_may b_M_may 6 (some .boolean) :: wA
abbrev rm_M_may : Room := { frames := 2, cells := 0, slots := 0, locals := 50 }
abbrev ws_M_look : List Cond := .code y_M_look b_M_look 4 none :: wA
abbrev rm_M_look : Room := { frames := 3, cells := 0, slots := 0, locals := 75 }
abbrev ws_M_leads : List Cond := .code y_M_leads b_M_leads 3 (some .boolean) :: wA
abbrev rm_M_leads : Room := { frames := 2, cells := 0, slots := 0, locals := 50 }
abbrev ws_M_victim : List Cond := .code y_M_victim b_M_victim 8 (some .int) :: wA
abbrev rm_M_victim : Room := { frames := 4, cells := 0, slots := 0, locals := 98 }
abbrev ws_M_request : List Cond := .code y_M_request b_M_request 7 (some .int) :: wA
abbrev rm_M_request : Room := { frames := 6, cells := 0, slots := 0, locals := 151 }
abbrev ws_M_scanned : List Cond := .code y_M_scanned b_M_scanned 5 (some .int) :: wA
abbrev rm_M_scanned : Room := { frames := 2, cells := 0, slots := 0, locals := 46 }
abbrev ws_M_stays : List Cond := .code y_M_stays b_M_stays 7 (some .int) :: wA
abbrev rm_M_stays : Room := { frames := 5, cells := 0, slots := 0, locals := 125 }
abbrev ws_M_ask : List Cond := .code y_M_ask b_M_ask 5 (some .int) :: wA
abbrev rm_M_ask : Room := { frames := 7, cells := 0, slots := 0, locals := 177 }
abbrev ws_M_get : List Cond := .code y_M_get b_M_get 3 (some .int) :: wA
abbrev rm_M_get : Room := { frames := 8, cells := 0, slots := 0, locals := 201 }
abbrev ws_M_put : List Cond := .code y_M_put b_M_put 4 (some .int) :: wA
abbrev rm_M_put : Room := { frames := 8, cells := 0, slots := 0, locals := 201 }
abbrev ws_M_delete : List Cond := .code y_M_delete b_M_delete 3 (some .int) :: wA
abbrev rm_M_delete : Room := { frames := 8, cells := 0, slots := 0, locals := 201 }
abbrev ws_M_scan : List Cond := .code y_M_scan b_M_scan 4 (some .int) :: wA
abbrev rm_M_scan : Room := { frames := 8, cells := 0, slots := 0, locals := 201 }
abbrev ws_M_resume : List Cond := .code y_M_resume b_M_resume 2 (some .int) :: wA
abbrev rm_M_resume : Room := { frames := 7, cells := 0, slots := 0, locals := 177 }
abbrev ws_M_value : List Cond := .code y_M_value b_M_value 1 (some .int) :: wA
abbrev rm_M_value : Room := { frames := 0, cells := 0, slots := 0, locals := 0 }
abbrev ws_M_unlock : List Cond := .code y_M_unlock b_M_unlock 3 none :: wA
abbrev rm_M_unlock : Room := { frames := 0, cells := 0, slots := 0, locals := 0 }
abbrev ws_M_commit : List Cond := .code y_M_commit b_M_commit 6 (some .int) :: wA
abbrev rm_M_commit : Room := { frames := 2, cells := 0, slots := 0, locals := 44 }
abbrev ws_M_undoes : List Cond := .code y_M_undoes b_M_undoes 5 (some .int) :: wA
abbrev rm_M_undoes : Room := { frames := 3, cells := 0, slots := 0, locals := 69 }
abbrev ws_M_aborts : List Cond := .code y_M_aborts b_M_aborts 5 (some .int) :: wA
abbrev rm_M_aborts : Room := { frames := 4, cells := 0, slots := 0, locals := 93 }
abbrev ws_M_abort : List Cond := .code y_M_abort b_M_abort 2 (some .int) :: wA
abbrev rm_M_abort : Room := { frames := 5, cells := 0, slots := 0, locals := 117 }
abbrev ws_M_save : List Cond := .code y_M_save b_M_save 2 (some .int) :: wA
abbrev rm_M_save : Room := { frames := 2, cells := 0, slots := 0, locals := 44 }
abbrev ws_M_rollback : List Cond := .code y_M_rollback b_M_rollback 3 (some .int) :: wA
abbrev rm_M_rollback : Room := { frames := 4, cells := 0, slots := 0, locals := 93 }
abbrev ws_M_write : List Cond := .code y_M_write b_M_write 2 (some .boolean) :: wA
abbrev rm_M_write : Room := { frames := 1, cells := 0, slots := 0, locals := 22 }
abbrev ws_M_archive : List Cond := .code y_M_archive b_M_archive 3 (some .int) :: wA
abbrev rm_M_archive : Room := { frames := 2, cells := 0, slots := 0, locals := 43 }
abbrev ws_M_committed : List Cond := .code y_M_committed b_M_committed 4 (some .boolean) :: wA
abbrev rm_M_committed : Room := { frames := 0, cells := 0, slots := 0, locals := 0 }
abbrev ws_M_crash : List Cond := .code y_M_crash b_M_crash 5 (some .int) :: wA
abbrev rm_M_crash : Room := { frames := 3, cells := 0, slots := 0, locals := 69 }
abbrev ws_M_state : List Cond := .code y_M_state b_M_state 2 (some .int) :: wA
abbrev rm_M_state : Room := { frames := 1, cells := 0, slots := 0, locals := 21 }
abbrev ws_M_parent : List Cond := .code y_M_parent b_M_parent 2 (some .int) :: wA
abbrev rm_M_parent : Room := { frames := 1, cells := 0, slots := 0, locals := 21 }
abbrev ws_M_lock : List Cond := .code y_M_lock b_M_lock 3 (some .int) :: wA
abbrev rm_M_lock : Room := { frames := 1, cells := 0, slots := 0, locals := 21 }
abbrev ws_M_waits : List Cond := .code y_M_waits b_M_waits 3 (some .boolean) :: wA
abbrev rm_M_waits : Room := { frames := 4, cells := 0, slots := 0, locals := 98 }
abbrev ws_M_entry : List Cond := .code y_M_entry b_M_entry 4 (some .int) :: wA
abbrev rm_M_entry : Room := { frames := 1, cells := 0, slots := 0, locals := 20 }
abbrev ws_M_log : List Cond := .code y_M_log b_M_log 2 (some .int) :: wA
abbrev rm_M_log : Room := { frames := 3, cells := 0, slots := 0, locals := 66 }
abbrev ws_M_key : List Cond := .code y_M_key b_M_key 3 (some .int) :: wA
abbrev rm_M_key : Room := { frames := 1, cells := 0, slots := 0, locals := 21 }
abbrev ws_M_frame : List Cond := .code y_M_frame b_M_frame 5 (some .int) :: wA
abbrev rm_M_frame : Room := { frames := 0, cells := 0, slots := 0, locals := 0 }
abbrev ws_M_page : List Cond := .code y_M_page b_M_page 2 (some .int) :: wA
abbrev rm_M_page : Room := { frames := 1, cells := 0, slots := 0, locals := 21 }
end
section
abbrev S_N : Type := Int32
abbrev N_latestValue (s : S_N) : Int32 := s
abbrev N_latestValue' (s : S_N) (v : Int32) : S_N := v
abbrev S_T : Type := Int32 × (Nat → Int32) × (Nat → Int32) × (Nat → Int32) × (Nat → Int32) × (Nat → Int32) × (Nat → Int64) × (Nat → Int32) × (Nat → Int32) × (Nat → Int32) × (Nat → Int32)
abbrev T_count (s : S_T) : Int32 := s.1
abbrev T_count' (s : S_T) (v : Int32) : S_T := (v, s.2.1, s.2.2.1, s.2.2.2.1, s.2.2.2.2.1, s.2.2.2.2.2.1, s.2.2.2.2.2.2.1, s.2.2.2.2.2.2.2.1, s.2.2.2.2.2.2.2.2.1, s.2.2.2.2.2.2.2.2.2.1, s.2.2.2.2.2.2.2.2.2.2)
abbrev T_parent (s : S_T) : Nat → Int32 := s.2.1
abbrev T_parent' (s : S_T) (v : Nat → Int32) : S_T := (s.1, v, s.2.2.1, s.2.2.2.1, s.2.2.2.2.1, s.2.2.2.2.2.1, s.2.2.2.2.2.2.1, s.2.2.2.2.2.2.2.1, s.2.2.2.2.2.2.2.2.1, s.2.2.2.2.2.2.2.2.2.1, s.2.2.2.2.2.2.2.2.2.2)
abbrev T_top (s : S_T) : Nat → Int32 := s.2.2.1
abbrev T_top' (s : S_T) (v : Nat → Int32) : S_T := (s.1, s.2.1, v, s.2.2.2.1, s.2.2.2.2.1, s.2.2.2.2.2.1, s.2.2.2.2.2.2.1, s.2.2.2.2.2.2.2.1, s.2.2.2.2.2.2.2.2.1, s.2.2.2.2.2.2.2.2.2.1, s.2.2.2.2.2.2.2.2.2.2)
abbrev T_depth (s : S_T) : Nat → Int32 := s.2.2.2.1
abbrev T_depth' (s : S_T) (v : Nat → Int32) : S_T := (s.1, s.2.1, s.2.2.1, v, s.2.2.2.2.1, s.2.2.2.2.2.1, s.2.2.2.2.2.2.1, s.2.2.2.2.2.2.2.1, s.2.2.2.2.2.2.2.2.1, s.2.2.2.2.2.2.2.2.2.1, s.2.2.2.2.2.2.2.2.2.2)
abbrev T_state (s : S_T) : Nat → Int32 := s.2.2.2.2.1
abbrev T_state' (s : S_T) (v : Nat → Int32) : S_T := (s.1, s.2.1, s.2.2.1, s.2.2.2.1, v, s.2.2.2.2.2.1, s.2.2.2.2.2.2.1, s.2.2.2.2.2.2.2.1, s.2.2.2.2.2.2.2.2.1, s.2.2.2.2.2.2.2.2.2.1, s.2.2.2.2.2.2.2.2.2.2)
abbrev T_begun (s : S_T) : Nat → Int32 := s.2.2.2.2.2.1
abbrev T_begun' (s : S_T) (v : Nat → Int32) : S_T := (s.1, s.2.1, s.2.2.1, s.2.2.2.1, s.2.2.2.2.1, v, s.2.2.2.2.2.2.1, s.2.2.2.2.2.2.2.1, s.2.2.2.2.2.2.2.2.1, s.2.2.2.2.2.2.2.2.2.1, s.2.2.2.2.2.2.2.2.2.2)
abbrev T_lineage (s : S_T) : Nat → Int64 := s.2.2.2.2.2.2.1
abbrev T_lineage' (s : S_T) (v : Nat → Int64) : S_T := (s.1, s.2.1, s.2.2.1, s.2.2.2.1, s.2.2.2.2.1, s.2.2.2.2.2.1, v, s.2.2.2.2.2.2.2.1, s.2.2.2.2.2.2.2.2.1, s.2.2.2.2.2.2.2.2.2.1, s.2.2.2.2.2.2.2.2.2.2)
abbrev T_kind (s : S_T) : Nat → Int32 := s.2.2.2.2.2.2.2.1
abbrev T_kind' (s : S_T) (v : Nat → Int32) : S_T := (s.1, s.2.1, s.2.2.1, s.2.2.2.1, s.2.2.2.2.1, s.2.2.2.2.2.1, s.2.2.2.2.2.2.1, v, s.2.2.2.2.2.2.2.2.1, s.2.2.2.2.2.2.2.2.2.1, s.2.2.2.2.2.2.2.2.2.2)
abbrev T_low (s : S_T) : Nat → Int32 := s.2.2.2.2.2.2.2.2.1
abbrev T_low' (s : S_T) (v : Nat → Int32) : S_T := (s.1, s.2.1, s.2.2.1, s.2.2.2.1, s.2.2.2.2.1, s.2.2.2.2.2.1, s.2.2.2.2.2.2.1, s.2.2.2.2.2.2.2.1, v, s.2.2.2.2.2.2.2.2.2.1, s.2.2.2.2.2.2.2.2.2.2)
abbrev T_high (s : S_T) : Nat → Int32 := s.2.2.2.2.2.2.2.2.2.1
abbrev T_high' (s : S_T) (v : Nat → Int32) : S_T := (s.1, s.2.1, s.2.2.1, s.2.2.2.1, s.2.2.2.2.1, s.2.2.2.2.2.1, s.2.2.2.2.2.2.1, s.2.2.2.2.2.2.2.1, s.2.2.2.2.2.2.2.2.1, v, s.2.2.2.2.2.2.2.2.2.2)
abbrev T_newValue (s : S_T) : Nat → Int32 := s.2.2.2.2.2.2.2.2.2.2
abbrev T_newValue' (s : S_T) (v : Nat → Int32) : S_T := (s.1, s.2.1, s.2.2.1, s.2.2.2.1, s.2.2.2.2.1, s.2.2.2.2.2.1, s.2.2.2.2.2.2.1, s.2.2.2.2.2.2.2.1, s.2.2.2.2.2.2.2.2.1, s.2.2.2.2.2.2.2.2.2.1, v)
abbrev S_K : Type := (Nat → Int64) × (Nat → Int64)
abbrev K_shared (s : S_K) : Nat → Int64 := s.1
abbrev K_shared' (s : S_K) (v : Nat → Int64) : S_K := (v, s.2)
abbrev K_exclusive (s : S_K) : Nat → Int64 := s.2
abbrev K_exclusive' (s : S_K) (v : Nat → Int64) : S_K := (s.1, v)
abbrev S_P : Type := Int32 × Int32 × (Nat → Int32)
abbrev P_mode (s : S_P) : Int32 := s.1
abbrev P_mode' (s : S_P) (v : Int32) : S_P := (v, s.2.1, s.2.2)
abbrev P_size (s : S_P) : Int32 := s.2.1
abbrev P_size' (s : S_P) (v : Int32) : S_P := (s.1, v, s.2.2)
abbrev P_items (s : S_P) : Nat → Int32 := s.2.2
abbrev P_items' (s : S_P) (v : Nat → Int32) : S_P := (s.1, s.2.1, v)
abbrev S_D : Type := (Nat → Int64)
abbrev D_from (s : S_D) : Nat → Int64 := s
abbrev D_from' (s : S_D) (v : Nat → Int64) : S_D := v
abbrev S_G : Type := Int32 × Int32 × Int32 × (Nat → Int32) × (Nat → Int32) × (Nat → Int32) × (Nat → Int32) × (Nat → Int32) × (Nat → Int32) × (Nat → Int32) × (Nat → Int32) × (Nat → Int32)
abbrev G_base (s : S_G) : Int32 := s.1
abbrev G_base' (s : S_G) (v : Int32) : S_G := (v, s.2.1, s.2.2.1, s.2.2.2.1, s.2.2.2.2.1, s.2.2.2.2.2.1, s.2.2.2.2.2.2.1, s.2.2.2.2.2.2.2.1, s.2.2.2.2.2.2.2.2.1, s.2.2.2.2.2.2.2.2.2.1, s.2.2.2.2.2.2.2.2.2.2.1, s.2.2.2.2.2.2.2.2.2.2.2)
abbrev G_size (s : S_G) : Int32 := s.2.1
abbrev G_size' (s : S_G) (v : Int32) : S_G := (s.1, v, s.2.2.1, s.2.2.2.1, s.2.2.2.2.1, s.2.2.2.2.2.1, s.2.2.2.2.2.2.1, s.2.2.2.2.2.2.2.1, s.2.2.2.2.2.2.2.2.1, s.2.2.2.2.2.2.2.2.2.1, s.2.2.2.2.2.2.2.2.2.2.1, s.2.2.2.2.2.2.2.2.2.2.2)
abbrev G_flushed (s : S_G) : Int32 := s.2.2.1
abbrev G_flushed' (s : S_G) (v : Int32) : S_G := (s.1, s.2.1, v, s.2.2.2.1, s.2.2.2.2.1, s.2.2.2.2.2.1, s.2.2.2.2.2.2.1, s.2.2.2.2.2.2.2.1, s.2.2.2.2.2.2.2.2.1, s.2.2.2.2.2.2.2.2.2.1, s.2.2.2.2.2.2.2.2.2.2.1, s.2.2.2.2.2.2.2.2.2.2.2)
abbrev G_kind (s : S_G) : Nat → Int32 := s.2.2.2.1
abbrev G_kind' (s : S_G) (v : Nat → Int32) : S_G := (s.1, s.2.1, s.2.2.1, v, s.2.2.2.2.1, s.2.2.2.2.2.1, s.2.2.2.2.2.2.1, s.2.2.2.2.2.2.2.1, s.2.2.2.2.2.2.2.2.1, s.2.2.2.2.2.2.2.2.2.1, s.2.2.2.2.2.2.2.2.2.2.1, s.2.2.2.2.2.2.2.2.2.2.2)
abbrev G_transaction (s : S_G) : Nat → Int32 := s.2.2.2.2.1
abbrev G_transaction' (s : S_G) (v : Nat → Int32) : S_G := (s.1, s.2.1, s.2.2.1, s.2.2.2.1, v, s.2.2.2.2.2.1, s.2.2.2.2.2.2.1, s.2.2.2.2.2.2.2.1, s.2.2.2.2.2.2.2.2.1, s.2.2.2.2.2.2.2.2.2.1, s.2.2.2.2.2.2.2.2.2.2.1, s.2.2.2.2.2.2.2.2.2.2.2)
abbrev G_subject (s : S_G) : Nat → Int32 := s.2.2.2.2.2.1
abbrev G_subject' (s : S_G) (v : Nat → Int32) : S_G := (s.1, s.2.1, s.2.2.1, s.2.2.2.1, s.2.2.2.2.1, v, s.2.2.2.2.2.2.1, s.2.2.2.2.2.2.2.1, s.2.2.2.2.2.2.2.2.1, s.2.2.2.2.2.2.2.2.2.1, s.2.2.2.2.2.2.2.2.2.2.1, s.2.2.2.2.2.2.2.2.2.2.2)
abbrev G_wasThere (s : S_G) : Nat → Int32 := s.2.2.2.2.2.2.1
abbrev G_wasThere' (s : S_G) (v : Nat → Int32) : S_G := (s.1, s.2.1, s.2.2.1, s.2.2.2.1, s.2.2.2.2.1, s.2.2.2.2.2.1, v, s.2.2.2.2.2.2.2.1, s.2.2.2.2.2.2.2.2.1, s.2.2.2.2.2.2.2.2.2.1, s.2.2.2.2.2.2.2.2.2.2.1, s.2.2.2.2.2.2.2.2.2.2.2)
abbrev G_oldValue (s : S_G) : Nat → Int32 := s.2.2.2.2.2.2.2.1
abbrev G_oldValue' (s : S_G) (v : Nat → Int32) : S_G := (s.1, s.2.1, s.2.2.1, s.2.2.2.1, s.2.2.2.2.1, s.2.2.2.2.2.1, s.2.2.2.2.2.2.1, v, s.2.2.2.2.2.2.2.2.1, s.2.2.2.2.2.2.2.2.2.1, s.2.2.2.2.2.2.2.2.2.2.1, s.2.2.2.2.2.2.2.2.2.2.2)
abbrev G_isThere (s : S_G) : Nat → Int32 := s.2.2.2.2.2.2.2.2.1
abbrev G_isThere' (s : S_G) (v : Nat → Int32) : S_G := (s.1, s.2.1, s.2.2.1, s.2.2.2.1, s.2.2.2.2.1, s.2.2.2.2.2.1, s.2.2.2.2.2.2.1, s.2.2.2.2.2.2.2.1, v, s.2.2.2.2.2.2.2.2.2.1, s.2.2.2.2.2.2.2.2.2.2.1, s.2.2.2.2.2.2.2.2.2.2.2)
abbrev G_newValue (s : S_G) : Nat → Int32 := s.2.2.2.2.2.2.2.2.2.1
abbrev G_newValue' (s : S_G) (v : Nat → Int32) : S_G := (s.1, s.2.1, s.2.2.1, s.2.2.2.1, s.2.2.2.2.1, s.2.2.2.2.2.1, s.2.2.2.2.2.2.1, s.2.2.2.2.2.2.2.1, s.2.2.2.2.2.2.2.2.1, v, s.2.2.2.2.2.2.2.2.2.2.1, s.2.2.2.2.2.2.2.2.2.2.2)
abbrev G_undoes (s : S_G) : Nat → Int32 := s.2.2.2.2.2.2.2.2.2.2.1
abbrev G_undoes' (s : S_G) (v : Nat → Int32) : S_G := (s.1, s.2.1, s.2.2.1, s.2.2.2.1, s.2.2.2.2.1, s.2.2.2.2.2.1, s.2.2.2.2.2.2.1, s.2.2.2.2.2.2.2.1, s.2.2.2.2.2.2.2.2.1, s.2.2.2.2.2.2.2.2.2.1, v, s.2.2.2.2.2.2.2.2.2.2.2)
abbrev G_undone (s : S_G) : Nat → Int32 := s.2.2.2.2.2.2.2.2.2.2.2
abbrev G_undone' (s : S_G) (v : Nat → Int32) : S_G := (s.1, s.2.1, s.2.2.1, s.2.2.2.1, s.2.2.2.2.1, s.2.2.2.2.2.1, s.2.2.2.2.2.2.1, s.2.2.2.2.2.2.2.1, s.2.2.2.2.2.2.2.2.1, s.2.2.2.2.2.2.2.2.2.1, s.2.2.2.2.2.2.2.2.2.2.1, v)
abbrev S_A : Type := Int32 × Int32 × (Nat → Int32) × (Nat → Int32) × (Nat → Int32) × (Nat → Int32) × (Nat → Int32) × (Nat → Int32) × (Nat → Int32) × (Nat → Int32)
abbrev A_frames (s : S_A) : Int32 := s.1
abbrev A_frames' (s : S_A) (v : Int32) : S_A := (v, s.2.1, s.2.2.1, s.2.2.2.1, s.2.2.2.2.1, s.2.2.2.2.2.1, s.2.2.2.2.2.2.1, s.2.2.2.2.2.2.2.1, s.2.2.2.2.2.2.2.2.1, s.2.2.2.2.2.2.2.2.2)
abbrev A_framesInUse (s : S_A) : Int32 := s.2.1
abbrev A_framesInUse' (s : S_A) (v : Int32) : S_A := (s.1, v, s.2.2.1, s.2.2.2.1, s.2.2.2.2.1, s.2.2.2.2.2.1, s.2.2.2.2.2.2.1, s.2.2.2.2.2.2.2.1, s.2.2.2.2.2.2.2.2.1, s.2.2.2.2.2.2.2.2.2)
abbrev A_byTouch (s : S_A) : Nat → Int32 := s.2.2.1
abbrev A_byTouch' (s : S_A) (v : Nat → Int32) : S_A := (s.1, s.2.1, v, s.2.2.2.1, s.2.2.2.2.1, s.2.2.2.2.2.1, s.2.2.2.2.2.2.1, s.2.2.2.2.2.2.2.1, s.2.2.2.2.2.2.2.2.1, s.2.2.2.2.2.2.2.2.2)
abbrev A_dirty (s : S_A) : Nat → Int32 := s.2.2.2.1
abbrev A_dirty' (s : S_A) (v : Nat → Int32) : S_A := (s.1, s.2.1, s.2.2.1, v, s.2.2.2.2.1, s.2.2.2.2.2.1, s.2.2.2.2.2.2.1, s.2.2.2.2.2.2.2.1, s.2.2.2.2.2.2.2.2.1, s.2.2.2.2.2.2.2.2.2)
abbrev A_lsn (s : S_A) : Nat → Int32 := s.2.2.2.2.1
abbrev A_lsn' (s : S_A) (v : Nat → Int32) : S_A := (s.1, s.2.1, s.2.2.1, s.2.2.2.1, v, s.2.2.2.2.2.1, s.2.2.2.2.2.2.1, s.2.2.2.2.2.2.2.1, s.2.2.2.2.2.2.2.2.1, s.2.2.2.2.2.2.2.2.2)
abbrev A_there (s : S_A) : Nat → Int32 := s.2.2.2.2.2.1
abbrev A_there' (s : S_A) (v : Nat → Int32) : S_A := (s.1, s.2.1, s.2.2.1, s.2.2.2.1, s.2.2.2.2.1, v, s.2.2.2.2.2.2.1, s.2.2.2.2.2.2.2.1, s.2.2.2.2.2.2.2.2.1, s.2.2.2.2.2.2.2.2.2)
abbrev A_value (s : S_A) : Nat → Int32 := s.2.2.2.2.2.2.1
abbrev A_value' (s : S_A) (v : Nat → Int32) : S_A := (s.1, s.2.1, s.2.2.1, s.2.2.2.1, s.2.2.2.2.1, s.2.2.2.2.2.1, v, s.2.2.2.2.2.2.2.1, s.2.2.2.2.2.2.2.2.1, s.2.2.2.2.2.2.2.2.2)
abbrev A_diskLsn (s : S_A) : Nat → Int32 := s.2.2.2.2.2.2.2.1
abbrev A_diskLsn' (s : S_A) (v : Nat → Int32) : S_A := (s.1, s.2.1, s.2.2.1, s.2.2.2.1, s.2.2.2.2.1, s.2.2.2.2.2.1, s.2.2.2.2.2.2.1, v, s.2.2.2.2.2.2.2.2.1, s.2.2.2.2.2.2.2.2.2)
abbrev A_diskThere (s : S_A) : Nat → Int32 := s.2.2.2.2.2.2.2.2.1
abbrev A_diskThere' (s : S_A) (v : Nat → Int32) : S_A := (s.1, s.2.1, s.2.2.1, s.2.2.2.1, s.2.2.2.2.1, s.2.2.2.2.2.1, s.2.2.2.2.2.2.1, s.2.2.2.2.2.2.2.1, v, s.2.2.2.2.2.2.2.2.2)
abbrev A_diskValue (s : S_A) : Nat → Int32 := s.2.2.2.2.2.2.2.2.2
abbrev A_diskValue' (s : S_A) (v : Nat → Int32) : S_A := (s.1, s.2.1, s.2.2.1, s.2.2.2.1, s.2.2.2.2.1, s.2.2.2.2.2.1, s.2.2.2.2.2.2.1, s.2.2.2.2.2.2.2.1, s.2.2.2.2.2.2.2.2.1, v)
abbrev S_MA : Type := Int32 × (Nat → Int32) × (Nat → Int32) × (Nat → Int32) × (Nat → Int32) × (Nat → Int32) × (Nat → Int32) × Int32
abbrev MA_frames (s : S_MA) : Int32 := s.1
abbrev MA_frames' (s : S_MA) (v : Int32) : S_MA := (v, s.2.1, s.2.2.1, s.2.2.2.1, s.2.2.2.2.1, s.2.2.2.2.2.1, s.2.2.2.2.2.2.1, s.2.2.2.2.2.2.2)
abbrev MA_there (s : S_MA) : Nat → Int32 := s.2.1
abbrev MA_there' (s : S_MA) (v : Nat → Int32) : S_MA := (s.1, v, s.2.2.1, s.2.2.2.1, s.2.2.2.2.1, s.2.2.2.2.2.1, s.2.2.2.2.2.2.1, s.2.2.2.2.2.2.2)
abbrev MA_value (s : S_MA) : Nat → Int32 := s.2.2.1
abbrev MA_value' (s : S_MA) (v : Nat → Int32) : S_MA := (s.1, s.2.1, v, s.2.2.2.1, s.2.2.2.2.1, s.2.2.2.2.2.1, s.2.2.2.2.2.2.1, s.2.2.2.2.2.2.2)
abbrev MA_lsn (s : S_MA) : Nat → Int32 := s.2.2.2.1
abbrev MA_lsn' (s : S_MA) (v : Nat → Int32) : S_MA := (s.1, s.2.1, s.2.2.1, v, s.2.2.2.2.1, s.2.2.2.2.2.1, s.2.2.2.2.2.2.1, s.2.2.2.2.2.2.2)
abbrev MA_inFrame (s : S_MA) : Nat → Int32 := s.2.2.2.2.1
abbrev MA_inFrame' (s : S_MA) (v : Nat → Int32) : S_MA := (s.1, s.2.1, s.2.2.1, s.2.2.2.1, v, s.2.2.2.2.2.1, s.2.2.2.2.2.2.1, s.2.2.2.2.2.2.2)
abbrev MA_dirty (s : S_MA) : Nat → Int32 := s.2.2.2.2.2.1
abbrev MA_dirty' (s : S_MA) (v : Nat → Int32) : S_MA := (s.1, s.2.1, s.2.2.1, s.2.2.2.1, s.2.2.2.2.1, v, s.2.2.2.2.2.2.1, s.2.2.2.2.2.2.2)
abbrev MA_touched (s : S_MA) : Nat → Int32 := s.2.2.2.2.2.2.1
abbrev MA_touched' (s : S_MA) (v : Nat → Int32) : S_MA := (s.1, s.2.1, s.2.2.1, s.2.2.2.1, s.2.2.2.2.1, s.2.2.2.2.2.1, v, s.2.2.2.2.2.2.2)
abbrev MA_clock (s : S_MA) : Int32 := s.2.2.2.2.2.2.2
abbrev MA_clock' (s : S_MA) (v : Int32) : S_MA := (s.1, s.2.1, s.2.2.1, s.2.2.2.1, s.2.2.2.2.1, s.2.2.2.2.2.1, s.2.2.2.2.2.2.1, v)
abbrev S_MD : Type := (Nat → Int32) × (Nat → Int32) × (Nat → Int32)
abbrev MD_diskThere (s : S_MD) : Nat → Int32 := s.1
abbrev MD_diskThere' (s : S_MD) (v : Nat → Int32) : S_MD := (v, s.2.1, s.2.2)
abbrev MD_diskValue (s : S_MD) : Nat → Int32 := s.2.1
abbrev MD_diskValue' (s : S_MD) (v : Nat → Int32) : S_MD := (s.1, v, s.2.2)
abbrev MD_diskLsn (s : S_MD) : Nat → Int32 := s.2.2
abbrev MD_diskLsn' (s : S_MD) (v : Nat → Int32) : S_MD := (s.1, s.2.1, v)
abbrev S_MG : Type := Int32 × Int32 × Int32 × (Nat → Int32) × (Nat → Int32) × (Nat → Int32) × (Nat → Int32) × (Nat → Int32) × (Nat → Int32) × (Nat → Int32) × (Nat → Int32)
abbrev MG_base (s : S_MG) : Int32 := s.1
abbrev MG_base' (s : S_MG) (v : Int32) : S_MG := (v, s.2.1, s.2.2.1, s.2.2.2.1, s.2.2.2.2.1, s.2.2.2.2.2.1, s.2.2.2.2.2.2.1, s.2.2.2.2.2.2.2.1, s.2.2.2.2.2.2.2.2.1, s.2.2.2.2.2.2.2.2.2.1, s.2.2.2.2.2.2.2.2.2.2)
abbrev MG_records (s : S_MG) : Int32 := s.2.1
abbrev MG_records' (s : S_MG) (v : Int32) : S_MG := (s.1, v, s.2.2.1, s.2.2.2.1, s.2.2.2.2.1, s.2.2.2.2.2.1, s.2.2.2.2.2.2.1, s.2.2.2.2.2.2.2.1, s.2.2.2.2.2.2.2.2.1, s.2.2.2.2.2.2.2.2.2.1, s.2.2.2.2.2.2.2.2.2.2)
abbrev MG_flushed (s : S_MG) : Int32 := s.2.2.1
abbrev MG_flushed' (s : S_MG) (v : Int32) : S_MG := (s.1, s.2.1, v, s.2.2.2.1, s.2.2.2.2.1, s.2.2.2.2.2.1, s.2.2.2.2.2.2.1, s.2.2.2.2.2.2.2.1, s.2.2.2.2.2.2.2.2.1, s.2.2.2.2.2.2.2.2.2.1, s.2.2.2.2.2.2.2.2.2.2)
abbrev MG_kind (s : S_MG) : Nat → Int32 := s.2.2.2.1
abbrev MG_kind' (s : S_MG) (v : Nat → Int32) : S_MG := (s.1, s.2.1, s.2.2.1, v, s.2.2.2.2.1, s.2.2.2.2.2.1, s.2.2.2.2.2.2.1, s.2.2.2.2.2.2.2.1, s.2.2.2.2.2.2.2.2.1, s.2.2.2.2.2.2.2.2.2.1, s.2.2.2.2.2.2.2.2.2.2)
abbrev MG_by (s : S_MG) : Nat → Int32 := s.2.2.2.2.1
abbrev MG_by' (s : S_MG) (v : Nat → Int32) : S_MG := (s.1, s.2.1, s.2.2.1, s.2.2.2.1, v, s.2.2.2.2.2.1, s.2.2.2.2.2.2.1, s.2.2.2.2.2.2.2.1, s.2.2.2.2.2.2.2.2.1, s.2.2.2.2.2.2.2.2.2.1, s.2.2.2.2.2.2.2.2.2.2)
abbrev MG_about (s : S_MG) : Nat → Int32 := s.2.2.2.2.2.1
abbrev MG_about' (s : S_MG) (v : Nat → Int32) : S_MG := (s.1, s.2.1, s.2.2.1, s.2.2.2.1, s.2.2.2.2.1, v, s.2.2.2.2.2.2.1, s.2.2.2.2.2.2.2.1, s.2.2.2.2.2.2.2.2.1, s.2.2.2.2.2.2.2.2.2.1, s.2.2.2.2.2.2.2.2.2.2)
abbrev MG_of (s : S_MG) : Nat → Int32 := s.2.2.2.2.2.2.1
abbrev MG_of' (s : S_MG) (v : Nat → Int32) : S_MG := (s.1, s.2.1, s.2.2.1, s.2.2.2.1, s.2.2.2.2.1, s.2.2.2.2.2.1, v, s.2.2.2.2.2.2.2.1, s.2.2.2.2.2.2.2.2.1, s.2.2.2.2.2.2.2.2.2.1, s.2.2.2.2.2.2.2.2.2.2)
abbrev MG_wasThere (s : S_MG) : Nat → Int32 := s.2.2.2.2.2.2.2.1
abbrev MG_wasThere' (s : S_MG) (v : Nat → Int32) : S_MG := (s.1, s.2.1, s.2.2.1, s.2.2.2.1, s.2.2.2.2.1, s.2.2.2.2.2.1, s.2.2.2.2.2.2.1, v, s.2.2.2.2.2.2.2.2.1, s.2.2.2.2.2.2.2.2.2.1, s.2.2.2.2.2.2.2.2.2.2)
abbrev MG_wasValue (s : S_MG) : Nat → Int32 := s.2.2.2.2.2.2.2.2.1
abbrev MG_wasValue' (s : S_MG) (v : Nat → Int32) : S_MG := (s.1, s.2.1, s.2.2.1, s.2.2.2.1, s.2.2.2.2.1, s.2.2.2.2.2.1, s.2.2.2.2.2.2.1, s.2.2.2.2.2.2.2.1, v, s.2.2.2.2.2.2.2.2.2.1, s.2.2.2.2.2.2.2.2.2.2)
abbrev MG_isThere (s : S_MG) : Nat → Int32 := s.2.2.2.2.2.2.2.2.2.1
abbrev MG_isThere' (s : S_MG) (v : Nat → Int32) : S_MG := (s.1, s.2.1, s.2.2.1, s.2.2.2.1, s.2.2.2.2.1, s.2.2.2.2.2.1, s.2.2.2.2.2.2.1, s.2.2.2.2.2.2.2.1, s.2.2.2.2.2.2.2.2.1, v, s.2.2.2.2.2.2.2.2.2.2)
abbrev MG_isValue (s : S_MG) : Nat → Int32 := s.2.2.2.2.2.2.2.2.2.2
abbrev MG_isValue' (s : S_MG) (v : Nat → Int32) : S_MG := (s.1, s.2.1, s.2.2.1, s.2.2.2.1, s.2.2.2.2.1, s.2.2.2.2.2.1, s.2.2.2.2.2.2.1, s.2.2.2.2.2.2.2.1, s.2.2.2.2.2.2.2.2.1, s.2.2.2.2.2.2.2.2.2.1, v)
abbrev S_MT : Type := Int32 × (Nat → Int32) × (Nat → Int32) × (Nat → Int32) × (Nat → Int32) × (Nat → Int32) × (Nat → Int32)
abbrev MT_many (s : S_MT) : Int32 := s.1
abbrev MT_many' (s : S_MT) (v : Int32) : S_MT := (v, s.2.1, s.2.2.1, s.2.2.2.1, s.2.2.2.2.1, s.2.2.2.2.2.1, s.2.2.2.2.2.2)
abbrev MT_state (s : S_MT) : Nat → Int32 := s.2.1
abbrev MT_state' (s : S_MT) (v : Nat → Int32) : S_MT := (s.1, v, s.2.2.1, s.2.2.2.1, s.2.2.2.2.1, s.2.2.2.2.2.1, s.2.2.2.2.2.2)
abbrev MT_parent (s : S_MT) : Nat → Int32 := s.2.2.1
abbrev MT_parent' (s : S_MT) (v : Nat → Int32) : S_MT := (s.1, s.2.1, v, s.2.2.2.1, s.2.2.2.2.1, s.2.2.2.2.2.1, s.2.2.2.2.2.2)
abbrev MT_began (s : S_MT) : Nat → Int32 := s.2.2.2.1
abbrev MT_began' (s : S_MT) (v : Nat → Int32) : S_MT := (s.1, s.2.1, s.2.2.1, v, s.2.2.2.2.1, s.2.2.2.2.2.1, s.2.2.2.2.2.2)
abbrev MT_asks (s : S_MT) : Nat → Int32 := s.2.2.2.2.1
abbrev MT_asks' (s : S_MT) (v : Nat → Int32) : S_MT := (s.1, s.2.1, s.2.2.1, s.2.2.2.1, v, s.2.2.2.2.2.1, s.2.2.2.2.2.2)
abbrev MT_first (s : S_MT) : Nat → Int32 := s.2.2.2.2.2.1
abbrev MT_first' (s : S_MT) (v : Nat → Int32) : S_MT := (s.1, s.2.1, s.2.2.1, s.2.2.2.1, s.2.2.2.2.1, v, s.2.2.2.2.2.2)
abbrev MT_second (s : S_MT) : Nat → Int32 := s.2.2.2.2.2.2
abbrev MT_second' (s : S_MT) (v : Nat → Int32) : S_MT := (s.1, s.2.1, s.2.2.1, s.2.2.2.1, s.2.2.2.2.1, s.2.2.2.2.2.1, v)
abbrev S_ML : Type := (Nat → Int32)
abbrev ML_locks (s : S_ML) : Nat → Int32 := s
abbrev ML_locks' (s : S_ML) (v : Nat → Int32) : S_ML := v
abbrev S_MP : Type := Int32 × (Nat → Int32) × Int32
abbrev MP_wanted (s : S_MP) : Int32 := s.1
abbrev MP_wanted' (s : S_MP) (v : Int32) : S_MP := (v, s.2.1, s.2.2)
abbrev MP_item (s : S_MP) : Nat → Int32 := s.2.1
abbrev MP_item' (s : S_MP) (v : Nat → Int32) : S_MP := (s.1, v, s.2.2)
abbrev MP_mode (s : S_MP) : Int32 := s.2.2
abbrev MP_mode' (s : S_MP) (v : Int32) : S_MP := (s.1, s.2.1, v)
abbrev S_MV : Type := (Nat → Int32) × (Nat → Int32) × (Nat → Int32) × (Nat → Int32)
abbrev MV_lacks (s : S_MV) : Nat → Int32 := s.1
abbrev MV_lacks' (s : S_MV) (v : Nat → Int32) : S_MV := (v, s.2.1, s.2.2.1, s.2.2.2)
abbrev MV_lackMode (s : S_MV) : Nat → Int32 := s.2.1
abbrev MV_lackMode' (s : S_MV) (v : Nat → Int32) : S_MV := (s.1, v, s.2.2.1, s.2.2.2)
abbrev MV_ahead (s : S_MV) : Nat → Int32 := s.2.2.1
abbrev MV_ahead' (s : S_MV) (v : Nat → Int32) : S_MV := (s.1, s.2.1, v, s.2.2.2)
abbrev MV_back (s : S_MV) : Nat → Int32 := s.2.2.2
abbrev MV_back' (s : S_MV) (v : Nat → Int32) : S_MV := (s.1, s.2.1, s.2.2.1, v)
abbrev S_MF : Type := (Nat → Int32)
abbrev MF_falls (s : S_MF) : Nat → Int32 := s
abbrev MF_falls' (s : S_MF) (v : Nat → Int32) : S_MF := v
abbrev S_MN : Type := Int32
abbrev MN_latest (s : S_MN) : Int32 := s
abbrev MN_latest' (s : S_MN) (v : Int32) : S_MN := v
def jn {α : Type} (t : α → Prop) (k : α) : Prop := t k
theorem jn_split {α : Type} {t : α → Prop} {k : α} {C : Prop} (h : jn t k) (f : ∀ jk : α, jk = k → t jk → C) : C := f k rfl h
theorem nb_ok {v : Int32} (h : vp_nar .boolean v = v) : narrow .boolean (.int v) = .int v := by
  rw [show narrow .boolean (.int v) = .int (vp_nar .boolean v) from rfl, h]
theorem jn_in {α : Type} {t : α → Prop} {k : α} (P : α → Prop) (hk : P k) (ht : ∀ jk, P jk → t jk) : jn t k := ht k hk
theorem jn_intro {α : Type} {t : α → Prop} {k : α} (h : t k) : jn t k := h
theorem i10 (a b : Prop) : (if (1 : Int32) = 0 then a else b) = b := if_neg (by decide)
theorem i00 (a b : Prop) : (if (0 : Int32) = 0 then a else b) = a := if_pos rfl
theorem ite_iff' {p q : Prop} [dp : Decidable p] [dq : Decidable q] {a b : Prop} (e : p ↔ q) : (if p then a else b) = (if q then a else b) := by
  by_cases h : p
  · rw [if_pos h, if_pos (e.mp h)]
  · rw [if_neg h, if_neg (fun z => h (e.mpr z))]
end
section
abbrev nN : Nat := 38
def aN (q : Nat → Nat) : Nat → Prop := fun x => ∃ k, k < nN ∧ x = q k
def iN (q : Nat → Nat) : Prop := ∀ i j, i < nN → j < nN → q i = q j → i = j
def wN (cI cL cZ : ClassId) (q : Nat → Nat) (A : S_A) (D : S_D) (G : S_G) (K : S_K) (N : S_N) (P : S_P) (T : S_T) : va_W :=
  [(q 0, .inr (0, [.ref (q 1), .ref (q 2), .ref (q 3), .ref (q 4), .ref (q 5), .ref (q 6), .int (N_latestValue N)])),
   (q 1, .inr (1, [.int (T_count T), .ref (q 7), .ref (q 8), .ref (q 9), .ref (q 10), .ref (q 11), .ref (q 12), .ref (q 13), .ref (q 14), .ref (q 15), .ref (q 16)])),
   (q 2, .inr (2, [.ref (q 17), .ref (q 18)])),
   (q 3, .inr (3, [.int (P_mode P), .int (P_size P), .ref (q 19)])),
   (q 4, .inr (4, [.ref (q 20)])),
   (q 5, .inr (5, [.int (G_base G), .int (G_size G), .int (G_flushed G), .ref (q 21), .ref (q 22), .ref (q 23), .ref (q 24), .ref (q 25), .ref (q 26), .ref (q 27), .ref (q 28), .ref (q 29)])),
   (q 6, .inr (6, [.int (A_frames A), .int (A_framesInUse A), .ref (q 30), .ref (q 31), .ref (q 32), .ref (q 33), .ref (q 34), .ref (q 35), .ref (q 36), .ref (q 37)])),
   (q 7, .inl (cI, 60, .inl (T_parent T))),
   (q 8, .inl (cI, 60, .inl (T_top T))),
   (q 9, .inl (cI, 60, .inl (T_depth T))),
   (q 10, .inl (cI, 60, .inl (T_state T))),
   (q 11, .inl (cI, 60, .inl (T_begun T))),
   (q 12, .inl (cL, 60, .inr (.inl (T_lineage T)))),
   (q 13, .inl (cI, 60, .inl (T_kind T))),
   (q 14, .inl (cI, 60, .inl (T_low T))),
   (q 15, .inl (cI, 60, .inl (T_high T))),
   (q 16, .inl (cI, 60, .inl (T_newValue T))),
   (q 17, .inl (cL, 33, .inr (.inl (K_shared K)))),
   (q 18, .inl (cL, 33, .inr (.inl (K_exclusive K)))),
   (q 19, .inl (cI, 33, .inl (P_items P))),
   (q 20, .inl (cL, 60, .inr (.inl (D_from D)))),
   (q 21, .inl (cI, 300, .inl (G_kind G))),
   (q 22, .inl (cI, 300, .inl (G_transaction G))),
   (q 23, .inl (cI, 300, .inl (G_subject G))),
   (q 24, .inl (cZ, 300, .inl (G_wasThere G))),
   (q 25, .inl (cI, 300, .inl (G_oldValue G))),
   (q 26, .inl (cZ, 300, .inl (G_isThere G))),
   (q 27, .inl (cI, 300, .inl (G_newValue G))),
   (q 28, .inl (cI, 300, .inl (G_undoes G))),
   (q 29, .inl (cZ, 300, .inl (G_undone G))),
   (q 30, .inl (cI, 8, .inl (A_byTouch A))),
   (q 31, .inl (cZ, 8, .inl (A_dirty A))),
   (q 32, .inl (cI, 8, .inl (A_lsn A))),
   (q 33, .inl (cZ, 32, .inl (A_there A))),
   (q 34, .inl (cI, 32, .inl (A_value A))),
   (q 35, .inl (cI, 8, .inl (A_diskLsn A))),
   (q 36, .inl (cZ, 32, .inl (A_diskThere A))),
   (q 37, .inl (cI, 32, .inl (A_diskValue A)))]
def bN (dC : Nat → ClassId) (dI : Nat → Nat → Nat) (cI cL cZ : ClassId) (q : Nat → Nat) (A : S_A) (D : S_D) (G : S_G) (K : S_K) (N : S_N) (P : S_P) (T : S_T) (U : State) : Prop :=
  va_P (dC, dI) clZ (wN cI cL cZ q A D G K N P T) U.heap ∧ va_K (dC, dI) clZ [(cI, .int), (cL, .long), (cZ, .boolean)] U
theorem dN {cI cL cZ : ClassId} {q : Nat → Nat} (hq : iN q) {A : S_A} {D : S_D} {G : S_G} {K : S_K} {N : S_N} {P : S_P} {T : S_T} : va_D (aN q) (wN cI cL cZ q A D G K N P T) := by
  have hm : (wN cI cL cZ q A D G K N P T).map (fun x => x.1) = (List.range nN).map q := rfl
  have key : ∀ (k : Nat) (x : Nat × va_E), (wN cI cL cZ q A D G K N P T)[k]? = some x → k < nN ∧ x.1 = q k := by
    intro k x h
    have h1 : ((wN cI cL cZ q A D G K N P T).map (fun x => x.1))[k]? = some x.1 := by rw [List.getElem?_map, h]; rfl
    rw [hm, List.getElem?_map] at h1
    cases hk : (List.range nN)[k]? with
    | none => rw [hk] at h1; cases h1
    | some z =>
      rw [hk] at h1
      have hl := (List.getElem?_eq_some_iff.mp hk)
      obtain ⟨hl1, hl2⟩ := hl
      rw [List.getElem_range] at hl2
      rw [List.length_range] at hl1
      subst hl2
      exact ⟨hl1, (Option.some.inj h1).symm⟩
  refine ⟨fun i j x y hx hy e => ?_, fun k x hx => ⟨k, (key k x hx).1, (key k x hx).2⟩⟩
  have h1 := key i x hx
  have h2 := key j y hy
  exact hq i j h1.1 h2.1 (by rw [← h1.2, ← h2.2]; exact e)
abbrev nM : Nat := 31
def aM (q : Nat → Nat) : Nat → Prop := fun x => ∃ k, k < nM ∧ x = q k
def iM (q : Nat → Nat) : Prop := ∀ i j, i < nM → j < nM → q i = q j → i = j
def wM (cI cL cZ : ClassId) (q : Nat → Nat) (MA : S_MA) (MD : S_MD) (MF : S_MF) (MG : S_MG) (ML : S_ML) (MN : S_MN) (MP : S_MP) (MT : S_MT) (MV : S_MV) : va_W :=
  [(q 0, .inr (7, [.int (MA_frames MA), .ref (q 1), .ref (q 2), .ref (q 3), .ref (q 4), .ref (q 5), .ref (q 6), .ref (q 7), .ref (q 8), .ref (q 9), .int (MA_clock MA), .int (MG_base MG), .int (MG_records MG), .int (MG_flushed MG), .ref (q 10), .ref (q 11), .ref (q 12), .ref (q 13), .ref (q 14), .ref (q 15), .ref (q 16), .ref (q 17), .int (MT_many MT), .ref (q 18), .ref (q 19), .ref (q 20), .ref (q 21), .ref (q 22), .ref (q 23), .ref (q 24), .int (MP_wanted MP), .ref (q 25), .int (MP_mode MP), .ref (q 26), .ref (q 27), .ref (q 28), .ref (q 29), .ref (q 30), .int (MN_latest MN)])),
   (q 1, .inl (cZ, 32, .inl (MD_diskThere MD))),
   (q 2, .inl (cI, 32, .inl (MD_diskValue MD))),
   (q 3, .inl (cI, 8, .inl (MD_diskLsn MD))),
   (q 4, .inl (cZ, 32, .inl (MA_there MA))),
   (q 5, .inl (cI, 32, .inl (MA_value MA))),
   (q 6, .inl (cI, 8, .inl (MA_lsn MA))),
   (q 7, .inl (cZ, 8, .inl (MA_inFrame MA))),
   (q 8, .inl (cZ, 8, .inl (MA_dirty MA))),
   (q 9, .inl (cI, 8, .inl (MA_touched MA))),
   (q 10, .inl (cI, 301, .inl (MG_kind MG))),
   (q 11, .inl (cI, 301, .inl (MG_by MG))),
   (q 12, .inl (cI, 301, .inl (MG_about MG))),
   (q 13, .inl (cI, 301, .inl (MG_of MG))),
   (q 14, .inl (cZ, 301, .inl (MG_wasThere MG))),
   (q 15, .inl (cI, 301, .inl (MG_wasValue MG))),
   (q 16, .inl (cZ, 301, .inl (MG_isThere MG))),
   (q 17, .inl (cI, 301, .inl (MG_isValue MG))),
   (q 18, .inl (cI, 60, .inl (MT_state MT))),
   (q 19, .inl (cI, 60, .inl (MT_parent MT))),
   (q 20, .inl (cI, 60, .inl (MT_began MT))),
   (q 21, .inl (cI, 1980, .inl (ML_locks ML))),
   (q 22, .inl (cI, 60, .inl (MT_asks MT))),
   (q 23, .inl (cI, 60, .inl (MT_first MT))),
   (q 24, .inl (cI, 60, .inl (MT_second MT))),
   (q 25, .inl (cI, 33, .inl (MP_item MP))),
   (q 26, .inl (cI, 60, .inl (MV_lacks MV))),
   (q 27, .inl (cI, 60, .inl (MV_lackMode MV))),
   (q 28, .inl (cZ, 60, .inl (MV_ahead MV))),
   (q 29, .inl (cZ, 60, .inl (MV_back MV))),
   (q 30, .inl (cZ, 60, .inl (MF_falls MF)))]
def bM (dC : Nat → ClassId) (dI : Nat → Nat → Nat) (cI cL cZ : ClassId) (q : Nat → Nat) (MA : S_MA) (MD : S_MD) (MF : S_MF) (MG : S_MG) (ML : S_ML) (MN : S_MN) (MP : S_MP) (MT : S_MT) (MV : S_MV) (U : State) : Prop :=
  va_P (dC, dI) clZ (wM cI cL cZ q MA MD MF MG ML MN MP MT MV) U.heap ∧ va_K (dC, dI) clZ [(cI, .int), (cL, .long), (cZ, .boolean)] U
theorem dM {cI cL cZ : ClassId} {q : Nat → Nat} (hq : iM q) {MA : S_MA} {MD : S_MD} {MF : S_MF} {MG : S_MG} {ML : S_ML} {MN : S_MN} {MP : S_MP} {MT : S_MT} {MV : S_MV} : va_D (aM q) (wM cI cL cZ q MA MD MF MG ML MN MP MT MV) := by
  have hm : (wM cI cL cZ q MA MD MF MG ML MN MP MT MV).map (fun x => x.1) = (List.range nM).map q := rfl
  have key : ∀ (k : Nat) (x : Nat × va_E), (wM cI cL cZ q MA MD MF MG ML MN MP MT MV)[k]? = some x → k < nM ∧ x.1 = q k := by
    intro k x h
    have h1 : ((wM cI cL cZ q MA MD MF MG ML MN MP MT MV).map (fun x => x.1))[k]? = some x.1 := by rw [List.getElem?_map, h]; rfl
    rw [hm, List.getElem?_map] at h1
    cases hk : (List.range nM)[k]? with
    | none => rw [hk] at h1; cases h1
    | some z =>
      rw [hk] at h1
      have hl := (List.getElem?_eq_some_iff.mp hk)
      obtain ⟨hl1, hl2⟩ := hl
      rw [List.getElem_range] at hl2
      rw [List.length_range] at hl1
      subst hl2
      exact ⟨hl1, (Option.some.inj h1).symm⟩
  refine ⟨fun i j x y hx hy e => ?_, fun k x hx => ⟨k, (key k x hx).1, (key k x hx).2⟩⟩
  have h1 := key i x hx
  have h2 := key j y hy
  exact hq i j h1.1 h2.1 (by rw [← h1.2, ← h2.2]; exact e)
end
section
def wp_T_exists (T : S_T) (a1 : Int32) (post : Int32 → Prop) : Prop :=
  (if a1 < 0 then post 0
  else (if (T_count T) ≤ a1 then post 0
    else post 1))

def wp_T_isActive (T : S_T) (a1 : Int32) (post : Int32 → Prop) : Prop :=
  wp_T_exists T a1 (fun r1 =>
  (if r1 = 0 then post 0
  else vp_in a1 60 ∧
    (if ((T_state T) (Int32.toNatClampNeg a1)) = 1 then post 1
    else post 0)))

def wp_T_isTopLive (T : S_T) (a1 : Int32) (post : Int32 → Prop) : Prop :=
  vp_in a1 60 ∧
  vp_in ((T_top T) (Int32.toNatClampNeg a1)) 60 ∧
  (if ((T_state T) (Int32.toNatClampNeg ((T_top T) (Int32.toNatClampNeg a1)))) = 1 then post 1
  else (if ((T_state T) (Int32.toNatClampNeg ((T_top T) (Int32.toNatClampNeg a1)))) = 2 then post 1
    else post 0))

def wp_N_isOpen (G : S_G) (T : S_T) (a1 : Int32) (post : Int32 → Prop) : Prop :=
  vp_in a1 300 ∧
  (if ((G_kind G) (Int32.toNatClampNeg a1)) = 2 then vp_in a1 300 ∧
    (if ((G_undone G) (Int32.toNatClampNeg a1)) = 0 then vp_in a1 300 ∧
      wp_T_isTopLive T ((G_transaction G) (Int32.toNatClampNeg a1)) (fun r1 =>
      (if r1 = 0 then post 0
      else post 1))
    else post 0)
  else post 0)

def wp_N_openUpdateCount_L4 (G : S_G) (T : S_T) (Kx : Int32 → Prop) : Nat → Int32 → Int32 → Prop
  | 0, _, _ => False
  | n4 + 1, v1, v2 => (if (G_size G) ≤ v2 then Kx v1
      else wp_N_isOpen G T v2 (fun r1 =>
        (if r1 = 0 then wp_N_openUpdateCount_L4 G T Kx n4 v1 (v2 + 1)
        else wp_N_openUpdateCount_L4 G T Kx n4 (v1 + 1) (v2 + 1))))
def wp_N_openUpdateCount (G : S_G) (T : S_T) (post : Int32 → Prop) : Prop :=
  (∃ e4, wp_N_openUpdateCount_L4 G T (fun x2 =>
  post x2) e4 0 0)

def wp_T_isLive (T : S_T) (a1 : Int32) (post : Int32 → Prop) : Prop :=
  wp_T_exists T a1 (fun r1 =>
  (if r1 = 0 then post 0
  else vp_in a1 60 ∧
    (if ((T_state T) (Int32.toNatClampNeg a1)) = 1 then post 1
    else vp_in a1 60 ∧
      (if ((T_state T) (Int32.toNatClampNeg a1)) = 2 then post 1
      else post 0))))

def wp_T_liveCount_L4 (T : S_T) (Kx : Int32 → Prop) : Nat → Int32 → Int32 → Prop
  | 0, _, _ => False
  | n4 + 1, v1, v2 => (if (T_count T) ≤ v2 then Kx v1
      else wp_T_isLive T v2 (fun r1 =>
        (if r1 = 0 then wp_T_liveCount_L4 T Kx n4 v1 (v2 + 1)
        else wp_T_liveCount_L4 T Kx n4 (v1 + 1) (v2 + 1))))
def wp_T_liveCount (T : S_T) (post : Int32 → Prop) : Prop :=
  (∃ e4, wp_T_liveCount_L4 T (fun x2 =>
  post x2) e4 0 0)

def wp_N_hasRoomForOne (G : S_G) (T : S_T) (post : Int32 → Prop) : Prop :=
  wp_N_openUpdateCount G T (fun r1 =>
  wp_T_liveCount T (fun r2 =>
  (if 300 < ((((G_size G) + r1) + r2) + 2) then post 0
  else post 1)))

def wp_G_last (G : S_G) (post : Int32 → Prop) : Prop :=
  post ((G_base G) + (G_size G))

def wp_T_add (T : S_T) (a1 : Int32) (a2 : Int32) (post : Int32 → S_T → Prop) : Prop :=
  wp_T_exists T a1 (fun r1 =>
  (jn (fun (jk18 : Int32 → Prop) =>
  (if r1 = 0 then jk18 1
    else jk18 0)) (fun b2 =>
  vp_in (T_count T) 60 ∧
    (jn (fun (jk47 : Int32 → Prop) =>
    (if b2 = 0 then vp_in a1 60 ∧
        jk47 ((T_top T) (Int32.toNatClampNeg a1))
      else jk47 (T_count T))) (fun b3 =>
    vp_in (T_count T) 60 ∧
      (jn (fun (jk70 : Int32 → Prop) =>
      (if b2 = 0 then vp_in a1 60 ∧
          jk70 (((T_depth T) (Int32.toNatClampNeg a1)) + 1)
        else jk70 1)) (fun b4 =>
      vp_in (T_count T) 60 ∧
        (jn (fun (jk97 : Int64 → Prop) =>
        (if b2 = 0 then vp_in a1 60 ∧
            jk97 (((T_lineage T) (Int32.toNatClampNeg a1)) ||| ((1 : Int64) <<< (Int32.toInt64 (T_count T) &&& 63)))
          else jk97 ((1 : Int64) <<< (Int32.toInt64 (T_count T) &&& 63)))) (fun b5 =>
        vp_in (T_count T) 60 ∧
          vp_in (T_count T) 60 ∧
          vp_in (T_count T) 60 ∧
          post (T_count T) (T_count' (T_begun' (T_state' (T_lineage' (T_depth' (T_top' (T_parent' T (upd (T_parent T) (Int32.toNatClampNeg (T_count T)) a1)) (upd (T_top T) (Int32.toNatClampNeg (T_count T)) b3)) (upd (T_depth T) (Int32.toNatClampNeg (T_count T)) b4)) (vp_updL (T_lineage T) (Int32.toNatClampNeg (T_count T)) b5)) (upd (T_state T) (Int32.toNatClampNeg (T_count T)) 1)) (upd (T_begun T) (Int32.toNatClampNeg (T_count T)) a2)) ((T_count T) + 1)))))))))))

def wp_G_setBefore (G : S_G) (a1 : Int32) (a2 : Int32) (a3 : Int32) (post : S_G → Prop) : Prop :=
  vp_in a1 300 ∧
  vp_in a1 300 ∧
  post (G_oldValue' (G_wasThere' G (upd (G_wasThere G) (Int32.toNatClampNeg a1) (vp_nar .boolean a2))) (upd (G_oldValue G) (Int32.toNatClampNeg a1) a3))

def wp_G_setAfter (G : S_G) (a1 : Int32) (a2 : Int32) (a3 : Int32) (post : S_G → Prop) : Prop :=
  vp_in a1 300 ∧
  vp_in a1 300 ∧
  post (G_newValue' (G_isThere' G (upd (G_isThere G) (Int32.toNatClampNeg a1) (vp_nar .boolean a2))) (upd (G_newValue G) (Int32.toNatClampNeg a1) a3))

def wp_G_append (G : S_G) (a1 : Int32) (a2 : Int32) (a3 : Int32) (post : Int32 → S_G → Prop) : Prop :=
  (jn (fun (jk20 : S_G → Prop) =>
  (if 300 ≤ (G_size G) then jk20 G
    else jk20 (G_size' G ((G_size G) + 1)))) (fun G1 =>
  vp_in ((G_size G1) - 1) 300 ∧
    vp_in ((G_size G1) - 1) 300 ∧
    vp_in ((G_size G1) - 1) 300 ∧
    wp_G_setBefore (G_subject' (G_transaction' (G_kind' G1 (upd (G_kind G1) (Int32.toNatClampNeg ((G_size G1) - 1)) a1)) (upd (G_transaction G1) (Int32.toNatClampNeg ((G_size G1) - 1)) a2)) (upd (G_subject G1) (Int32.toNatClampNeg ((G_size G1) - 1)) a3)) ((G_size G1) - 1) 0 0 (fun G2 =>
    wp_G_setAfter G2 ((G_size G1) - 1) 0 0 (fun G3 =>
    vp_in ((G_size G1) - 1) 300 ∧
    vp_in ((G_size G1) - 1) 300 ∧
    post ((G_size G1) - 1) (G_undone' (G_undoes' G3 (upd (G_undoes G3) (Int32.toNatClampNeg ((G_size G1) - 1)) 0)) (upd (G_undone G3) (Int32.toNatClampNeg ((G_size G1) - 1)) (vp_nar .boolean 0)))))))

def wp_N_begin (G : S_G) (T : S_T) (a1 : Int32) (post : Int32 → S_G → S_T → Prop) : Prop :=
  (jn (fun (jk34 : Int32 → Prop) =>
  (if a1 = (-1) then jk34 1
    else wp_T_isActive T a1 (fun r1 =>
      (if r1 = 0 then jk34 0
      else vp_in a1 60 ∧
        (if 4 ≤ ((T_depth T) (Int32.toNatClampNeg a1)) then jk34 0
        else jk34 1))))) (fun b2 =>
  (if b2 = 0 then post (-1) G T
    else (if (T_count T) < 60 then wp_N_hasRoomForOne G T (fun r3 =>
        (if r3 = 0 then post (-5) G T
        else wp_G_last G (fun r4 =>
          wp_T_add T a1 (r4 + 1) (fun r5 T6 =>
          wp_G_append G 1 r5 a1 (fun r7 G8 =>
          post r5 G8 T6)))))
      else post (-1) G T))))

def wp_N_isKey (a0 : Int32) (post : Int32 → Prop) : Prop :=
  (if a0 < 0 then post 0
  else (if 32 ≤ a0 then post 0
    else post 1))

def wp_T_liveChildren_L7 (T : S_T) (v1 : Int32) (Kx : Int64 → Prop) : Nat → Int64 → Int32 → Prop
  | 0, _, _ => False
  | n7 + 1, v2, v4 => (if (T_count T) ≤ v4 then Kx v2
      else vp_in v4 60 ∧
        (if ((T_parent T) (Int32.toNatClampNeg v4)) = v1 then wp_T_isLive T v4 (fun r1 =>
          (if r1 = 0 then wp_T_liveChildren_L7 T v1 Kx n7 v2 (v4 + 1)
          else wp_T_liveChildren_L7 T v1 Kx n7 (v2 ||| ((1 : Int64) <<< (Int32.toInt64 v4 &&& 63))) (v4 + 1)))
        else wp_T_liveChildren_L7 T v1 Kx n7 v2 (v4 + 1)))
def wp_T_liveChildren (T : S_T) (a1 : Int32) (post : Int64 → Prop) : Prop :=
  (∃ e7, wp_T_liveChildren_L7 T a1 (fun x2 =>
  post x2) e7 (0 : Int64) (a1 + 1))

def wp_T_isBusy (T : S_T) (a1 : Int32) (post : Int32 → Prop) : Prop :=
  wp_T_liveChildren T a1 (fun r1 =>
  (if (lg_cmp r1 (0 : Int64)) = 0 then post 0
  else post 1))

def wp_N_refusalOf (T : S_T) (a1 : Int32) (post : Int32 → Prop) : Prop :=
  wp_T_isActive T a1 (fun r1 =>
  (if r1 = 0 then post (-1)
  else wp_T_isBusy T a1 (fun r2 =>
    (if r2 = 0 then post 0
    else post (-4)))))

def wp_T_setRequest (T : S_T) (a1 : Int32) (a2 : Int32) (a3 : Int32) (a4 : Int32) (a5 : Int32) (post : S_T → Prop) : Prop :=
  vp_in a1 60 ∧
  vp_in a1 60 ∧
  vp_in a1 60 ∧
  vp_in a1 60 ∧
  post (T_newValue' (T_high' (T_low' (T_kind' T (upd (T_kind T) (Int32.toNatClampNeg a1) a2)) (upd (T_low T) (Int32.toNatClampNeg a1) a3)) (upd (T_high T) (Int32.toNatClampNeg a1) a4)) (upd (T_newValue T) (Int32.toNatClampNeg a1) a5))

def wp_N_prepare (T : S_T) (a1 : Int32) (a2 : Int32) (a3 : Int32) (a4 : Int32) (a5 : Int32) (post : Int32 → S_T → Prop) : Prop :=
  wp_N_isKey a3 (fun r1 =>
  (if r1 = 0 then post (-1) T
  else wp_N_isKey a4 (fun r2 =>
    (if r2 = 0 then post (-1) T
    else (if a3 ≤ a4 then wp_N_refusalOf T a1 (fun r3 =>
        (if r3 = 0 then wp_T_setRequest T a1 a2 a3 a4 a5 (fun T4 =>
          post r3 T4)
        else post r3 T))
      else post (-1) T)))))

def wp_P_start (P : S_P) (a1 : Int32) (post : S_P → Prop) : Prop :=
  post (P_size' (P_mode' P a1) 0)

def wp_A_nextItem_L4 (A : S_A) (post : Int32 → Prop) (Kx : Prop) : Nat → Int32 → Prop
  | 0, _ => False
  | n4 + 1, v2 => (if 32 ≤ v2 then Kx
      else vp_in v2 32 ∧
        (if ((A_there A) (Int32.toNatClampNeg v2)) = 0 then wp_A_nextItem_L4 A post Kx n4 (v2 + 1)
        else post v2))
def wp_A_nextItem (A : S_A) (a1 : Int32) (post : Int32 → Prop) : Prop :=
  (∃ e4, wp_A_nextItem_L4 A post (post 32) e4 (a1 + 1))

def wp_P_add (P : S_P) (a1 : Int32) (post : S_P → Prop) : Prop :=
  (if 33 ≤ (P_size P) then post P
  else vp_in (P_size P) 33 ∧
    post (P_size' (P_items' P (upd (P_items P) (Int32.toNatClampNeg (P_size P)) a1)) ((P_size P) + 1)))

def wp_N_planLocks_L201 (A : S_A) (v3 : Int32) (Kx : S_P → Prop) : Nat → Int32 → S_P → Prop
  | 0, _, _ => False
  | n201 + 1, v5, P => (if v3 < v5 then Kx P
      else vp_in v5 32 ∧
        (if ((A_there A) (Int32.toNatClampNeg v5)) = 0 then wp_N_planLocks_L201 A v3 Kx n201 (v5 + 1) P
        else wp_P_add P v5 (fun P16 =>
          wp_N_planLocks_L201 A v3 Kx n201 (v5 + 1) P16)))
def wp_N_planLocks (A : S_A) (P : S_P) (T : S_T) (a1 : Int32) (post : S_P → Prop) : Prop :=
  vp_in a1 60 ∧
  vp_in a1 60 ∧
  vp_in ((T_low T) (Int32.toNatClampNeg a1)) 32 ∧
  vp_in a1 60 ∧
  (if ((T_kind T) (Int32.toNatClampNeg a1)) = 0 then wp_P_start P 1 (fun P1 =>
    (if ((A_there A) (Int32.toNatClampNeg ((T_low T) (Int32.toNatClampNeg a1)))) = 0 then wp_A_nextItem A ((T_low T) (Int32.toNatClampNeg a1)) (fun r2 =>
      wp_P_add P1 r2 (fun P3 =>
      post P3))
    else wp_P_add P1 ((T_low T) (Int32.toNatClampNeg a1)) (fun P4 =>
      post P4)))
  else if ((T_kind T) (Int32.toNatClampNeg a1)) = 1 then wp_P_start P 2 (fun P5 =>
    (if ((A_there A) (Int32.toNatClampNeg ((T_low T) (Int32.toNatClampNeg a1)))) = 0 then wp_A_nextItem A ((T_low T) (Int32.toNatClampNeg a1)) (fun r7 =>
      wp_P_add P5 r7 (fun P8 =>
      wp_P_add P8 ((T_low T) (Int32.toNatClampNeg a1)) (fun P9 =>
      post P9)))
    else wp_P_add P5 ((T_low T) (Int32.toNatClampNeg a1)) (fun P6 =>
      post P6)))
  else if ((T_kind T) (Int32.toNatClampNeg a1)) = 2 then (jn (fun (jk156 : Int32 → Prop) =>
    (if ((A_there A) (Int32.toNatClampNeg ((T_low T) (Int32.toNatClampNeg a1)))) = 0 then jk156 1
      else jk156 2)) (fun b10 =>
    wp_P_start P b10 (fun P11 =>
      wp_A_nextItem A ((T_low T) (Int32.toNatClampNeg a1)) (fun r12 =>
      wp_P_add P11 r12 (fun P13 =>
      (if ((A_there A) (Int32.toNatClampNeg ((T_low T) (Int32.toNatClampNeg a1)))) = 0 then post P13
      else wp_P_add P13 ((T_low T) (Int32.toNatClampNeg a1)) (fun P14 =>
        post P14)))))))
  else wp_P_start P 1 (fun P15 =>
    (∃ e201, wp_N_planLocks_L201 A ((T_high T) (Int32.toNatClampNeg a1)) (fun P17 =>
    wp_A_nextItem A ((T_high T) (Int32.toNatClampNeg a1)) (fun r18 =>
      wp_P_add P17 r18 (fun P19 =>
      post P19))) e201 ((T_low T) (Int32.toNatClampNeg a1)) P15)))

def wp_K_heldBy (K : S_K) (a1 : Int32) (a2 : Int32) (post : Int32 → Prop) : Prop :=
  vp_in a2 33 ∧
  (if (lg_cmp (((K_exclusive K) (Int32.toNatClampNeg a2)) &&& ((1 : Int64) <<< (Int32.toInt64 a1 &&& 63))) (0 : Int64)) = 0 then vp_in a2 33 ∧
    (if (lg_cmp (((K_shared K) (Int32.toNatClampNeg a2)) &&& ((1 : Int64) <<< (Int32.toInt64 a1 &&& 63))) (0 : Int64)) = 0 then post 0
    else post 1)
  else post 2)

def wp_K_blockers (K : S_K) (a1 : Int32) (a2 : Int32) (a3 : Int64) (post : Int64 → Prop) : Prop :=
  (if a2 = 2 then vp_in a1 33 ∧
    vp_in a1 33 ∧
    post ((((K_shared K) (Int32.toNatClampNeg a1)) ||| ((K_exclusive K) (Int32.toNatClampNeg a1))) &&& (a3 ^^^ (-1)))
  else vp_in a1 33 ∧
    post (((K_exclusive K) (Int32.toNatClampNeg a1)) &&& (a3 ^^^ (-1))))

def wp_N_freeLocks_L2 (K : S_K) (P : S_P) (T : S_T) (v1 : Int32) (post : Int32 → Prop) (Kx : Prop) : Nat → Int32 → Prop
  | 0, _ => False
  | n2 + 1, v2 => (if (P_size P) ≤ v2 then Kx
      else vp_in v2 33 ∧
        wp_K_heldBy K v1 ((P_items P) (Int32.toNatClampNeg v2)) (fun r1 =>
        (jn (fun (jk47 : Int32 → Prop) =>
        (if r1 < (P_mode P) then jk47 0
          else jk47 1)) (fun b2 =>
        (if b2 = 0 then vp_in v1 60 ∧
            wp_K_blockers K ((P_items P) (Int32.toNatClampNeg v2)) (P_mode P) ((T_lineage T) (Int32.toNatClampNeg v1)) (fun r3 =>
            (if (lg_cmp r3 (0 : Int64)) = 0 then wp_N_freeLocks_L2 K P T v1 post Kx n2 (v2 + 1)
            else post v2))
          else wp_N_freeLocks_L2 K P T v1 post Kx n2 (v2 + 1))))))
def wp_N_freeLocks (K : S_K) (P : S_P) (T : S_T) (a1 : Int32) (post : Int32 → Prop) : Prop :=
  (∃ e2, wp_N_freeLocks_L2 K P T a1 post (post (P_size P)) e2 0)

def wp_K_grant (K : S_K) (a1 : Int32) (a2 : Int32) (a3 : Int32) (post : S_K → Prop) : Prop :=
  wp_K_heldBy K a1 a2 (fun r1 =>
  (if r1 < a3 then (if a3 = 2 then vp_in a2 33 ∧
      vp_in a2 33 ∧
      vp_in a2 33 ∧
      vp_in a2 33 ∧
      post (K_exclusive' (K_shared' K (vp_updL (K_shared K) (Int32.toNatClampNeg a2) (((K_shared K) (Int32.toNatClampNeg a2)) &&& (((1 : Int64) <<< (Int32.toInt64 a1 &&& 63)) ^^^ (-1))))) (vp_updL (K_exclusive K) (Int32.toNatClampNeg a2) (((K_exclusive K) (Int32.toNatClampNeg a2)) ||| ((1 : Int64) <<< (Int32.toInt64 a1 &&& 63)))))
    else vp_in a2 33 ∧
      vp_in a2 33 ∧
      post (K_shared' K (vp_updL (K_shared K) (Int32.toNatClampNeg a2) (((K_shared K) (Int32.toNatClampNeg a2)) ||| ((1 : Int64) <<< (Int32.toInt64 a1 &&& 63))))))
  else post K))

def wp_N_takeLocks_L13 (P : S_P) (v1 : Int32) (v2 : Int32) (Kx : S_K → Prop) : Nat → Int32 → S_K → Prop
  | 0, _, _ => False
  | n13 + 1, v3, K => (if v2 ≤ v3 then Kx K
      else vp_in v3 33 ∧
        wp_K_grant K v1 ((P_items P) (Int32.toNatClampNeg v3)) (P_mode P) (fun K3 =>
        wp_N_takeLocks_L13 P v1 v2 Kx n13 (v3 + 1) K3))
def wp_N_takeLocks (A : S_A) (K : S_K) (P : S_P) (T : S_T) (a1 : Int32) (post : Int32 → S_K → S_P → Prop) : Prop :=
  wp_N_planLocks A P T a1 (fun P1 =>
  wp_N_freeLocks K P1 T a1 (fun r2 =>
  (∃ e13, wp_N_takeLocks_L13 P1 a1 r2 (fun K4 =>
  (if r2 = (P_size P1) then post 1 K4 P1
    else post 0 K4 P1)) e13 0 K)))

def wp_A_putOnDisk_L42 (v1 : Int32) (v3 : Int32) (Kx : S_A → Prop) : Nat → Int32 → S_A → Prop
  | 0, _, _ => False
  | n42 + 1, v4, A => (if (v3 + 4) ≤ v4 then Kx A
      else vp_in v4 32 ∧
        vp_in v4 32 ∧
        vp_in v4 32 ∧
        vp_in v4 32 ∧
        wp_A_putOnDisk_L42 v1 v3 Kx n42 (v4 + 1) (A_diskValue' (A_diskThere' A (upd (A_diskThere A) (Int32.toNatClampNeg v4) (vp_nar .boolean ((A_there A) (Int32.toNatClampNeg v4))))) (upd (A_diskValue A) (Int32.toNatClampNeg v4) ((A_value A) (Int32.toNatClampNeg v4)))))
def wp_A_putOnDisk (A : S_A) (G : S_G) (a1 : Int32) (post : S_A → S_G → Prop) : Prop :=
  vp_in a1 8 ∧
  (jn (fun (jk23 : S_G → Prop) =>
  (if ((A_lsn A) (Int32.toNatClampNeg a1)) ≤ (G_flushed G) then jk23 G
    else vp_in a1 8 ∧
      jk23 (G_flushed' G ((A_lsn A) (Int32.toNatClampNeg a1))))) (fun G1 =>
  vp_in a1 8 ∧
    vp_in a1 8 ∧
    (∃ e42, wp_A_putOnDisk_L42 a1 (a1 * 4) (fun A2 =>
    vp_in a1 8 ∧
      post (A_dirty' A2 (upd (A_dirty A2) (Int32.toNatClampNeg a1) (vp_nar .boolean 0))) G1) e42 (a1 * 4) (A_diskLsn' A (upd (A_diskLsn A) (Int32.toNatClampNeg a1) ((A_lsn A) (Int32.toNatClampNeg a1)))))))

def wp_A_touch_L2 (A : S_A) (v1 : Int32) (Kx : Int32 → Prop) : Nat → Int32 → Prop
  | 0, _ => False
  | n2 + 1, v3 => (if (A_framesInUse A) ≤ v3 then Kx v3
      else vp_in v3 8 ∧
        (if ((A_byTouch A) (Int32.toNatClampNeg v3)) = v1 then Kx v3
        else wp_A_touch_L2 A v1 Kx n2 (v3 + 1)))
def wp_A_touch_L86 (v1 : Int32) (Kx : S_A → Prop) : Nat → Int32 → S_A → Prop
  | 0, _, _ => False
  | n86 + 1, v4, A => (if v4 ≤ 0 then Kx A
      else vp_in (v4 - 1) 8 ∧
        vp_in v4 8 ∧
        wp_A_touch_L86 v1 Kx n86 (v4 + (-1)) (A_byTouch' A (upd (A_byTouch A) (Int32.toNatClampNeg v4) ((A_byTouch A) (Int32.toNatClampNeg (v4 - 1))))))
def wp_A_touch (A : S_A) (G : S_G) (a1 : Int32) (post : S_A → S_G → Prop) : Prop :=
  (∃ e2, wp_A_touch_L2 A a1 (fun x1 =>
  (jn (fun (jk83 : Int32 → S_A → S_G → Prop) =>
    (if x1 = (A_frames A) then vp_in (x1 + (-1)) 8 ∧
        vp_in ((A_byTouch A) (Int32.toNatClampNeg (x1 + (-1)))) 8 ∧
        (if ((A_dirty A) (Int32.toNatClampNeg ((A_byTouch A) (Int32.toNatClampNeg (x1 + (-1)))))) = 0 then jk83 (x1 + (-1)) A G
        else vp_in (x1 + (-1)) 8 ∧
          wp_A_putOnDisk A G ((A_byTouch A) (Int32.toNatClampNeg (x1 + (-1)))) (fun A2 G3 =>
          jk83 (x1 + (-1)) A2 G3))
      else (if x1 = (A_framesInUse A) then jk83 x1 (A_framesInUse' A ((A_framesInUse A) + 1)) G
        else jk83 x1 A G))) (fun x4 A5 G6 =>
    (∃ e86, wp_A_touch_L86 a1 (fun A7 =>
      vp_in 0 8 ∧
        post (A_byTouch' A7 (upd (A_byTouch A7) (Int32.toNatClampNeg 0) a1)) G6) e86 x4 A5)))) e2 0)

def wp_N_asNumber (a0 : Int32) (post : Int32 → Prop) : Prop :=
  (if a0 = 0 then post 0
  else post 1)

def wp_G_lsnOf (G : S_G) (a1 : Int32) (post : Int32 → Prop) : Prop :=
  post (((G_base G) + 1) + a1)

def wp_A_change (A : S_A) (a1 : Int32) (a2 : Int32) (a3 : Int32) (a4 : Int32) (post : S_A → Prop) : Prop :=
  vp_in a1 32 ∧
  vp_in a1 32 ∧
  vp_in (a1 / 4) 8 ∧
  vp_in (a1 / 4) 8 ∧
  post (A_dirty' (A_lsn' (A_value' (A_there' A (upd (A_there A) (Int32.toNatClampNeg a1) (vp_nar .boolean a2))) (upd (A_value A) (Int32.toNatClampNeg a1) a3)) (upd (A_lsn A) (Int32.toNatClampNeg (a1 / 4)) a4)) (upd (A_dirty A) (Int32.toNatClampNeg (a1 / 4)) (vp_nar .boolean 1)))

def wp_N_update (A : S_A) (G : S_G) (a1 : Int32) (a2 : Int32) (a3 : Int32) (a4 : Int32) (post : S_A → S_G → Prop) : Prop :=
  wp_G_append G 2 a1 a2 (fun r1 G2 =>
  vp_in a2 32 ∧
  vp_in a2 32 ∧
  wp_G_setBefore G2 r1 ((A_there A) (Int32.toNatClampNeg a2)) ((A_value A) (Int32.toNatClampNeg a2)) (fun G3 =>
  wp_G_setAfter G3 r1 a3 a4 (fun G4 =>
  wp_A_touch A G4 (a2 / 4) (fun A5 G6 =>
  wp_G_lsnOf G6 r1 (fun r7 =>
  wp_A_change A5 a2 a3 a4 r7 (fun A8 =>
  post A8 G6))))))

def wp_N_countAndSum_L4 (v1 : Int32) (v2 : Int32) (Kx : S_A → S_G → Prop) : Nat → Int32 → S_A → S_G → Prop
  | 0, _, _, _ => False
  | n4 + 1, v3, A, G => (if (v2 / 4) < v3 then Kx A G
      else wp_A_touch A G v3 (fun A1 G2 =>
        wp_N_countAndSum_L4 v1 v2 Kx n4 (v3 + 1) A1 G2))
def wp_N_countAndSum_L37 (A : S_A) (v2 : Int32) (Kx : Int32 → Int32 → Prop) : Nat → Int32 → Int32 → Int32 → Prop
  | 0, _, _, _ => False
  | n37 + 1, v3, v4, v5 => (if v2 < v5 then Kx v3 v4
      else vp_in v5 32 ∧
        (if ((A_there A) (Int32.toNatClampNeg v5)) = 0 then wp_N_countAndSum_L37 A v2 Kx n37 v3 v4 (v5 + 1)
        else vp_in v5 32 ∧
          wp_N_countAndSum_L37 A v2 Kx n37 (v3 + 1) (v4 + ((A_value A) (Int32.toNatClampNeg v5))) (v5 + 1)))
def wp_N_countAndSum (A : S_A) (G : S_G) (N : S_N) (a1 : Int32) (a2 : Int32) (post : Int32 → S_A → S_G → S_N → Prop) : Prop :=
  (∃ e4, wp_N_countAndSum_L4 a1 a2 (fun A3 G4 =>
  (∃ e37, wp_N_countAndSum_L37 A3 a2 (fun x5 x6 =>
    post x5 A3 G4 (N_latestValue' N x6)) e37 0 0 a1)) e4 (a1 / 4) A G)

def wp_N_carryOut (A : S_A) (G : S_G) (N : S_N) (T : S_T) (a1 : Int32) (post : Int32 → S_A → S_G → S_N → Prop) : Prop :=
  vp_in a1 60 ∧
  vp_in a1 60 ∧
  (if ((T_kind T) (Int32.toNatClampNeg a1)) = 0 then wp_A_touch A G (((T_low T) (Int32.toNatClampNeg a1)) / 4) (fun A1 G2 =>
    vp_in ((T_low T) (Int32.toNatClampNeg a1)) 32 ∧
    vp_in ((T_low T) (Int32.toNatClampNeg a1)) 32 ∧
    wp_N_asNumber ((A_there A1) (Int32.toNatClampNeg ((T_low T) (Int32.toNatClampNeg a1)))) (fun r3 =>
    post r3 A1 G2 (N_latestValue' N ((A_value A1) (Int32.toNatClampNeg ((T_low T) (Int32.toNatClampNeg a1)))))))
  else if ((T_kind T) (Int32.toNatClampNeg a1)) = 1 then wp_N_hasRoomForOne G T (fun r4 =>
    (if r4 = 0 then post (-5) A G N
    else vp_in a1 60 ∧
      wp_N_update A G a1 ((T_low T) (Int32.toNatClampNeg a1)) 1 ((T_newValue T) (Int32.toNatClampNeg a1)) (fun A5 G6 =>
      post 0 A5 G6 N)))
  else if ((T_kind T) (Int32.toNatClampNeg a1)) = 2 then vp_in ((T_low T) (Int32.toNatClampNeg a1)) 32 ∧
    (if ((A_there A) (Int32.toNatClampNeg ((T_low T) (Int32.toNatClampNeg a1)))) = 0 then post 0 A G N
    else wp_N_hasRoomForOne G T (fun r7 =>
      (if r7 = 0 then post (-5) A G N
      else wp_N_update A G a1 ((T_low T) (Int32.toNatClampNeg a1)) 0 0 (fun A8 G9 =>
        post 1 A8 G9 N))))
  else vp_in a1 60 ∧
    wp_N_countAndSum A G N ((T_low T) (Int32.toNatClampNeg a1)) ((T_high T) (Int32.toNatClampNeg a1)) (fun r10 A11 G12 N13 =>
    post r10 A11 G12 N13))

def wp_T_isWaiting (T : S_T) (a1 : Int32) (post : Int32 → Prop) : Prop :=
  wp_T_exists T a1 (fun r1 =>
  (if r1 = 0 then post 0
  else vp_in a1 60 ∧
    (if ((T_state T) (Int32.toNatClampNeg a1)) = 2 then post 1
    else post 0)))

def wp_N_blockersOf (A : S_A) (K : S_K) (P : S_P) (T : S_T) (a1 : Int32) (post : Int64 → S_P → Prop) : Prop :=
  wp_N_planLocks A P T a1 (fun P1 =>
  wp_N_freeLocks K P1 T a1 (fun r2 =>
  (if r2 = (P_size P1) then post (0 : Int64) P1
  else vp_in r2 33 ∧
    vp_in a1 60 ∧
    wp_K_blockers K ((P_items P1) (Int32.toNatClampNeg r2)) (P_mode P1) ((T_lineage T) (Int32.toNatClampNeg a1)) (fun r3 =>
    post r3 P1))))

def wp_N_leadsOf (A : S_A) (K : S_K) (P : S_P) (T : S_T) (a1 : Int32) (post : Int64 → S_P → Prop) : Prop :=
  wp_T_isLive T a1 (fun r1 =>
  (if r1 = 0 then post (0 : Int64) P
  else wp_T_liveChildren T a1 (fun r2 =>
    wp_T_isWaiting T a1 (fun r3 =>
    (if r3 = 0 then post r2 P
    else wp_N_blockersOf A K P T a1 (fun r4 P5 =>
      post (r2 ||| r4) P5))))))

def wp_D_reachedFrom_L22 (D : S_D) (v2 : Int32) (v5 : Int32) (v6 : Int64) (Kx : Int64 → Prop) : Nat → Int64 → Int32 → Prop
  | 0, _, _ => False
  | n22 + 1, v3, v8 => (if v2 ≤ v8 then Kx v3
      else (if (lg_cmp (v3 &&& ((1 : Int64) <<< (Int32.toInt64 v8 &&& 63))) (0 : Int64)) = 0 then wp_D_reachedFrom_L22 D v2 v5 v6 Kx n22 v3 (v8 + 1)
        else vp_in v8 60 ∧
          wp_D_reachedFrom_L22 D v2 v5 v6 Kx n22 (v3 ||| ((D_from D) (Int32.toNatClampNeg v8))) (v8 + 1)))
def wp_D_reachedFrom_L10 (D : S_D) (v2 : Int32) (Kx : Int64 → Prop) : Nat → Int64 → Int32 → Prop
  | 0, _, _ => False
  | n10 + 1, v3, v5 => (if v2 ≤ v5 then Kx v3
      else (∃ e22, wp_D_reachedFrom_L22 D v2 v5 v3 (fun x1 =>
        (if (lg_cmp x1 v3) = 0 then Kx x1
          else wp_D_reachedFrom_L10 D v2 Kx n10 x1 (v5 + 1))) e22 v3 0))
def wp_D_reachedFrom (D : S_D) (a1 : Int32) (a2 : Int32) (post : Int64 → Prop) : Prop :=
  vp_in a1 60 ∧
  (∃ e10, wp_D_reachedFrom_L10 D a2 (fun x2 =>
  post x2) e10 ((D_from D) (Int32.toNatClampNeg a1)) 0)

def wp_D_leadingTo_L19 (D : S_D) (v2 : Int32) (v5 : Int32) (v6 : Int64) (Kx : Int64 → Prop) : Nat → Int64 → Int32 → Prop
  | 0, _, _ => False
  | n19 + 1, v3, v8 => (if v2 ≤ v8 then Kx v3
      else vp_in v8 60 ∧
        (if (lg_cmp (v3 &&& ((D_from D) (Int32.toNatClampNeg v8))) (0 : Int64)) = 0 then wp_D_leadingTo_L19 D v2 v5 v6 Kx n19 v3 (v8 + 1)
        else wp_D_leadingTo_L19 D v2 v5 v6 Kx n19 (v3 ||| ((1 : Int64) <<< (Int32.toInt64 v8 &&& 63))) (v8 + 1)))
def wp_D_leadingTo_L7 (D : S_D) (v2 : Int32) (Kx : Int64 → Prop) : Nat → Int64 → Int32 → Prop
  | 0, _, _ => False
  | n7 + 1, v3, v5 => (if v2 ≤ v5 then Kx v3
      else (∃ e19, wp_D_leadingTo_L19 D v2 v5 v3 (fun x1 =>
        (if (lg_cmp x1 v3) = 0 then Kx x1
          else wp_D_leadingTo_L7 D v2 Kx n7 x1 (v5 + 1))) e19 v3 0))
def wp_D_leadingTo (D : S_D) (a1 : Int32) (a2 : Int32) (post : Int64 → Prop) : Prop :=
  (∃ e7, wp_D_leadingTo_L7 D a2 (fun x2 =>
  post x2) e7 ((1 : Int64) <<< (Int32.toInt64 a1 &&& 63)) 0)

def wp_D_greatestInCircle_L34 (v1 : Int32) (v5 : Int64) (post : Int32 → Prop) (Kx : Prop) : Nat → Int32 → Prop
  | 0, _ => False
  | n34 + 1, v7 => (if v7 ≤ v1 then Kx
      else (if (lg_cmp (v5 &&& ((1 : Int64) <<< (Int32.toInt64 v7 &&& 63))) (0 : Int64)) = 0 then wp_D_greatestInCircle_L34 v1 v5 post Kx n34 (v7 + (-1))
        else post v7))
def wp_D_greatestInCircle (D : S_D) (a1 : Int32) (a2 : Int32) (post : Int32 → Prop) : Prop :=
  wp_D_reachedFrom D a1 a2 (fun r1 =>
  (if (lg_cmp (r1 &&& ((1 : Int64) <<< (Int32.toInt64 a1 &&& 63))) (0 : Int64)) = 0 then post (-1)
  else wp_D_leadingTo D a1 a2 (fun r2 =>
    (∃ e34, wp_D_greatestInCircle_L34 a1 (r1 &&& r2) post (post a1) e34 (a2 - 1)))))

def wp_N_victimOfCircle_L15 (A : S_A) (K : S_K) (T : S_T) (v1 : Int32) (Kx : S_D → S_P → Prop) : Nat → Int32 → S_D → S_P → Prop
  | 0, _, _, _ => False
  | n15 + 1, v2, D, P => (if (T_count T) ≤ v2 then Kx D P
      else wp_N_leadsOf A K P T v2 (fun r2 P3 =>
        vp_in v2 60 ∧
        wp_N_victimOfCircle_L15 A K T v1 Kx n15 (v2 + 1) (D_from' D (vp_updL (D_from D) (Int32.toNatClampNeg v2) r2)) P3))
def wp_N_victimOfCircle (A : S_A) (D : S_D) (K : S_K) (P : S_P) (T : S_T) (a1 : Int32) (post : Int32 → S_D → S_P → Prop) : Prop :=
  wp_T_isLive T a1 (fun r1 =>
  (if r1 = 0 then post (-1) D P
  else (∃ e15, wp_N_victimOfCircle_L15 A K T a1 (fun D4 P5 =>
    wp_D_greatestInCircle D4 a1 (T_count T) (fun r6 =>
      post r6 D4 P5)) e15 0 D P)))

def wp_T_isWithin (T : S_T) (a1 : Int32) (a2 : Int32) (post : Int32 → Prop) : Prop :=
  vp_in a1 60 ∧
  (if (lg_cmp (((T_lineage T) (Int32.toNatClampNeg a1)) &&& ((1 : Int64) <<< (Int32.toInt64 a2 &&& 63))) (0 : Int64)) = 0 then post 0
  else post 1)

def wp_N_undo (A : S_A) (G : S_G) (a1 : Int32) (a2 : Int32) (post : S_A → S_G → Prop) : Prop :=
  vp_in a1 300 ∧
  vp_in a1 300 ∧
  vp_in a1 300 ∧
  wp_G_append G 3 a2 ((G_subject G) (Int32.toNatClampNeg a1)) (fun r1 G2 =>
  wp_G_setAfter G2 r1 ((G_wasThere G) (Int32.toNatClampNeg a1)) ((G_oldValue G) (Int32.toNatClampNeg a1)) (fun G3 =>
  wp_G_lsnOf G3 a1 (fun r4 =>
  vp_in r1 300 ∧
  vp_in a1 300 ∧
  wp_A_touch A (G_undone' (G_undoes' G3 (upd (G_undoes G3) (Int32.toNatClampNeg r1) r4)) (upd (G_undone G3) (Int32.toNatClampNeg a1) (vp_nar .boolean 1))) (((G_subject G) (Int32.toNatClampNeg a1)) / 4) (fun A5 G6 =>
  wp_G_lsnOf G6 r1 (fun r7 =>
  wp_A_change A5 ((G_subject G) (Int32.toNatClampNeg a1)) ((G_wasThere G) (Int32.toNatClampNeg a1)) ((G_oldValue G) (Int32.toNatClampNeg a1)) r7 (fun A8 =>
  post A8 G6))))))

def wp_N_undoOpenUpdates_L13 (T : S_T) (v1 : Int32) (v2 : Int32) (Kx : Int32 → S_A → S_G → Prop) : Nat → Int32 → Int32 → S_A → S_G → Prop
  | 0, _, _, _, _ => False
  | n13 + 1, v3, v4, A, G => (if v4 < 0 then Kx v3 A G
      else wp_G_lsnOf G v4 (fun r1 =>
        (if r1 ≤ v2 then Kx v3 A G
        else wp_N_isOpen G T v4 (fun r2 =>
          (if r2 = 0 then wp_N_undoOpenUpdates_L13 T v1 v2 Kx n13 v3 (v4 + (-1)) A G
          else vp_in v4 300 ∧
            wp_T_isWithin T ((G_transaction G) (Int32.toNatClampNeg v4)) v1 (fun r3 =>
            (if r3 = 0 then wp_N_undoOpenUpdates_L13 T v1 v2 Kx n13 v3 (v4 + (-1)) A G
            else wp_N_undo A G v4 v1 (fun A4 G5 =>
              wp_N_undoOpenUpdates_L13 T v1 v2 Kx n13 (v3 + 1) (v4 + (-1)) A4 G5))))))))
def wp_N_undoOpenUpdates (A : S_A) (G : S_G) (T : S_T) (a1 : Int32) (a2 : Int32) (post : Int32 → S_A → S_G → Prop) : Prop :=
  (∃ e13, wp_N_undoOpenUpdates_L13 T a1 a2 (fun x6 A7 G8 =>
  post x6 A7 G8) e13 0 ((G_size G) - 1) A G)

def wp_K_release_L2 (v1 : Int32) (Kx : S_K → Prop) : Nat → Int32 → S_K → Prop
  | 0, _, _ => False
  | n2 + 1, v2, K => (if 33 ≤ v2 then Kx K
      else vp_in v2 33 ∧
        vp_in v2 33 ∧
        vp_in v2 33 ∧
        vp_in v2 33 ∧
        wp_K_release_L2 v1 Kx n2 (v2 + 1) (K_exclusive' (K_shared' K (vp_updL (K_shared K) (Int32.toNatClampNeg v2) (((K_shared K) (Int32.toNatClampNeg v2)) &&& (((1 : Int64) <<< (Int32.toInt64 v1 &&& 63)) ^^^ (-1))))) (vp_updL (K_exclusive K) (Int32.toNatClampNeg v2) (((K_exclusive K) (Int32.toNatClampNeg v2)) &&& (((1 : Int64) <<< (Int32.toInt64 v1 &&& 63)) ^^^ (-1))))))
def wp_K_release (K : S_K) (a1 : Int32) (post : S_K → Prop) : Prop :=
  (∃ e2, wp_K_release_L2 a1 (fun K1 =>
  post K1) e2 0 K)

def wp_N_abortWithDescendants_L25 (v1 : Int32) (v2 : Int32) (Kx : S_G → S_K → S_T → Prop) : Nat → Int32 → S_G → S_K → S_T → Prop
  | 0, _, _, _, _ => False
  | n25 + 1, v3, G, K, T => (if v3 < v1 then Kx G K T
      else wp_T_isLive T v3 (fun r4 =>
        (if r4 = 0 then wp_N_abortWithDescendants_L25 v1 v2 Kx n25 (v3 + (-1)) G K T
        else wp_T_isWithin T v3 v1 (fun r5 =>
          (if r5 = 0 then wp_N_abortWithDescendants_L25 v1 v2 Kx n25 (v3 + (-1)) G K T
          else vp_in v3 60 ∧
            wp_G_append G 5 v3 0 (fun r6 G7 =>
            wp_K_release K v3 (fun K8 =>
            wp_N_abortWithDescendants_L25 v1 v2 Kx n25 (v3 + (-1)) G7 K8 (T_state' T (upd (T_state T) (Int32.toNatClampNeg v3) 4)))))))))
def wp_N_abortWithDescendants (A : S_A) (G : S_G) (K : S_K) (T : S_T) (a1 : Int32) (post : Int32 → S_A → S_G → S_K → S_T → Prop) : Prop :=
  vp_in a1 60 ∧
  wp_N_undoOpenUpdates A G T a1 ((T_begun T) (Int32.toNatClampNeg a1)) (fun r1 A2 G3 =>
  (∃ e25, wp_N_abortWithDescendants_L25 a1 r1 (fun G9 K10 T11 =>
  post r1 A2 G9 K10 T11) e25 ((T_count T) - 1) G3 K T))

def wp_N_request_L42 (v1 : Int32) (Kx : S_A → S_D → S_G → S_K → S_P → S_T → Prop) : Nat → Int32 → Int32 → S_A → S_D → S_G → S_K → S_P → S_T → Prop
  | 0, _, _, _, _, _, _, _, _ => False
  | n42 + 1, v2, v3, A, D, G, K, P, T => (if 60 ≤ v3 then Kx A D G K P T
      else (if v2 = (-1) then Kx A D G K P T
        else wp_N_abortWithDescendants A G K T v2 (fun r7 A8 G9 K10 T11 =>
          wp_N_victimOfCircle A8 D K10 P T11 v1 (fun r12 D13 P14 =>
          wp_N_request_L42 v1 Kx n42 r12 (v3 + 1) A8 D13 G9 K10 P14 T11))))
def wp_N_request (A : S_A) (D : S_D) (G : S_G) (K : S_K) (N : S_N) (P : S_P) (T : S_T) (a1 : Int32) (post : Int32 → S_A → S_D → S_G → S_K → S_N → S_P → S_T → Prop) : Prop :=
  wp_N_takeLocks A K P T a1 (fun r1 K2 P3 =>
  (if r1 = 0 then vp_in a1 60 ∧
    wp_N_victimOfCircle A D K2 P3 (T_state' T (upd (T_state T) (Int32.toNatClampNeg a1) 2)) a1 (fun r4 D5 P6 =>
    (∃ e42, wp_N_request_L42 a1 (fun A15 D16 G17 K18 P19 T20 =>
    wp_T_isLive T20 a1 (fun r21 =>
      (if r21 = 0 then post (-3) A15 D16 G17 K18 N P19 T20
      else post (-2) A15 D16 G17 K18 N P19 T20))) e42 r4 0 A D5 G K2 P6 (T_state' T (upd (T_state T) (Int32.toNatClampNeg a1) 2))))
  else vp_in a1 60 ∧
    wp_N_carryOut A G N (T_state' T (upd (T_state T) (Int32.toNatClampNeg a1) 1)) a1 (fun r22 A23 G24 N25 =>
    post r22 A23 D G24 K2 N25 P3 (T_state' T (upd (T_state T) (Int32.toNatClampNeg a1) 1)))))

def wp_N_get (A : S_A) (D : S_D) (G : S_G) (K : S_K) (N : S_N) (P : S_P) (T : S_T) (a1 : Int32) (a2 : Int32) (post : Int32 → S_A → S_D → S_G → S_K → S_N → S_P → S_T → Prop) : Prop :=
  wp_N_prepare T a1 0 a2 a2 0 (fun r1 T2 =>
  (if r1 = 0 then wp_N_request A D G K N P T2 a1 (fun r3 A4 D5 G6 K7 N8 P9 T10 =>
    post r3 A4 D5 G6 K7 N8 P9 T10)
  else post r1 A D G K N P T2))

def wp_N_put (A : S_A) (D : S_D) (G : S_G) (K : S_K) (N : S_N) (P : S_P) (T : S_T) (a1 : Int32) (a2 : Int32) (a3 : Int32) (post : Int32 → S_A → S_D → S_G → S_K → S_N → S_P → S_T → Prop) : Prop :=
  wp_N_prepare T a1 1 a2 a2 a3 (fun r1 T2 =>
  (if r1 = 0 then wp_N_request A D G K N P T2 a1 (fun r3 A4 D5 G6 K7 N8 P9 T10 =>
    post r3 A4 D5 G6 K7 N8 P9 T10)
  else post r1 A D G K N P T2))

def wp_N_delete (A : S_A) (D : S_D) (G : S_G) (K : S_K) (N : S_N) (P : S_P) (T : S_T) (a1 : Int32) (a2 : Int32) (post : Int32 → S_A → S_D → S_G → S_K → S_N → S_P → S_T → Prop) : Prop :=
  wp_N_prepare T a1 2 a2 a2 0 (fun r1 T2 =>
  (if r1 = 0 then wp_N_request A D G K N P T2 a1 (fun r3 A4 D5 G6 K7 N8 P9 T10 =>
    post r3 A4 D5 G6 K7 N8 P9 T10)
  else post r1 A D G K N P T2))

def wp_N_scan (A : S_A) (D : S_D) (G : S_G) (K : S_K) (N : S_N) (P : S_P) (T : S_T) (a1 : Int32) (a2 : Int32) (a3 : Int32) (post : Int32 → S_A → S_D → S_G → S_K → S_N → S_P → S_T → Prop) : Prop :=
  wp_N_prepare T a1 3 a2 a3 0 (fun r1 T2 =>
  (if r1 = 0 then wp_N_request A D G K N P T2 a1 (fun r3 A4 D5 G6 K7 N8 P9 T10 =>
    post r3 A4 D5 G6 K7 N8 P9 T10)
  else post r1 A D G K N P T2))

def wp_N_resume (A : S_A) (D : S_D) (G : S_G) (K : S_K) (N : S_N) (P : S_P) (T : S_T) (a1 : Int32) (post : Int32 → S_A → S_D → S_G → S_K → S_N → S_P → S_T → Prop) : Prop :=
  wp_T_isWaiting T a1 (fun r1 =>
  (if r1 = 0 then post (-1) A D G K N P T
  else wp_N_request A D G K N P T a1 (fun r2 A3 D4 G5 K6 N7 P8 T9 =>
    post r2 A3 D4 G5 K6 N7 P8 T9)))

def wp_N_value (N : S_N) (post : Int32 → Prop) : Prop :=
  post (N_latestValue N)

def wp_K_passOn_L2 (v1 : Int32) (v2 : Int32) (Kx : S_K → Prop) : Nat → Int32 → S_K → Prop
  | 0, _, _ => False
  | n2 + 1, v3, K => (if 33 ≤ v3 then Kx K
      else wp_K_heldBy K v1 v3 (fun r1 =>
        wp_K_grant K v2 v3 r1 (fun K2 =>
        wp_K_passOn_L2 v1 v2 Kx n2 (v3 + 1) K2)))
def wp_K_passOn (K : S_K) (a1 : Int32) (a2 : Int32) (post : S_K → Prop) : Prop :=
  (∃ e2, wp_K_passOn_L2 a1 a2 (fun K3 =>
  post K3) e2 0 K)

def wp_N_commit (G : S_G) (K : S_K) (T : S_T) (a1 : Int32) (post : Int32 → S_G → S_K → S_T → Prop) : Prop :=
  wp_N_refusalOf T a1 (fun r1 =>
  (if r1 = 0 then wp_G_append G 4 a1 0 (fun r2 G3 =>
    vp_in a1 60 ∧
    vp_in a1 60 ∧
    (if ((T_parent T) (Int32.toNatClampNeg a1)) = (-1) then wp_G_last G3 (fun r6 =>
      wp_K_release K a1 (fun K7 =>
      post 0 (G_flushed' G3 r6) K7 (T_state' T (upd (T_state T) (Int32.toNatClampNeg a1) 3))))
    else wp_K_passOn K a1 ((T_parent T) (Int32.toNatClampNeg a1)) (fun K4 =>
      wp_K_release K4 a1 (fun K5 =>
      post 0 G3 K5 (T_state' T (upd (T_state T) (Int32.toNatClampNeg a1) 3))))))
  else post r1 G K T))

def wp_N_abort (A : S_A) (G : S_G) (K : S_K) (T : S_T) (a1 : Int32) (post : Int32 → S_A → S_G → S_K → S_T → Prop) : Prop :=
  wp_T_isLive T a1 (fun r1 =>
  (if r1 = 0 then post (-1) A G K T
  else wp_N_abortWithDescendants A G K T a1 (fun r2 A3 G4 K5 T6 =>
    post r2 A3 G4 K5 T6)))

def wp_N_save (G : S_G) (T : S_T) (a1 : Int32) (post : Int32 → Prop) : Prop :=
  wp_N_refusalOf T a1 (fun r1 =>
  (if r1 = 0 then wp_G_last G (fun r2 =>
    post r2)
  else post r1))

def wp_N_rollback (A : S_A) (G : S_G) (T : S_T) (a1 : Int32) (a2 : Int32) (post : Int32 → S_A → S_G → Prop) : Prop :=
  wp_T_isActive T a1 (fun r1 =>
  (if r1 = 0 then post (-1) A G
  else vp_in a1 60 ∧
    (if a2 < ((T_begun T) (Int32.toNatClampNeg a1)) then post (-1) A G
    else wp_G_last G (fun r2 =>
      (if a2 ≤ r2 then wp_T_isBusy T a1 (fun r3 =>
        (if r3 = 0 then wp_N_undoOpenUpdates A G T a1 a2 (fun r4 A5 G6 =>
          post r4 A5 G6)
        else post (-4) A G))
      else post (-1) A G)))))

def wp_N_isPage (a0 : Int32) (post : Int32 → Prop) : Prop :=
  (if a0 < 0 then post 0
  else (if 8 ≤ a0 then post 0
    else post 1))

def wp_N_write (A : S_A) (G : S_G) (a1 : Int32) (post : Int32 → S_A → S_G → Prop) : Prop :=
  wp_N_isPage a1 (fun r1 =>
  (if r1 = 0 then post 0 A G
  else vp_in a1 8 ∧
    (if ((A_dirty A) (Int32.toNatClampNeg a1)) = 0 then post 0 A G
    else wp_A_putOnDisk A G a1 (fun A2 G3 =>
      post 1 A2 G3))))

def wp_G_empty (G : S_G) (post : S_G → Prop) : Prop :=
  wp_G_last G (fun r1 =>
  post (G_flushed' (G_size' (G_base' G r1) 0) r1))

def wp_N_archive_L16 (Kx : Int32 → S_A → S_G → Prop) : Nat → Int32 → Int32 → S_A → S_G → Prop
  | 0, _, _, _, _ => False
  | n16 + 1, v1, v2, A, G => (if 8 ≤ v2 then Kx v1 A G
      else vp_in v2 8 ∧
        (if ((A_dirty A) (Int32.toNatClampNeg v2)) = 0 then wp_N_archive_L16 Kx n16 v1 (v2 + 1) A G
        else wp_A_putOnDisk A G v2 (fun A2 G3 =>
          wp_N_archive_L16 Kx n16 (v1 + 1) (v2 + 1) A2 G3)))
def wp_N_archive (A : S_A) (G : S_G) (T : S_T) (post : Int32 → S_A → S_G → Prop) : Prop :=
  wp_T_liveCount T (fun r1 =>
  (if r1 ≤ 0 then (∃ e16, wp_N_archive_L16 (fun x4 A5 G6 =>
    wp_G_empty G6 (fun G7 =>
      post x4 A5 G7)) e16 0 0 A G)
  else post (-1) A G))

def wp_G_rowOf (G : S_G) (a1 : Int32) (post : Int32 → Prop) : Prop :=
  post ((a1 - (G_base G)) - 1)

def wp_G_loseUnflushed_L12 (v1 : Int32) (Kx : S_G → Prop) : Nat → Int32 → S_G → Prop
  | 0, _, _ => False
  | n12 + 1, v2, G => (if (G_size G) ≤ v2 then Kx G
      else vp_in v2 300 ∧
        (if ((G_kind G) (Int32.toNatClampNeg v2)) = 3 then vp_in v2 300 ∧
          wp_G_rowOf G ((G_undoes G) (Int32.toNatClampNeg v2)) (fun r1 =>
          vp_in r1 300 ∧
          wp_G_loseUnflushed_L12 v1 Kx n12 (v2 + 1) (G_undone' G (upd (G_undone G) (Int32.toNatClampNeg r1) (vp_nar .boolean 0))))
        else wp_G_loseUnflushed_L12 v1 Kx n12 (v2 + 1) G))
def wp_G_loseUnflushed (G : S_G) (post : S_G → Prop) : Prop :=
  (∃ e12, wp_G_loseUnflushed_L12 ((G_flushed G) - (G_base G)) (fun G2 =>
  post (G_size' G2 ((G_flushed G) - (G_base G)))) e12 ((G_flushed G) - (G_base G)) G)

def wp_A_loseFrames_L7 (Kx : S_A → Prop) : Nat → Int32 → S_A → Prop
  | 0, _, _ => False
  | n7 + 1, v1, A => (if 8 ≤ v1 then Kx A
      else vp_in v1 8 ∧
        vp_in v1 8 ∧
        vp_in v1 8 ∧
        wp_A_loseFrames_L7 Kx n7 (v1 + 1) (A_lsn' (A_dirty' A (upd (A_dirty A) (Int32.toNatClampNeg v1) (vp_nar .boolean 0))) (upd (A_lsn A) (Int32.toNatClampNeg v1) ((A_diskLsn A) (Int32.toNatClampNeg v1)))))
def wp_A_loseFrames_L40 (Kx : S_A → Prop) : Nat → Int32 → S_A → Prop
  | 0, _, _ => False
  | n40 + 1, v1, A => (if 32 ≤ v1 then Kx A
      else vp_in v1 32 ∧
        vp_in v1 32 ∧
        vp_in v1 32 ∧
        vp_in v1 32 ∧
        wp_A_loseFrames_L40 Kx n40 (v1 + 1) (A_value' (A_there' A (upd (A_there A) (Int32.toNatClampNeg v1) (vp_nar .boolean ((A_diskThere A) (Int32.toNatClampNeg v1))))) (upd (A_value A) (Int32.toNatClampNeg v1) ((A_diskValue A) (Int32.toNatClampNeg v1)))))
def wp_A_loseFrames (A : S_A) (post : S_A → Prop) : Prop :=
  (∃ e7, wp_A_loseFrames_L7 (fun A1 =>
  (∃ e40, wp_A_loseFrames_L40 (fun A2 =>
    post A2) e40 0 A1)) e7 0 (A_framesInUse' A 0))

def wp_K_releaseAll_L2 (Kx : S_K → Prop) : Nat → Int32 → S_K → Prop
  | 0, _, _ => False
  | n2 + 1, v1, K => (if 33 ≤ v1 then Kx K
      else vp_in v1 33 ∧
        vp_in v1 33 ∧
        wp_K_releaseAll_L2 Kx n2 (v1 + 1) (K_exclusive' (K_shared' K (vp_updL (K_shared K) (Int32.toNatClampNeg v1) (0 : Int64))) (vp_updL (K_exclusive K) (Int32.toNatClampNeg v1) (0 : Int64))))
def wp_K_releaseAll (K : S_K) (post : S_K → Prop) : Prop :=
  (∃ e2, wp_K_releaseAll_L2 (fun K1 =>
  post K1) e2 0 K)

def wp_T_abortUncommitted_L2 (Kx : S_T → Prop) : Nat → Int32 → S_T → Prop
  | 0, _, _ => False
  | n2 + 1, v1, T => (if (T_count T) ≤ v1 then Kx T
      else vp_in v1 60 ∧
        vp_in ((T_top T) (Int32.toNatClampNeg v1)) 60 ∧
        (if ((T_state T) (Int32.toNatClampNeg ((T_top T) (Int32.toNatClampNeg v1)))) = 3 then wp_T_abortUncommitted_L2 Kx n2 (v1 + 1) T
        else vp_in v1 60 ∧
          wp_T_abortUncommitted_L2 Kx n2 (v1 + 1) (T_state' T (upd (T_state T) (Int32.toNatClampNeg v1) 4))))
def wp_T_abortUncommitted (T : S_T) (post : S_T → Prop) : Prop :=
  (∃ e2, wp_T_abortUncommitted_L2 (fun T1 =>
  post T1) e2 0 T)

def wp_N_redo (A : S_A) (G : S_G) (a1 : Int32) (post : S_A → S_G → Prop) : Prop :=
  vp_in a1 300 ∧
  wp_A_touch A G (((G_subject G) (Int32.toNatClampNeg a1)) / 4) (fun A1 G2 =>
  vp_in (((G_subject G) (Int32.toNatClampNeg a1)) / 4) 8 ∧
  wp_G_lsnOf G2 a1 (fun r3 =>
  (if r3 ≤ ((A_lsn A1) (Int32.toNatClampNeg (((G_subject G) (Int32.toNatClampNeg a1)) / 4))) then post A1 G2
  else vp_in a1 300 ∧
    vp_in a1 300 ∧
    wp_G_lsnOf G2 a1 (fun r4 =>
    wp_A_change A1 ((G_subject G) (Int32.toNatClampNeg a1)) ((G_isThere G2) (Int32.toNatClampNeg a1)) ((G_newValue G2) (Int32.toNatClampNeg a1)) r4 (fun A5 =>
    post A5 G2)))))

def wp_N_redoLog_L2 (Kx : S_A → S_G → Prop) : Nat → Int32 → S_A → S_G → Prop
  | 0, _, _, _ => False
  | n2 + 1, v1, A, G => (if (G_size G) ≤ v1 then Kx A G
      else vp_in v1 300 ∧
        (if ((G_kind G) (Int32.toNatClampNeg v1)) = 2 then wp_N_redo A G v1 (fun A1 G2 =>
          wp_N_redoLog_L2 Kx n2 (v1 + 1) A1 G2)
        else vp_in v1 300 ∧
          (if ((G_kind G) (Int32.toNatClampNeg v1)) = 3 then wp_N_redo A G v1 (fun A3 G4 =>
            wp_N_redoLog_L2 Kx n2 (v1 + 1) A3 G4)
          else wp_N_redoLog_L2 Kx n2 (v1 + 1) A G)))
def wp_N_redoLog (A : S_A) (G : S_G) (post : S_A → S_G → Prop) : Prop :=
  (∃ e2, wp_N_redoLog_L2 (fun A5 G6 =>
  post A5 G6) e2 0 A G)

def wp_N_undoUncommitted_L12 (T : S_T) (Kx : Int32 → S_A → S_G → Prop) : Nat → Int32 → Int32 → S_A → S_G → Prop
  | 0, _, _, _, _ => False
  | n12 + 1, v1, v2, A, G => (if v2 < 0 then Kx v1 A G
      else vp_in v2 300 ∧
        vp_in ((G_transaction G) (Int32.toNatClampNeg v2)) 60 ∧
        vp_in v2 300 ∧
        (if ((G_kind G) (Int32.toNatClampNeg v2)) = 2 then vp_in v2 300 ∧
          (if ((G_undone G) (Int32.toNatClampNeg v2)) = 0 then vp_in ((T_top T) (Int32.toNatClampNeg ((G_transaction G) (Int32.toNatClampNeg v2)))) 60 ∧
            (if ((T_state T) (Int32.toNatClampNeg ((T_top T) (Int32.toNatClampNeg ((G_transaction G) (Int32.toNatClampNeg v2)))))) = 3 then wp_N_undoUncommitted_L12 T Kx n12 v1 (v2 + (-1)) A G
            else wp_N_undo A G v2 ((T_top T) (Int32.toNatClampNeg ((G_transaction G) (Int32.toNatClampNeg v2)))) (fun A1 G2 =>
              wp_N_undoUncommitted_L12 T Kx n12 (v1 + 1) (v2 + (-1)) A1 G2))
          else wp_N_undoUncommitted_L12 T Kx n12 v1 (v2 + (-1)) A G)
        else wp_N_undoUncommitted_L12 T Kx n12 v1 (v2 + (-1)) A G))
def wp_N_undoUncommitted (A : S_A) (G : S_G) (T : S_T) (post : Int32 → S_A → S_G → Prop) : Prop :=
  (∃ e12, wp_N_undoUncommitted_L12 T (fun x3 A4 G5 =>
  post x3 A4 G5) e12 0 ((G_size G) - 1) A G)

def wp_N_crash (A : S_A) (G : S_G) (K : S_K) (T : S_T) (a1 : Int32) (post : Int32 → S_A → S_G → S_K → S_T → Prop) : Prop :=
  (if a1 < 0 then post (-1) A G K T
  else wp_G_last G (fun r1 =>
    (if a1 ≤ (r1 - (G_flushed G)) then wp_G_loseUnflushed (G_flushed' G ((G_flushed G) + a1)) (fun G2 =>
      wp_A_loseFrames A (fun A3 =>
      wp_K_releaseAll K (fun K4 =>
      wp_T_abortUncommitted T (fun T5 =>
      wp_N_redoLog A3 G2 (fun A6 G7 =>
      wp_N_undoUncommitted A6 G7 T5 (fun r8 A9 G10 =>
      wp_G_last G10 (fun r11 =>
      post r8 A9 (G_flushed' G10 r11) K4 T5)))))))
    else post (-1) A G K T)))

def wp_N_state (T : S_T) (a1 : Int32) (post : Int32 → Prop) : Prop :=
  wp_T_exists T a1 (fun r1 =>
  (if r1 = 0 then post (-1)
  else vp_in a1 60 ∧
    post ((T_state T) (Int32.toNatClampNeg a1))))

def wp_N_parent (T : S_T) (a1 : Int32) (post : Int32 → Prop) : Prop :=
  wp_T_exists T a1 (fun r1 =>
  (if r1 = 0 then post (-1)
  else vp_in a1 60 ∧
    post ((T_parent T) (Int32.toNatClampNeg a1))))

def wp_N_lock (K : S_K) (T : S_T) (a1 : Int32) (a2 : Int32) (post : Int32 → Prop) : Prop :=
  wp_T_exists T a1 (fun r1 =>
  (if r1 = 0 then post (-1)
  else (if a2 < 0 then post (-1)
    else (if a2 < 33 then wp_K_heldBy K a1 a2 (fun r2 =>
        post r2)
      else post (-1)))))

def wp_N_waits (A : S_A) (K : S_K) (P : S_P) (T : S_T) (a1 : Int32) (a2 : Int32) (post : Int32 → S_P → Prop) : Prop :=
  wp_T_isWaiting T a1 (fun r1 =>
  (if r1 = 0 then post 0 P
  else wp_T_exists T a2 (fun r2 =>
    (if r2 = 0 then post 0 P
    else wp_N_blockersOf A K P T a1 (fun r3 P4 =>
      (if (lg_cmp (r3 &&& ((1 : Int64) <<< (Int32.toInt64 a2 &&& 63))) (0 : Int64)) = 0 then post 0 P4
      else post 1 P4))))))

def wp_N_entry (G : S_G) (a1 : Int32) (a2 : Int32) (post : Int32 → Prop) : Prop :=
  (if a1 ≤ (G_base G) then post (-1)
  else wp_G_last G (fun r1 =>
    (if a1 ≤ r1 then wp_G_rowOf G a1 (fun r2 =>
      (if a2 = 0 then vp_in r2 300 ∧
        post ((G_kind G) (Int32.toNatClampNeg r2))
      else if a2 = 1 then vp_in r2 300 ∧
        post ((G_transaction G) (Int32.toNatClampNeg r2))
      else if a2 = 2 then vp_in r2 300 ∧
        post ((G_subject G) (Int32.toNatClampNeg r2))
      else if a2 = 3 then vp_in r2 300 ∧
        (if ((G_kind G) (Int32.toNatClampNeg r2)) = 3 then vp_in r2 300 ∧
          post ((G_undoes G) (Int32.toNatClampNeg r2))
        else vp_in r2 300 ∧
          wp_N_asNumber ((G_wasThere G) (Int32.toNatClampNeg r2)) (fun r3 =>
          post r3))
      else if a2 = 4 then vp_in r2 300 ∧
        wp_N_asNumber ((G_isThere G) (Int32.toNatClampNeg r2)) (fun r4 =>
        post r4)
      else if a2 = 5 then vp_in r2 300 ∧
        post ((G_newValue G) (Int32.toNatClampNeg r2))
      else post (-1)))
    else post (-1))))

def wp_N_log (G : S_G) (T : S_T) (a1 : Int32) (post : Int32 → Prop) : Prop :=
  (if a1 = 0 then wp_G_last G (fun r1 =>
    post r1)
  else if a1 = 1 then post (G_flushed G)
  else if a1 = 2 then post (G_size G)
  else if a1 = 3 then wp_N_openUpdateCount G T (fun r2 =>
    post r2)
  else if a1 = 4 then wp_T_liveCount T (fun r3 =>
    post r3)
  else post (-1))

def wp_N_key (A : S_A) (a1 : Int32) (a2 : Int32) (post : Int32 → Prop) : Prop :=
  wp_N_isKey a1 (fun r1 =>
  (if r1 = 0 then post (-1)
  else (if a2 = 0 then vp_in a1 32 ∧
      wp_N_asNumber ((A_there A) (Int32.toNatClampNeg a1)) (fun r2 =>
      post r2)
    else if a2 = 1 then vp_in a1 32 ∧
      post ((A_value A) (Int32.toNatClampNeg a1))
    else if a2 = 2 then vp_in a1 32 ∧
      wp_N_asNumber ((A_diskThere A) (Int32.toNatClampNeg a1)) (fun r3 =>
      post r3)
    else if a2 = 3 then vp_in a1 32 ∧
      post ((A_diskValue A) (Int32.toNatClampNeg a1))
    else post (-1))))

def wp_N_frame (A : S_A) (a1 : Int32) (post : Int32 → Prop) : Prop :=
  (if a1 < 0 then post (-1)
  else (if a1 < (A_framesInUse A) then vp_in a1 8 ∧
      vp_in ((A_byTouch A) (Int32.toNatClampNeg a1)) 8 ∧
      wp_N_asNumber ((A_dirty A) (Int32.toNatClampNeg ((A_byTouch A) (Int32.toNatClampNeg a1)))) (fun r1 =>
      post ((((A_byTouch A) (Int32.toNatClampNeg a1)) * 2) + r1))
    else post (-1)))

def wp_N_page (A : S_A) (a1 : Int32) (post : Int32 → Prop) : Prop :=
  wp_N_isPage a1 (fun r1 =>
  (if r1 = 0 then post (-1)
  else vp_in a1 8 ∧
    post ((A_lsn A) (Int32.toNatClampNeg a1))))
end
section
def wp_M_isKey (a0 : Int32) (post : Int32 → Prop) : Prop :=
  (if a0 < 0 then post 0
  else (if 31 < a0 then post 0
    else post 1))

def wp_M_isPage (a0 : Int32) (post : Int32 → Prop) : Prop :=
  (if a0 < 0 then post 0
  else (if 7 < a0 then post 0
    else post 1))

def wp_M_isThereNow (MA : S_MA) (MD : S_MD) (a1 : Int32) (post : Int32 → Prop) : Prop :=
  vp_in (a1 / 4) 8 ∧
  (if ((MA_inFrame MA) (Int32.toNatClampNeg (a1 / 4))) = 0 then vp_in a1 32 ∧
    vp_nar .boolean ((MD_diskThere MD) (Int32.toNatClampNeg a1)) = ((MD_diskThere MD) (Int32.toNatClampNeg a1)) ∧
    post ((MD_diskThere MD) (Int32.toNatClampNeg a1))
  else vp_in a1 32 ∧
    vp_nar .boolean ((MA_there MA) (Int32.toNatClampNeg a1)) = ((MA_there MA) (Int32.toNatClampNeg a1)) ∧
    post ((MA_there MA) (Int32.toNatClampNeg a1)))

def wp_M_valueNow (MA : S_MA) (MD : S_MD) (a1 : Int32) (post : Int32 → Prop) : Prop :=
  vp_in (a1 / 4) 8 ∧
  (if ((MA_inFrame MA) (Int32.toNatClampNeg (a1 / 4))) = 0 then vp_in a1 32 ∧
    post ((MD_diskValue MD) (Int32.toNatClampNeg a1))
  else vp_in a1 32 ∧
    post ((MA_value MA) (Int32.toNatClampNeg a1)))

def wp_M_lsnNow (MA : S_MA) (MD : S_MD) (a1 : Int32) (post : Int32 → Prop) : Prop :=
  vp_in a1 8 ∧
  (if ((MA_inFrame MA) (Int32.toNatClampNeg a1)) = 0 then vp_in a1 8 ∧
    post ((MD_diskLsn MD) (Int32.toNatClampNeg a1))
  else vp_in a1 8 ∧
    post ((MA_lsn MA) (Int32.toNatClampNeg a1)))

def wp_M_writes_L34 (MA : S_MA) (v1 : Int32) (Kx : S_MD → Prop) : Nat → Int32 → S_MD → Prop
  | 0, _, _ => False
  | n34 + 1, v2, MD => (if ((4 * v1) + 4) ≤ v2 then Kx MD
      else vp_in v2 32 ∧
        vp_in v2 32 ∧
        vp_in v2 32 ∧
        vp_in v2 32 ∧
        wp_M_writes_L34 MA v1 Kx n34 (v2 + 1) (MD_diskValue' (MD_diskThere' MD (upd (MD_diskThere MD) (Int32.toNatClampNeg v2) (vp_nar .boolean ((MA_there MA) (Int32.toNatClampNeg v2))))) (upd (MD_diskValue MD) (Int32.toNatClampNeg v2) ((MA_value MA) (Int32.toNatClampNeg v2)))))
def wp_M_writes (MA : S_MA) (MD : S_MD) (MG : S_MG) (a1 : Int32) (post : S_MA → S_MD → S_MG → Prop) : Prop :=
  vp_in a1 8 ∧
  (jn (fun (jk27 : Int32 → Prop) =>
  (if ((MA_lsn MA) (Int32.toNatClampNeg a1)) ≤ (MG_flushed MG) then jk27 (MG_flushed MG)
    else vp_in a1 8 ∧
      jk27 ((MA_lsn MA) (Int32.toNatClampNeg a1)))) (fun b1 =>
  (∃ e34, wp_M_writes_L34 MA a1 (fun MD2 =>
    vp_in a1 8 ∧
      vp_in a1 8 ∧
      vp_in a1 8 ∧
      post (MA_dirty' MA (upd (MA_dirty MA) (Int32.toNatClampNeg a1) (vp_nar .boolean 0))) (MD_diskLsn' MD2 (upd (MD_diskLsn MD2) (Int32.toNatClampNeg a1) ((MA_lsn MA) (Int32.toNatClampNeg a1)))) (MG_flushed' MG b1)) e34 (4 * a1) MD)))

def wp_M_touch_L26 (MA : S_MA) (v1 : Int32) (Kx : Int32 → Int32 → Prop) : Nat → Int32 → Int32 → Int32 → Prop
  | 0, _, _, _ => False
  | n26 + 1, v2, v3, v4 => (if 8 ≤ v4 then Kx v2 v3
      else vp_in v4 8 ∧
        (jn (fun (jk49 : Int32 → Prop) =>
        (if ((MA_inFrame MA) (Int32.toNatClampNeg v4)) = 0 then jk49 0
          else jk49 1)) (fun b1 =>
        vp_in v4 8 ∧
          (if ((MA_inFrame MA) (Int32.toNatClampNeg v4)) = 0 then wp_M_touch_L26 MA v1 Kx n26 (v2 + b1) v3 (v4 + 1)
          else (if v3 < 0 then wp_M_touch_L26 MA v1 Kx n26 (v2 + b1) v4 (v4 + 1)
            else vp_in v4 8 ∧
              vp_in v3 8 ∧
              (if ((MA_touched MA) (Int32.toNatClampNeg v3)) ≤ ((MA_touched MA) (Int32.toNatClampNeg v4)) then wp_M_touch_L26 MA v1 Kx n26 (v2 + b1) v3 (v4 + 1)
              else wp_M_touch_L26 MA v1 Kx n26 (v2 + b1) v4 (v4 + 1)))))))
def wp_M_touch_L128 (MD : S_MD) (v1 : Int32) (Kx : S_MA → Prop) : Nat → Int32 → S_MA → Prop
  | 0, _, _ => False
  | n128 + 1, v4, MA => (if ((4 * v1) + 4) ≤ v4 then Kx MA
      else vp_in v4 32 ∧
        vp_in v4 32 ∧
        vp_in v4 32 ∧
        vp_in v4 32 ∧
        wp_M_touch_L128 MD v1 Kx n128 (v4 + 1) (MA_value' (MA_there' MA (upd (MA_there MA) (Int32.toNatClampNeg v4) (vp_nar .boolean ((MD_diskThere MD) (Int32.toNatClampNeg v4))))) (upd (MA_value MA) (Int32.toNatClampNeg v4) ((MD_diskValue MD) (Int32.toNatClampNeg v4)))))
def wp_M_touch (MA : S_MA) (MD : S_MD) (MG : S_MG) (a1 : Int32) (post : S_MA → S_MD → S_MG → Prop) : Prop :=
  vp_in a1 8 ∧
  (if ((MA_inFrame MA) (Int32.toNatClampNeg a1)) = 0 then (∃ e26, wp_M_touch_L26 (MA_clock' MA ((MA_clock MA) + 1)) a1 (fun x2 x3 =>
    (jn (fun (jk123 : S_MA → S_MD → S_MG → Prop) =>
      (if x2 = (MA_frames MA) then vp_in x3 8 ∧
          (if ((MA_dirty MA) (Int32.toNatClampNeg x3)) = 0 then vp_in x3 8 ∧
            jk123 (MA_inFrame' (MA_clock' MA ((MA_clock MA) + 1)) (upd (MA_inFrame MA) (Int32.toNatClampNeg x3) (vp_nar .boolean 0))) MD MG
          else wp_M_writes (MA_clock' MA ((MA_clock MA) + 1)) MD MG x3 (fun MA4 MD5 MG6 =>
            vp_in x3 8 ∧
            jk123 (MA_inFrame' MA4 (upd (MA_inFrame MA4) (Int32.toNatClampNeg x3) (vp_nar .boolean 0))) MD5 MG6))
        else jk123 (MA_clock' MA ((MA_clock MA) + 1)) MD MG)) (fun MA7 MD8 MG9 =>
      (∃ e128, wp_M_touch_L128 MD8 a1 (fun MA10 =>
        vp_in a1 8 ∧
          vp_in a1 8 ∧
          vp_in a1 8 ∧
          vp_in a1 8 ∧
          vp_in a1 8 ∧
          post (MA_touched' (MA_inFrame' (MA_dirty' (MA_lsn' MA10 (upd (MA_lsn MA10) (Int32.toNatClampNeg a1) ((MD_diskLsn MD8) (Int32.toNatClampNeg a1)))) (upd (MA_dirty MA10) (Int32.toNatClampNeg a1) (vp_nar .boolean 0))) (upd (MA_inFrame MA10) (Int32.toNatClampNeg a1) (vp_nar .boolean 1))) (upd (MA_touched MA10) (Int32.toNatClampNeg a1) (MA_clock MA10))) MD8 MG9) e128 (4 * a1) MA7)))) e26 0 (-1) 0)
  else vp_in a1 8 ∧
    post (MA_touched' (MA_clock' MA ((MA_clock MA) + 1)) (upd (MA_touched MA) (Int32.toNatClampNeg a1) ((MA_clock MA) + 1))) MD MG)

def wp_M_become (MA : S_MA) (a1 : Int32) (a2 : Int32) (a3 : Int32) (a4 : Int32) (post : S_MA → Prop) : Prop :=
  vp_in a1 32 ∧
  (jn (fun (jk21 : Int32 → Prop) =>
  (if a2 = 0 then jk21 0
    else jk21 a3)) (fun b1 =>
  vp_in a1 32 ∧
    vp_in (a1 / 4) 8 ∧
    vp_in (a1 / 4) 8 ∧
    post (MA_dirty' (MA_lsn' (MA_value' (MA_there' MA (upd (MA_there MA) (Int32.toNatClampNeg a1) (vp_nar .boolean a2))) (upd (MA_value MA) (Int32.toNatClampNeg a1) b1)) (upd (MA_lsn MA) (Int32.toNatClampNeg (a1 / 4)) a4)) (upd (MA_dirty MA) (Int32.toNatClampNeg (a1 / 4)) (vp_nar .boolean 1)))))

def wp_M_last (MG : S_MG) (post : Int32 → Prop) : Prop :=
  post ((MG_base MG) + (MG_records MG))

def wp_M_append (MG : S_MG) (a1 : Int32) (a2 : Int32) (a3 : Int32) (post : Int32 → S_MG → Prop) : Prop :=
  vp_in (MG_records MG) 301 ∧
  vp_in (MG_records MG) 301 ∧
  vp_in (MG_records MG) 301 ∧
  vp_in (MG_records MG) 301 ∧
  vp_in (MG_records MG) 301 ∧
  vp_in (MG_records MG) 301 ∧
  vp_in (MG_records MG) 301 ∧
  vp_in (MG_records MG) 301 ∧
  post (MG_records MG) (MG_records' (MG_isValue' (MG_isThere' (MG_wasValue' (MG_wasThere' (MG_of' (MG_about' (MG_by' (MG_kind' MG (upd (MG_kind MG) (Int32.toNatClampNeg (MG_records MG)) a1)) (upd (MG_by MG) (Int32.toNatClampNeg (MG_records MG)) a2)) (upd (MG_about MG) (Int32.toNatClampNeg (MG_records MG)) a3)) (upd (MG_of MG) (Int32.toNatClampNeg (MG_records MG)) 0)) (upd (MG_wasThere MG) (Int32.toNatClampNeg (MG_records MG)) (vp_nar .boolean 0))) (upd (MG_wasValue MG) (Int32.toNatClampNeg (MG_records MG)) 0)) (upd (MG_isThere MG) (Int32.toNatClampNeg (MG_records MG)) (vp_nar .boolean 0))) (upd (MG_isValue MG) (Int32.toNatClampNeg (MG_records MG)) 0)) ((MG_records MG) + 1))

def wp_M_update (MA : S_MA) (MD : S_MD) (MG : S_MG) (a1 : Int32) (a2 : Int32) (a3 : Int32) (a4 : Int32) (post : S_MA → S_MD → S_MG → Prop) : Prop :=
  wp_M_append MG 2 a1 a2 (fun r1 MG2 =>
  wp_M_touch MA MD MG2 (a2 / 4) (fun MA3 MD4 MG5 =>
  vp_in a2 32 ∧
  vp_in r1 301 ∧
  vp_in a2 32 ∧
  vp_in r1 301 ∧
  vp_in r1 301 ∧
  (jn (fun (jk66 : Int32 → Prop) =>
  (if a3 = 0 then jk66 0
    else jk66 a4)) (fun b6 =>
  vp_in r1 301 ∧
    wp_M_last (MG_isValue' (MG_isThere' (MG_wasValue' (MG_wasThere' MG5 (upd (MG_wasThere MG5) (Int32.toNatClampNeg r1) (vp_nar .boolean ((MA_there MA3) (Int32.toNatClampNeg a2))))) (upd (MG_wasValue MG5) (Int32.toNatClampNeg r1) ((MA_value MA3) (Int32.toNatClampNeg a2)))) (upd (MG_isThere MG5) (Int32.toNatClampNeg r1) (vp_nar .boolean a3))) (upd (MG_isValue MG5) (Int32.toNatClampNeg r1) b6)) (fun r7 =>
    wp_M_become MA3 a2 a3 a4 r7 (fun MA8 =>
    post MA8 MD4 (MG_isValue' (MG_isThere' (MG_wasValue' (MG_wasThere' MG5 (upd (MG_wasThere MG5) (Int32.toNatClampNeg r1) (vp_nar .boolean ((MA_there MA3) (Int32.toNatClampNeg a2))))) (upd (MG_wasValue MG5) (Int32.toNatClampNeg r1) ((MA_value MA3) (Int32.toNatClampNeg a2)))) (upd (MG_isThere MG5) (Int32.toNatClampNeg r1) (vp_nar .boolean a3))) (upd (MG_isValue MG5) (Int32.toNatClampNeg r1) b6))))))))

def wp_M_undo (MA : S_MA) (MD : S_MD) (MG : S_MG) (a1 : Int32) (a2 : Int32) (post : S_MA → S_MD → S_MG → Prop) : Prop :=
  vp_in a2 301 ∧
  wp_M_append MG 3 a1 ((MG_about MG) (Int32.toNatClampNeg a2)) (fun r1 MG2 =>
  vp_in r1 301 ∧
  vp_in a2 301 ∧
  vp_in r1 301 ∧
  vp_in a2 301 ∧
  vp_in r1 301 ∧
  vp_in a2 301 ∧
  wp_M_touch MA MD (MG_isValue' (MG_isThere' (MG_of' MG2 (upd (MG_of MG2) (Int32.toNatClampNeg r1) (((MG_base MG2) + a2) + 1))) (upd (MG_isThere MG2) (Int32.toNatClampNeg r1) (vp_nar .boolean ((MG_wasThere MG2) (Int32.toNatClampNeg a2))))) (upd (MG_isValue MG2) (Int32.toNatClampNeg r1) ((MG_wasValue MG2) (Int32.toNatClampNeg a2)))) (((MG_about MG2) (Int32.toNatClampNeg a2)) / 4) (fun MA3 MD4 MG5 =>
  vp_in a2 301 ∧
  vp_in r1 301 ∧
  vp_in r1 301 ∧
  wp_M_last MG5 (fun r6 =>
  wp_M_become MA3 ((MG_about MG5) (Int32.toNatClampNeg a2)) ((MG_isThere MG5) (Int32.toNatClampNeg r1)) ((MG_isValue MG5) (Int32.toNatClampNeg r1)) r6 (fun MA7 =>
  post MA7 MD4 MG5))))

def wp_M_undone_L6 (MG : S_MG) (v1 : Int32) (Kx : Int32 → Prop) : Nat → Int32 → Int32 → Prop
  | 0, _, _ => False
  | n6 + 1, v2, v3 => (if (MG_records MG) ≤ v3 then Kx v2
      else (if v2 = 0 then vp_in v3 301 ∧
          (if ((MG_kind MG) (Int32.toNatClampNeg v3)) = 3 then vp_in v3 301 ∧
            (if ((MG_of MG) (Int32.toNatClampNeg v3)) = (((MG_base MG) + v1) + 1) then wp_M_undone_L6 MG v1 Kx n6 1 (v3 + 1)
            else wp_M_undone_L6 MG v1 Kx n6 0 (v3 + 1))
          else wp_M_undone_L6 MG v1 Kx n6 0 (v3 + 1))
        else wp_M_undone_L6 MG v1 Kx n6 1 (v3 + 1)))
def wp_M_undone (MG : S_MG) (a1 : Int32) (post : Int32 → Prop) : Prop :=
  (∃ e6, wp_M_undone_L6 MG a1 (fun x1 =>
  vp_nar .boolean x1 = x1 ∧
    post x1) e6 0 (a1 + 1))

def wp_M_top_L4 (MT : S_MT) (Kx : Int32 → Prop) : Nat → Int32 → Int32 → Prop
  | 0, _, _ => False
  | n4 + 1, v2, v3 => (if 4 ≤ v3 then Kx v2
      else vp_in v2 60 ∧
        (if ((MT_parent MT) (Int32.toNatClampNeg v2)) < 0 then Kx v2
        else vp_in v2 60 ∧
          wp_M_top_L4 MT Kx n4 ((MT_parent MT) (Int32.toNatClampNeg v2)) (v3 + 1)))
def wp_M_top (MT : S_MT) (a1 : Int32) (post : Int32 → Prop) : Prop :=
  (∃ e4, wp_M_top_L4 MT (fun x1 =>
  post x1) e4 a1 0)

def wp_M_open (MG : S_MG) (MT : S_MT) (a1 : Int32) (post : Int32 → Prop) : Prop :=
  vp_in a1 301 ∧
  (if ((MG_kind MG) (Int32.toNatClampNeg a1)) = 2 then vp_in a1 301 ∧
    wp_M_top MT ((MG_by MG) (Int32.toNatClampNeg a1)) (fun r1 =>
    vp_in r1 60 ∧
    (if ((MT_state MT) (Int32.toNatClampNeg r1)) = 3 then post 0
    else vp_in a1 301 ∧
      wp_M_top MT ((MG_by MG) (Int32.toNatClampNeg a1)) (fun r2 =>
      vp_in r2 60 ∧
      (if ((MT_state MT) (Int32.toNatClampNeg r2)) = 4 then post 0
      else wp_M_undone MG a1 (fun r3 =>
        (if r3 = 0 then post 1
        else post 0))))))
  else post 0)

def wp_M_opens_L4 (MG : S_MG) (MT : S_MT) (Kx : Int32 → Prop) : Nat → Int32 → Int32 → Prop
  | 0, _, _ => False
  | n4 + 1, v1, v2 => (if (MG_records MG) ≤ v2 then Kx v1
      else wp_M_open MG MT v2 (fun r1 =>
        (if r1 = 0 then wp_M_opens_L4 MG MT Kx n4 (v1 + 0) (v2 + 1)
        else wp_M_opens_L4 MG MT Kx n4 (v1 + 1) (v2 + 1))))
def wp_M_opens (MG : S_MG) (MT : S_MT) (post : Int32 → Prop) : Prop :=
  (∃ e4, wp_M_opens_L4 MG MT (fun x2 =>
  post x2) e4 0 0)

def wp_M_live (MT : S_MT) (a1 : Int32) (post : Int32 → Prop) : Prop :=
  vp_in a1 60 ∧
  (if ((MT_state MT) (Int32.toNatClampNeg a1)) = 1 then post 1
  else vp_in a1 60 ∧
    (if ((MT_state MT) (Int32.toNatClampNeg a1)) = 2 then post 1
    else post 0))

def wp_M_lives_L4 (MT : S_MT) (Kx : Int32 → Prop) : Nat → Int32 → Int32 → Prop
  | 0, _, _ => False
  | n4 + 1, v1, v2 => (if (MT_many MT) ≤ v2 then Kx v1
      else wp_M_live MT v2 (fun r1 =>
        (if r1 = 0 then wp_M_lives_L4 MT Kx n4 (v1 + 0) (v2 + 1)
        else wp_M_lives_L4 MT Kx n4 (v1 + 1) (v2 + 1))))
def wp_M_lives (MT : S_MT) (post : Int32 → Prop) : Prop :=
  (∃ e4, wp_M_lives_L4 MT (fun x2 =>
  post x2) e4 0 0)

def wp_M_full (MG : S_MG) (MT : S_MT) (post : Int32 → Prop) : Prop :=
  wp_M_opens MG MT (fun r1 =>
  wp_M_lives MT (fun r2 =>
  (if ((((MG_records MG) + r1) + r2) + 2) ≤ 300 then post 0
  else post 1)))

def wp_M_is (MT : S_MT) (a1 : Int32) (post : Int32 → Prop) : Prop :=
  (if a1 < 0 then post 0
  else (if (MT_many MT) ≤ a1 then post 0
    else post 1))

def wp_M_active (MT : S_MT) (a1 : Int32) (post : Int32 → Prop) : Prop :=
  wp_M_is MT a1 (fun r1 =>
  (if r1 = 0 then post 0
  else vp_in a1 60 ∧
    (if ((MT_state MT) (Int32.toNatClampNeg a1)) = 1 then post 1
    else post 0)))

def wp_M_above_L13 (MT : S_MT) (v1 : Int32) (Kx : Int32 → Prop) : Nat → Int32 → Int32 → Int32 → Prop
  | 0, _, _, _ => False
  | n13 + 1, v3, v4, v5 => (if 4 ≤ v5 then Kx v3
      else (if v4 < 0 then Kx v3
        else (jn (fun (jk39 : Int32 → Prop) =>
          (if v3 = 0 then (if v4 = v1 then jk39 1
              else jk39 0)
            else jk39 1)) (fun b1 =>
          vp_in v4 60 ∧
            wp_M_above_L13 MT v1 Kx n13 b1 ((MT_parent MT) (Int32.toNatClampNeg v4)) (v5 + 1)))))
def wp_M_above (MT : S_MT) (a1 : Int32) (a2 : Int32) (post : Int32 → Prop) : Prop :=
  vp_in a2 60 ∧
  (∃ e13, wp_M_above_L13 MT a1 (fun x2 =>
  vp_nar .boolean x2 = x2 ∧
    post x2) e13 0 ((MT_parent MT) (Int32.toNatClampNeg a2)) 0)

def wp_M_busy_L4 (MT : S_MT) (v1 : Int32) (Kx : Int32 → Prop) : Nat → Int32 → Int32 → Prop
  | 0, _, _ => False
  | n4 + 1, v2, v3 => (if (MT_many MT) ≤ v3 then Kx v2
      else (if v2 = 0 then wp_M_live MT v3 (fun r1 =>
          (if r1 = 0 then wp_M_busy_L4 MT v1 Kx n4 0 (v3 + 1)
          else vp_in v3 60 ∧
            (if ((MT_parent MT) (Int32.toNatClampNeg v3)) = v1 then wp_M_busy_L4 MT v1 Kx n4 1 (v3 + 1)
            else wp_M_busy_L4 MT v1 Kx n4 0 (v3 + 1))))
        else wp_M_busy_L4 MT v1 Kx n4 1 (v3 + 1)))
def wp_M_busy (MT : S_MT) (a1 : Int32) (post : Int32 → Prop) : Prop :=
  (∃ e4, wp_M_busy_L4 MT a1 (fun x2 =>
  vp_nar .boolean x2 = x2 ∧
    post x2) e4 0 0)

def wp_M_depth_L12 (MT : S_MT) (Kx : Int32 → Prop) : Nat → Int32 → Int32 → Int32 → Prop
  | 0, _, _, _ => False
  | n12 + 1, v2, v3, v4 => (if 4 ≤ v4 then Kx v2
      else (if v3 < 0 then Kx v2
        else vp_in v3 60 ∧
          wp_M_depth_L12 MT Kx n12 (v2 + 1) ((MT_parent MT) (Int32.toNatClampNeg v3)) (v4 + 1)))
def wp_M_depth (MT : S_MT) (a1 : Int32) (post : Int32 → Prop) : Prop :=
  vp_in a1 60 ∧
  (∃ e12, wp_M_depth_L12 MT (fun x1 =>
  post x1) e12 1 ((MT_parent MT) (Int32.toNatClampNeg a1)) 0)

def wp_M_begin (MG : S_MG) (MT : S_MT) (a1 : Int32) (post : Int32 → S_MG → S_MT → Prop) : Prop :=
  (if a1 = (-1) then (if (MT_many MT) = 60 then post (-1) MG MT
    else (if a1 = (-1) then wp_M_full MG MT (fun r1 =>
        (if r1 = 0 then vp_in (MT_many MT) 60 ∧
          vp_in (MT_many MT) 60 ∧
          wp_M_append MG 1 (MT_many MT) a1 (fun r2 MG3 =>
          wp_M_last MG3 (fun r4 =>
          vp_in (MT_many MT) 60 ∧
          vp_in r2 301 ∧
          post ((MG_by MG3) (Int32.toNatClampNeg r2)) MG3 (MT_many' (MT_began' (MT_parent' (MT_state' MT (upd (MT_state MT) (Int32.toNatClampNeg (MT_many MT)) 1)) (upd (MT_parent MT) (Int32.toNatClampNeg (MT_many MT)) a1)) (upd (MT_began MT) (Int32.toNatClampNeg (MT_many MT)) r4)) ((MT_many MT) + 1))))
        else post (-5) MG MT))
      else wp_M_depth MT a1 (fun r5 =>
        (if r5 < 4 then wp_M_full MG MT (fun r6 =>
          (if r6 = 0 then vp_in (MT_many MT) 60 ∧
            vp_in (MT_many MT) 60 ∧
            wp_M_append MG 1 (MT_many MT) a1 (fun r7 MG8 =>
            wp_M_last MG8 (fun r9 =>
            vp_in (MT_many MT) 60 ∧
            vp_in r7 301 ∧
            post ((MG_by MG8) (Int32.toNatClampNeg r7)) MG8 (MT_many' (MT_began' (MT_parent' (MT_state' MT (upd (MT_state MT) (Int32.toNatClampNeg (MT_many MT)) 1)) (upd (MT_parent MT) (Int32.toNatClampNeg (MT_many MT)) a1)) (upd (MT_began MT) (Int32.toNatClampNeg (MT_many MT)) r9)) ((MT_many MT) + 1))))
          else post (-5) MG MT))
        else post (-1) MG MT))))
  else wp_M_active MT a1 (fun r10 =>
    (if r10 = 0 then post (-1) MG MT
    else (if (MT_many MT) = 60 then post (-1) MG MT
      else (if a1 = (-1) then wp_M_full MG MT (fun r11 =>
          (if r11 = 0 then vp_in (MT_many MT) 60 ∧
            vp_in (MT_many MT) 60 ∧
            wp_M_append MG 1 (MT_many MT) a1 (fun r12 MG13 =>
            wp_M_last MG13 (fun r14 =>
            vp_in (MT_many MT) 60 ∧
            vp_in r12 301 ∧
            post ((MG_by MG13) (Int32.toNatClampNeg r12)) MG13 (MT_many' (MT_began' (MT_parent' (MT_state' MT (upd (MT_state MT) (Int32.toNatClampNeg (MT_many MT)) 1)) (upd (MT_parent MT) (Int32.toNatClampNeg (MT_many MT)) a1)) (upd (MT_began MT) (Int32.toNatClampNeg (MT_many MT)) r14)) ((MT_many MT) + 1))))
          else post (-5) MG MT))
        else wp_M_depth MT a1 (fun r15 =>
          (if r15 < 4 then wp_M_full MG MT (fun r16 =>
            (if r16 = 0 then vp_in (MT_many MT) 60 ∧
              vp_in (MT_many MT) 60 ∧
              wp_M_append MG 1 (MT_many MT) a1 (fun r17 MG18 =>
              wp_M_last MG18 (fun r19 =>
              vp_in (MT_many MT) 60 ∧
              vp_in r17 301 ∧
              post ((MG_by MG18) (Int32.toNatClampNeg r17)) MG18 (MT_many' (MT_began' (MT_parent' (MT_state' MT (upd (MT_state MT) (Int32.toNatClampNeg (MT_many MT)) 1)) (upd (MT_parent MT) (Int32.toNatClampNeg (MT_many MT)) a1)) (upd (MT_began MT) (Int32.toNatClampNeg (MT_many MT)) r19)) ((MT_many MT) + 1))))
            else post (-5) MG MT))
          else post (-1) MG MT)))))))

def wp_M_next_L4 (MA : S_MA) (MD : S_MD) (Kx : Int32 → Prop) : Nat → Int32 → Prop
  | 0, _ => False
  | n4 + 1, v2 => (if 32 ≤ v2 then Kx v2
      else wp_M_isThereNow MA MD v2 (fun r1 =>
        (if r1 = 0 then wp_M_next_L4 MA MD Kx n4 (v2 + 1)
        else Kx v2)))
def wp_M_next (MA : S_MA) (MD : S_MD) (a1 : Int32) (post : Int32 → Prop) : Prop :=
  (∃ e4, wp_M_next_L4 MA MD (fun x2 =>
  post x2) e4 (a1 + 1))

def wp_M_want (MP : S_MP) (a1 : Int32) (post : S_MP → Prop) : Prop :=
  vp_in (MP_wanted MP) 33 ∧
  post (MP_wanted' (MP_item' MP (upd (MP_item MP) (Int32.toNatClampNeg (MP_wanted MP)) a1)) ((MP_wanted MP) + 1))

def wp_M_needs_L44 (MA : S_MA) (MD : S_MD) (v3 : Int32) (Kx : S_MP → Prop) : Nat → Int32 → S_MP → Prop
  | 0, _, _ => False
  | n44 + 1, v5, MP => (if v3 < v5 then Kx MP
      else wp_M_isThereNow MA MD v5 (fun r23 =>
        (if r23 = 0 then wp_M_needs_L44 MA MD v3 Kx n44 (v5 + 1) MP
        else wp_M_want MP v5 (fun MP24 =>
          wp_M_needs_L44 MA MD v3 Kx n44 (v5 + 1) MP24))))
def wp_M_needs (MA : S_MA) (MD : S_MD) (MP : S_MP) (a1 : Int32) (a2 : Int32) (a3 : Int32) (post : S_MP → Prop) : Prop :=
  wp_M_isThereNow MA MD a2 (fun r1 =>
  (jn (fun (jk33 : Int32 → Prop) =>
  (if a1 = 2 then jk33 2
    else (if a1 = 3 then (if r1 = 0 then jk33 1
        else jk33 2)
      else jk33 1))) (fun b2 =>
  (if a1 = 4 then (∃ e44, wp_M_needs_L44 MA MD a3 (fun MP25 =>
      wp_M_next MA MD a3 (fun r26 =>
        wp_M_want MP25 r26 (fun MP27 =>
        post MP27))) e44 a2 (MP_mode' (MP_wanted' MP 0) b2))
    else (if a1 = 1 then (if r1 = 0 then wp_M_next MA MD a2 (fun r3 =>
          wp_M_want (MP_mode' (MP_wanted' MP 0) b2) r3 (fun MP4 =>
          post MP4))
        else wp_M_want (MP_mode' (MP_wanted' MP 0) b2) a2 (fun MP5 =>
          post MP5))
      else (if a1 = 3 then (if r1 = 0 then (if r1 = 0 then wp_M_next MA MD a2 (fun r20 =>
              wp_M_want (MP_mode' (MP_wanted' MP 0) b2) r20 (fun MP21 =>
              post MP21))
            else wp_M_want (MP_mode' (MP_wanted' MP 0) b2) a2 (fun MP22 =>
              post MP22))
          else (if a1 = 3 then wp_M_next MA MD a2 (fun r13 =>
              wp_M_want (MP_mode' (MP_wanted' MP 0) b2) r13 (fun MP14 =>
              wp_M_want MP14 a2 (fun MP15 =>
              post MP15)))
            else (if r1 = 0 then wp_M_next MA MD a2 (fun r17 =>
                wp_M_want (MP_mode' (MP_wanted' MP 0) b2) r17 (fun MP18 =>
                wp_M_want MP18 a2 (fun MP19 =>
                post MP19)))
              else wp_M_want (MP_mode' (MP_wanted' MP 0) b2) a2 (fun MP16 =>
                post MP16))))
        else (if a1 = 3 then wp_M_next MA MD a2 (fun r6 =>
            wp_M_want (MP_mode' (MP_wanted' MP 0) b2) r6 (fun MP7 =>
            wp_M_want MP7 a2 (fun MP8 =>
            post MP8)))
          else (if r1 = 0 then wp_M_next MA MD a2 (fun r10 =>
              wp_M_want (MP_mode' (MP_wanted' MP 0) b2) r10 (fun MP11 =>
              wp_M_want MP11 a2 (fun MP12 =>
              post MP12)))
            else wp_M_want (MP_mode' (MP_wanted' MP 0) b2) a2 (fun MP9 =>
              post MP9)))))))))

def wp_M_bars (ML : S_ML) (MT : S_MT) (a1 : Int32) (a2 : Int32) (a3 : Int32) (a4 : Int32) (post : Int32 → Prop) : Prop :=
  vp_in ((33 * a1) + a3) 1980 ∧
  (if a1 = a2 then post 0
  else (if ((ML_locks ML) (Int32.toNatClampNeg ((33 * a1) + a3))) ≤ 0 then post 0
    else (if a4 = 2 then wp_M_above MT a1 a2 (fun r1 =>
        (if r1 = 0 then post 1
        else post 0))
      else (if ((ML_locks ML) (Int32.toNatClampNeg ((33 * a1) + a3))) = 2 then wp_M_above MT a1 a2 (fun r2 =>
          (if r2 = 0 then post 1
          else post 0))
        else post 0))))

def wp_M_may_L6 (ML : S_ML) (MT : S_MT) (v1 : Int32) (v2 : Int32) (v3 : Int32) (Kx : Int32 → Prop) : Nat → Int32 → Int32 → Prop
  | 0, _, _ => False
  | n6 + 1, v4, v5 => (if (MT_many MT) ≤ v5 then Kx v4
      else (if v4 = 0 then wp_M_may_L6 ML MT v1 v2 v3 Kx n6 0 (v5 + 1)
        else wp_M_bars ML MT v5 v1 v2 v3 (fun r1 =>
          (if r1 = 0 then wp_M_may_L6 ML MT v1 v2 v3 Kx n6 1 (v5 + 1)
          else wp_M_may_L6 ML MT v1 v2 v3 Kx n6 0 (v5 + 1)))))
def wp_M_may (ML : S_ML) (MT : S_MT) (a1 : Int32) (a2 : Int32) (a3 : Int32) (post : Int32 → Prop) : Prop :=
  (∃ e6, wp_M_may_L6 ML MT a1 a2 a3 (fun x2 =>
  vp_nar .boolean x2 = x2 ∧
    post x2) e6 1 0)

def wp_M_look_L56 (ML : S_ML) (MP : S_MP) (MT : S_MT) (v1 : Int32) (Kx : S_MV → Prop) : Nat → Int32 → S_MV → Prop
  | 0, _, _ => False
  | n56 + 1, v2, MV => (if v2 < 0 then Kx MV
      else vp_in v2 33 ∧
        vp_in ((33 * v1) + ((MP_item MP) (Int32.toNatClampNeg v2))) 1980 ∧
        (jn (fun (jk106 : Int32 → Prop) =>
        (if (MP_mode MP) ≤ ((ML_locks ML) (Int32.toNatClampNeg ((33 * v1) + ((MP_item MP) (Int32.toNatClampNeg v2))))) then jk106 0
          else vp_in v2 33 ∧
            wp_M_may ML MT v1 ((MP_item MP) (Int32.toNatClampNeg v2)) (MP_mode MP) (fun r2 =>
            (if r2 = 0 then jk106 1
            else jk106 0)))) (fun b3 =>
        (if b3 = 0 then vp_in v1 60 ∧
            vp_in v1 60 ∧
            wp_M_look_L56 ML MP MT v1 Kx n56 (v2 + (-1)) (MV_lacks' MV (upd (MV_lacks MV) (Int32.toNatClampNeg v1) ((MV_lacks MV) (Int32.toNatClampNeg v1))))
          else vp_in v2 33 ∧
            vp_in v1 60 ∧
            wp_M_look_L56 ML MP MT v1 Kx n56 (v2 + (-1)) (MV_lacks' MV (upd (MV_lacks MV) (Int32.toNatClampNeg v1) ((MP_item MP) (Int32.toNatClampNeg v2))))))))
def wp_M_look_L2 (MA : S_MA) (MD : S_MD) (ML : S_ML) (MT : S_MT) (Kx : S_MP → S_MV → Prop) : Nat → Int32 → S_MP → S_MV → Prop
  | 0, _, _, _ => False
  | n2 + 1, v1, MP, MV => (if (MT_many MT) ≤ v1 then Kx MP MV
      else vp_in v1 60 ∧
        vp_in v1 60 ∧
        (if ((MT_state MT) (Int32.toNatClampNeg v1)) = 2 then vp_in v1 60 ∧
          vp_in v1 60 ∧
          vp_in v1 60 ∧
          wp_M_needs MA MD MP ((MT_asks MT) (Int32.toNatClampNeg v1)) ((MT_first MT) (Int32.toNatClampNeg v1)) ((MT_second MT) (Int32.toNatClampNeg v1)) (fun MP1 =>
          (∃ e56, wp_M_look_L56 ML MP1 MT v1 (fun MV4 =>
          vp_in v1 60 ∧
            wp_M_look_L2 MA MD ML MT Kx n2 (v1 + 1) MP1 (MV_lackMode' MV4 (upd (MV_lackMode MV4) (Int32.toNatClampNeg v1) (MP_mode MP1)))) e56 ((MP_wanted MP1) - 1) (MV_lacks' MV (upd (MV_lacks MV) (Int32.toNatClampNeg v1) (-1)))))
        else wp_M_look_L2 MA MD ML MT Kx n2 (v1 + 1) MP (MV_lacks' MV (upd (MV_lacks MV) (Int32.toNatClampNeg v1) (-1)))))
def wp_M_look (MA : S_MA) (MD : S_MD) (ML : S_ML) (MP : S_MP) (MT : S_MT) (MV : S_MV) (post : S_MP → S_MV → Prop) : Prop :=
  (∃ e2, wp_M_look_L2 MA MD ML MT (fun MP5 MV6 =>
  post MP5 MV6) e2 0 MP MV)

def wp_M_leads (ML : S_ML) (MT : S_MT) (MV : S_MV) (a1 : Int32) (a2 : Int32) (post : Int32 → Prop) : Prop :=
  wp_M_live MT a1 (fun r1 =>
  (if r1 = 0 then vp_in a1 60 ∧
    (if ((MT_state MT) (Int32.toNatClampNeg a1)) = 2 then vp_in a1 60 ∧
      (if ((MV_lacks MV) (Int32.toNatClampNeg a1)) < 0 then post 0
      else vp_in a1 60 ∧
        vp_in a1 60 ∧
        wp_M_bars ML MT a2 a1 ((MV_lacks MV) (Int32.toNatClampNeg a1)) ((MV_lackMode MV) (Int32.toNatClampNeg a1)) (fun r2 =>
        (if r2 = 0 then post 0
        else post 1)))
    else post 0)
  else wp_M_live MT a2 (fun r3 =>
    (if r3 = 0 then vp_in a1 60 ∧
      (if ((MT_state MT) (Int32.toNatClampNeg a1)) = 2 then vp_in a1 60 ∧
        (if ((MV_lacks MV) (Int32.toNatClampNeg a1)) < 0 then post 0
        else vp_in a1 60 ∧
          vp_in a1 60 ∧
          wp_M_bars ML MT a2 a1 ((MV_lacks MV) (Int32.toNatClampNeg a1)) ((MV_lackMode MV) (Int32.toNatClampNeg a1)) (fun r4 =>
          (if r4 = 0 then post 0
          else post 1)))
      else post 0)
    else vp_in a2 60 ∧
      (if ((MT_parent MT) (Int32.toNatClampNeg a2)) = a1 then post 1
      else vp_in a1 60 ∧
        (if ((MT_state MT) (Int32.toNatClampNeg a1)) = 2 then vp_in a1 60 ∧
          (if ((MV_lacks MV) (Int32.toNatClampNeg a1)) < 0 then post 0
          else vp_in a1 60 ∧
            vp_in a1 60 ∧
            wp_M_bars ML MT a2 a1 ((MV_lacks MV) (Int32.toNatClampNeg a1)) ((MV_lackMode MV) (Int32.toNatClampNeg a1)) (fun r5 =>
            (if r5 = 0 then post 0
            else post 1)))
        else post 0))))))

def wp_M_victim_L6 (MT : S_MT) (v1 : Int32) (Kx : S_MV → Prop) : Nat → Int32 → S_MV → Prop
  | 0, _, _ => False
  | n6 + 1, v2, MV => (if (MT_many MT) ≤ v2 then Kx MV
      else vp_in v2 60 ∧
        vp_in v2 60 ∧
        wp_M_victim_L6 MT v1 Kx n6 (v2 + 1) (MV_back' (MV_ahead' MV (upd (MV_ahead MV) (Int32.toNatClampNeg v2) (vp_nar .boolean 0))) (upd (MV_back MV) (Int32.toNatClampNeg v2) (vp_nar .boolean 0))))
def wp_M_victim_L65 (ML : S_ML) (MT : S_MT) (v1 : Int32) (v3 : Int32) (v4 : Int32) (Kx : Int32 → S_MV → Prop) : Nat → Int32 → Int32 → S_MV → Prop
  | 0, _, _, _ => False
  | n65 + 1, v2, v5, MV => (if (MT_many MT) ≤ v5 then Kx v2 MV
      else (jn (fun (jk116 : Int32 → Prop) =>
        (if v4 = v1 then vp_in v5 60 ∧
            (if ((MV_ahead MV) (Int32.toNatClampNeg v5)) = 0 then wp_M_leads ML MT MV v4 v5 (fun r4 =>
              (if r4 = 0 then jk116 0
              else jk116 1))
            else jk116 0)
          else vp_in v4 60 ∧
            (if ((MV_ahead MV) (Int32.toNatClampNeg v4)) = 0 then jk116 0
            else vp_in v5 60 ∧
              (if ((MV_ahead MV) (Int32.toNatClampNeg v5)) = 0 then wp_M_leads ML MT MV v4 v5 (fun r5 =>
                (if r5 = 0 then jk116 0
                else jk116 1))
              else jk116 0)))) (fun b6 =>
        (jn (fun (jk160 : Int32 → Prop) =>
          (if v5 = v1 then vp_in v4 60 ∧
              (if ((MV_back MV) (Int32.toNatClampNeg v4)) = 0 then wp_M_leads ML MT MV v4 v5 (fun r7 =>
                (if r7 = 0 then jk160 0
                else jk160 1))
              else jk160 0)
            else vp_in v5 60 ∧
              (if ((MV_back MV) (Int32.toNatClampNeg v5)) = 0 then jk160 0
              else vp_in v4 60 ∧
                (if ((MV_back MV) (Int32.toNatClampNeg v4)) = 0 then wp_M_leads ML MT MV v4 v5 (fun r8 =>
                  (if r8 = 0 then jk160 0
                  else jk160 1))
                else jk160 0)))) (fun b9 =>
          vp_in v5 60 ∧
            (jn (fun (jk188 : Int32 → Prop) =>
            (if ((MV_ahead MV) (Int32.toNatClampNeg v5)) = 0 then (if b6 = 0 then jk188 0
                else jk188 1)
              else jk188 1)) (fun b10 =>
            vp_in v5 60 ∧
              vp_in v4 60 ∧
              (jn (fun (jk215 : Int32 → Prop) =>
              (if ((MV_back MV) (Int32.toNatClampNeg v4)) = 0 then (if b9 = 0 then jk215 0
                  else jk215 1)
                else jk215 1)) (fun b11 =>
              vp_in v4 60 ∧
                (if v2 = 0 then (if b6 = 0 then (if b9 = 0 then wp_M_victim_L65 ML MT v1 v3 v4 Kx n65 0 (v5 + 1) (MV_back' (MV_ahead' MV (upd (MV_ahead MV) (Int32.toNatClampNeg v5) (vp_nar .boolean b10))) (upd (MV_back MV) (Int32.toNatClampNeg v4) (vp_nar .boolean b11)))
                    else wp_M_victim_L65 ML MT v1 v3 v4 Kx n65 1 (v5 + 1) (MV_back' (MV_ahead' MV (upd (MV_ahead MV) (Int32.toNatClampNeg v5) (vp_nar .boolean b10))) (upd (MV_back MV) (Int32.toNatClampNeg v4) (vp_nar .boolean b11))))
                  else wp_M_victim_L65 ML MT v1 v3 v4 Kx n65 1 (v5 + 1) (MV_back' (MV_ahead' MV (upd (MV_ahead MV) (Int32.toNatClampNeg v5) (vp_nar .boolean b10))) (upd (MV_back MV) (Int32.toNatClampNeg v4) (vp_nar .boolean b11))))
                else wp_M_victim_L65 ML MT v1 v3 v4 Kx n65 1 (v5 + 1) (MV_back' (MV_ahead' MV (upd (MV_ahead MV) (Int32.toNatClampNeg v5) (vp_nar .boolean b10))) (upd (MV_back MV) (Int32.toNatClampNeg v4) (vp_nar .boolean b11)))))))))))))
def wp_M_victim_L53 (ML : S_ML) (MT : S_MT) (v1 : Int32) (v3 : Int32) (Kx : Int32 → S_MV → Prop) : Nat → Int32 → Int32 → S_MV → Prop
  | 0, _, _, _ => False
  | n53 + 1, v2, v4, MV => (if (MT_many MT) ≤ v4 then Kx v2 MV
      else (∃ e65, wp_M_victim_L65 ML MT v1 v3 v4 (fun x12 MV13 =>
        wp_M_victim_L53 ML MT v1 v3 Kx n53 x12 (v4 + 1) MV13) e65 v2 0 MV))
def wp_M_victim_L38 (ML : S_ML) (MT : S_MT) (v1 : Int32) (Kx : S_MV → Prop) : Nat → Int32 → Int32 → S_MV → Prop
  | 0, _, _, _ => False
  | n38 + 1, v2, v3, MV => (if 61 ≤ v3 then Kx MV
      else (if v2 = 0 then Kx MV
        else (∃ e53, wp_M_victim_L53 ML MT v1 v3 (fun x14 MV15 =>
          wp_M_victim_L38 ML MT v1 Kx n38 x14 (v3 + 1) MV15) e53 0 0 MV)))
def wp_M_victim_L259 (MT : S_MT) (MV : S_MV) (v1 : Int32) (Kx : Int32 → Prop) : Nat → Int32 → Int32 → Prop
  | 0, _, _ => False
  | n259 + 1, v3, v4 => (if (MT_many MT) ≤ v4 then Kx v3
      else vp_in v1 60 ∧
        (if ((MV_ahead MV) (Int32.toNatClampNeg v1)) = 0 then Kx v3
        else vp_in v4 60 ∧
          (if ((MV_ahead MV) (Int32.toNatClampNeg v4)) = 0 then wp_M_victim_L259 MT MV v1 Kx n259 v3 (v4 + 1)
          else vp_in v4 60 ∧
            (if ((MV_back MV) (Int32.toNatClampNeg v4)) = 0 then wp_M_victim_L259 MT MV v1 Kx n259 v3 (v4 + 1)
            else wp_M_victim_L259 MT MV v1 Kx n259 v4 (v4 + 1)))))
def wp_M_victim (MA : S_MA) (MD : S_MD) (ML : S_ML) (MP : S_MP) (MT : S_MT) (MV : S_MV) (a1 : Int32) (post : Int32 → S_MP → S_MV → Prop) : Prop :=
  wp_M_look MA MD ML MP MT MV (fun MP1 MV2 =>
  (∃ e6, wp_M_victim_L6 MT a1 (fun MV3 =>
  (∃ e38, wp_M_victim_L38 ML MT a1 (fun MV16 =>
    (∃ e259, wp_M_victim_L259 MT MV16 a1 (fun x17 =>
      post x17 MP1 MV16) e259 (-1) 0)) e38 1 0 MV3)) e6 0 MV2))

def wp_M_undoes_L10 (MT : S_MT) (v1 : Int32) (v2 : Int32) (Kx : Int32 → S_MA → S_MD → S_MG → Prop) : Nat → Int32 → Int32 → S_MA → S_MD → S_MG → Prop
  | 0, _, _, _, _, _ => False
  | n10 + 1, v3, v4, MA, MD, MG => (if v4 < 0 then Kx v3 MA MD MG
      else (if (((MG_base MG) + v4) + 1) ≤ v2 then wp_M_undoes_L10 MT v1 v2 Kx n10 v3 (v4 + (-1)) MA MD MG
        else wp_M_open MG MT v4 (fun r1 =>
          (if r1 = 0 then wp_M_undoes_L10 MT v1 v2 Kx n10 v3 (v4 + (-1)) MA MD MG
          else vp_in v4 301 ∧
            (if ((MG_by MG) (Int32.toNatClampNeg v4)) = v1 then wp_M_undo MA MD MG v1 v4 (fun MA2 MD3 MG4 =>
              wp_M_undoes_L10 MT v1 v2 Kx n10 (v3 + 1) (v4 + (-1)) MA2 MD3 MG4)
            else vp_in v4 301 ∧
              wp_M_above MT v1 ((MG_by MG) (Int32.toNatClampNeg v4)) (fun r5 =>
              (if r5 = 0 then wp_M_undoes_L10 MT v1 v2 Kx n10 v3 (v4 + (-1)) MA MD MG
              else wp_M_undo MA MD MG v1 v4 (fun MA6 MD7 MG8 =>
                wp_M_undoes_L10 MT v1 v2 Kx n10 (v3 + 1) (v4 + (-1)) MA6 MD7 MG8))))))))
def wp_M_undoes (MA : S_MA) (MD : S_MD) (MG : S_MG) (MT : S_MT) (a1 : Int32) (a2 : Int32) (post : Int32 → S_MA → S_MD → S_MG → Prop) : Prop :=
  (∃ e10, wp_M_undoes_L10 MT a1 a2 (fun x9 MA10 MD11 MG12 =>
  post x9 MA10 MD11 MG12) e10 0 ((MG_records MG) - 1) MA MD MG)

def wp_M_unlock_L2 (v1 : Int32) (Kx : S_ML → Prop) : Nat → Int32 → S_ML → Prop
  | 0, _, _ => False
  | n2 + 1, v2, ML => (if 33 ≤ v2 then Kx ML
      else vp_in ((33 * v1) + v2) 1980 ∧
        wp_M_unlock_L2 v1 Kx n2 (v2 + 1) (ML_locks' ML (upd (ML_locks ML) (Int32.toNatClampNeg ((33 * v1) + v2)) 0)))
def wp_M_unlock (ML : S_ML) (a1 : Int32) (post : S_ML → Prop) : Prop :=
  (∃ e2, wp_M_unlock_L2 a1 (fun ML1 =>
  post ML1) e2 0 ML)

def wp_M_aborts_L2 (MT : S_MT) (v1 : Int32) (Kx : S_MF → Prop) : Nat → Int32 → S_MF → Prop
  | 0, _, _ => False
  | n2 + 1, v2, MF => (if (MT_many MT) ≤ v2 then Kx MF
      else wp_M_live MT v2 (fun r1 =>
        (if r1 = 0 then vp_in v2 60 ∧
          wp_M_aborts_L2 MT v1 Kx n2 (v2 + 1) (MF_falls' MF (upd (MF_falls MF) (Int32.toNatClampNeg v2) (vp_nar .boolean 0)))
        else (if v2 = v1 then vp_in v2 60 ∧
            wp_M_aborts_L2 MT v1 Kx n2 (v2 + 1) (MF_falls' MF (upd (MF_falls MF) (Int32.toNatClampNeg v2) (vp_nar .boolean 1)))
          else wp_M_above MT v1 v2 (fun r2 =>
            (if r2 = 0 then vp_in v2 60 ∧
              wp_M_aborts_L2 MT v1 Kx n2 (v2 + 1) (MF_falls' MF (upd (MF_falls MF) (Int32.toNatClampNeg v2) (vp_nar .boolean 0)))
            else vp_in v2 60 ∧
              wp_M_aborts_L2 MT v1 Kx n2 (v2 + 1) (MF_falls' MF (upd (MF_falls MF) (Int32.toNatClampNeg v2) (vp_nar .boolean 1)))))))))
def wp_M_aborts_L63 (MF : S_MF) (v2 : Int32) (Kx : S_MG → S_ML → S_MT → Prop) : Nat → Int32 → S_MG → S_ML → S_MT → Prop
  | 0, _, _, _, _ => False
  | n63 + 1, v3, MG, ML, MT => (if v3 < 0 then Kx MG ML MT
      else vp_in v3 60 ∧
        (if ((MF_falls MF) (Int32.toNatClampNeg v3)) = 0 then wp_M_aborts_L63 MF v2 Kx n63 (v3 + (-1)) MG ML MT
        else wp_M_append MG 5 v3 0 (fun r8 MG9 =>
          vp_in r8 301 ∧
          vp_in ((MG_by MG9) (Int32.toNatClampNeg r8)) 60 ∧
          wp_M_unlock ML v3 (fun ML10 =>
          wp_M_aborts_L63 MF v2 Kx n63 (v3 + (-1)) MG9 ML10 (MT_state' MT (upd (MT_state MT) (Int32.toNatClampNeg ((MG_by MG9) (Int32.toNatClampNeg r8))) 4))))))
def wp_M_aborts (MA : S_MA) (MD : S_MD) (MF : S_MF) (MG : S_MG) (ML : S_ML) (MT : S_MT) (a1 : Int32) (post : Int32 → S_MA → S_MD → S_MF → S_MG → S_ML → S_MT → Prop) : Prop :=
  (∃ e2, wp_M_aborts_L2 MT a1 (fun MF3 =>
  wp_M_undoes MA MD MG MT a1 0 (fun r4 MA5 MD6 MG7 =>
    (∃ e63, wp_M_aborts_L63 MF3 r4 (fun MG11 ML12 MT13 =>
    post r4 MA5 MD6 MF3 MG11 ML12 MT13) e63 ((MT_many MT) - 1) MG7 ML MT))) e2 0 MF)

def wp_M_stays_L32 (v1 : Int32) (post : Int32 → S_MA → S_MD → S_MF → S_MG → S_ML → S_MP → S_MT → S_MV → Prop) (Kx : S_MA → S_MD → S_MF → S_MG → S_ML → S_MP → S_MT → S_MV → Prop) : Nat → Int32 → S_MA → S_MD → S_MF → S_MG → S_ML → S_MP → S_MT → S_MV → Prop
  | 0, _, _, _, _, _, _, _, _, _ => False
  | n32 + 1, v5, MA, MD, MF, MG, ML, MP, MT, MV => (if 60 ≤ v5 then Kx MA MD MF MG ML MP MT MV
      else wp_M_live MT v1 (fun r1 =>
        (if r1 = 0 then Kx MA MD MF MG ML MP MT MV
        else wp_M_victim MA MD ML MP MT MV v1 (fun r2 MP3 MV4 =>
          (if 0 ≤ r2 then wp_M_aborts MA MD MF MG ML MT r2 (fun r5 MA6 MD7 MF8 MG9 ML10 MT11 =>
            wp_M_stays_L32 v1 post Kx n32 (v5 + 1) MA6 MD7 MF8 MG9 ML10 MP3 MT11 MV4)
          else post (-2) MA MD MF MG ML MP3 MT MV4)))))
def wp_M_stays (MA : S_MA) (MD : S_MD) (MF : S_MF) (MG : S_MG) (ML : S_ML) (MP : S_MP) (MT : S_MT) (MV : S_MV) (a1 : Int32) (a2 : Int32) (a3 : Int32) (a4 : Int32) (post : Int32 → S_MA → S_MD → S_MF → S_MG → S_ML → S_MP → S_MT → S_MV → Prop) : Prop :=
  vp_in a1 60 ∧
  vp_in a1 60 ∧
  vp_in a1 60 ∧
  vp_in a1 60 ∧
  (∃ e32, wp_M_stays_L32 a1 post (fun MA12 MD13 MF14 MG15 ML16 MP17 MT18 MV19 =>
  wp_M_live MT18 a1 (fun r20 =>
    (if r20 = 0 then post (-3) MA12 MD13 MF14 MG15 ML16 MP17 MT18 MV19
    else post (-2) MA12 MD13 MF14 MG15 ML16 MP17 MT18 MV19))) e32 0 MA MD MF MG ML MP (MT_second' (MT_first' (MT_asks' (MT_state' MT (upd (MT_state MT) (Int32.toNatClampNeg a1) 2)) (upd (MT_asks MT) (Int32.toNatClampNeg a1) a2)) (upd (MT_first MT) (Int32.toNatClampNeg a1) a3)) (upd (MT_second MT) (Int32.toNatClampNeg a1) a4)) MV)

def wp_M_scanned_L4 (v1 : Int32) (v2 : Int32) (Kx : S_MA → S_MD → S_MG → Prop) : Nat → Int32 → S_MA → S_MD → S_MG → Prop
  | 0, _, _, _, _ => False
  | n4 + 1, v3, MA, MD, MG => (if (v2 / 4) < v3 then Kx MA MD MG
      else wp_M_touch MA MD MG v3 (fun MA1 MD2 MG3 =>
        wp_M_scanned_L4 v1 v2 Kx n4 (v3 + 1) MA1 MD2 MG3))
def wp_M_scanned_L32 (MA : S_MA) (MD : S_MD) (v2 : Int32) (Kx : Int32 → S_MN → Prop) : Nat → Int32 → Int32 → S_MN → Prop
  | 0, _, _, _ => False
  | n32 + 1, v3, v4, MN => (if v2 < v4 then Kx v3 MN
      else wp_M_isThereNow MA MD v4 (fun r7 =>
        (jn (fun (jk53 : Int32 → Prop) =>
        (if r7 = 0 then jk53 0
          else jk53 1)) (fun b8 =>
        wp_M_valueNow MA MD v4 (fun r9 =>
          wp_M_scanned_L32 MA MD v2 Kx n32 (v3 + b8) (v4 + 1) (MN_latest' MN ((MN_latest MN) + r9)))))))
def wp_M_scanned (MA : S_MA) (MD : S_MD) (MG : S_MG) (MN : S_MN) (a1 : Int32) (a2 : Int32) (post : Int32 → S_MA → S_MD → S_MG → S_MN → Prop) : Prop :=
  (∃ e4, wp_M_scanned_L4 a1 a2 (fun MA4 MD5 MG6 =>
  (∃ e32, wp_M_scanned_L32 MA4 MD5 a2 (fun x10 MN11 =>
    post x10 MA4 MD5 MG6 MN11) e32 0 a1 (MN_latest' MN 0))) e4 (a1 / 4) MA MD MG)

def wp_M_request_L18 (MN : S_MN) (v1 : Int32) (v2 : Int32) (v3 : Int32) (v4 : Int32) (post : Int32 → S_MA → S_MD → S_MF → S_MG → S_ML → S_MN → S_MP → S_MT → S_MV → Prop) (Kx : S_MA → S_MD → S_MF → S_MG → S_ML → S_MP → S_MT → S_MV → Prop) : Nat → Int32 → S_MA → S_MD → S_MF → S_MG → S_ML → S_MP → S_MT → S_MV → Prop
  | 0, _, _, _, _, _, _, _, _, _ => False
  | n18 + 1, v5, MA, MD, MF, MG, ML, MP, MT, MV => (if (MP_wanted MP) ≤ v5 then Kx MA MD MF MG ML MP MT MV
      else vp_in v5 33 ∧
        vp_in ((33 * v1) + ((MP_item MP) (Int32.toNatClampNeg v5))) 1980 ∧
        (if (MP_mode MP) ≤ ((ML_locks ML) (Int32.toNatClampNeg ((33 * v1) + ((MP_item MP) (Int32.toNatClampNeg v5))))) then wp_M_request_L18 MN v1 v2 v3 v4 post Kx n18 (v5 + 1) MA MD MF MG ML MP MT MV
        else vp_in v5 33 ∧
          wp_M_may ML MT v1 ((MP_item MP) (Int32.toNatClampNeg v5)) (MP_mode MP) (fun r2 =>
          (if r2 = 0 then wp_M_stays MA MD MF MG ML MP MT MV v1 v2 v3 v4 (fun r3 MA4 MD5 MF6 MG7 ML8 MP9 MT10 MV11 =>
            post r3 MA4 MD5 MF6 MG7 ML8 MN MP9 MT10 MV11)
          else vp_in ((33 * v1) + ((MP_item MP) (Int32.toNatClampNeg v5))) 1980 ∧
            wp_M_request_L18 MN v1 v2 v3 v4 post Kx n18 (v5 + 1) MA MD MF MG (ML_locks' ML (upd (ML_locks ML) (Int32.toNatClampNeg ((33 * v1) + ((MP_item MP) (Int32.toNatClampNeg v5)))) (MP_mode MP))) MP MT MV))))
def wp_M_request (MA : S_MA) (MD : S_MD) (MF : S_MF) (MG : S_MG) (ML : S_ML) (MN : S_MN) (MP : S_MP) (MT : S_MT) (MV : S_MV) (a1 : Int32) (a2 : Int32) (a3 : Int32) (a4 : Int32) (post : Int32 → S_MA → S_MD → S_MF → S_MG → S_ML → S_MN → S_MP → S_MT → S_MV → Prop) : Prop :=
  vp_in a1 60 ∧
  wp_M_needs MA MD MP a2 a3 a4 (fun MP1 =>
  (∃ e18, wp_M_request_L18 MN a1 a2 a3 a4 post (fun MA12 MD13 MF14 MG15 ML16 MP17 MT18 MV19 =>
  (if a2 = 1 then wp_M_touch MA12 MD13 MG15 (a3 / 4) (fun MA36 MD37 MG38 =>
      wp_M_valueNow MA36 MD37 a3 (fun r39 =>
      wp_M_isThereNow MA36 MD37 a3 (fun r40 =>
      (if r40 = 0 then post 0 MA36 MD37 MF14 MG38 ML16 (MN_latest' MN r39) MP17 MT18 MV19
      else post 1 MA36 MD37 MF14 MG38 ML16 (MN_latest' MN r39) MP17 MT18 MV19))))
    else (if a2 = 4 then wp_M_scanned MA12 MD13 MG15 MN a3 a4 (fun r31 MA32 MD33 MG34 MN35 =>
        post r31 MA32 MD33 MF14 MG34 ML16 MN35 MP17 MT18 MV19)
      else wp_M_isThereNow MA12 MD13 a3 (fun r20 =>
        (if a2 = 3 then (if r20 = 0 then post 0 MA12 MD13 MF14 MG15 ML16 MN MP17 MT18 MV19
          else wp_M_full MG15 MT18 (fun r26 =>
            (if r26 = 0 then (jn (fun (jk191 : Int32 → Prop) =>
              (if a2 = 2 then jk191 1
                else jk191 0)) (fun b27 =>
              wp_M_update MA12 MD13 MG15 a1 a3 b27 a4 (fun MA28 MD29 MG30 =>
                (if a2 = 2 then post 0 MA28 MD29 MF14 MG30 ML16 MN MP17 MT18 MV19
                else post 1 MA28 MD29 MF14 MG30 ML16 MN MP17 MT18 MV19))))
            else post (-5) MA12 MD13 MF14 MG15 ML16 MN MP17 MT18 MV19)))
        else wp_M_full MG15 MT18 (fun r21 =>
          (if r21 = 0 then (jn (fun (jk191 : Int32 → Prop) =>
            (if a2 = 2 then jk191 1
              else jk191 0)) (fun b22 =>
            wp_M_update MA12 MD13 MG15 a1 a3 b22 a4 (fun MA23 MD24 MG25 =>
              (if a2 = 2 then post 0 MA23 MD24 MF14 MG25 ML16 MN MP17 MT18 MV19
              else post 1 MA23 MD24 MF14 MG25 ML16 MN MP17 MT18 MV19))))
          else post (-5) MA12 MD13 MF14 MG15 ML16 MN MP17 MT18 MV19))))))) e18 0 MA MD MF MG ML MP1 (MT_state' MT (upd (MT_state MT) (Int32.toNatClampNeg a1) 1)) MV))

def wp_M_ask (MA : S_MA) (MD : S_MD) (MF : S_MF) (MG : S_MG) (ML : S_ML) (MN : S_MN) (MP : S_MP) (MT : S_MT) (MV : S_MV) (a1 : Int32) (a2 : Int32) (a3 : Int32) (a4 : Int32) (post : Int32 → S_MA → S_MD → S_MF → S_MG → S_ML → S_MN → S_MP → S_MT → S_MV → Prop) : Prop :=
  wp_M_busy MT a1 (fun r1 =>
  (if r1 = 0 then wp_M_request MA MD MF MG ML MN MP MT MV a1 a2 a3 a4 (fun r2 MA3 MD4 MF5 MG6 ML7 MN8 MP9 MT10 MV11 =>
    post r2 MA3 MD4 MF5 MG6 ML7 MN8 MP9 MT10 MV11)
  else post (-4) MA MD MF MG ML MN MP MT MV))

def wp_M_get (MA : S_MA) (MD : S_MD) (MF : S_MF) (MG : S_MG) (ML : S_ML) (MN : S_MN) (MP : S_MP) (MT : S_MT) (MV : S_MV) (a1 : Int32) (a2 : Int32) (post : Int32 → S_MA → S_MD → S_MF → S_MG → S_ML → S_MN → S_MP → S_MT → S_MV → Prop) : Prop :=
  wp_M_active MT a1 (fun r1 =>
  (if r1 = 0 then post (-1) MA MD MF MG ML MN MP MT MV
  else wp_M_isKey a2 (fun r2 =>
    (if r2 = 0 then post (-1) MA MD MF MG ML MN MP MT MV
    else wp_M_ask MA MD MF MG ML MN MP MT MV a1 1 a2 0 (fun r3 MA4 MD5 MF6 MG7 ML8 MN9 MP10 MT11 MV12 =>
      post r3 MA4 MD5 MF6 MG7 ML8 MN9 MP10 MT11 MV12)))))

def wp_M_put (MA : S_MA) (MD : S_MD) (MF : S_MF) (MG : S_MG) (ML : S_ML) (MN : S_MN) (MP : S_MP) (MT : S_MT) (MV : S_MV) (a1 : Int32) (a2 : Int32) (a3 : Int32) (post : Int32 → S_MA → S_MD → S_MF → S_MG → S_ML → S_MN → S_MP → S_MT → S_MV → Prop) : Prop :=
  wp_M_active MT a1 (fun r1 =>
  (if r1 = 0 then post (-1) MA MD MF MG ML MN MP MT MV
  else wp_M_isKey a2 (fun r2 =>
    (if r2 = 0 then post (-1) MA MD MF MG ML MN MP MT MV
    else wp_M_ask MA MD MF MG ML MN MP MT MV a1 2 a2 a3 (fun r3 MA4 MD5 MF6 MG7 ML8 MN9 MP10 MT11 MV12 =>
      post r3 MA4 MD5 MF6 MG7 ML8 MN9 MP10 MT11 MV12)))))

def wp_M_delete (MA : S_MA) (MD : S_MD) (MF : S_MF) (MG : S_MG) (ML : S_ML) (MN : S_MN) (MP : S_MP) (MT : S_MT) (MV : S_MV) (a1 : Int32) (a2 : Int32) (post : Int32 → S_MA → S_MD → S_MF → S_MG → S_ML → S_MN → S_MP → S_MT → S_MV → Prop) : Prop :=
  wp_M_active MT a1 (fun r1 =>
  (if r1 = 0 then post (-1) MA MD MF MG ML MN MP MT MV
  else wp_M_isKey a2 (fun r2 =>
    (if r2 = 0 then post (-1) MA MD MF MG ML MN MP MT MV
    else wp_M_ask MA MD MF MG ML MN MP MT MV a1 3 a2 0 (fun r3 MA4 MD5 MF6 MG7 ML8 MN9 MP10 MT11 MV12 =>
      post r3 MA4 MD5 MF6 MG7 ML8 MN9 MP10 MT11 MV12)))))

def wp_M_scan (MA : S_MA) (MD : S_MD) (MF : S_MF) (MG : S_MG) (ML : S_ML) (MN : S_MN) (MP : S_MP) (MT : S_MT) (MV : S_MV) (a1 : Int32) (a2 : Int32) (a3 : Int32) (post : Int32 → S_MA → S_MD → S_MF → S_MG → S_ML → S_MN → S_MP → S_MT → S_MV → Prop) : Prop :=
  wp_M_active MT a1 (fun r1 =>
  (if r1 = 0 then post (-1) MA MD MF MG ML MN MP MT MV
  else wp_M_isKey a2 (fun r2 =>
    (if r2 = 0 then post (-1) MA MD MF MG ML MN MP MT MV
    else wp_M_isKey a3 (fun r3 =>
      (if r3 = 0 then post (-1) MA MD MF MG ML MN MP MT MV
      else (if a2 ≤ a3 then wp_M_ask MA MD MF MG ML MN MP MT MV a1 4 a2 a3 (fun r4 MA5 MD6 MF7 MG8 ML9 MN10 MP11 MT12 MV13 =>
          post r4 MA5 MD6 MF7 MG8 ML9 MN10 MP11 MT12 MV13)
        else post (-1) MA MD MF MG ML MN MP MT MV)))))))

def wp_M_resume (MA : S_MA) (MD : S_MD) (MF : S_MF) (MG : S_MG) (ML : S_ML) (MN : S_MN) (MP : S_MP) (MT : S_MT) (MV : S_MV) (a1 : Int32) (post : Int32 → S_MA → S_MD → S_MF → S_MG → S_ML → S_MN → S_MP → S_MT → S_MV → Prop) : Prop :=
  wp_M_is MT a1 (fun r1 =>
  (if r1 = 0 then post (-1) MA MD MF MG ML MN MP MT MV
  else vp_in a1 60 ∧
    (if ((MT_state MT) (Int32.toNatClampNeg a1)) = 2 then vp_in a1 60 ∧
      vp_in a1 60 ∧
      vp_in a1 60 ∧
      wp_M_request MA MD MF MG ML MN MP MT MV a1 ((MT_asks MT) (Int32.toNatClampNeg a1)) ((MT_first MT) (Int32.toNatClampNeg a1)) ((MT_second MT) (Int32.toNatClampNeg a1)) (fun r2 MA3 MD4 MF5 MG6 ML7 MN8 MP9 MT10 MV11 =>
      post r2 MA3 MD4 MF5 MG6 ML7 MN8 MP9 MT10 MV11)
    else post (-1) MA MD MF MG ML MN MP MT MV)))

def wp_M_value (MN : S_MN) (post : Int32 → Prop) : Prop :=
  post (MN_latest MN)

def wp_M_commit_L51 (v1 : Int32) (v3 : Int32) (Kx : S_ML → Prop) : Nat → Int32 → S_ML → Prop
  | 0, _, _ => False
  | n51 + 1, v4, ML => (if 33 ≤ v4 then Kx ML
      else (if v3 < 0 then Kx ML
        else vp_in ((33 * v1) + v4) 1980 ∧
          vp_in ((33 * v3) + v4) 1980 ∧
          (if ((ML_locks ML) (Int32.toNatClampNeg ((33 * v1) + v4))) ≤ ((ML_locks ML) (Int32.toNatClampNeg ((33 * v3) + v4))) then vp_in ((33 * v3) + v4) 1980 ∧
            vp_in ((33 * v3) + v4) 1980 ∧
            wp_M_commit_L51 v1 v3 Kx n51 (v4 + 1) (ML_locks' ML (upd (ML_locks ML) (Int32.toNatClampNeg ((33 * v3) + v4)) ((ML_locks ML) (Int32.toNatClampNeg ((33 * v3) + v4)))))
          else vp_in ((33 * v3) + v4) 1980 ∧
            wp_M_commit_L51 v1 v3 Kx n51 (v4 + 1) (ML_locks' ML (upd (ML_locks ML) (Int32.toNatClampNeg ((33 * v3) + v4)) ((ML_locks ML) (Int32.toNatClampNeg ((33 * v1) + v4))))))))
def wp_M_commit (MG : S_MG) (ML : S_ML) (MT : S_MT) (a1 : Int32) (post : Int32 → S_MG → S_ML → S_MT → Prop) : Prop :=
  wp_M_active MT a1 (fun r1 =>
  (if r1 = 0 then post (-1) MG ML MT
  else wp_M_busy MT a1 (fun r2 =>
    (if r2 = 0 then wp_M_append MG 4 a1 0 (fun r3 MG4 =>
      vp_in r3 301 ∧
      vp_in ((MG_by MG4) (Int32.toNatClampNeg r3)) 60 ∧
      vp_in a1 60 ∧
      (∃ e51, wp_M_commit_L51 a1 ((MT_parent MT) (Int32.toNatClampNeg a1)) (fun ML5 =>
      (if 0 ≤ ((MT_parent MT) (Int32.toNatClampNeg a1)) then wp_M_unlock ML5 a1 (fun ML6 =>
          post 0 (MG_flushed' MG4 (MG_flushed MG4)) ML6 (MT_state' MT (upd (MT_state MT) (Int32.toNatClampNeg ((MG_by MG4) (Int32.toNatClampNeg r3))) 3)))
        else wp_M_last MG4 (fun r7 =>
          wp_M_unlock ML5 a1 (fun ML8 =>
          post 0 (MG_flushed' MG4 r7) ML8 (MT_state' MT (upd (MT_state MT) (Int32.toNatClampNeg ((MG_by MG4) (Int32.toNatClampNeg r3))) 3)))))) e51 0 ML))
    else post (-4) MG ML MT))))

def wp_M_abort (MA : S_MA) (MD : S_MD) (MF : S_MF) (MG : S_MG) (ML : S_ML) (MT : S_MT) (a1 : Int32) (post : Int32 → S_MA → S_MD → S_MF → S_MG → S_ML → S_MT → Prop) : Prop :=
  wp_M_is MT a1 (fun r1 =>
  (if r1 = 0 then post (-1) MA MD MF MG ML MT
  else wp_M_live MT a1 (fun r2 =>
    (if r2 = 0 then post (-1) MA MD MF MG ML MT
    else wp_M_aborts MA MD MF MG ML MT a1 (fun r3 MA4 MD5 MF6 MG7 ML8 MT9 =>
      post r3 MA4 MD5 MF6 MG7 ML8 MT9)))))

def wp_M_save (MG : S_MG) (MT : S_MT) (a1 : Int32) (post : Int32 → Prop) : Prop :=
  wp_M_active MT a1 (fun r1 =>
  (if r1 = 0 then post (-1)
  else wp_M_busy MT a1 (fun r2 =>
    (if r2 = 0 then wp_M_last MG (fun r3 =>
      post r3)
    else post (-4)))))

def wp_M_rollback (MA : S_MA) (MD : S_MD) (MG : S_MG) (MT : S_MT) (a1 : Int32) (a2 : Int32) (post : Int32 → S_MA → S_MD → S_MG → Prop) : Prop :=
  wp_M_active MT a1 (fun r1 =>
  (if r1 = 0 then post (-1) MA MD MG
  else vp_in a1 60 ∧
    (if a2 < ((MT_began MT) (Int32.toNatClampNeg a1)) then post (-1) MA MD MG
    else wp_M_last MG (fun r2 =>
      (if a2 ≤ r2 then wp_M_busy MT a1 (fun r3 =>
        (if r3 = 0 then wp_M_undoes MA MD MG MT a1 a2 (fun r4 MA5 MD6 MG7 =>
          post r4 MA5 MD6 MG7)
        else post (-4) MA MD MG))
      else post (-1) MA MD MG)))))

def wp_M_write (MA : S_MA) (MD : S_MD) (MG : S_MG) (a1 : Int32) (post : Int32 → S_MA → S_MD → S_MG → Prop) : Prop :=
  wp_M_isPage a1 (fun r1 =>
  (if r1 = 0 then post 0 MA MD MG
  else vp_in a1 8 ∧
    (if ((MA_inFrame MA) (Int32.toNatClampNeg a1)) = 0 then post 0 MA MD MG
    else vp_in a1 8 ∧
      (if ((MA_dirty MA) (Int32.toNatClampNeg a1)) = 0 then post 0 MA MD MG
      else wp_M_writes MA MD MG a1 (fun MA2 MD3 MG4 =>
        post 1 MA2 MD3 MG4)))))

def wp_M_archive_L13 (Kx : Int32 → S_MA → S_MD → S_MG → Prop) : Nat → Int32 → Int32 → S_MA → S_MD → S_MG → Prop
  | 0, _, _, _, _, _ => False
  | n13 + 1, v1, v2, MA, MD, MG => (if 8 ≤ v2 then Kx v1 MA MD MG
      else wp_M_write MA MD MG v2 (fun r2 MA3 MD4 MG5 =>
        (if r2 = 0 then wp_M_archive_L13 Kx n13 (v1 + 0) (v2 + 1) MA3 MD4 MG5
        else wp_M_archive_L13 Kx n13 (v1 + 1) (v2 + 1) MA3 MD4 MG5)))
def wp_M_archive (MA : S_MA) (MD : S_MD) (MG : S_MG) (MT : S_MT) (post : Int32 → S_MA → S_MD → S_MG → Prop) : Prop :=
  wp_M_lives MT (fun r1 =>
  (if r1 ≤ 0 then (∃ e13, wp_M_archive_L13 (fun x6 MA7 MD8 MG9 =>
    wp_M_last MG9 (fun r10 =>
      post x6 MA7 MD8 (MG_flushed' (MG_records' (MG_base' MG9 r10) 0) r10))) e13 0 0 MA MD MG)
  else post (-1) MA MD MG))

def wp_M_committed_L4 (MG : S_MG) (v1 : Int32) (Kx : Int32 → Prop) : Nat → Int32 → Int32 → Prop
  | 0, _, _ => False
  | n4 + 1, v2, v3 => (if (MG_records MG) ≤ v3 then Kx v2
      else (if v2 = 0 then vp_in v3 301 ∧
          (if ((MG_kind MG) (Int32.toNatClampNeg v3)) = 4 then vp_in v3 301 ∧
            (if ((MG_by MG) (Int32.toNatClampNeg v3)) = v1 then wp_M_committed_L4 MG v1 Kx n4 1 (v3 + 1)
            else wp_M_committed_L4 MG v1 Kx n4 0 (v3 + 1))
          else wp_M_committed_L4 MG v1 Kx n4 0 (v3 + 1))
        else wp_M_committed_L4 MG v1 Kx n4 1 (v3 + 1)))
def wp_M_committed (MG : S_MG) (a1 : Int32) (post : Int32 → Prop) : Prop :=
  (∃ e4, wp_M_committed_L4 MG a1 (fun x1 =>
  vp_nar .boolean x1 = x1 ∧
    post x1) e4 0 0)

def wp_M_crash_L44 (Kx : S_MA → Prop) : Nat → Int32 → S_MA → Prop
  | 0, _, _ => False
  | n44 + 1, v2, MA => (if 8 ≤ v2 then Kx MA
      else vp_in v2 8 ∧
        vp_in v2 8 ∧
        wp_M_crash_L44 Kx n44 (v2 + 1) (MA_dirty' (MA_inFrame' MA (upd (MA_inFrame MA) (Int32.toNatClampNeg v2) (vp_nar .boolean 0))) (upd (MA_dirty MA) (Int32.toNatClampNeg v2) (vp_nar .boolean 0))))
def wp_M_crash_L72 (Kx : S_ML → S_MT → Prop) : Nat → Int32 → S_ML → S_MT → Prop
  | 0, _, _, _ => False
  | n72 + 1, v2, ML, MT => (if (MT_many MT) ≤ v2 then Kx ML MT
      else wp_M_unlock ML v2 (fun ML3 =>
        wp_M_top MT v2 (fun r4 =>
        vp_in r4 60 ∧
        (if ((MT_state MT) (Int32.toNatClampNeg r4)) = 3 then vp_in v2 60 ∧
          vp_in v2 60 ∧
          wp_M_crash_L72 Kx n72 (v2 + 1) ML3 (MT_state' MT (upd (MT_state MT) (Int32.toNatClampNeg v2) ((MT_state MT) (Int32.toNatClampNeg v2))))
        else vp_in v2 60 ∧
          wp_M_crash_L72 Kx n72 (v2 + 1) ML3 (MT_state' MT (upd (MT_state MT) (Int32.toNatClampNeg v2) 4))))))
def wp_M_crash_L128 (v2 : Int32) (Kx : S_MA → S_MD → S_MG → Prop) : Nat → Int32 → S_MA → S_MD → S_MG → Prop
  | 0, _, _, _, _ => False
  | n128 + 1, v3, MA, MD, MG => (if v2 ≤ v3 then Kx MA MD MG
      else vp_in v3 301 ∧
        (if ((MG_kind MG) (Int32.toNatClampNeg v3)) = 2 then vp_in v3 301 ∧
          wp_M_touch MA MD MG (((MG_about MG) (Int32.toNatClampNeg v3)) / 4) (fun MA7 MD8 MG9 =>
          vp_in v3 301 ∧
          vp_in (((MG_about MG9) (Int32.toNatClampNeg v3)) / 4) 8 ∧
          (if (((MG_base MG9) + v3) + 1) ≤ ((MA_lsn MA7) (Int32.toNatClampNeg (((MG_about MG9) (Int32.toNatClampNeg v3)) / 4))) then wp_M_crash_L128 v2 Kx n128 (v3 + 1) MA7 MD8 MG9
          else vp_in v3 301 ∧
            vp_in v3 301 ∧
            vp_in v3 301 ∧
            wp_M_become MA7 ((MG_about MG9) (Int32.toNatClampNeg v3)) ((MG_isThere MG9) (Int32.toNatClampNeg v3)) ((MG_isValue MG9) (Int32.toNatClampNeg v3)) (((MG_base MG9) + v3) + 1) (fun MA10 =>
            wp_M_crash_L128 v2 Kx n128 (v3 + 1) MA10 MD8 MG9)))
        else vp_in v3 301 ∧
          (if ((MG_kind MG) (Int32.toNatClampNeg v3)) = 3 then vp_in v3 301 ∧
            wp_M_touch MA MD MG (((MG_about MG) (Int32.toNatClampNeg v3)) / 4) (fun MA11 MD12 MG13 =>
            vp_in v3 301 ∧
            vp_in (((MG_about MG13) (Int32.toNatClampNeg v3)) / 4) 8 ∧
            (if (((MG_base MG13) + v3) + 1) ≤ ((MA_lsn MA11) (Int32.toNatClampNeg (((MG_about MG13) (Int32.toNatClampNeg v3)) / 4))) then wp_M_crash_L128 v2 Kx n128 (v3 + 1) MA11 MD12 MG13
            else vp_in v3 301 ∧
              vp_in v3 301 ∧
              vp_in v3 301 ∧
              wp_M_become MA11 ((MG_about MG13) (Int32.toNatClampNeg v3)) ((MG_isThere MG13) (Int32.toNatClampNeg v3)) ((MG_isValue MG13) (Int32.toNatClampNeg v3)) (((MG_base MG13) + v3) + 1) (fun MA14 =>
              wp_M_crash_L128 v2 Kx n128 (v3 + 1) MA14 MD12 MG13)))
          else wp_M_crash_L128 v2 Kx n128 (v3 + 1) MA MD MG)))
def wp_M_crash_L232 (MT : S_MT) (Kx : Int32 → S_MA → S_MD → S_MG → Prop) : Nat → Int32 → Int32 → S_MA → S_MD → S_MG → Prop
  | 0, _, _, _, _, _ => False
  | n232 + 1, v3, v4, MA, MD, MG => (if v4 < 0 then Kx v3 MA MD MG
      else vp_in v4 301 ∧
        (if ((MG_kind MG) (Int32.toNatClampNeg v4)) = 2 then wp_M_undone MG v4 (fun r18 =>
          (if r18 = 0 then vp_in v4 301 ∧
            wp_M_top MT ((MG_by MG) (Int32.toNatClampNeg v4)) (fun r19 =>
            wp_M_committed MG r19 (fun r20 =>
            (if r20 = 0 then vp_in v4 301 ∧
              wp_M_top MT ((MG_by MG) (Int32.toNatClampNeg v4)) (fun r21 =>
              wp_M_undo MA MD MG r21 v4 (fun MA22 MD23 MG24 =>
              wp_M_crash_L232 MT Kx n232 (v3 + 1) (v4 + (-1)) MA22 MD23 MG24))
            else wp_M_crash_L232 MT Kx n232 v3 (v4 + (-1)) MA MD MG)))
          else wp_M_crash_L232 MT Kx n232 v3 (v4 + (-1)) MA MD MG))
        else wp_M_crash_L232 MT Kx n232 v3 (v4 + (-1)) MA MD MG))
def wp_M_crash (MA : S_MA) (MD : S_MD) (MG : S_MG) (ML : S_ML) (MT : S_MT) (a1 : Int32) (post : Int32 → S_MA → S_MD → S_MG → S_ML → S_MT → Prop) : Prop :=
  (if a1 < 0 then post (-1) MA MD MG ML MT
  else wp_M_last MG (fun r1 =>
    (if a1 ≤ (r1 - (MG_flushed MG)) then (∃ e44, wp_M_crash_L44 (fun MA2 =>
      (∃ e72, wp_M_crash_L72 (fun ML5 MT6 =>
        (∃ e128, wp_M_crash_L128 (((MG_flushed MG) + a1) - (MG_base MG)) (fun MA15 MD16 MG17 =>
          (∃ e232, wp_M_crash_L232 MT6 (fun x25 MA26 MD27 MG28 =>
            wp_M_last MG28 (fun r29 =>
              post x25 MA26 MD27 (MG_flushed' MG28 r29) ML5 MT6)) e232 0 ((((MG_flushed MG) + a1) - (MG_base MG)) - 1) MA15 MD16 MG17)) e128 0 MA2 MD (MG_records' (MG_flushed' MG ((MG_flushed MG) + a1)) (((MG_flushed MG) + a1) - (MG_base MG))))) e72 0 ML MT)) e44 0 MA)
    else post (-1) MA MD MG ML MT)))

def wp_M_state (MT : S_MT) (a1 : Int32) (post : Int32 → Prop) : Prop :=
  wp_M_is MT a1 (fun r1 =>
  (if r1 = 0 then post (-1)
  else vp_in a1 60 ∧
    post ((MT_state MT) (Int32.toNatClampNeg a1))))

def wp_M_parent (MT : S_MT) (a1 : Int32) (post : Int32 → Prop) : Prop :=
  wp_M_is MT a1 (fun r1 =>
  (if r1 = 0 then post (-1)
  else vp_in a1 60 ∧
    post ((MT_parent MT) (Int32.toNatClampNeg a1))))

def wp_M_lock (ML : S_ML) (MT : S_MT) (a1 : Int32) (a2 : Int32) (post : Int32 → Prop) : Prop :=
  wp_M_is MT a1 (fun r1 =>
  (if r1 = 0 then post (-1)
  else (if a2 < 0 then post (-1)
    else (if a2 ≤ 32 then vp_in ((33 * a1) + a2) 1980 ∧
        post ((ML_locks ML) (Int32.toNatClampNeg ((33 * a1) + a2)))
      else post (-1)))))

def wp_M_waits (MA : S_MA) (MD : S_MD) (ML : S_ML) (MP : S_MP) (MT : S_MT) (MV : S_MV) (a1 : Int32) (a2 : Int32) (post : Int32 → S_MP → S_MV → Prop) : Prop :=
  wp_M_is MT a1 (fun r1 =>
  (if r1 = 0 then post 0 MP MV
  else wp_M_is MT a2 (fun r2 =>
    (if r2 = 0 then post 0 MP MV
    else vp_in a1 60 ∧
      (if ((MT_state MT) (Int32.toNatClampNeg a1)) = 2 then wp_M_look MA MD ML MP MT MV (fun MP3 MV4 =>
        vp_in a1 60 ∧
        (if ((MV_lacks MV4) (Int32.toNatClampNeg a1)) < 0 then post 0 MP3 MV4
        else vp_in a1 60 ∧
          vp_in a1 60 ∧
          wp_M_bars ML MT a2 a1 ((MV_lacks MV4) (Int32.toNatClampNeg a1)) ((MV_lackMode MV4) (Int32.toNatClampNeg a1)) (fun r5 =>
          (if r5 = 0 then post 0 MP3 MV4
          else post 1 MP3 MV4))))
      else post 0 MP MV)))))

def wp_M_entry (MG : S_MG) (a1 : Int32) (a2 : Int32) (post : Int32 → Prop) : Prop :=
  (if a1 ≤ (MG_base MG) then post (-1)
  else wp_M_last MG (fun r1 =>
    (if r1 < a1 then post (-1)
    else (if a2 < 0 then post (-1)
      else (if a2 ≤ 5 then (if a2 = 0 then vp_in ((a1 - (MG_base MG)) - 1) 301 ∧
            post ((MG_kind MG) (Int32.toNatClampNeg ((a1 - (MG_base MG)) - 1)))
          else if a2 = 1 then vp_in ((a1 - (MG_base MG)) - 1) 301 ∧
            post ((MG_by MG) (Int32.toNatClampNeg ((a1 - (MG_base MG)) - 1)))
          else if a2 = 2 then vp_in ((a1 - (MG_base MG)) - 1) 301 ∧
            post ((MG_about MG) (Int32.toNatClampNeg ((a1 - (MG_base MG)) - 1)))
          else if a2 = 3 then vp_in ((a1 - (MG_base MG)) - 1) 301 ∧
            (if ((MG_kind MG) (Int32.toNatClampNeg ((a1 - (MG_base MG)) - 1))) = 3 then vp_in ((a1 - (MG_base MG)) - 1) 301 ∧
              post ((MG_of MG) (Int32.toNatClampNeg ((a1 - (MG_base MG)) - 1)))
            else vp_in ((a1 - (MG_base MG)) - 1) 301 ∧
              (if ((MG_wasThere MG) (Int32.toNatClampNeg ((a1 - (MG_base MG)) - 1))) = 0 then post 0
              else post 1))
          else if a2 = 4 then vp_in ((a1 - (MG_base MG)) - 1) 301 ∧
            (if ((MG_isThere MG) (Int32.toNatClampNeg ((a1 - (MG_base MG)) - 1))) = 0 then post 0
            else post 1)
          else vp_in ((a1 - (MG_base MG)) - 1) 301 ∧
            post ((MG_isValue MG) (Int32.toNatClampNeg ((a1 - (MG_base MG)) - 1))))
        else post (-1))))))

def wp_M_log (MG : S_MG) (MT : S_MT) (a1 : Int32) (post : Int32 → Prop) : Prop :=
  (if a1 = 0 then wp_M_last MG (fun r1 =>
    post r1)
  else if a1 = 1 then post (MG_flushed MG)
  else if a1 = 2 then post (MG_records MG)
  else if a1 = 3 then wp_M_opens MG MT (fun r2 =>
    post r2)
  else if a1 = 4 then wp_M_lives MT (fun r3 =>
    post r3)
  else post (-1))

def wp_M_key (MA : S_MA) (MD : S_MD) (a1 : Int32) (a2 : Int32) (post : Int32 → Prop) : Prop :=
  wp_M_isKey a1 (fun r1 =>
  (if r1 = 0 then post (-1)
  else (if a2 < 0 then post (-1)
    else (if a2 ≤ 3 then (if 2 ≤ a2 then (if a2 = 2 then vp_in a1 32 ∧
            (if ((MD_diskThere MD) (Int32.toNatClampNeg a1)) = 0 then post 0
            else post 1)
          else vp_in a1 32 ∧
            post ((MD_diskValue MD) (Int32.toNatClampNeg a1)))
        else (if a2 = 0 then wp_M_isThereNow MA MD a1 (fun r3 =>
            (if r3 = 0 then post 0
            else post 1))
          else wp_M_valueNow MA MD a1 (fun r2 =>
            post r2)))
      else post (-1)))))

def wp_M_frame_L17 (MA : S_MA) (v1 : Int32) (v2 : Int32) (Kx : Int32 → Prop) : Nat → Int32 → Int32 → Prop
  | 0, _, _ => False
  | n17 + 1, v3, v4 => (if 8 ≤ v4 then Kx v3
      else vp_in v4 8 ∧
        (if ((MA_inFrame MA) (Int32.toNatClampNeg v4)) = 0 then wp_M_frame_L17 MA v1 v2 Kx n17 (v3 + 0) (v4 + 1)
        else vp_in v4 8 ∧
          vp_in v2 8 ∧
          (if ((MA_touched MA) (Int32.toNatClampNeg v4)) ≤ ((MA_touched MA) (Int32.toNatClampNeg v2)) then wp_M_frame_L17 MA v1 v2 Kx n17 (v3 + 0) (v4 + 1)
          else wp_M_frame_L17 MA v1 v2 Kx n17 (v3 + 1) (v4 + 1))))
def wp_M_frame_L2 (MA : S_MA) (v1 : Int32) (post : Int32 → Prop) (Kx : Prop) : Nat → Int32 → Prop
  | 0, _ => False
  | n2 + 1, v2 => (if 8 ≤ v2 then Kx
      else (if v1 < 0 then Kx
        else (∃ e17, wp_M_frame_L17 MA v1 v2 (fun x1 =>
          vp_in v2 8 ∧
            (if ((MA_inFrame MA) (Int32.toNatClampNeg v2)) = 0 then wp_M_frame_L2 MA v1 post Kx n2 (v2 + 1)
            else (if x1 = v1 then vp_in v2 8 ∧
                (if ((MA_dirty MA) (Int32.toNatClampNeg v2)) = 0 then post ((2 * v2) + 0)
                else post ((2 * v2) + 1))
              else wp_M_frame_L2 MA v1 post Kx n2 (v2 + 1)))) e17 0 0)))
def wp_M_frame (MA : S_MA) (a1 : Int32) (post : Int32 → Prop) : Prop :=
  (∃ e2, wp_M_frame_L2 MA a1 post (post (-1)) e2 0)

def wp_M_page (MA : S_MA) (MD : S_MD) (a1 : Int32) (post : Int32 → Prop) : Prop :=
  wp_M_isPage a1 (fun r1 =>
  (if r1 = 0 then post (-1)
  else wp_M_lsnNow MA MD a1 (fun r2 =>
    post r2)))
end
section
def jI (n : Nat) : Int32 := Int32.ofNat n
def b2i (b : Bool) : Int32 := if b then 1 else 0
def updN {α : Type} (f : Nat → α) (k : Nat) (x : α) : Nat → α := fun j => if j = k then x else f j
theorem updN_same {α : Type} (f : Nat → α) (k : Nat) (x : α) : updN f k x k = x := if_pos rfl
theorem updN_ne {α : Type} (f : Nat → α) {k j : Nat} (x : α) (h : j ≠ k) : updN f k x j = f j := if_neg h
theorem upd_same (f : Nat → Int32) (k : Nat) (x : Int32) : upd f k x k = x := if_pos rfl
theorem upd_ne (f : Nat → Int32) {k j : Nat} (x : Int32) (h : j ≠ k) : upd f k x j = f j := if_neg h
theorem updL_same (f : Nat → Int64) (k : Nat) (x : Int64) : vp_updL f k x k = x := if_pos rfl
theorem updL_ne (f : Nat → Int64) {k j : Nat} (x : Int64) (h : j ≠ k) : vp_updL f k x j = f j := if_neg h
theorem b2i_t : b2i true = 1 := rfl
theorem b2i_f : b2i false = 0 := rfl
theorem nar_b (b : Bool) : vp_nar .boolean (b2i b) = b2i b := by cases b <;> decide
theorem nar_0 : vp_nar .boolean 0 = b2i false := by decide
theorem nar_1 : vp_nar .boolean 1 = b2i true := by decide
theorem b2i_0 {b : Bool} : b2i b = 0 ↔ b = false := by cases b <;> decide
theorem b2i_1 {b : Bool} : b2i b = 1 ↔ b = true := by cases b <;> decide
theorem jI_tn {n : Nat} (h : n < 2147483648) : Int32.toNatClampNeg (jI n) = n := Int32.toNatClampNeg_ofNat_of_lt h
theorem jI_ti {n : Nat} (h : n < 2147483648) : (jI n).toInt = (n : Int) := Int32.toInt_ofNat_of_lt h
theorem jI_s (n : Nat) : jI n + 1 = jI (n + 1) := (Int32.ofNat_add n 1).symm
theorem jI_a (a b : Nat) : jI a + jI b = jI (a + b) := (Int32.ofNat_add a b).symm
theorem jI_m (a b : Nat) : jI a * jI b = jI (a * b) := (Int32.ofNat_mul a b).symm
theorem jI_sub {a b : Nat} (h : b ≤ a) : jI a - jI b = jI (a - b) := (Int32.ofNat_sub a b h).symm
theorem jI_p (n : Nat) : jI (n + 1) + (-1) = jI n := by
  rw [← jI_s, Int32.add_assoc, show (1 : Int32) + (-1) = 0 from by decide, Int32.add_zero]
theorem jI_d (n : Nat) : jI (n + 1) - 1 = jI n := by rw [← jI_s, Int32.add_sub_cancel]
theorem jI_dm (m : Nat) : jI m - 1 = jI m + (-1) := Int32.sub_eq_add_neg _ _
theorem jI_le {a b : Nat} (ha : a < 2147483648) (hb : b < 2147483648) : jI a ≤ jI b ↔ a ≤ b := Int32.ofNat_le_iff_le ha hb
theorem jI_lt {a b : Nat} (ha : a < 2147483648) (hb : b < 2147483648) : jI a < jI b ↔ a < b := Int32.ofNat_lt_iff_lt ha hb
theorem jI_eq {a b : Nat} (ha : a < 2147483648) (hb : b < 2147483648) : jI a = jI b ↔ a = b := by
  constructor
  · intro h
    have h2 := congrArg Int32.toNatClampNeg h
    rwa [jI_tn ha, jI_tn hb] at h2
  · intro h
    rw [h]
theorem jI_nn {n : Nat} (h : n < 2147483648) : ¬ jI n < 0 := fun q => absurd ((jI_lt h (by decide : 0 < 2147483648)).mp q) (Nat.not_lt_zero _)
theorem jI_in {n k : Nat} (h : n < 2147483648) (hk : n < k) : vp_in (jI n) k := by
  unfold vp_in
  rw [jI_tn h]
  intro q
  rcases q with q | q
  · exact jI_nn h q
  · omega
theorem jI_of {x : Int32} (h : ¬ x < 0) : x = jI (Int32.toNatClampNeg x) := by
  have h0 : 0 ≤ x := by
    rw [Int32.lt_iff_toInt_lt] at h
    rw [Int32.le_iff_toInt_le]
    omega
  exact (Int32.ofNat_toNatClampNeg x h0).symm
theorem jI_ex (x : Int32) : x < 0 ∨ ∃ n, n < 2147483648 ∧ x = jI n := by
  by_cases h : x < 0
  · exact Or.inl h
  · exact Or.inr ⟨_, Int32.toNatClampNeg_lt x, jI_of h⟩
theorem jI_m1 {n : Nat} (h : n < 2147483648) : jI n ≠ -1 := by
  intro q
  have h2 := jI_nn h
  rw [q] at h2
  exact h2 (by decide)
theorem jI_div {n : Nat} (h : n < 2147483648) : jI n / 4 = jI (n / 4) := (Int32.ofNat_div h (by decide : 4 < 2 ^ 31)).symm
theorem jI_0 : jI 0 = 0 := rfl
/-- a loop that goes N rounds at most, its state at round k told by Inv k -/
theorem lpi {σ : Type} (L : Nat → σ → Prop) (Inv : Nat → σ → Prop) (N : Nat) (hstep : ∀ k, k < N → ∀ s n, Inv k s → (∀ s', Inv (k + 1) s' → L n s') → L (n + 1) s) (hend : ∀ s n, Inv N s → L (n + 1) s) : ∀ k, k ≤ N → ∀ s, Inv k s → ∃ e, L e s := by
  have key : ∀ d k, k + d = N → ∀ s, Inv k s → L (d + 1) s := by
    intro d
    induction d with
    | zero =>
      intro k hk s hs
      have hk : k = N := hk
      subst hk
      exact hend s 0 hs
    | succ d ih =>
      intro k hk s hs
      exact hstep k (by omega) s (d + 1) hs (fun s' h' => ih (k + 1) (by omega) s' h')
  intro k hk s hs
  exact ⟨_, key (N - k) k (by omega) s hs⟩
/-- a loop that counts m down -/
theorem lpd {σ : Type} (L : Nat → Nat → σ → Prop) (Inv : Nat → σ → Prop) (hstep : ∀ m s n, Inv (m + 1) s → (∀ s', Inv m s' → L n m s') → L (n + 1) (m + 1) s) (hend : ∀ s n, Inv 0 s → L (n + 1) 0 s) : ∀ m s, Inv m s → ∃ e, L e m s := by
  have key : ∀ m s, Inv m s → L (m + 1) m s := by
    intro m
    induction m with
    | zero => exact fun s hs => hend s 0 hs
    | succ m ih => exact fun s hs => hstep m s (m + 1) hs ih
  exact fun m s hs => ⟨_, key m s hs⟩
/-- how many below n, and whether one below n -/
def bc : Nat → (Nat → Bool) → Nat
  | 0, _ => 0
  | n + 1, P => bc n P + (if P n then 1 else 0)
def bx : Nat → (Nat → Bool) → Bool
  | 0, _ => false
  | n + 1, P => bx n P || P n
theorem bc_le (n : Nat) (P : Nat → Bool) : bc n P ≤ n := by
  induction n with
  | zero => exact Nat.le_refl _
  | succ n ih =>
    unfold bc
    split <;> omega
theorem bc_congr {n : Nat} {P Q : Nat → Bool} (h : ∀ k, k < n → P k = Q k) : bc n P = bc n Q := by
  induction n with
  | zero => rfl
  | succ n ih =>
    unfold bc
    rw [ih (fun k hk => h k (by omega)), h n (by omega)]
theorem bx_iff {n : Nat} {P : Nat → Bool} : bx n P = true ↔ ∃ k, k < n ∧ P k = true := by
  induction n with
  | zero => exact ⟨fun h => (by cases h), fun ⟨k, hk, _⟩ => absurd hk (Nat.not_lt_zero _)⟩
  | succ n ih =>
    unfold bx
    rw [Bool.or_eq_true, ih]
    constructor
    · rintro (⟨k, hk, h⟩ | h)
      · exact ⟨k, by omega, h⟩
      · exact ⟨n, by omega, h⟩
    · rintro ⟨k, hk, h⟩
      by_cases hkn : k = n
      · subst hkn
        exact Or.inr h
      · exact Or.inl ⟨k, by omega, h⟩
theorem bx_congr {n : Nat} {P Q : Nat → Bool} (h : ∀ k, k < n → P k = Q k) : bx n P = bx n Q := by
  induction n with
  | zero => rfl
  | succ n ih =>
    unfold bx
    rw [ih (fun k hk => h k (by omega)), h n (by omega)]
theorem bc_up {n : Nat} {P Q : Nat → Bool} (h : ∀ k, k < n → P k = true → Q k = true) : bc n P ≤ bc n Q := by
  induction n with
  | zero => exact Nat.le_refl _
  | succ n ih =>
    unfold bc
    have h1 := ih (fun k hk => h k (by omega))
    have h2 := h n (by omega)
    by_cases hp : P n = true
    · rw [if_pos hp, if_pos (h2 hp)]
      omega
    · rw [if_neg hp]
      omega
/-- one more -/
theorem bc_one {n x : Nat} {P Q : Nat → Bool} (hx : x < n) (h1 : P x = false) (h2 : Q x = true) (h : ∀ k, k < n → k ≠ x → P k = Q k) : bc n Q = bc n P + 1 := by
  induction n with
  | zero => exact absurd hx (Nat.not_lt_zero _)
  | succ n ih =>
    unfold bc
    by_cases hn : x = n
    · subst hn
      rw [h1, h2, bc_congr (fun k hk => (h k (by omega) (by omega)).symm : ∀ k, k < x → Q k = P k)]
      simp
    · rw [ih (by omega) (fun k hk => h k (by omega)), h n (by omega) (fun q => hn q.symm)]
      omega
theorem bc_zero {n : Nat} {P : Nat → Bool} : bc n P = 0 ↔ ∀ k, k < n → P k = false := by
  induction n with
  | zero => exact ⟨fun _ k hk => absurd hk (Nat.not_lt_zero _), fun _ => rfl⟩
  | succ n ih =>
    unfold bc
    constructor
    · intro h k hk
      have h1 : bc n P = 0 := by omega
      by_cases hkn : k = n
      · subst hkn
        cases hp : P k with
        | false => rfl
        | true => rw [hp] at h; simp at h
      · exact ih.mp h1 k (by omega)
    · intro h
      rw [ih.mpr (fun k hk => h k (by omega)), h n (by omega)]
      rfl
/-- bits of a long -/
def tb (x : Int64) (t : Nat) : Bool := x.toBitVec.getLsbD t
def oneb (t : Nat) : Int64 := (1 : Int64) <<< (Int32.toInt64 (jI t) &&& 63)
theorem oneb_bv : ∀ t, t < 64 → (oneb t).toBitVec = BitVec.twoPow 64 t := by decide +kernel
theorem tb_oneb {t : Nat} (h : t < 64) (u : Nat) : tb (oneb t) u = decide (t = u) := by
  unfold tb
  rw [oneb_bv t h, BitVec.getLsbD_twoPow]
  simp [h]
theorem tb_or (x y : Int64) (u : Nat) : tb (x ||| y) u = (tb x u || tb y u) := by
  unfold tb
  rw [Int64.toBitVec_or, BitVec.getLsbD_or]
theorem tb_and (x y : Int64) (u : Nat) : tb (x &&& y) u = (tb x u && tb y u) := by
  unfold tb
  rw [Int64.toBitVec_and, BitVec.getLsbD_and]
theorem tb_m1 {u : Nat} (h : u < 64) : tb (-1) u = true := by
  unfold tb
  rw [Int64.toBitVec_neg, Int64.toBitVec_one, BitVec.neg_one_eq_allOnes, BitVec.getLsbD_allOnes]
  simp [h]
theorem tb_not (x : Int64) {u : Nat} (h : u < 64) : tb (x ^^^ (-1)) u = !tb x u := by
  have h2 := tb_m1 h
  unfold tb at h2 ⊢
  rw [Int64.toBitVec_xor, BitVec.getLsbD_xor, h2]
  simp
theorem tb_0 (u : Nat) : tb 0 u = false := by
  unfold tb
  rw [Int64.toBitVec_zero, BitVec.getLsbD_zero]
theorem tb_hi (x : Int64) {u : Nat} (h : 64 ≤ u) : tb x u = false := BitVec.getLsbD_of_ge _ _ h
theorem tb_ext {x y : Int64} (h : ∀ u, u < 64 → tb x u = tb y u) : x = y := by
  apply Int64.toBitVec_inj.mp
  apply BitVec.eq_of_getLsbD_eq
  intro i hi
  exact h i hi
theorem cmp_0 {x y : Int64} : lg_cmp x y = 0 ↔ x = y := by
  unfold lg_cmp
  constructor
  · intro h
    split at h
    · exact absurd h (by decide)
    · split at h
      · assumption
      · exact absurd h (by decide)
  · intro h
    subst h
    rw [if_neg (by rw [gt_iff_lt, Int64.lt_iff_toInt_lt]; omega), if_pos rfl]
theorem cmp_z {x : Int64} : lg_cmp x 0 = 0 ↔ ∀ u, u < 64 → tb x u = false := by
  rw [cmp_0]
  constructor
  · intro h u _
    rw [h, tb_0]
  · intro h
    exact tb_ext (fun u hu => by rw [h u hu, tb_0])
theorem cmp_bit {x : Int64} {t : Nat} (ht : t < 64) : lg_cmp (x &&& oneb t) 0 = 0 ↔ tb x t = false := by
  rw [cmp_z]
  constructor
  · intro h
    have h2 := h t ht
    rw [tb_and, tb_oneb ht] at h2
    simpa using h2
  · intro h u hu
    rw [tb_and, tb_oneb ht]
    by_cases htu : t = u
    · subst htu
      rw [h]
      rfl
    · simp [htu]
theorem up_k {α : Type} (m : α → Int32) {f : Nat → Int32} {g : Nat → α} {N k : Nat} {x : Int32} {y : α} (h : ∀ t, t < N → f t = m (g t)) (hx : x = m y) : ∀ t, t < N → upd f k x t = m (updN g k y t) := by
  intro t ht
  by_cases e : t = k
  · rw [e, upd_same, updN_same, hx]
  · rw [upd_ne _ _ e, updN_ne _ _ e, h t ht]
theorem up_n {α : Type} (m : α → Int32) {f : Nat → Int32} {g : Nat → α} {n : Nat} {x : Int32} {y : α} (h : ∀ t, t < n → f t = m (g t)) (hx : x = m y) : ∀ t, t < n + 1 → upd f n x t = m (updN g n y t) := by
  intro t ht
  by_cases e : t = n
  · rw [e, upd_same, updN_same, hx]
  · rw [upd_ne _ _ e, updN_ne _ _ e, h t (by omega)]
def pI (p : Option Nat) : Int32 := match p with
  | none => -1
  | some q => jI q
end
section
theorem hp_of {D : va_G} {cl : List vw_C} {w : va_W} {t : State} {H : Heap} (ht : t.heap = H) (h : va_P D cl w H) : va_P D cl w t.heap := by
  rw [ht]
  exact h
section NC
variable {p : Program} {l : Launch} {e : Env} {R : Room} {s : State} {m : MethodId} {args : Array Value} {below : List Frame} {meth : Method} {c : Code} {H : Heap} {locs : List Loc} {cells slots : Nat} {Q : State → Prop} {cc : ByteArray} {pc nL : Nat} {ls : Array Slot} {rest : List Value} {D : va_G} {cl : List vw_C} {tys : List (ClassId × FieldType)} {Af : Nat → Prop} {H0 : Heap} {own C : String} {y : MethodName} {bytes : ByteArray} {maxL index n : Nat} {ret : Option FieldType} {Ts wsY : List Cond} {rm : Room} {b : Nat} {As : List Value} {w0 : va_W}
theorem ncn_i {S : Type} {post : Int32 → S → Prop} {w1 : S → va_W}
    (hM : Met l y wsY rm (va_Pc (.ref b :: As) (fun U => va_P D cl w0 U.heap ∧ va_K D cl tys U)) (va_Qi post (fun u t => va_P D cl (w1 u) t.heap) Af) 0 0 Af)
    (cw : CallW R s args own C index y bytes maxL ret wsY rm 0 0 n)
    (hx : p.tables.exec = Jvm.exec) (hb : c.code = cc) (hml : c.maxLocals = nL) (hown : s.vm.findClass own = some m.cls) (hts : ∀ w ∈ Ts, w.before args s = true)
    (hK : va_K D cl tys s) (hP : va_P D cl w0 H) (hS : va_S Af H0 H locs) (hsz : ls.size = nL) (hdg : decode cc pc = .ok (.invokevirtual index, 3))
    (hrecv : ∃ cell : Cell, H[b]? = some cell ∧ cell.vm.isStatics = false ∧ s.vm.findClass C = some cell.cls) (hn : As.length = n)
    (hroom : 2 * (F0 m pc ls (As.reverse ++ .ref b :: rest)).monitorRoom + (rest.map fun v => v.category).sum ≤ 8) (hc : cells ≤ R.cells) (hs : slots ≤ R.slots) {st : List Value} (hst : st = As.reverse ++ .ref b :: rest)
    (kk : ∀ (r : Int32) (u : S) (H1 : Heap) (locs1 : List Loc), post r u → va_P D cl (w1 u) H1 → va_S Af H0 H1 locs1 → W p l e R s m args below meth c H1 locs1 cells slots Q (F0 m (pc + 3) ls (.int r :: rest))) :
    W p l e R s m args below meth c H locs cells slots Q (F0 m pc ls st) := by
  subst hst
  refine va_calli (va_runV (As := As) (rest := rest) ⟨hx, hb, hml, hown, hts⟩ hM cw ⟨fun a U g mk q => ?_, hrecv, fun U hU hW => ⟨rfl, ?_, va_K.moved hW.alike hK⟩⟩ rfl hn hsz rfl hroom hdg ⟨hc, hs⟩) hS (fun _ _ h => h) (fun _ h => h) (fun r u t H1 locs1 ht hvm hp hB _ _ hS1 => ?_)
  · obtain ⟨q0, qP, qK⟩ := q
    exact ⟨q0, qP, va_K.moved (u := U) (U := U.calling g mk a) (Vm.Alike.refl U.vm) qK⟩
  · rw [hU]; exact hP
  · exact kk r u H1 locs1 hp (ht ▸ hB) hS1
theorem ncn_l {S : Type} {post : Int64 → S → Prop} {w1 : S → va_W}
    (hM : Met l y wsY rm (va_Pc (.ref b :: As) (fun U => va_P D cl w0 U.heap ∧ va_K D cl tys U)) (va_Ql post (fun u t => va_P D cl (w1 u) t.heap) Af) 0 0 Af)
    (cw : CallW R s args own C index y bytes maxL ret wsY rm 0 0 n)
    (hx : p.tables.exec = Jvm.exec) (hb : c.code = cc) (hml : c.maxLocals = nL) (hown : s.vm.findClass own = some m.cls) (hts : ∀ w ∈ Ts, w.before args s = true)
    (hK : va_K D cl tys s) (hP : va_P D cl w0 H) (hS : va_S Af H0 H locs) (hsz : ls.size = nL) (hdg : decode cc pc = .ok (.invokevirtual index, 3))
    (hrecv : ∃ cell : Cell, H[b]? = some cell ∧ cell.vm.isStatics = false ∧ s.vm.findClass C = some cell.cls) (hn : As.length = n)
    (hroom : 2 * (F0 m pc ls (As.reverse ++ .ref b :: rest)).monitorRoom + (rest.map fun v => v.category).sum ≤ 8) (hc : cells ≤ R.cells) (hs : slots ≤ R.slots) {st : List Value} (hst : st = As.reverse ++ .ref b :: rest)
    (kk : ∀ (r : Int64) (u : S) (H1 : Heap) (locs1 : List Loc), post r u → va_P D cl (w1 u) H1 → va_S Af H0 H1 locs1 → W p l e R s m args below meth c H1 locs1 cells slots Q (F0 m (pc + 3) ls (.long r :: rest))) :
    W p l e R s m args below meth c H locs cells slots Q (F0 m pc ls st) := by
  subst hst
  refine va_calll (va_runV (As := As) (rest := rest) ⟨hx, hb, hml, hown, hts⟩ hM cw ⟨fun a U g mk q => ?_, hrecv, fun U hU hW => ⟨rfl, ?_, va_K.moved hW.alike hK⟩⟩ rfl hn hsz rfl hroom hdg ⟨hc, hs⟩) hS (fun _ _ h => h) (fun _ h => h) (fun r u t H1 locs1 ht hvm hp hB _ _ hS1 => ?_)
  · obtain ⟨q0, qP, qK⟩ := q
    exact ⟨q0, qP, va_K.moved (u := U) (U := U.calling g mk a) (Vm.Alike.refl U.vm) qK⟩
  · rw [hU]; exact hP
  · exact kk r u H1 locs1 hp (ht ▸ hB) hS1
theorem ncn_v {S : Type} {post : S → Prop} {w1 : S → va_W}
    (hM : Met l y wsY rm (va_Pc (.ref b :: As) (fun U => va_P D cl w0 U.heap ∧ va_K D cl tys U)) (va_Qv post (fun u t => va_P D cl (w1 u) t.heap) Af) 0 0 Af)
    (cw : CallW R s args own C index y bytes maxL ret wsY rm 0 0 n)
    (hx : p.tables.exec = Jvm.exec) (hb : c.code = cc) (hml : c.maxLocals = nL) (hown : s.vm.findClass own = some m.cls) (hts : ∀ w ∈ Ts, w.before args s = true)
    (hK : va_K D cl tys s) (hP : va_P D cl w0 H) (hS : va_S Af H0 H locs) (hsz : ls.size = nL) (hdg : decode cc pc = .ok (.invokevirtual index, 3))
    (hrecv : ∃ cell : Cell, H[b]? = some cell ∧ cell.vm.isStatics = false ∧ s.vm.findClass C = some cell.cls) (hn : As.length = n)
    (hroom : 2 * (F0 m pc ls (As.reverse ++ .ref b :: rest)).monitorRoom + (rest.map fun v => v.category).sum ≤ 8) (hc : cells ≤ R.cells) (hs : slots ≤ R.slots) {st : List Value} (hst : st = As.reverse ++ .ref b :: rest)
    (kk : ∀ (u : S) (H1 : Heap) (locs1 : List Loc), post u → va_P D cl (w1 u) H1 → va_S Af H0 H1 locs1 → W p l e R s m args below meth c H1 locs1 cells slots Q (F0 m (pc + 3) ls rest)) :
    W p l e R s m args below meth c H locs cells slots Q (F0 m pc ls st) := by
  subst hst
  refine va_callv (va_runV (As := As) (rest := rest) ⟨hx, hb, hml, hown, hts⟩ hM cw ⟨fun a U g mk q => ?_, hrecv, fun U hU hW => ⟨rfl, ?_, va_K.moved hW.alike hK⟩⟩ rfl hn hsz rfl hroom hdg ⟨hc, hs⟩) hS (fun _ _ h => h) (fun _ h => h) (fun u t H1 locs1 ht hvm hp hB _ _ hS1 => ?_)
  · obtain ⟨q0, qP, qK⟩ := q
    exact ⟨q0, qP, va_K.moved (u := U) (U := U.calling g mk a) (Vm.Alike.refl U.vm) qK⟩
  · rw [hU]; exact hP
  · exact kk u H1 locs1 hp (ht ▸ hB) hS1
theorem ncs_i {S : Type} {post : Int32 → S → Prop} {w1 : S → va_W}
    (hM : Met l y wsY rm (va_Pc (As) (fun U => va_P D cl w0 U.heap ∧ va_K D cl tys U)) (va_Qi post (fun u t => va_P D cl (w1 u) t.heap) Af) 0 0 Af)
    (cw : CallB R s args own index y bytes maxL ret wsY rm 0 0 n ∧ (Cond.static y).before args s = true)
    (hx : p.tables.exec = Jvm.exec) (hb : c.code = cc) (hml : c.maxLocals = nL) (hown : s.vm.findClass own = some m.cls) (hts : ∀ w ∈ Ts, w.before args s = true)
    (hK : va_K D cl tys s) (hP : va_P D cl w0 H) (hS : va_S Af H0 H locs) (hsz : ls.size = nL) (hdg : decode cc pc = .ok (.invokestatic index, 3)) (hn : As.length = n)
    (hroom : 2 * (F0 m pc ls (As.reverse ++ rest)).monitorRoom + (rest.map fun v => v.category).sum ≤ 8) (hc : cells ≤ R.cells) (hs : slots ≤ R.slots) {st : List Value} (hst : st = As.reverse ++ rest)
    (kk : ∀ (r : Int32) (u : S) (H1 : Heap) (locs1 : List Loc), post r u → va_P D cl (w1 u) H1 → va_S Af H0 H1 locs1 → W p l e R s m args below meth c H1 locs1 cells slots Q (F0 m (pc + 3) ls (.int r :: rest))) :
    W p l e R s m args below meth c H locs cells slots Q (F0 m pc ls st) := by
  subst hst
  refine va_calli (va_runS (As := As) (rest := rest) ⟨hx, hb, hml, hown, hts⟩ hM cw ⟨fun a U g mk q => ?_, fun U hU hW => ⟨rfl, ?_, va_K.moved hW.alike hK⟩⟩ rfl hn hsz rfl hroom hdg ⟨hc, hs⟩) hS (fun _ _ h => h) (fun _ h => h) (fun r u t H1 locs1 ht hvm hp hB _ _ hS1 => ?_)
  · obtain ⟨q0, qP, qK⟩ := q
    exact ⟨q0, qP, va_K.moved (u := U) (U := U.calling g mk a) (Vm.Alike.refl U.vm) qK⟩
  · rw [hU]; exact hP
  · exact kk r u H1 locs1 hp (ht ▸ hB) hS1
theorem ncs_l {S : Type} {post : Int64 → S → Prop} {w1 : S → va_W}
    (hM : Met l y wsY rm (va_Pc (As) (fun U => va_P D cl w0 U.heap ∧ va_K D cl tys U)) (va_Ql post (fun u t => va_P D cl (w1 u) t.heap) Af) 0 0 Af)
    (cw : CallB R s args own index y bytes maxL ret wsY rm 0 0 n ∧ (Cond.static y).before args s = true)
    (hx : p.tables.exec = Jvm.exec) (hb : c.code = cc) (hml : c.maxLocals = nL) (hown : s.vm.findClass own = some m.cls) (hts : ∀ w ∈ Ts, w.before args s = true)
    (hK : va_K D cl tys s) (hP : va_P D cl w0 H) (hS : va_S Af H0 H locs) (hsz : ls.size = nL) (hdg : decode cc pc = .ok (.invokestatic index, 3)) (hn : As.length = n)
    (hroom : 2 * (F0 m pc ls (As.reverse ++ rest)).monitorRoom + (rest.map fun v => v.category).sum ≤ 8) (hc : cells ≤ R.cells) (hs : slots ≤ R.slots) {st : List Value} (hst : st = As.reverse ++ rest)
    (kk : ∀ (r : Int64) (u : S) (H1 : Heap) (locs1 : List Loc), post r u → va_P D cl (w1 u) H1 → va_S Af H0 H1 locs1 → W p l e R s m args below meth c H1 locs1 cells slots Q (F0 m (pc + 3) ls (.long r :: rest))) :
    W p l e R s m args below meth c H locs cells slots Q (F0 m pc ls st) := by
  subst hst
  refine va_calll (va_runS (As := As) (rest := rest) ⟨hx, hb, hml, hown, hts⟩ hM cw ⟨fun a U g mk q => ?_, fun U hU hW => ⟨rfl, ?_, va_K.moved hW.alike hK⟩⟩ rfl hn hsz rfl hroom hdg ⟨hc, hs⟩) hS (fun _ _ h => h) (fun _ h => h) (fun r u t H1 locs1 ht hvm hp hB _ _ hS1 => ?_)
  · obtain ⟨q0, qP, qK⟩ := q
    exact ⟨q0, qP, va_K.moved (u := U) (U := U.calling g mk a) (Vm.Alike.refl U.vm) qK⟩
  · rw [hU]; exact hP
  · exact kk r u H1 locs1 hp (ht ▸ hB) hS1
theorem ncs_v {S : Type} {post : S → Prop} {w1 : S → va_W}
    (hM : Met l y wsY rm (va_Pc (As) (fun U => va_P D cl w0 U.heap ∧ va_K D cl tys U)) (va_Qv post (fun u t => va_P D cl (w1 u) t.heap) Af) 0 0 Af)
    (cw : CallB R s args own index y bytes maxL ret wsY rm 0 0 n ∧ (Cond.static y).before args s = true)
    (hx : p.tables.exec = Jvm.exec) (hb : c.code = cc) (hml : c.maxLocals = nL) (hown : s.vm.findClass own = some m.cls) (hts : ∀ w ∈ Ts, w.before args s = true)
    (hK : va_K D cl tys s) (hP : va_P D cl w0 H) (hS : va_S Af H0 H locs) (hsz : ls.size = nL) (hdg : decode cc pc = .ok (.invokestatic index, 3)) (hn : As.length = n)
    (hroom : 2 * (F0 m pc ls (As.reverse ++ rest)).monitorRoom + (rest.map fun v => v.category).sum ≤ 8) (hc : cells ≤ R.cells) (hs : slots ≤ R.slots) {st : List Value} (hst : st = As.reverse ++ rest)
    (kk : ∀ (u : S) (H1 : Heap) (locs1 : List Loc), post u → va_P D cl (w1 u) H1 → va_S Af H0 H1 locs1 → W p l e R s m args below meth c H1 locs1 cells slots Q (F0 m (pc + 3) ls rest)) :
    W p l e R s m args below meth c H locs cells slots Q (F0 m pc ls st) := by
  subst hst
  refine va_callv (va_runS (As := As) (rest := rest) ⟨hx, hb, hml, hown, hts⟩ hM cw ⟨fun a U g mk q => ?_, fun U hU hW => ⟨rfl, ?_, va_K.moved hW.alike hK⟩⟩ rfl hn hsz rfl hroom hdg ⟨hc, hs⟩) hS (fun _ _ h => h) (fun _ h => h) (fun u t H1 locs1 ht hvm hp hB _ _ hS1 => ?_)
  · obtain ⟨q0, qP, qK⟩ := q
    exact ⟨q0, qP, va_K.moved (u := U) (U := U.calling g mk a) (Vm.Alike.refl U.vm) qK⟩
  · rw [hU]; exact hP
  · exact kk u H1 locs1 hp (ht ▸ hB) hS1
end NC
end
section
theorem d_T_init_0 : decode b_T_init 0 = .ok (.aload_n 0, 1) := by decide +kernel
theorem d_T_init_1 : decode b_T_init 1 = .ok (.invokespecial 3, 3) := by decide +kernel
theorem d_T_init_4 : decode b_T_init 4 = .ok (.aload_n 0, 1) := by decide +kernel
theorem d_T_init_5 : decode b_T_init 5 = .ok (.bipush 60, 2) := by decide +kernel
theorem d_T_init_7 : decode b_T_init 7 = .ok (.newarray .int, 2) := by decide +kernel
theorem d_T_init_9 : decode b_T_init 9 = .ok (.putfield 9, 3) := by decide +kernel
theorem d_T_init_12 : decode b_T_init 12 = .ok (.aload_n 0, 1) := by decide +kernel
theorem d_T_init_13 : decode b_T_init 13 = .ok (.bipush 60, 2) := by decide +kernel
theorem d_T_init_15 : decode b_T_init 15 = .ok (.newarray .int, 2) := by decide +kernel
theorem d_T_init_17 : decode b_T_init 17 = .ok (.putfield 15, 3) := by decide +kernel
theorem d_T_init_20 : decode b_T_init 20 = .ok (.aload_n 0, 1) := by decide +kernel
theorem d_T_init_21 : decode b_T_init 21 = .ok (.bipush 60, 2) := by decide +kernel
theorem d_T_init_23 : decode b_T_init 23 = .ok (.newarray .int, 2) := by decide +kernel
theorem d_T_init_25 : decode b_T_init 25 = .ok (.putfield 18, 3) := by decide +kernel
theorem d_T_init_28 : decode b_T_init 28 = .ok (.aload_n 0, 1) := by decide +kernel
theorem d_T_init_29 : decode b_T_init 29 = .ok (.bipush 60, 2) := by decide +kernel
theorem d_T_init_31 : decode b_T_init 31 = .ok (.newarray .int, 2) := by decide +kernel
theorem d_T_init_33 : decode b_T_init 33 = .ok (.putfield 21, 3) := by decide +kernel
theorem d_T_init_36 : decode b_T_init 36 = .ok (.aload_n 0, 1) := by decide +kernel
theorem d_T_init_37 : decode b_T_init 37 = .ok (.bipush 60, 2) := by decide +kernel
theorem d_T_init_39 : decode b_T_init 39 = .ok (.newarray .int, 2) := by decide +kernel
theorem d_T_init_41 : decode b_T_init 41 = .ok (.putfield 24, 3) := by decide +kernel
theorem d_T_init_44 : decode b_T_init 44 = .ok (.aload_n 0, 1) := by decide +kernel
theorem d_T_init_45 : decode b_T_init 45 = .ok (.bipush 60, 2) := by decide +kernel
theorem d_T_init_47 : decode b_T_init 47 = .ok (.newarray .long, 2) := by decide +kernel
theorem d_T_init_49 : decode b_T_init 49 = .ok (.putfield 27, 3) := by decide +kernel
theorem d_T_init_52 : decode b_T_init 52 = .ok (.aload_n 0, 1) := by decide +kernel
theorem d_T_init_53 : decode b_T_init 53 = .ok (.bipush 60, 2) := by decide +kernel
theorem d_T_init_55 : decode b_T_init 55 = .ok (.newarray .int, 2) := by decide +kernel
theorem d_T_init_57 : decode b_T_init 57 = .ok (.putfield 31, 3) := by decide +kernel
theorem d_T_init_60 : decode b_T_init 60 = .ok (.aload_n 0, 1) := by decide +kernel
theorem d_T_init_61 : decode b_T_init 61 = .ok (.bipush 60, 2) := by decide +kernel
theorem d_T_init_63 : decode b_T_init 63 = .ok (.newarray .int, 2) := by decide +kernel
theorem d_T_init_65 : decode b_T_init 65 = .ok (.putfield 34, 3) := by decide +kernel
theorem d_T_init_68 : decode b_T_init 68 = .ok (.aload_n 0, 1) := by decide +kernel
theorem d_T_init_69 : decode b_T_init 69 = .ok (.bipush 60, 2) := by decide +kernel
theorem d_T_init_71 : decode b_T_init 71 = .ok (.newarray .int, 2) := by decide +kernel
theorem d_T_init_73 : decode b_T_init 73 = .ok (.putfield 37, 3) := by decide +kernel
theorem d_T_init_76 : decode b_T_init 76 = .ok (.aload_n 0, 1) := by decide +kernel
theorem d_T_init_77 : decode b_T_init 77 = .ok (.bipush 60, 2) := by decide +kernel
theorem d_T_init_79 : decode b_T_init 79 = .ok (.newarray .int, 2) := by decide +kernel
theorem d_T_init_81 : decode b_T_init 81 = .ok (.putfield 40, 3) := by decide +kernel
theorem d_T_init_84 : decode b_T_init 84 = .ok (.return_, 1) := by decide +kernel
theorem d_T_exists_0 : decode b_T_exists 0 = .ok (.iload_n 1, 1) := by decide +kernel
theorem d_T_exists_1 : decode b_T_exists 1 = .ok (.ifCond .lt 15, 3) := by decide +kernel
theorem d_T_exists_4 : decode b_T_exists 4 = .ok (.iload_n 1, 1) := by decide +kernel
theorem d_T_exists_5 : decode b_T_exists 5 = .ok (.aload_n 0, 1) := by decide +kernel
theorem d_T_exists_6 : decode b_T_exists 6 = .ok (.getfield 43, 3) := by decide +kernel
theorem d_T_exists_9 : decode b_T_exists 9 = .ok (.if_icmp .ge 7, 3) := by decide +kernel
theorem d_T_exists_12 : decode b_T_exists 12 = .ok (.iconst 1, 1) := by decide +kernel
theorem d_T_exists_13 : decode b_T_exists 13 = .ok (.goto 4, 3) := by decide +kernel
theorem d_T_exists_16 : decode b_T_exists 16 = .ok (.iconst 0, 1) := by decide +kernel
theorem d_T_exists_17 : decode b_T_exists 17 = .ok (.ireturn, 1) := by decide +kernel
theorem d_T_isActive_0 : decode b_T_isActive 0 = .ok (.aload_n 0, 1) := by decide +kernel
theorem d_T_isActive_1 : decode b_T_isActive 1 = .ok (.iload_n 1, 1) := by decide +kernel
theorem d_T_isActive_2 : decode b_T_isActive 2 = .ok (.invokevirtual 47, 3) := by decide +kernel
theorem d_T_isActive_5 : decode b_T_isActive 5 = .ok (.ifCond .eq 17, 3) := by decide +kernel
theorem d_T_isActive_8 : decode b_T_isActive 8 = .ok (.aload_n 0, 1) := by decide +kernel
theorem d_T_isActive_9 : decode b_T_isActive 9 = .ok (.getfield 21, 3) := by decide +kernel
theorem d_T_isActive_12 : decode b_T_isActive 12 = .ok (.iload_n 1, 1) := by decide +kernel
theorem d_T_isActive_13 : decode b_T_isActive 13 = .ok (.iaload, 1) := by decide +kernel
theorem d_T_isActive_14 : decode b_T_isActive 14 = .ok (.iconst 1, 1) := by decide +kernel
theorem d_T_isActive_15 : decode b_T_isActive 15 = .ok (.if_icmp .ne 7, 3) := by decide +kernel
theorem d_T_isActive_18 : decode b_T_isActive 18 = .ok (.iconst 1, 1) := by decide +kernel
theorem d_T_isActive_19 : decode b_T_isActive 19 = .ok (.goto 4, 3) := by decide +kernel
theorem d_T_isActive_22 : decode b_T_isActive 22 = .ok (.iconst 0, 1) := by decide +kernel
theorem d_T_isActive_23 : decode b_T_isActive 23 = .ok (.ireturn, 1) := by decide +kernel
theorem d_T_isWaiting_0 : decode b_T_isWaiting 0 = .ok (.aload_n 0, 1) := by decide +kernel
theorem d_T_isWaiting_1 : decode b_T_isWaiting 1 = .ok (.iload_n 1, 1) := by decide +kernel
theorem d_T_isWaiting_2 : decode b_T_isWaiting 2 = .ok (.invokevirtual 47, 3) := by decide +kernel
theorem d_T_isWaiting_5 : decode b_T_isWaiting 5 = .ok (.ifCond .eq 17, 3) := by decide +kernel
theorem d_T_isWaiting_8 : decode b_T_isWaiting 8 = .ok (.aload_n 0, 1) := by decide +kernel
theorem d_T_isWaiting_9 : decode b_T_isWaiting 9 = .ok (.getfield 21, 3) := by decide +kernel
theorem d_T_isWaiting_12 : decode b_T_isWaiting 12 = .ok (.iload_n 1, 1) := by decide +kernel
theorem d_T_isWaiting_13 : decode b_T_isWaiting 13 = .ok (.iaload, 1) := by decide +kernel
theorem d_T_isWaiting_14 : decode b_T_isWaiting 14 = .ok (.iconst 2, 1) := by decide +kernel
theorem d_T_isWaiting_15 : decode b_T_isWaiting 15 = .ok (.if_icmp .ne 7, 3) := by decide +kernel
theorem d_T_isWaiting_18 : decode b_T_isWaiting 18 = .ok (.iconst 1, 1) := by decide +kernel
theorem d_T_isWaiting_19 : decode b_T_isWaiting 19 = .ok (.goto 4, 3) := by decide +kernel
theorem d_T_isWaiting_22 : decode b_T_isWaiting 22 = .ok (.iconst 0, 1) := by decide +kernel
theorem d_T_isWaiting_23 : decode b_T_isWaiting 23 = .ok (.ireturn, 1) := by decide +kernel
theorem d_T_isLive_0 : decode b_T_isLive 0 = .ok (.aload_n 0, 1) := by decide +kernel
theorem d_T_isLive_1 : decode b_T_isLive 1 = .ok (.iload_n 1, 1) := by decide +kernel
theorem d_T_isLive_2 : decode b_T_isLive 2 = .ok (.invokevirtual 47, 3) := by decide +kernel
theorem d_T_isLive_5 : decode b_T_isLive 5 = .ok (.ifCond .eq 27, 3) := by decide +kernel
theorem d_T_isLive_8 : decode b_T_isLive 8 = .ok (.aload_n 0, 1) := by decide +kernel
theorem d_T_isLive_9 : decode b_T_isLive 9 = .ok (.getfield 21, 3) := by decide +kernel
theorem d_T_isLive_12 : decode b_T_isLive 12 = .ok (.iload_n 1, 1) := by decide +kernel
theorem d_T_isLive_13 : decode b_T_isLive 13 = .ok (.iaload, 1) := by decide +kernel
theorem d_T_isLive_14 : decode b_T_isLive 14 = .ok (.iconst 1, 1) := by decide +kernel
theorem d_T_isLive_15 : decode b_T_isLive 15 = .ok (.if_icmp .eq 13, 3) := by decide +kernel
theorem d_T_isLive_18 : decode b_T_isLive 18 = .ok (.aload_n 0, 1) := by decide +kernel
theorem d_T_isLive_19 : decode b_T_isLive 19 = .ok (.getfield 21, 3) := by decide +kernel
theorem d_T_isLive_22 : decode b_T_isLive 22 = .ok (.iload_n 1, 1) := by decide +kernel
theorem d_T_isLive_23 : decode b_T_isLive 23 = .ok (.iaload, 1) := by decide +kernel
theorem d_T_isLive_24 : decode b_T_isLive 24 = .ok (.iconst 2, 1) := by decide +kernel
theorem d_T_isLive_25 : decode b_T_isLive 25 = .ok (.if_icmp .ne 7, 3) := by decide +kernel
theorem d_T_isLive_28 : decode b_T_isLive 28 = .ok (.iconst 1, 1) := by decide +kernel
theorem d_T_isLive_29 : decode b_T_isLive 29 = .ok (.goto 4, 3) := by decide +kernel
theorem d_T_isLive_32 : decode b_T_isLive 32 = .ok (.iconst 0, 1) := by decide +kernel
theorem d_T_isLive_33 : decode b_T_isLive 33 = .ok (.ireturn, 1) := by decide +kernel
theorem d_T_isTopLive_0 : decode b_T_isTopLive 0 = .ok (.aload_n 0, 1) := by decide +kernel
theorem d_T_isTopLive_1 : decode b_T_isTopLive 1 = .ok (.getfield 21, 3) := by decide +kernel
theorem d_T_isTopLive_4 : decode b_T_isTopLive 4 = .ok (.aload_n 0, 1) := by decide +kernel
theorem d_T_isTopLive_5 : decode b_T_isTopLive 5 = .ok (.getfield 15, 3) := by decide +kernel
theorem d_T_isTopLive_8 : decode b_T_isTopLive 8 = .ok (.iload_n 1, 1) := by decide +kernel
theorem d_T_isTopLive_9 : decode b_T_isTopLive 9 = .ok (.iaload, 1) := by decide +kernel
theorem d_T_isTopLive_10 : decode b_T_isTopLive 10 = .ok (.iaload, 1) := by decide +kernel
theorem d_T_isTopLive_11 : decode b_T_isTopLive 11 = .ok (.istore_n 2, 1) := by decide +kernel
theorem d_T_isTopLive_12 : decode b_T_isTopLive 12 = .ok (.iload_n 2, 1) := by decide +kernel
theorem d_T_isTopLive_13 : decode b_T_isTopLive 13 = .ok (.iconst 1, 1) := by decide +kernel
theorem d_T_isTopLive_14 : decode b_T_isTopLive 14 = .ok (.if_icmp .eq 8, 3) := by decide +kernel
theorem d_T_isTopLive_17 : decode b_T_isTopLive 17 = .ok (.iload_n 2, 1) := by decide +kernel
theorem d_T_isTopLive_18 : decode b_T_isTopLive 18 = .ok (.iconst 2, 1) := by decide +kernel
theorem d_T_isTopLive_19 : decode b_T_isTopLive 19 = .ok (.if_icmp .ne 7, 3) := by decide +kernel
theorem d_T_isTopLive_22 : decode b_T_isTopLive 22 = .ok (.iconst 1, 1) := by decide +kernel
theorem d_T_isTopLive_23 : decode b_T_isTopLive 23 = .ok (.goto 4, 3) := by decide +kernel
theorem d_T_isTopLive_26 : decode b_T_isTopLive 26 = .ok (.iconst 0, 1) := by decide +kernel
theorem d_T_isTopLive_27 : decode b_T_isTopLive 27 = .ok (.ireturn, 1) := by decide +kernel
theorem d_T_isWithin_0 : decode b_T_isWithin 0 = .ok (.aload_n 0, 1) := by decide +kernel
theorem d_T_isWithin_1 : decode b_T_isWithin 1 = .ok (.getfield 27, 3) := by decide +kernel
theorem d_T_isWithin_4 : decode b_T_isWithin 4 = .ok (.iload_n 1, 1) := by decide +kernel
theorem d_T_isWithin_5 : decode b_T_isWithin 5 = .ok (.laload, 1) := by decide +kernel
theorem d_T_isWithin_6 : decode b_T_isWithin 6 = .ok (.lconst 1, 1) := by decide +kernel
theorem d_T_isWithin_7 : decode b_T_isWithin 7 = .ok (.iload_n 2, 1) := by decide +kernel
theorem d_T_isWithin_8 : decode b_T_isWithin 8 = .ok (.lshl, 1) := by decide +kernel
theorem d_T_isWithin_9 : decode b_T_isWithin 9 = .ok (.land, 1) := by decide +kernel
theorem d_T_isWithin_10 : decode b_T_isWithin 10 = .ok (.lconst 0, 1) := by decide +kernel
theorem d_T_isWithin_11 : decode b_T_isWithin 11 = .ok (.lcmp, 1) := by decide +kernel
theorem d_T_isWithin_12 : decode b_T_isWithin 12 = .ok (.ifCond .eq 7, 3) := by decide +kernel
theorem d_T_isWithin_15 : decode b_T_isWithin 15 = .ok (.iconst 1, 1) := by decide +kernel
theorem d_T_isWithin_16 : decode b_T_isWithin 16 = .ok (.goto 4, 3) := by decide +kernel
theorem d_T_isWithin_19 : decode b_T_isWithin 19 = .ok (.iconst 0, 1) := by decide +kernel
theorem d_T_isWithin_20 : decode b_T_isWithin 20 = .ok (.ireturn, 1) := by decide +kernel
theorem d_T_isBusy_0 : decode b_T_isBusy 0 = .ok (.aload_n 0, 1) := by decide +kernel
theorem d_T_isBusy_1 : decode b_T_isBusy 1 = .ok (.iload_n 1, 1) := by decide +kernel
theorem d_T_isBusy_2 : decode b_T_isBusy 2 = .ok (.invokevirtual 51, 3) := by decide +kernel
theorem d_T_isBusy_5 : decode b_T_isBusy 5 = .ok (.lconst 0, 1) := by decide +kernel
theorem d_T_isBusy_6 : decode b_T_isBusy 6 = .ok (.lcmp, 1) := by decide +kernel
theorem d_T_isBusy_7 : decode b_T_isBusy 7 = .ok (.ifCond .eq 7, 3) := by decide +kernel
theorem d_T_isBusy_10 : decode b_T_isBusy 10 = .ok (.iconst 1, 1) := by decide +kernel
theorem d_T_isBusy_11 : decode b_T_isBusy 11 = .ok (.goto 4, 3) := by decide +kernel
theorem d_T_isBusy_14 : decode b_T_isBusy 14 = .ok (.iconst 0, 1) := by decide +kernel
theorem d_T_isBusy_15 : decode b_T_isBusy 15 = .ok (.ireturn, 1) := by decide +kernel
theorem d_T_liveChildren_0 : decode b_T_liveChildren 0 = .ok (.lconst 0, 1) := by decide +kernel
theorem d_T_liveChildren_1 : decode b_T_liveChildren 1 = .ok (.lstore_n 2, 1) := by decide +kernel
theorem d_T_liveChildren_2 : decode b_T_liveChildren 2 = .ok (.iload_n 1, 1) := by decide +kernel
theorem d_T_liveChildren_3 : decode b_T_liveChildren 3 = .ok (.iconst 1, 1) := by decide +kernel
theorem d_T_liveChildren_4 : decode b_T_liveChildren 4 = .ok (.iadd, 1) := by decide +kernel
theorem d_T_liveChildren_5 : decode b_T_liveChildren 5 = .ok (.istore 4, 2) := by decide +kernel
theorem d_T_liveChildren_7 : decode b_T_liveChildren 7 = .ok (.iload 4, 2) := by decide +kernel
theorem d_T_liveChildren_9 : decode b_T_liveChildren 9 = .ok (.aload_n 0, 1) := by decide +kernel
theorem d_T_liveChildren_10 : decode b_T_liveChildren 10 = .ok (.getfield 43, 3) := by decide +kernel
theorem d_T_liveChildren_13 : decode b_T_liveChildren 13 = .ok (.if_icmp .ge 36, 3) := by decide +kernel
theorem d_T_liveChildren_16 : decode b_T_liveChildren 16 = .ok (.aload_n 0, 1) := by decide +kernel
theorem d_T_liveChildren_17 : decode b_T_liveChildren 17 = .ok (.getfield 9, 3) := by decide +kernel
theorem d_T_liveChildren_20 : decode b_T_liveChildren 20 = .ok (.iload 4, 2) := by decide +kernel
theorem d_T_liveChildren_22 : decode b_T_liveChildren 22 = .ok (.iaload, 1) := by decide +kernel
theorem d_T_liveChildren_23 : decode b_T_liveChildren 23 = .ok (.iload_n 1, 1) := by decide +kernel
theorem d_T_liveChildren_24 : decode b_T_liveChildren 24 = .ok (.if_icmp .ne 19, 3) := by decide +kernel
theorem d_T_liveChildren_27 : decode b_T_liveChildren 27 = .ok (.aload_n 0, 1) := by decide +kernel
theorem d_T_liveChildren_28 : decode b_T_liveChildren 28 = .ok (.iload 4, 2) := by decide +kernel
theorem d_T_liveChildren_30 : decode b_T_liveChildren 30 = .ok (.invokevirtual 55, 3) := by decide +kernel
theorem d_T_liveChildren_33 : decode b_T_liveChildren 33 = .ok (.ifCond .eq 10, 3) := by decide +kernel
theorem d_T_liveChildren_36 : decode b_T_liveChildren 36 = .ok (.lload_n 2, 1) := by decide +kernel
theorem d_T_liveChildren_37 : decode b_T_liveChildren 37 = .ok (.lconst 1, 1) := by decide +kernel
theorem d_T_liveChildren_38 : decode b_T_liveChildren 38 = .ok (.iload 4, 2) := by decide +kernel
theorem d_T_liveChildren_40 : decode b_T_liveChildren 40 = .ok (.lshl, 1) := by decide +kernel
theorem d_T_liveChildren_41 : decode b_T_liveChildren 41 = .ok (.lor, 1) := by decide +kernel
theorem d_T_liveChildren_42 : decode b_T_liveChildren 42 = .ok (.lstore_n 2, 1) := by decide +kernel
theorem d_T_liveChildren_43 : decode b_T_liveChildren 43 = .ok (.iinc 4 1, 3) := by decide +kernel
theorem d_T_liveChildren_46 : decode b_T_liveChildren 46 = .ok (.goto (-39), 3) := by decide +kernel
theorem d_T_liveChildren_49 : decode b_T_liveChildren 49 = .ok (.lload_n 2, 1) := by decide +kernel
theorem d_T_liveChildren_50 : decode b_T_liveChildren 50 = .ok (.lreturn, 1) := by decide +kernel
theorem d_T_liveCount_0 : decode b_T_liveCount 0 = .ok (.iconst 0, 1) := by decide +kernel
theorem d_T_liveCount_1 : decode b_T_liveCount 1 = .ok (.istore_n 1, 1) := by decide +kernel
theorem d_T_liveCount_2 : decode b_T_liveCount 2 = .ok (.iconst 0, 1) := by decide +kernel
theorem d_T_liveCount_3 : decode b_T_liveCount 3 = .ok (.istore_n 2, 1) := by decide +kernel
theorem d_T_liveCount_4 : decode b_T_liveCount 4 = .ok (.iload_n 2, 1) := by decide +kernel
theorem d_T_liveCount_5 : decode b_T_liveCount 5 = .ok (.aload_n 0, 1) := by decide +kernel
theorem d_T_liveCount_6 : decode b_T_liveCount 6 = .ok (.getfield 43, 3) := by decide +kernel
theorem d_T_liveCount_9 : decode b_T_liveCount 9 = .ok (.if_icmp .ge 20, 3) := by decide +kernel
theorem d_T_liveCount_12 : decode b_T_liveCount 12 = .ok (.aload_n 0, 1) := by decide +kernel
theorem d_T_liveCount_13 : decode b_T_liveCount 13 = .ok (.iload_n 2, 1) := by decide +kernel
theorem d_T_liveCount_14 : decode b_T_liveCount 14 = .ok (.invokevirtual 55, 3) := by decide +kernel
theorem d_T_liveCount_17 : decode b_T_liveCount 17 = .ok (.ifCond .eq 6, 3) := by decide +kernel
theorem d_T_liveCount_20 : decode b_T_liveCount 20 = .ok (.iinc 1 1, 3) := by decide +kernel
theorem d_T_liveCount_23 : decode b_T_liveCount 23 = .ok (.iinc 2 1, 3) := by decide +kernel
theorem d_T_liveCount_26 : decode b_T_liveCount 26 = .ok (.goto (-22), 3) := by decide +kernel
theorem d_T_liveCount_29 : decode b_T_liveCount 29 = .ok (.iload_n 1, 1) := by decide +kernel
theorem d_T_liveCount_30 : decode b_T_liveCount 30 = .ok (.ireturn, 1) := by decide +kernel
theorem d_T_add_0 : decode b_T_add 0 = .ok (.aload_n 0, 1) := by decide +kernel
theorem d_T_add_1 : decode b_T_add 1 = .ok (.getfield 43, 3) := by decide +kernel
theorem d_T_add_4 : decode b_T_add 4 = .ok (.istore_n 3, 1) := by decide +kernel
theorem d_T_add_5 : decode b_T_add 5 = .ok (.aload_n 0, 1) := by decide +kernel
theorem d_T_add_6 : decode b_T_add 6 = .ok (.iload_n 1, 1) := by decide +kernel
theorem d_T_add_7 : decode b_T_add 7 = .ok (.invokevirtual 47, 3) := by decide +kernel
theorem d_T_add_10 : decode b_T_add 10 = .ok (.ifCond .ne 7, 3) := by decide +kernel
theorem d_T_add_13 : decode b_T_add 13 = .ok (.iconst 1, 1) := by decide +kernel
theorem d_T_add_14 : decode b_T_add 14 = .ok (.goto 4, 3) := by decide +kernel
theorem d_T_add_17 : decode b_T_add 17 = .ok (.iconst 0, 1) := by decide +kernel
theorem d_T_add_18 : decode b_T_add 18 = .ok (.istore 4, 2) := by decide +kernel
theorem d_T_add_20 : decode b_T_add 20 = .ok (.aload_n 0, 1) := by decide +kernel
theorem d_T_add_21 : decode b_T_add 21 = .ok (.getfield 9, 3) := by decide +kernel
theorem d_T_add_24 : decode b_T_add 24 = .ok (.iload_n 3, 1) := by decide +kernel
theorem d_T_add_25 : decode b_T_add 25 = .ok (.iload_n 1, 1) := by decide +kernel
theorem d_T_add_26 : decode b_T_add 26 = .ok (.iastore, 1) := by decide +kernel
theorem d_T_add_27 : decode b_T_add 27 = .ok (.aload_n 0, 1) := by decide +kernel
theorem d_T_add_28 : decode b_T_add 28 = .ok (.getfield 15, 3) := by decide +kernel
theorem d_T_add_31 : decode b_T_add 31 = .ok (.iload_n 3, 1) := by decide +kernel
theorem d_T_add_32 : decode b_T_add 32 = .ok (.iload 4, 2) := by decide +kernel
theorem d_T_add_34 : decode b_T_add 34 = .ok (.ifCond .eq 7, 3) := by decide +kernel
theorem d_T_add_37 : decode b_T_add 37 = .ok (.iload_n 3, 1) := by decide +kernel
theorem d_T_add_38 : decode b_T_add 38 = .ok (.goto 9, 3) := by decide +kernel
theorem d_T_add_41 : decode b_T_add 41 = .ok (.aload_n 0, 1) := by decide +kernel
theorem d_T_add_42 : decode b_T_add 42 = .ok (.getfield 15, 3) := by decide +kernel
theorem d_T_add_45 : decode b_T_add 45 = .ok (.iload_n 1, 1) := by decide +kernel
theorem d_T_add_46 : decode b_T_add 46 = .ok (.iaload, 1) := by decide +kernel
theorem d_T_add_47 : decode b_T_add 47 = .ok (.iastore, 1) := by decide +kernel
theorem d_T_add_48 : decode b_T_add 48 = .ok (.aload_n 0, 1) := by decide +kernel
theorem d_T_add_49 : decode b_T_add 49 = .ok (.getfield 18, 3) := by decide +kernel
theorem d_T_add_52 : decode b_T_add 52 = .ok (.iload_n 3, 1) := by decide +kernel
theorem d_T_add_53 : decode b_T_add 53 = .ok (.iload 4, 2) := by decide +kernel
theorem d_T_add_55 : decode b_T_add 55 = .ok (.ifCond .eq 7, 3) := by decide +kernel
theorem d_T_add_58 : decode b_T_add 58 = .ok (.iconst 1, 1) := by decide +kernel
theorem d_T_add_59 : decode b_T_add 59 = .ok (.goto 11, 3) := by decide +kernel
theorem d_T_add_62 : decode b_T_add 62 = .ok (.aload_n 0, 1) := by decide +kernel
theorem d_T_add_63 : decode b_T_add 63 = .ok (.getfield 18, 3) := by decide +kernel
theorem d_T_add_66 : decode b_T_add 66 = .ok (.iload_n 1, 1) := by decide +kernel
theorem d_T_add_67 : decode b_T_add 67 = .ok (.iaload, 1) := by decide +kernel
theorem d_T_add_68 : decode b_T_add 68 = .ok (.iconst 1, 1) := by decide +kernel
theorem d_T_add_69 : decode b_T_add 69 = .ok (.iadd, 1) := by decide +kernel
theorem d_T_add_70 : decode b_T_add 70 = .ok (.iastore, 1) := by decide +kernel
theorem d_T_add_71 : decode b_T_add 71 = .ok (.aload_n 0, 1) := by decide +kernel
theorem d_T_add_72 : decode b_T_add 72 = .ok (.getfield 27, 3) := by decide +kernel
theorem d_T_add_75 : decode b_T_add 75 = .ok (.iload_n 3, 1) := by decide +kernel
theorem d_T_add_76 : decode b_T_add 76 = .ok (.iload 4, 2) := by decide +kernel
theorem d_T_add_78 : decode b_T_add 78 = .ok (.ifCond .eq 9, 3) := by decide +kernel
theorem d_T_add_81 : decode b_T_add 81 = .ok (.lconst 1, 1) := by decide +kernel
theorem d_T_add_82 : decode b_T_add 82 = .ok (.iload_n 3, 1) := by decide +kernel
theorem d_T_add_83 : decode b_T_add 83 = .ok (.lshl, 1) := by decide +kernel
theorem d_T_add_84 : decode b_T_add 84 = .ok (.goto 13, 3) := by decide +kernel
theorem d_T_add_87 : decode b_T_add 87 = .ok (.aload_n 0, 1) := by decide +kernel
theorem d_T_add_88 : decode b_T_add 88 = .ok (.getfield 27, 3) := by decide +kernel
theorem d_T_add_91 : decode b_T_add 91 = .ok (.iload_n 1, 1) := by decide +kernel
theorem d_T_add_92 : decode b_T_add 92 = .ok (.laload, 1) := by decide +kernel
theorem d_T_add_93 : decode b_T_add 93 = .ok (.lconst 1, 1) := by decide +kernel
theorem d_T_add_94 : decode b_T_add 94 = .ok (.iload_n 3, 1) := by decide +kernel
theorem d_T_add_95 : decode b_T_add 95 = .ok (.lshl, 1) := by decide +kernel
theorem d_T_add_96 : decode b_T_add 96 = .ok (.lor, 1) := by decide +kernel
theorem d_T_add_97 : decode b_T_add 97 = .ok (.lastore, 1) := by decide +kernel
theorem d_T_add_98 : decode b_T_add 98 = .ok (.aload_n 0, 1) := by decide +kernel
theorem d_T_add_99 : decode b_T_add 99 = .ok (.getfield 21, 3) := by decide +kernel
theorem d_T_add_102 : decode b_T_add 102 = .ok (.iload_n 3, 1) := by decide +kernel
theorem d_T_add_103 : decode b_T_add 103 = .ok (.iconst 1, 1) := by decide +kernel
theorem d_T_add_104 : decode b_T_add 104 = .ok (.iastore, 1) := by decide +kernel
theorem d_T_add_105 : decode b_T_add 105 = .ok (.aload_n 0, 1) := by decide +kernel
theorem d_T_add_106 : decode b_T_add 106 = .ok (.getfield 24, 3) := by decide +kernel
theorem d_T_add_109 : decode b_T_add 109 = .ok (.iload_n 3, 1) := by decide +kernel
theorem d_T_add_110 : decode b_T_add 110 = .ok (.iload_n 2, 1) := by decide +kernel
theorem d_T_add_111 : decode b_T_add 111 = .ok (.iastore, 1) := by decide +kernel
theorem d_T_add_112 : decode b_T_add 112 = .ok (.aload_n 0, 1) := by decide +kernel
theorem d_T_add_113 : decode b_T_add 113 = .ok (.dup, 1) := by decide +kernel
theorem d_T_add_114 : decode b_T_add 114 = .ok (.getfield 43, 3) := by decide +kernel
theorem d_T_add_117 : decode b_T_add 117 = .ok (.iconst 1, 1) := by decide +kernel
theorem d_T_add_118 : decode b_T_add 118 = .ok (.iadd, 1) := by decide +kernel
theorem d_T_add_119 : decode b_T_add 119 = .ok (.putfield 43, 3) := by decide +kernel
theorem d_T_add_122 : decode b_T_add 122 = .ok (.iload_n 3, 1) := by decide +kernel
theorem d_T_add_123 : decode b_T_add 123 = .ok (.ireturn, 1) := by decide +kernel
theorem d_T_setRequest_0 : decode b_T_setRequest 0 = .ok (.aload_n 0, 1) := by decide +kernel
theorem d_T_setRequest_1 : decode b_T_setRequest 1 = .ok (.getfield 31, 3) := by decide +kernel
theorem d_T_setRequest_4 : decode b_T_setRequest 4 = .ok (.iload_n 1, 1) := by decide +kernel
theorem d_T_setRequest_5 : decode b_T_setRequest 5 = .ok (.iload_n 2, 1) := by decide +kernel
theorem d_T_setRequest_6 : decode b_T_setRequest 6 = .ok (.iastore, 1) := by decide +kernel
theorem d_T_setRequest_7 : decode b_T_setRequest 7 = .ok (.aload_n 0, 1) := by decide +kernel
theorem d_T_setRequest_8 : decode b_T_setRequest 8 = .ok (.getfield 34, 3) := by decide +kernel
theorem d_T_setRequest_11 : decode b_T_setRequest 11 = .ok (.iload_n 1, 1) := by decide +kernel
theorem d_T_setRequest_12 : decode b_T_setRequest 12 = .ok (.iload_n 3, 1) := by decide +kernel
theorem d_T_setRequest_13 : decode b_T_setRequest 13 = .ok (.iastore, 1) := by decide +kernel
theorem d_T_setRequest_14 : decode b_T_setRequest 14 = .ok (.aload_n 0, 1) := by decide +kernel
theorem d_T_setRequest_15 : decode b_T_setRequest 15 = .ok (.getfield 37, 3) := by decide +kernel
theorem d_T_setRequest_18 : decode b_T_setRequest 18 = .ok (.iload_n 1, 1) := by decide +kernel
theorem d_T_setRequest_19 : decode b_T_setRequest 19 = .ok (.iload 4, 2) := by decide +kernel
theorem d_T_setRequest_21 : decode b_T_setRequest 21 = .ok (.iastore, 1) := by decide +kernel
theorem d_T_setRequest_22 : decode b_T_setRequest 22 = .ok (.aload_n 0, 1) := by decide +kernel
theorem d_T_setRequest_23 : decode b_T_setRequest 23 = .ok (.getfield 40, 3) := by decide +kernel
theorem d_T_setRequest_26 : decode b_T_setRequest 26 = .ok (.iload_n 1, 1) := by decide +kernel
theorem d_T_setRequest_27 : decode b_T_setRequest 27 = .ok (.iload 5, 2) := by decide +kernel
theorem d_T_setRequest_29 : decode b_T_setRequest 29 = .ok (.iastore, 1) := by decide +kernel
theorem d_T_setRequest_30 : decode b_T_setRequest 30 = .ok (.return_, 1) := by decide +kernel
theorem d_T_abortUncommitted_0 : decode b_T_abortUncommitted 0 = .ok (.iconst 0, 1) := by decide +kernel
theorem d_T_abortUncommitted_1 : decode b_T_abortUncommitted 1 = .ok (.istore_n 1, 1) := by decide +kernel
theorem d_T_abortUncommitted_2 : decode b_T_abortUncommitted 2 = .ok (.iload_n 1, 1) := by decide +kernel
theorem d_T_abortUncommitted_3 : decode b_T_abortUncommitted 3 = .ok (.aload_n 0, 1) := by decide +kernel
theorem d_T_abortUncommitted_4 : decode b_T_abortUncommitted 4 = .ok (.getfield 43, 3) := by decide +kernel
theorem d_T_abortUncommitted_7 : decode b_T_abortUncommitted 7 = .ok (.if_icmp .ge 31, 3) := by decide +kernel
theorem d_T_abortUncommitted_10 : decode b_T_abortUncommitted 10 = .ok (.aload_n 0, 1) := by decide +kernel
theorem d_T_abortUncommitted_11 : decode b_T_abortUncommitted 11 = .ok (.getfield 21, 3) := by decide +kernel
theorem d_T_abortUncommitted_14 : decode b_T_abortUncommitted 14 = .ok (.aload_n 0, 1) := by decide +kernel
theorem d_T_abortUncommitted_15 : decode b_T_abortUncommitted 15 = .ok (.getfield 15, 3) := by decide +kernel
theorem d_T_abortUncommitted_18 : decode b_T_abortUncommitted 18 = .ok (.iload_n 1, 1) := by decide +kernel
theorem d_T_abortUncommitted_19 : decode b_T_abortUncommitted 19 = .ok (.iaload, 1) := by decide +kernel
theorem d_T_abortUncommitted_20 : decode b_T_abortUncommitted 20 = .ok (.iaload, 1) := by decide +kernel
theorem d_T_abortUncommitted_21 : decode b_T_abortUncommitted 21 = .ok (.iconst 3, 1) := by decide +kernel
theorem d_T_abortUncommitted_22 : decode b_T_abortUncommitted 22 = .ok (.if_icmp .eq 10, 3) := by decide +kernel
theorem d_T_abortUncommitted_25 : decode b_T_abortUncommitted 25 = .ok (.aload_n 0, 1) := by decide +kernel
theorem d_T_abortUncommitted_26 : decode b_T_abortUncommitted 26 = .ok (.getfield 21, 3) := by decide +kernel
theorem d_T_abortUncommitted_29 : decode b_T_abortUncommitted 29 = .ok (.iload_n 1, 1) := by decide +kernel
theorem d_T_abortUncommitted_30 : decode b_T_abortUncommitted 30 = .ok (.iconst 4, 1) := by decide +kernel
theorem d_T_abortUncommitted_31 : decode b_T_abortUncommitted 31 = .ok (.iastore, 1) := by decide +kernel
theorem d_T_abortUncommitted_32 : decode b_T_abortUncommitted 32 = .ok (.iinc 1 1, 3) := by decide +kernel
theorem d_T_abortUncommitted_35 : decode b_T_abortUncommitted 35 = .ok (.goto (-33), 3) := by decide +kernel
theorem d_T_abortUncommitted_38 : decode b_T_abortUncommitted 38 = .ok (.return_, 1) := by decide +kernel
end
section
set_option maxHeartbeats 4000000 in
set_option maxRecDepth 100000 in
theorem c_T_exists {l : Launch} {dC : Nat → ClassId} {dI : Nat → Nat → Nat} {cI cL cZ : ClassId} {q : Nat → Nat} (hq : iN q) (A : S_A) (D : S_D) (G : S_G) (K : S_K) (N : S_N) (P : S_P) (T : S_T) (a1 : Int32) (post : Int32 → Prop) (hwp : wp_T_exists T a1 post) : Met l y_T_exists ws_T_exists rm_T_exists (va_Pc [.ref (q 1), .int a1] (bN dC dI cI cL cZ q A D G K N P T)) (va_Qi (fun (r : Int32) (u : Unit) => post r) (fun u t => va_P (dC, dI) clZ (wN cI cL cZ q A D G K N P T) t.heap) (aN q)) 0 0 (aN q) := by
  refine Met.ofW (cc := b_T_exists) (maxL := 2) (ret := (some .boolean)) (by decide) rfl ?_
  intro p e s m args below meth c s₁ B hml hv
  obtain ⟨rfl, hP, hK⟩ := hv
  have hx := B.exec
  have hb := B.bytes
  have hr := B.returns
  have hts := atoms_spec (ws := ws_T_exists) B.pre
  have hown : s.vm.findClass R_T = some m.cls := findClass_of_methodNamed B.named
  have hlocks := B.notSynchronized
  have hiT : ∀ w ∈ u_ws R_T F_T 11, w ∈ ws_T_exists := fun w h => List.mem_cons_of_mem _ (in_T w h)
  have lk43 := hts _ (List.mem_cons_of_mem _ k_T_43)
  have hS : va_S (aN q) s.heap s.heap [] := va_S.rf
  have hl := lv_entry ([.ref (q 1), .int a1]) (n := 2) (Nat.le_of_ble_eq_true rfl)
  rw [lg_entry_eq]
  generalize (lg_sl ([.ref (q 1), .int a1]) ++ List.replicate (2 - (lg_sl ([.ref (q 1), .int a1])).length) Slot.unset).toArray = ls at hl ⊢
  have hl : lv_has ls 2 [(0, .ref (q 1)), (1, .int a1)] := hl
  obtain ⟨Q, hQ⟩ : ∃ Q, Q = MQ below (va_Qi (fun (r : Int32) (u : Unit) => post r) (fun u t => va_P (dC, dI) clZ (wN cI cL cZ q A D G K N P T) t.heap) (aN q)) ([.ref (q 1), .int a1]).toArray s 0 0 (aN q) := ⟨_, rfl⟩
  rw [← hQ]
  rw [wp_T_exists] at hwp
  refine lv_iload_n hx hb d_T_exists_0 rfl (lv_at hl 1 rfl) ?_
  refine lv_if_lt (tgt := 16) hx hb d_T_exists_1 (by decide) (fun hc => ?_) (fun hc => ?_)
  · rw [if_pos hc] at hwp
    refine lv_iconst (v := 0) hx hb d_T_exists_16 (by decide) ?_
    rw [hQ]
    exact W.zret (v := 0) hx hb hr rfl (fun t ht hW => ⟨⟨0, (), rfl, hwp, hp_of ht hP⟩, hS.F ht⟩) hS.2.2 d_T_exists_17
  · rw [if_neg hc] at hwp
    refine lv_iload_n hx hb d_T_exists_4 rfl (lv_at hl 1 rfl) ?_
    refine lv_aload_n hx hb d_T_exists_5 rfl (lv_at hl 0 rfl) ?_
    refine va_get (D := (dC, dI)) (ci := 1) (v := .int (T_count T)) (C := R_T) (T := F_T) (N := 11) hx hb hts hiT hown hK hP 1 rfl rfl 0 (by decide) lk43 (fun _ h9 => h9) rfl d_T_exists_6 ?_
    refine lv_icmp_ge (tgt := 16) hx hb d_T_exists_9 (by decide) (fun hc => ?_) (fun hc => ?_)
    · rw [if_pos hc] at hwp
      refine lv_iconst (v := 0) hx hb d_T_exists_16 (by decide) ?_
      rw [hQ]
      exact W.zret (v := 0) hx hb hr rfl (fun t ht hW => ⟨⟨0, (), rfl, hwp, hp_of ht hP⟩, hS.F ht⟩) hS.2.2 d_T_exists_17
    · rw [if_neg hc] at hwp
      refine lv_iconst (v := 1) hx hb d_T_exists_12 (by decide) ?_
      refine lv_goto hx hb d_T_exists_13 (tgt := 17) (by decide) ?_
      rw [hQ]
      exact W.zret (v := 1) hx hb hr rfl (fun t ht hW => ⟨⟨1, (), rfl, hwp, hp_of ht hP⟩, hS.F ht⟩) hS.2.2 d_T_exists_17

set_option maxHeartbeats 4000000 in
set_option maxRecDepth 100000 in
theorem c_T_isActive {l : Launch} {dC : Nat → ClassId} {dI : Nat → Nat → Nat} {cI cL cZ : ClassId} {q : Nat → Nat} (hq : iN q) (A : S_A) (D : S_D) (G : S_G) (K : S_K) (N : S_N) (P : S_P) (T : S_T) (a1 : Int32) (post : Int32 → Prop) (hwp : wp_T_isActive T a1 post) : Met l y_T_isActive ws_T_isActive rm_T_isActive (va_Pc [.ref (q 1), .int a1] (bN dC dI cI cL cZ q A D G K N P T)) (va_Qi (fun (r : Int32) (u : Unit) => post r) (fun u t => va_P (dC, dI) clZ (wN cI cL cZ q A D G K N P T) t.heap) (aN q)) 0 0 (aN q) := by
  refine Met.ofW (cc := b_T_isActive) (maxL := 2) (ret := (some .boolean)) (by decide) rfl ?_
  intro p e s m args below meth c s₁ B hml hv
  obtain ⟨rfl, hP, hK⟩ := hv
  have hx := B.exec
  have hb := B.bytes
  have hr := B.returns
  have hts := atoms_spec (ws := ws_T_isActive) B.pre
  have hown : s.vm.findClass R_T = some m.cls := findClass_of_methodNamed B.named
  have hlocks := B.notSynchronized
  have hiT : ∀ w ∈ u_ws R_T F_T 11, w ∈ ws_T_isActive := fun w h => List.mem_cons_of_mem _ (in_T w h)
  have lk21 := hts _ (List.mem_cons_of_mem _ k_T_21)
  have hS : va_S (aN q) s.heap s.heap [] := va_S.rf
  have hl := lv_entry ([.ref (q 1), .int a1]) (n := 2) (Nat.le_of_ble_eq_true rfl)
  rw [lg_entry_eq]
  generalize (lg_sl ([.ref (q 1), .int a1]) ++ List.replicate (2 - (lg_sl ([.ref (q 1), .int a1])).length) Slot.unset).toArray = ls at hl ⊢
  have hl : lv_has ls 2 [(0, .ref (q 1)), (1, .int a1)] := hl
  obtain ⟨Q, hQ⟩ : ∃ Q, Q = MQ below (va_Qi (fun (r : Int32) (u : Unit) => post r) (fun u t => va_P (dC, dI) clZ (wN cI cL cZ q A D G K N P T) t.heap) (aN q)) ([.ref (q 1), .int a1]).toArray s 0 0 (aN q) := ⟨_, rfl⟩
  rw [← hQ]
  rw [wp_T_isActive] at hwp
  refine lv_aload_n hx hb d_T_isActive_0 rfl (lv_at hl 0 rfl) ?_
  refine lv_iload_n hx hb d_T_isActive_1 rfl (lv_at hl 1 rfl) ?_
  refine ncn_i (As := [.int a1]) (c_T_exists hq (A) (D) (G) (K) (N) (P) (T) (a1) _ hwp) (cwV 1 hts g_T_47 rfl rfl rfl hd_T_exists ⟨Nat.le_of_ble_eq_true rfl, Nat.le_of_ble_eq_true rfl⟩) hx hb hml hown hts hK hP hS hl.1 d_T_isActive_2 (va_recv (q := (R_T, F_T, 11)) hK hP (ci := 1) (q0 := 1) rfl rfl) rfl (lv_room (Nat.le_of_ble_eq_true rfl)) (Nat.zero_le _) (Nat.zero_le _) rfl (fun r1 u H locs hwp hP hS => ?_)
  have hP : va_P (dC, dI) clZ (wN cI cL cZ q A D G K N P T) H := hP
  refine lv_if_eq (tgt := 22) hx hb d_T_isActive_5 (by decide) (fun hc => ?_) (fun hc => ?_)
  · rw [if_pos hc] at hwp
    refine lv_iconst (v := 0) hx hb d_T_isActive_22 (by decide) ?_
    rw [hQ]
    exact W.zret (v := 0) hx hb hr rfl (fun t ht hW => ⟨⟨0, (), rfl, hwp, hp_of ht hP⟩, hS.F ht⟩) hS.2.2 d_T_isActive_23
  · rw [if_neg hc] at hwp
    refine lv_aload_n hx hb d_T_isActive_8 rfl (lv_at hl 0 rfl) ?_
    refine va_get (D := (dC, dI)) (ci := 1) (v := .ref (q 10)) (C := R_T) (T := F_T) (N := 11) hx hb hts hiT hown hK hP 1 rfl rfl 4 (by decide) lk21 (fun _ h9 => h9) rfl d_T_isActive_9 ?_
    refine lv_iload_n hx hb d_T_isActive_12 rfl (lv_at hl 1 rfl) ?_
    refine va_iald hx hb hK hP 10 0 rfl rfl hwp.1 d_T_isActive_13 ?_
    have hwp := hwp.2
    refine lv_iconst (v := 1) hx hb d_T_isActive_14 (by decide) ?_
    refine lv_icmp_ne (tgt := 22) hx hb d_T_isActive_15 (by decide) (fun hc => ?_) (fun hc => ?_)
    · rw [if_neg hc] at hwp
      refine lv_iconst (v := 0) hx hb d_T_isActive_22 (by decide) ?_
      rw [hQ]
      exact W.zret (v := 0) hx hb hr rfl (fun t ht hW => ⟨⟨0, (), rfl, hwp, hp_of ht hP⟩, hS.F ht⟩) hS.2.2 d_T_isActive_23
    · rw [if_pos hc] at hwp
      refine lv_iconst (v := 1) hx hb d_T_isActive_18 (by decide) ?_
      refine lv_goto hx hb d_T_isActive_19 (tgt := 23) (by decide) ?_
      rw [hQ]
      exact W.zret (v := 1) hx hb hr rfl (fun t ht hW => ⟨⟨1, (), rfl, hwp, hp_of ht hP⟩, hS.F ht⟩) hS.2.2 d_T_isActive_23

set_option maxHeartbeats 4000000 in
set_option maxRecDepth 100000 in
theorem c_T_isTopLive {l : Launch} {dC : Nat → ClassId} {dI : Nat → Nat → Nat} {cI cL cZ : ClassId} {q : Nat → Nat} (hq : iN q) (A : S_A) (D : S_D) (G : S_G) (K : S_K) (N : S_N) (P : S_P) (T : S_T) (a1 : Int32) (post : Int32 → Prop) (hwp : wp_T_isTopLive T a1 post) : Met l y_T_isTopLive ws_T_isTopLive rm_T_isTopLive (va_Pc [.ref (q 1), .int a1] (bN dC dI cI cL cZ q A D G K N P T)) (va_Qi (fun (r : Int32) (u : Unit) => post r) (fun u t => va_P (dC, dI) clZ (wN cI cL cZ q A D G K N P T) t.heap) (aN q)) 0 0 (aN q) := by
  refine Met.ofW (cc := b_T_isTopLive) (maxL := 3) (ret := (some .boolean)) (by decide) rfl ?_
  intro p e s m args below meth c s₁ B hml hv
  obtain ⟨rfl, hP, hK⟩ := hv
  have hx := B.exec
  have hb := B.bytes
  have hr := B.returns
  have hts := atoms_spec (ws := ws_T_isTopLive) B.pre
  have hown : s.vm.findClass R_T = some m.cls := findClass_of_methodNamed B.named
  have hlocks := B.notSynchronized
  have hiT : ∀ w ∈ u_ws R_T F_T 11, w ∈ ws_T_isTopLive := fun w h => List.mem_cons_of_mem _ (in_T w h)
  have lk15 := hts _ (List.mem_cons_of_mem _ k_T_15)
  have lk21 := hts _ (List.mem_cons_of_mem _ k_T_21)
  have hS : va_S (aN q) s.heap s.heap [] := va_S.rf
  have hl := lv_entry ([.ref (q 1), .int a1]) (n := 3) (Nat.le_of_ble_eq_true rfl)
  rw [lg_entry_eq]
  generalize (lg_sl ([.ref (q 1), .int a1]) ++ List.replicate (3 - (lg_sl ([.ref (q 1), .int a1])).length) Slot.unset).toArray = ls at hl ⊢
  have hl : lv_has ls 3 [(0, .ref (q 1)), (1, .int a1)] := hl
  obtain ⟨Q, hQ⟩ : ∃ Q, Q = MQ below (va_Qi (fun (r : Int32) (u : Unit) => post r) (fun u t => va_P (dC, dI) clZ (wN cI cL cZ q A D G K N P T) t.heap) (aN q)) ([.ref (q 1), .int a1]).toArray s 0 0 (aN q) := ⟨_, rfl⟩
  rw [← hQ]
  rw [wp_T_isTopLive] at hwp
  refine lv_aload_n hx hb d_T_isTopLive_0 rfl (lv_at hl 0 rfl) ?_
  refine va_get (D := (dC, dI)) (ci := 1) (v := .ref (q 10)) (C := R_T) (T := F_T) (N := 11) hx hb hts hiT hown hK hP 1 rfl rfl 4 (by decide) lk21 (fun _ h9 => h9) rfl d_T_isTopLive_1 ?_
  refine lv_aload_n hx hb d_T_isTopLive_4 rfl (lv_at hl 0 rfl) ?_
  refine va_get (D := (dC, dI)) (ci := 1) (v := .ref (q 8)) (C := R_T) (T := F_T) (N := 11) hx hb hts hiT hown hK hP 1 rfl rfl 2 (by decide) lk15 (fun _ h9 => h9) rfl d_T_isTopLive_5 ?_
  refine lv_iload_n hx hb d_T_isTopLive_8 rfl (lv_at hl 1 rfl) ?_
  refine va_iald hx hb hK hP 8 0 rfl rfl hwp.1 d_T_isTopLive_9 ?_
  have hwp := hwp.2
  refine va_iald hx hb hK hP 10 0 rfl rfl hwp.1 d_T_isTopLive_10 ?_
  have hwp := hwp.2
  refine lv_istore_n (lv' := [(2, .int ((T_state T) (Int32.toNatClampNeg ((T_top T) (Int32.toNatClampNeg a1))))), (0, .ref (q 1)), (1, .int a1)]) hx hb d_T_isTopLive_11 rfl hl (by decide) rfl (fun ls hl => ?_)
  refine lv_iload_n hx hb d_T_isTopLive_12 rfl (lv_at hl 0 rfl) ?_
  refine lv_iconst (v := 1) hx hb d_T_isTopLive_13 (by decide) ?_
  refine lv_icmp_eq (tgt := 22) hx hb d_T_isTopLive_14 (by decide) (fun hc => ?_) (fun hc => ?_)
  · rw [if_pos hc] at hwp
    refine lv_iconst (v := 1) hx hb d_T_isTopLive_22 (by decide) ?_
    refine lv_goto hx hb d_T_isTopLive_23 (tgt := 27) (by decide) ?_
    rw [hQ]
    exact W.zret (v := 1) hx hb hr rfl (fun t ht hW => ⟨⟨1, (), rfl, hwp, hp_of ht hP⟩, hS.F ht⟩) hS.2.2 d_T_isTopLive_27
  · rw [if_neg hc] at hwp
    refine lv_iload_n hx hb d_T_isTopLive_17 rfl (lv_at hl 0 rfl) ?_
    refine lv_iconst (v := 2) hx hb d_T_isTopLive_18 (by decide) ?_
    refine lv_icmp_ne (tgt := 26) hx hb d_T_isTopLive_19 (by decide) (fun hc => ?_) (fun hc => ?_)
    · rw [if_neg hc] at hwp
      refine lv_iconst (v := 0) hx hb d_T_isTopLive_26 (by decide) ?_
      rw [hQ]
      exact W.zret (v := 0) hx hb hr rfl (fun t ht hW => ⟨⟨0, (), rfl, hwp, hp_of ht hP⟩, hS.F ht⟩) hS.2.2 d_T_isTopLive_27
    · rw [if_pos hc] at hwp
      refine lv_iconst (v := 1) hx hb d_T_isTopLive_22 (by decide) ?_
      refine lv_goto hx hb d_T_isTopLive_23 (tgt := 27) (by decide) ?_
      rw [hQ]
      exact W.zret (v := 1) hx hb hr rfl (fun t ht hW => ⟨⟨1, (), rfl, hwp, hp_of ht hP⟩, hS.F ht⟩) hS.2.2 d_T_isTopLive_27

set_option maxHeartbeats 4000000 in
set_option maxRecDepth 100000 in
theorem c_T_isLive {l : Launch} {dC : Nat → ClassId} {dI : Nat → Nat → Nat} {cI cL cZ : ClassId} {q : Nat → Nat} (hq : iN q) (A : S_A) (D : S_D) (G : S_G) (K : S_K) (N : S_N) (P : S_P) (T : S_T) (a1 : Int32) (post : Int32 → Prop) (hwp : wp_T_isLive T a1 post) : Met l y_T_isLive ws_T_isLive rm_T_isLive (va_Pc [.ref (q 1), .int a1] (bN dC dI cI cL cZ q A D G K N P T)) (va_Qi (fun (r : Int32) (u : Unit) => post r) (fun u t => va_P (dC, dI) clZ (wN cI cL cZ q A D G K N P T) t.heap) (aN q)) 0 0 (aN q) := by
  refine Met.ofW (cc := b_T_isLive) (maxL := 2) (ret := (some .boolean)) (by decide) rfl ?_
  intro p e s m args below meth c s₁ B hml hv
  obtain ⟨rfl, hP, hK⟩ := hv
  have hx := B.exec
  have hb := B.bytes
  have hr := B.returns
  have hts := atoms_spec (ws := ws_T_isLive) B.pre
  have hown : s.vm.findClass R_T = some m.cls := findClass_of_methodNamed B.named
  have hlocks := B.notSynchronized
  have hiT : ∀ w ∈ u_ws R_T F_T 11, w ∈ ws_T_isLive := fun w h => List.mem_cons_of_mem _ (in_T w h)
  have lk21 := hts _ (List.mem_cons_of_mem _ k_T_21)
  have hS : va_S (aN q) s.heap s.heap [] := va_S.rf
  have hl := lv_entry ([.ref (q 1), .int a1]) (n := 2) (Nat.le_of_ble_eq_true rfl)
  rw [lg_entry_eq]
  generalize (lg_sl ([.ref (q 1), .int a1]) ++ List.replicate (2 - (lg_sl ([.ref (q 1), .int a1])).length) Slot.unset).toArray = ls at hl ⊢
  have hl : lv_has ls 2 [(0, .ref (q 1)), (1, .int a1)] := hl
  obtain ⟨Q, hQ⟩ : ∃ Q, Q = MQ below (va_Qi (fun (r : Int32) (u : Unit) => post r) (fun u t => va_P (dC, dI) clZ (wN cI cL cZ q A D G K N P T) t.heap) (aN q)) ([.ref (q 1), .int a1]).toArray s 0 0 (aN q) := ⟨_, rfl⟩
  rw [← hQ]
  rw [wp_T_isLive] at hwp
  refine lv_aload_n hx hb d_T_isLive_0 rfl (lv_at hl 0 rfl) ?_
  refine lv_iload_n hx hb d_T_isLive_1 rfl (lv_at hl 1 rfl) ?_
  refine ncn_i (As := [.int a1]) (c_T_exists hq (A) (D) (G) (K) (N) (P) (T) (a1) _ hwp) (cwV 1 hts g_T_47 rfl rfl rfl hd_T_exists ⟨Nat.le_of_ble_eq_true rfl, Nat.le_of_ble_eq_true rfl⟩) hx hb hml hown hts hK hP hS hl.1 d_T_isLive_2 (va_recv (q := (R_T, F_T, 11)) hK hP (ci := 1) (q0 := 1) rfl rfl) rfl (lv_room (Nat.le_of_ble_eq_true rfl)) (Nat.zero_le _) (Nat.zero_le _) rfl (fun r1 u H locs hwp hP hS => ?_)
  have hP : va_P (dC, dI) clZ (wN cI cL cZ q A D G K N P T) H := hP
  refine lv_if_eq (tgt := 32) hx hb d_T_isLive_5 (by decide) (fun hc => ?_) (fun hc => ?_)
  · rw [if_pos hc] at hwp
    refine lv_iconst (v := 0) hx hb d_T_isLive_32 (by decide) ?_
    rw [hQ]
    exact W.zret (v := 0) hx hb hr rfl (fun t ht hW => ⟨⟨0, (), rfl, hwp, hp_of ht hP⟩, hS.F ht⟩) hS.2.2 d_T_isLive_33
  · rw [if_neg hc] at hwp
    refine lv_aload_n hx hb d_T_isLive_8 rfl (lv_at hl 0 rfl) ?_
    refine va_get (D := (dC, dI)) (ci := 1) (v := .ref (q 10)) (C := R_T) (T := F_T) (N := 11) hx hb hts hiT hown hK hP 1 rfl rfl 4 (by decide) lk21 (fun _ h9 => h9) rfl d_T_isLive_9 ?_
    refine lv_iload_n hx hb d_T_isLive_12 rfl (lv_at hl 1 rfl) ?_
    refine va_iald hx hb hK hP 10 0 rfl rfl hwp.1 d_T_isLive_13 ?_
    have hwp := hwp.2
    refine lv_iconst (v := 1) hx hb d_T_isLive_14 (by decide) ?_
    refine lv_icmp_eq (tgt := 28) hx hb d_T_isLive_15 (by decide) (fun hc => ?_) (fun hc => ?_)
    · rw [if_pos hc] at hwp
      refine lv_iconst (v := 1) hx hb d_T_isLive_28 (by decide) ?_
      refine lv_goto hx hb d_T_isLive_29 (tgt := 33) (by decide) ?_
      rw [hQ]
      exact W.zret (v := 1) hx hb hr rfl (fun t ht hW => ⟨⟨1, (), rfl, hwp, hp_of ht hP⟩, hS.F ht⟩) hS.2.2 d_T_isLive_33
    · rw [if_neg hc] at hwp
      refine lv_aload_n hx hb d_T_isLive_18 rfl (lv_at hl 0 rfl) ?_
      refine va_get (D := (dC, dI)) (ci := 1) (v := .ref (q 10)) (C := R_T) (T := F_T) (N := 11) hx hb hts hiT hown hK hP 1 rfl rfl 4 (by decide) lk21 (fun _ h9 => h9) rfl d_T_isLive_19 ?_
      refine lv_iload_n hx hb d_T_isLive_22 rfl (lv_at hl 1 rfl) ?_
      refine va_iald hx hb hK hP 10 0 rfl rfl hwp.1 d_T_isLive_23 ?_
      have hwp := hwp.2
      refine lv_iconst (v := 2) hx hb d_T_isLive_24 (by decide) ?_
      refine lv_icmp_ne (tgt := 32) hx hb d_T_isLive_25 (by decide) (fun hc => ?_) (fun hc => ?_)
      · rw [if_neg hc] at hwp
        refine lv_iconst (v := 0) hx hb d_T_isLive_32 (by decide) ?_
        rw [hQ]
        exact W.zret (v := 0) hx hb hr rfl (fun t ht hW => ⟨⟨0, (), rfl, hwp, hp_of ht hP⟩, hS.F ht⟩) hS.2.2 d_T_isLive_33
      · rw [if_pos hc] at hwp
        refine lv_iconst (v := 1) hx hb d_T_isLive_28 (by decide) ?_
        refine lv_goto hx hb d_T_isLive_29 (tgt := 33) (by decide) ?_
        rw [hQ]
        exact W.zret (v := 1) hx hb hr rfl (fun t ht hW => ⟨⟨1, (), rfl, hwp, hp_of ht hP⟩, hS.F ht⟩) hS.2.2 d_T_isLive_33

set_option maxHeartbeats 4000000 in
set_option maxRecDepth 100000 in
theorem c_T_liveCount {l : Launch} {dC : Nat → ClassId} {dI : Nat → Nat → Nat} {cI cL cZ : ClassId} {q : Nat → Nat} (hq : iN q) (A : S_A) (D : S_D) (G : S_G) (K : S_K) (N : S_N) (P : S_P) (T : S_T)  (post : Int32 → Prop) (hwp : wp_T_liveCount T post) : Met l y_T_liveCount ws_T_liveCount rm_T_liveCount (va_Pc [.ref (q 1)] (bN dC dI cI cL cZ q A D G K N P T)) (va_Qi (fun (r : Int32) (u : Unit) => post r) (fun u t => va_P (dC, dI) clZ (wN cI cL cZ q A D G K N P T) t.heap) (aN q)) 0 0 (aN q) := by
  refine Met.ofW (cc := b_T_liveCount) (maxL := 3) (ret := (some .int)) (by decide) rfl ?_
  intro p e s m args below meth c s₁ B hml hv
  obtain ⟨rfl, hP, hK⟩ := hv
  have hx := B.exec
  have hb := B.bytes
  have hr := B.returns
  have hts := atoms_spec (ws := ws_T_liveCount) B.pre
  have hown : s.vm.findClass R_T = some m.cls := findClass_of_methodNamed B.named
  have hlocks := B.notSynchronized
  have hiT : ∀ w ∈ u_ws R_T F_T 11, w ∈ ws_T_liveCount := fun w h => List.mem_cons_of_mem _ (in_T w h)
  have lk43 := hts _ (List.mem_cons_of_mem _ k_T_43)
  have hS : va_S (aN q) s.heap s.heap [] := va_S.rf
  have hl := lv_entry ([.ref (q 1)]) (n := 3) (Nat.le_of_ble_eq_true rfl)
  rw [lg_entry_eq]
  generalize (lg_sl ([.ref (q 1)]) ++ List.replicate (3 - (lg_sl ([.ref (q 1)])).length) Slot.unset).toArray = ls at hl ⊢
  have hl : lv_has ls 3 [(0, .ref (q 1))] := hl
  obtain ⟨Q, hQ⟩ : ∃ Q, Q = MQ below (va_Qi (fun (r : Int32) (u : Unit) => post r) (fun u t => va_P (dC, dI) clZ (wN cI cL cZ q A D G K N P T) t.heap) (aN q)) ([.ref (q 1)]).toArray s 0 0 (aN q) := ⟨_, rfl⟩
  rw [← hQ]
  have L4 : ∀ (Kx : Int32 → Prop) (A : S_A) (D : S_D) (G : S_G) (K : S_K) (N : S_N) (P : S_P) (T : S_T) (n : Nat) (v1 : Int32) (v2 : Int32) (H : Heap) (locs : List Loc) (ls : Array Slot), lv_has ls 3 [(0, .ref (q 1)), (1, .int v1), (2, .int v2)] → va_P (dC, dI) clZ (wN cI cL cZ q A D G K N P T) H → va_S (aN q) s.heap H locs → wp_T_liveCount_L4 T Kx n v1 v2 → (∀ (x1 : Int32) (H : Heap) (locs : List Loc) (ls : Array Slot), lv_has ls 3 [(1, .int x1)] → va_P (dC, dI) clZ (wN cI cL cZ q A D G K N P T) H → va_S (aN q) s.heap H locs → Kx x1 → W p l e (headSpec ws_T_liveCount rm_T_liveCount).room s m ([.ref (q 1)]).toArray below meth c H locs 0 0 Q (F0 m 29 ls [])) → W p l e (headSpec ws_T_liveCount rm_T_liveCount).room s m ([.ref (q 1)]).toArray below meth c H locs 0 0 Q (F0 m 4 ls []) := by
    intro Kx A D G K N P T n
    induction n with
    | zero =>
      intros
      rename_i hwp _
      exact hwp.elim
    | succ n4 ih =>
      intro v1 v2 H locs ls hl hP hS hwp hX
      rw [wp_T_liveCount_L4] at hwp
      refine lv_iload_n hx hb d_T_liveCount_4 rfl (lv_at hl 2 rfl) ?_
      refine lv_aload_n hx hb d_T_liveCount_5 rfl (lv_at hl 0 rfl) ?_
      refine va_get (D := (dC, dI)) (ci := 1) (v := .int (T_count T)) (C := R_T) (T := F_T) (N := 11) hx hb hts hiT hown hK hP 1 rfl rfl 0 (by decide) lk43 (fun _ h9 => h9) rfl d_T_liveCount_6 ?_
      refine lv_icmp_ge (tgt := 29) hx hb d_T_liveCount_9 (by decide) (fun hc => ?_) (fun hc => ?_)
      · rw [if_pos hc] at hwp
        exact hX (v1) _ _ _ (lv_sub hl [1] rfl) hP hS hwp
      · rw [if_neg hc] at hwp
        refine lv_aload_n hx hb d_T_liveCount_12 rfl (lv_at hl 0 rfl) ?_
        refine lv_iload_n hx hb d_T_liveCount_13 rfl (lv_at hl 2 rfl) ?_
        refine ncn_i (As := [.int v2]) (c_T_isLive hq (A) (D) (G) (K) (N) (P) (T) (v2) _ hwp) (cwV 1 hts g_T_55 rfl rfl rfl hd_T_isLive ⟨Nat.le_of_ble_eq_true rfl, Nat.le_of_ble_eq_true rfl⟩) hx hb hml hown hts hK hP hS hl.1 d_T_liveCount_14 (va_recv (q := (R_T, F_T, 11)) hK hP (ci := 1) (q0 := 1) rfl rfl) rfl (lv_room (Nat.le_of_ble_eq_true rfl)) (Nat.zero_le _) (Nat.zero_le _) rfl (fun r1 u H locs hwp hP hS => ?_)
        have hP : va_P (dC, dI) clZ (wN cI cL cZ q A D G K N P T) H := hP
        refine lv_if_eq (tgt := 23) hx hb d_T_liveCount_17 (by decide) (fun hc => ?_) (fun hc => ?_)
        · rw [if_pos hc] at hwp
          refine lv_iinc (k := 2) (v := (v2 + 1)) (lv' := [(2, .int (v2 + 1)), (0, .ref (q 1)), (1, .int v1)]) hx hb d_T_liveCount_23 hl rfl (ii_1 _) (by decide) rfl (fun ls hl => ?_)
          refine lv_goto hx hb d_T_liveCount_26 (tgt := 4) (by decide) ?_
          exact ih (v1) ((v2 + 1)) _ _ _ (lv_sub hl [1, 2, 0] rfl) hP hS hwp hX
        · rw [if_neg hc] at hwp
          refine lv_iinc (k := 1) (v := (v1 + 1)) (lv' := [(1, .int (v1 + 1)), (0, .ref (q 1)), (2, .int v2)]) hx hb d_T_liveCount_20 hl rfl (ii_1 _) (by decide) rfl (fun ls hl => ?_)
          refine lv_iinc (k := 2) (v := (v2 + 1)) (lv' := [(2, .int (v2 + 1)), (1, .int (v1 + 1)), (0, .ref (q 1))]) hx hb d_T_liveCount_23 hl rfl (ii_1 _) (by decide) rfl (fun ls hl => ?_)
          refine lv_goto hx hb d_T_liveCount_26 (tgt := 4) (by decide) ?_
          exact ih ((v1 + 1)) ((v2 + 1)) _ _ _ (lv_sub hl [2, 1, 0] rfl) hP hS hwp hX
  rw [wp_T_liveCount] at hwp
  refine lv_iconst (v := 0) hx hb d_T_liveCount_0 (by decide) ?_
  refine lv_istore_n (lv' := [(1, .int 0), (0, .ref (q 1))]) hx hb d_T_liveCount_1 rfl hl (by decide) rfl (fun ls hl => ?_)
  refine lv_iconst (v := 0) hx hb d_T_liveCount_2 (by decide) ?_
  refine lv_istore_n (lv' := [(2, .int 0), (1, .int 0), (0, .ref (q 1))]) hx hb d_T_liveCount_3 rfl hl (by decide) rfl (fun ls hl => ?_)
  obtain ⟨e4, hwp⟩ := hwp
  refine L4 _ (A) (D) (G) (K) (N) (P) (T) e4 (0) (0) _ _ _ (lv_sub hl [2, 1, 0] rfl) hP hS hwp (fun x2 H locs ls hl hP hS hwp => ?_)
  refine lv_iload_n hx hb d_T_liveCount_29 rfl (lv_at hl 0 rfl) ?_
  rw [hQ]
  exact W.iret (v := x2) hx hb hr (fun t ht hW => ⟨⟨x2, (), rfl, hwp, hp_of ht hP⟩, hS.F ht⟩) hS.2.2 d_T_liveCount_30

set_option maxHeartbeats 4000000 in
set_option maxRecDepth 100000 in
theorem c_T_add {l : Launch} {dC : Nat → ClassId} {dI : Nat → Nat → Nat} {cI cL cZ : ClassId} {q : Nat → Nat} (hq : iN q) (A : S_A) (D : S_D) (G : S_G) (K : S_K) (N : S_N) (P : S_P) (T : S_T) (a1 : Int32) (a2 : Int32) (post : Int32 → S_T → Prop) (hwp : wp_T_add T a1 a2 post) : Met l y_T_add ws_T_add rm_T_add (va_Pc [.ref (q 1), .int a1, .int a2] (bN dC dI cI cL cZ q A D G K N P T)) (va_Qi (fun (r : Int32) (u : S_T) => post r u) (fun u t => va_P (dC, dI) clZ (wN cI cL cZ q A D G K N P (u)) t.heap) (aN q)) 0 0 (aN q) := by
  refine Met.ofW (cc := b_T_add) (maxL := 5) (ret := (some .int)) (by decide) rfl ?_
  intro p e s m args below meth c s₁ B hml hv
  obtain ⟨rfl, hP, hK⟩ := hv
  have hx := B.exec
  have hb := B.bytes
  have hr := B.returns
  have hts := atoms_spec (ws := ws_T_add) B.pre
  have hown : s.vm.findClass R_T = some m.cls := findClass_of_methodNamed B.named
  have hlocks := B.notSynchronized
  have hiT : ∀ w ∈ u_ws R_T F_T 11, w ∈ ws_T_add := fun w h => List.mem_cons_of_mem _ (in_T w h)
  have lk9 := hts _ (List.mem_cons_of_mem _ k_T_9)
  have lk15 := hts _ (List.mem_cons_of_mem _ k_T_15)
  have lk18 := hts _ (List.mem_cons_of_mem _ k_T_18)
  have lk21 := hts _ (List.mem_cons_of_mem _ k_T_21)
  have lk24 := hts _ (List.mem_cons_of_mem _ k_T_24)
  have lk27 := hts _ (List.mem_cons_of_mem _ k_T_27)
  have lk43 := hts _ (List.mem_cons_of_mem _ k_T_43)
  have hS : va_S (aN q) s.heap s.heap [] := va_S.rf
  have hl := lv_entry ([.ref (q 1), .int a1, .int a2]) (n := 5) (Nat.le_of_ble_eq_true rfl)
  rw [lg_entry_eq]
  generalize (lg_sl ([.ref (q 1), .int a1, .int a2]) ++ List.replicate (5 - (lg_sl ([.ref (q 1), .int a1, .int a2])).length) Slot.unset).toArray = ls at hl ⊢
  have hl : lv_has ls 5 [(0, .ref (q 1)), (1, .int a1), (2, .int a2)] := hl
  obtain ⟨Q, hQ⟩ : ∃ Q, Q = MQ below (va_Qi (fun (r : Int32) (u : S_T) => post r u) (fun u t => va_P (dC, dI) clZ (wN cI cL cZ q A D G K N P (u)) t.heap) (aN q)) ([.ref (q 1), .int a1, .int a2]).toArray s 0 0 (aN q) := ⟨_, rfl⟩
  rw [← hQ]
  rw [wp_T_add] at hwp
  refine lv_aload_n hx hb d_T_add_0 rfl (lv_at hl 0 rfl) ?_
  refine va_get (D := (dC, dI)) (ci := 1) (v := .int (T_count T)) (C := R_T) (T := F_T) (N := 11) hx hb hts hiT hown hK hP 1 rfl rfl 0 (by decide) lk43 (fun _ h9 => h9) rfl d_T_add_1 ?_
  refine lv_istore_n (lv' := [(3, .int (T_count T)), (0, .ref (q 1)), (1, .int a1), (2, .int a2)]) hx hb d_T_add_4 rfl hl (by decide) rfl (fun ls hl => ?_)
  refine lv_aload_n hx hb d_T_add_5 rfl (lv_at hl 1 rfl) ?_
  refine lv_iload_n hx hb d_T_add_6 rfl (lv_at hl 2 rfl) ?_
  refine ncn_i (As := [.int a1]) (c_T_exists hq (A) (D) (G) (K) (N) (P) (T) (a1) _ hwp) (cwV 1 hts g_T_47 rfl rfl rfl hd_T_exists ⟨Nat.le_of_ble_eq_true rfl, Nat.le_of_ble_eq_true rfl⟩) hx hb hml hown hts hK hP hS hl.1 d_T_add_7 (va_recv (q := (R_T, F_T, 11)) hK hP (ci := 1) (q0 := 1) rfl rfl) rfl (lv_room (Nat.le_of_ble_eq_true rfl)) (Nat.zero_le _) (Nat.zero_le _) rfl (fun r1 u H locs hwp hP hS => ?_)
  have hP : va_P (dC, dI) clZ (wN cI cL cZ q A D G K N P T) H := hP
  refine jn_split hwp (fun jk18 hjk hwp => ?_)
  have J18 : ∀ (b2 : Int32) (H : Heap) (locs : List Loc) (ls : Array Slot), lv_has ls 5 [(0, .ref (q 1)), (1, .int a1), (2, .int a2), (3, .int (T_count T))] → va_P (dC, dI) clZ (wN cI cL cZ q A D G K N P T) H → va_S (aN q) s.heap H locs → jk18 b2 → W p l e (headSpec ws_T_add rm_T_add).room s m ([.ref (q 1), .int a1, .int a2]).toArray below meth c H locs 0 0 Q (F0 m 18 ls [.int b2]) := by
    intro b2 H locs ls hl hP hS hwp
    rw [hjk] at hwp
    refine lv_istore (lv' := [(4, .int b2), (0, .ref (q 1)), (1, .int a1), (2, .int a2), (3, .int (T_count T))]) hx hb d_T_add_18 hl (by decide) rfl (fun ls hl => ?_)
    refine lv_aload_n hx hb d_T_add_20 rfl (lv_at hl 1 rfl) ?_
    refine va_get (D := (dC, dI)) (ci := 1) (v := .ref (q 7)) (C := R_T) (T := F_T) (N := 11) hx hb hts hiT hown hK hP 1 rfl rfl 1 (by decide) lk9 (fun _ h9 => h9) rfl d_T_add_21 ?_
    refine lv_iload_n hx hb d_T_add_24 rfl (lv_at hl 4 rfl) ?_
    refine lv_iload_n hx hb d_T_add_25 rfl (lv_at hl 2 rfl) ?_
    refine va_iast hx hb hK hP (dN hq) hS 7 0 rfl rfl hwp.1 d_T_add_26 (fun H locs hP _ hS => ?_)
    have hwp := hwp.2
    have hP : va_P (dC, dI) clZ (wN cI cL cZ q A D G K N P (T_parent' T (upd (T_parent T) (Int32.toNatClampNeg (T_count T)) a1))) H := hP
    refine lv_aload_n hx hb d_T_add_27 rfl (lv_at hl 1 rfl) ?_
    refine va_get (D := (dC, dI)) (ci := 1) (v := .ref (q 8)) (C := R_T) (T := F_T) (N := 11) hx hb hts hiT hown hK hP 1 rfl rfl 2 (by decide) lk15 (fun _ h9 => h9) rfl d_T_add_28 ?_
    refine lv_iload_n hx hb d_T_add_31 rfl (lv_at hl 4 rfl) ?_
    refine lv_iload hx hb d_T_add_32 (lv_at hl 0 rfl) ?_
    refine jn_split hwp (fun jk47 hjk hwp => ?_)
    have J47 : ∀ (b3 : Int32) (H : Heap) (locs : List Loc) (ls : Array Slot), lv_has ls 5 [(0, .ref (q 1)), (1, .int a1), (2, .int a2), (3, .int (T_count T)), (4, .int b2)] → va_P (dC, dI) clZ (wN cI cL cZ q A D G K N P (T_parent' T (upd (T_parent T) (Int32.toNatClampNeg (T_count T)) a1))) H → va_S (aN q) s.heap H locs → jk47 b3 → W p l e (headSpec ws_T_add rm_T_add).room s m ([.ref (q 1), .int a1, .int a2]).toArray below meth c H locs 0 0 Q (F0 m 47 ls [.int b3, .int (T_count T), .ref (q 8)]) := by
      intro b3 H locs ls hl hP hS hwp
      rw [hjk] at hwp
      refine va_iast hx hb hK hP (dN hq) hS 8 0 rfl rfl hwp.1 d_T_add_47 (fun H locs hP _ hS => ?_)
      have hwp := hwp.2
      have hP : va_P (dC, dI) clZ (wN cI cL cZ q A D G K N P (T_top' (T_parent' T (upd (T_parent T) (Int32.toNatClampNeg (T_count T)) a1)) (upd (T_top T) (Int32.toNatClampNeg (T_count T)) b3))) H := hP
      refine lv_aload_n hx hb d_T_add_48 rfl (lv_at hl 0 rfl) ?_
      refine va_get (D := (dC, dI)) (ci := 1) (v := .ref (q 9)) (C := R_T) (T := F_T) (N := 11) hx hb hts hiT hown hK hP 1 rfl rfl 3 (by decide) lk18 (fun _ h9 => h9) rfl d_T_add_49 ?_
      refine lv_iload_n hx hb d_T_add_52 rfl (lv_at hl 3 rfl) ?_
      refine lv_iload hx hb d_T_add_53 (lv_at hl 4 rfl) ?_
      refine jn_split hwp (fun jk70 hjk hwp => ?_)
      have J70 : ∀ (b4 : Int32) (H : Heap) (locs : List Loc) (ls : Array Slot), lv_has ls 5 [(0, .ref (q 1)), (1, .int a1), (2, .int a2), (3, .int (T_count T)), (4, .int b2)] → va_P (dC, dI) clZ (wN cI cL cZ q A D G K N P (T_top' (T_parent' T (upd (T_parent T) (Int32.toNatClampNeg (T_count T)) a1)) (upd (T_top T) (Int32.toNatClampNeg (T_count T)) b3))) H → va_S (aN q) s.heap H locs → jk70 b4 → W p l e (headSpec ws_T_add rm_T_add).room s m ([.ref (q 1), .int a1, .int a2]).toArray below meth c H locs 0 0 Q (F0 m 70 ls [.int b4, .int (T_count T), .ref (q 9)]) := by
        intro b4 H locs ls hl hP hS hwp
        rw [hjk] at hwp
        refine va_iast hx hb hK hP (dN hq) hS 9 0 rfl rfl hwp.1 d_T_add_70 (fun H locs hP _ hS => ?_)
        have hwp := hwp.2
        have hP : va_P (dC, dI) clZ (wN cI cL cZ q A D G K N P (T_depth' (T_top' (T_parent' T (upd (T_parent T) (Int32.toNatClampNeg (T_count T)) a1)) (upd (T_top T) (Int32.toNatClampNeg (T_count T)) b3)) (upd (T_depth T) (Int32.toNatClampNeg (T_count T)) b4))) H := hP
        refine lv_aload_n hx hb d_T_add_71 rfl (lv_at hl 0 rfl) ?_
        refine va_get (D := (dC, dI)) (ci := 1) (v := .ref (q 12)) (C := R_T) (T := F_T) (N := 11) hx hb hts hiT hown hK hP 1 rfl rfl 6 (by decide) lk27 (fun _ h9 => h9) rfl d_T_add_72 ?_
        refine lv_iload_n hx hb d_T_add_75 rfl (lv_at hl 3 rfl) ?_
        refine lv_iload hx hb d_T_add_76 (lv_at hl 4 rfl) ?_
        refine jn_split hwp (fun jk97 hjk hwp => ?_)
        have J97 : ∀ (b5 : Int64) (H : Heap) (locs : List Loc) (ls : Array Slot), lv_has ls 5 [(0, .ref (q 1)), (2, .int a2), (3, .int (T_count T))] → va_P (dC, dI) clZ (wN cI cL cZ q A D G K N P (T_depth' (T_top' (T_parent' T (upd (T_parent T) (Int32.toNatClampNeg (T_count T)) a1)) (upd (T_top T) (Int32.toNatClampNeg (T_count T)) b3)) (upd (T_depth T) (Int32.toNatClampNeg (T_count T)) b4))) H → va_S (aN q) s.heap H locs → jk97 b5 → W p l e (headSpec ws_T_add rm_T_add).room s m ([.ref (q 1), .int a1, .int a2]).toArray below meth c H locs 0 0 Q (F0 m 97 ls [.long b5, .int (T_count T), .ref (q 12)]) := by
          intro b5 H locs ls hl hP hS hwp
          rw [hjk] at hwp
          refine va_last hx hb hK hP (dN hq) hS 12 1 rfl rfl hwp.1 d_T_add_97 (fun H locs hP _ hS => ?_)
          have hwp := hwp.2
          have hP : va_P (dC, dI) clZ (wN cI cL cZ q A D G K N P (T_lineage' (T_depth' (T_top' (T_parent' T (upd (T_parent T) (Int32.toNatClampNeg (T_count T)) a1)) (upd (T_top T) (Int32.toNatClampNeg (T_count T)) b3)) (upd (T_depth T) (Int32.toNatClampNeg (T_count T)) b4)) (vp_updL (T_lineage T) (Int32.toNatClampNeg (T_count T)) b5))) H := hP
          refine lv_aload_n hx hb d_T_add_98 rfl (lv_at hl 0 rfl) ?_
          refine va_get (D := (dC, dI)) (ci := 1) (v := .ref (q 10)) (C := R_T) (T := F_T) (N := 11) hx hb hts hiT hown hK hP 1 rfl rfl 4 (by decide) lk21 (fun _ h9 => h9) rfl d_T_add_99 ?_
          refine lv_iload_n hx hb d_T_add_102 rfl (lv_at hl 2 rfl) ?_
          refine lv_iconst (v := 1) hx hb d_T_add_103 (by decide) ?_
          refine va_iast hx hb hK hP (dN hq) hS 10 0 rfl rfl hwp.1 d_T_add_104 (fun H locs hP _ hS => ?_)
          have hwp := hwp.2
          have hP : va_P (dC, dI) clZ (wN cI cL cZ q A D G K N P (T_state' (T_lineage' (T_depth' (T_top' (T_parent' T (upd (T_parent T) (Int32.toNatClampNeg (T_count T)) a1)) (upd (T_top T) (Int32.toNatClampNeg (T_count T)) b3)) (upd (T_depth T) (Int32.toNatClampNeg (T_count T)) b4)) (vp_updL (T_lineage T) (Int32.toNatClampNeg (T_count T)) b5)) (upd (T_state T) (Int32.toNatClampNeg (T_count T)) 1))) H := hP
          refine lv_aload_n hx hb d_T_add_105 rfl (lv_at hl 0 rfl) ?_
          refine va_get (D := (dC, dI)) (ci := 1) (v := .ref (q 11)) (C := R_T) (T := F_T) (N := 11) hx hb hts hiT hown hK hP 1 rfl rfl 5 (by decide) lk24 (fun _ h9 => h9) rfl d_T_add_106 ?_
          refine lv_iload_n hx hb d_T_add_109 rfl (lv_at hl 2 rfl) ?_
          refine lv_iload_n hx hb d_T_add_110 rfl (lv_at hl 1 rfl) ?_
          refine va_iast hx hb hK hP (dN hq) hS 11 0 rfl rfl hwp.1 d_T_add_111 (fun H locs hP _ hS => ?_)
          have hwp := hwp.2
          have hP : va_P (dC, dI) clZ (wN cI cL cZ q A D G K N P (T_begun' (T_state' (T_lineage' (T_depth' (T_top' (T_parent' T (upd (T_parent T) (Int32.toNatClampNeg (T_count T)) a1)) (upd (T_top T) (Int32.toNatClampNeg (T_count T)) b3)) (upd (T_depth T) (Int32.toNatClampNeg (T_count T)) b4)) (vp_updL (T_lineage T) (Int32.toNatClampNeg (T_count T)) b5)) (upd (T_state T) (Int32.toNatClampNeg (T_count T)) 1)) (upd (T_begun T) (Int32.toNatClampNeg (T_count T)) a2))) H := hP
          refine lv_aload_n hx hb d_T_add_112 rfl (lv_at hl 0 rfl) ?_
          refine lv_dup hx hb d_T_add_113 rfl ?_
          refine va_get (D := (dC, dI)) (ci := 1) (v := .int (T_count T)) (C := R_T) (T := F_T) (N := 11) hx hb hts hiT hown hK hP 1 rfl rfl 0 (by decide) lk43 (fun _ h9 => h9) rfl d_T_add_114 ?_
          refine lv_iconst (v := 1) hx hb d_T_add_117 (by decide) ?_
          refine lv_iadd hx hb d_T_add_118 ?_
          refine va_put (D := (dC, dI)) (ci := 1) (v := .int ((T_count T) + 1)) (ty := .int) (C := R_T) (T := F_T) (N := 11) hx hb hts hiT ty_T ty_T_ok nmx_T hown hK hP (dN hq) hS 1 rfl rfl 0 (by decide) lk43 (fun _ h9 => h9) rfl (by decide +kernel) rfl rfl (Nat.le_of_ble_eq_true rfl) d_T_add_119 (fun H locs hP _ hS => ?_)
          have hP : va_P (dC, dI) clZ (wN cI cL cZ q A D G K N P (T_count' (T_begun' (T_state' (T_lineage' (T_depth' (T_top' (T_parent' T (upd (T_parent T) (Int32.toNatClampNeg (T_count T)) a1)) (upd (T_top T) (Int32.toNatClampNeg (T_count T)) b3)) (upd (T_depth T) (Int32.toNatClampNeg (T_count T)) b4)) (vp_updL (T_lineage T) (Int32.toNatClampNeg (T_count T)) b5)) (upd (T_state T) (Int32.toNatClampNeg (T_count T)) 1)) (upd (T_begun T) (Int32.toNatClampNeg (T_count T)) a2)) ((T_count T) + 1))) H := hP
          refine lv_iload_n hx hb d_T_add_122 rfl (lv_at hl 2 rfl) ?_
          rw [hQ]
          exact W.iret (v := (T_count T)) hx hb hr (fun t ht hW => ⟨⟨(T_count T), (T_count' (T_begun' (T_state' (T_lineage' (T_depth' (T_top' (T_parent' T (upd (T_parent T) (Int32.toNatClampNeg (T_count T)) a1)) (upd (T_top T) (Int32.toNatClampNeg (T_count T)) b3)) (upd (T_depth T) (Int32.toNatClampNeg (T_count T)) b4)) (vp_updL (T_lineage T) (Int32.toNatClampNeg (T_count T)) b5)) (upd (T_state T) (Int32.toNatClampNeg (T_count T)) 1)) (upd (T_begun T) (Int32.toNatClampNeg (T_count T)) a2)) ((T_count T) + 1)), rfl, hwp, hp_of ht hP⟩, hS.F ht⟩) hS.2.2 d_T_add_123
        clear hjk
        refine lv_if_eq (tgt := 87) hx hb d_T_add_78 (by decide) (fun hc => ?_) (fun hc => ?_)
        · rw [if_pos hc] at hwp
          refine lv_aload_n hx hb d_T_add_87 rfl (lv_at hl 0 rfl) ?_
          refine va_get (D := (dC, dI)) (ci := 1) (v := .ref (q 12)) (C := R_T) (T := F_T) (N := 11) hx hb hts hiT hown hK hP 1 rfl rfl 6 (by decide) lk27 (fun _ h9 => h9) rfl d_T_add_88 ?_
          refine lv_iload_n hx hb d_T_add_91 rfl (lv_at hl 1 rfl) ?_
          refine va_lald hx hb hK hP 12 1 rfl rfl hwp.1 d_T_add_92 ?_
          have hwp := hwp.2
          refine lv_lconst (v := (1 : Int64)) hx hb d_T_add_93 (by decide) ?_
          refine lv_iload_n hx hb d_T_add_94 rfl (lv_at hl 3 rfl) ?_
          refine lv_lshl hx hb d_T_add_95 rfl ?_
          refine lv_lor hx hb d_T_add_96 ?_
          exact J97 ((((T_lineage T) (Int32.toNatClampNeg a1)) ||| ((1 : Int64) <<< (Int32.toInt64 (T_count T) &&& 63)))) _ _ _ (lv_sub hl [0, 2, 3] rfl) hP hS hwp
        · rw [if_neg hc] at hwp
          refine lv_lconst (v := (1 : Int64)) hx hb d_T_add_81 (by decide) ?_
          refine lv_iload_n hx hb d_T_add_82 rfl (lv_at hl 3 rfl) ?_
          refine lv_lshl hx hb d_T_add_83 rfl ?_
          refine lv_goto hx hb d_T_add_84 (tgt := 97) (by decide) ?_
          exact J97 (((1 : Int64) <<< (Int32.toInt64 (T_count T) &&& 63))) _ _ _ (lv_sub hl [0, 2, 3] rfl) hP hS hwp
      clear hjk
      refine lv_if_eq (tgt := 62) hx hb d_T_add_55 (by decide) (fun hc => ?_) (fun hc => ?_)
      · rw [if_pos hc] at hwp
        refine lv_aload_n hx hb d_T_add_62 rfl (lv_at hl 0 rfl) ?_
        refine va_get (D := (dC, dI)) (ci := 1) (v := .ref (q 9)) (C := R_T) (T := F_T) (N := 11) hx hb hts hiT hown hK hP 1 rfl rfl 3 (by decide) lk18 (fun _ h9 => h9) rfl d_T_add_63 ?_
        refine lv_iload_n hx hb d_T_add_66 rfl (lv_at hl 1 rfl) ?_
        refine va_iald hx hb hK hP 9 0 rfl rfl hwp.1 d_T_add_67 ?_
        have hwp := hwp.2
        refine lv_iconst (v := 1) hx hb d_T_add_68 (by decide) ?_
        refine lv_iadd hx hb d_T_add_69 ?_
        exact J70 ((((T_depth T) (Int32.toNatClampNeg a1)) + 1)) _ _ _ (lv_sub hl [0, 1, 2, 3, 4] rfl) hP hS hwp
      · rw [if_neg hc] at hwp
        refine lv_iconst (v := 1) hx hb d_T_add_58 (by decide) ?_
        refine lv_goto hx hb d_T_add_59 (tgt := 70) (by decide) ?_
        exact J70 (1) _ _ _ (lv_sub hl [0, 1, 2, 3, 4] rfl) hP hS hwp
    clear hjk
    refine lv_if_eq (tgt := 41) hx hb d_T_add_34 (by decide) (fun hc => ?_) (fun hc => ?_)
    · rw [if_pos hc] at hwp
      refine lv_aload_n hx hb d_T_add_41 rfl (lv_at hl 1 rfl) ?_
      refine va_get (D := (dC, dI)) (ci := 1) (v := .ref (q 8)) (C := R_T) (T := F_T) (N := 11) hx hb hts hiT hown hK hP 1 rfl rfl 2 (by decide) lk15 (fun _ h9 => h9) rfl d_T_add_42 ?_
      refine lv_iload_n hx hb d_T_add_45 rfl (lv_at hl 2 rfl) ?_
      refine va_iald hx hb hK hP 8 0 rfl rfl hwp.1 d_T_add_46 ?_
      have hwp := hwp.2
      exact J47 (((T_top T) (Int32.toNatClampNeg a1))) _ _ _ (lv_sub hl [1, 2, 3, 4, 0] rfl) hP hS hwp
    · rw [if_neg hc] at hwp
      refine lv_iload_n hx hb d_T_add_37 rfl (lv_at hl 4 rfl) ?_
      refine lv_goto hx hb d_T_add_38 (tgt := 47) (by decide) ?_
      exact J47 ((T_count T)) _ _ _ (lv_sub hl [1, 2, 3, 4, 0] rfl) hP hS hwp
  clear hjk
  refine lv_if_ne (tgt := 17) hx hb d_T_add_10 (by decide) (fun hc => ?_) (fun hc => ?_)
  · rw [if_neg hc] at hwp
    refine lv_iconst (v := 0) hx hb d_T_add_17 (by decide) ?_
    exact J18 (0) _ _ _ (lv_sub hl [1, 2, 3, 0] rfl) hP hS hwp
  · rw [if_pos hc] at hwp
    refine lv_iconst (v := 1) hx hb d_T_add_13 (by decide) ?_
    refine lv_goto hx hb d_T_add_14 (tgt := 18) (by decide) ?_
    exact J18 (1) _ _ _ (lv_sub hl [1, 2, 3, 0] rfl) hP hS hwp

set_option maxHeartbeats 4000000 in
set_option maxRecDepth 100000 in
theorem c_T_liveChildren {l : Launch} {dC : Nat → ClassId} {dI : Nat → Nat → Nat} {cI cL cZ : ClassId} {q : Nat → Nat} (hq : iN q) (A : S_A) (D : S_D) (G : S_G) (K : S_K) (N : S_N) (P : S_P) (T : S_T) (a1 : Int32) (post : Int64 → Prop) (hwp : wp_T_liveChildren T a1 post) : Met l y_T_liveChildren ws_T_liveChildren rm_T_liveChildren (va_Pc [.ref (q 1), .int a1] (bN dC dI cI cL cZ q A D G K N P T)) (va_Ql (fun (r : Int64) (u : Unit) => post r) (fun u t => va_P (dC, dI) clZ (wN cI cL cZ q A D G K N P T) t.heap) (aN q)) 0 0 (aN q) := by
  refine Met.ofW (cc := b_T_liveChildren) (maxL := 5) (ret := (some .long)) (by decide) rfl ?_
  intro p e s m args below meth c s₁ B hml hv
  obtain ⟨rfl, hP, hK⟩ := hv
  have hx := B.exec
  have hb := B.bytes
  have hr := B.returns
  have hts := atoms_spec (ws := ws_T_liveChildren) B.pre
  have hown : s.vm.findClass R_T = some m.cls := findClass_of_methodNamed B.named
  have hlocks := B.notSynchronized
  have hiT : ∀ w ∈ u_ws R_T F_T 11, w ∈ ws_T_liveChildren := fun w h => List.mem_cons_of_mem _ (in_T w h)
  have lk9 := hts _ (List.mem_cons_of_mem _ k_T_9)
  have lk43 := hts _ (List.mem_cons_of_mem _ k_T_43)
  have hS : va_S (aN q) s.heap s.heap [] := va_S.rf
  have hl := lv_entry ([.ref (q 1), .int a1]) (n := 5) (Nat.le_of_ble_eq_true rfl)
  rw [lg_entry_eq]
  generalize (lg_sl ([.ref (q 1), .int a1]) ++ List.replicate (5 - (lg_sl ([.ref (q 1), .int a1])).length) Slot.unset).toArray = ls at hl ⊢
  have hl : lv_has ls 5 [(0, .ref (q 1)), (1, .int a1)] := hl
  obtain ⟨Q, hQ⟩ : ∃ Q, Q = MQ below (va_Ql (fun (r : Int64) (u : Unit) => post r) (fun u t => va_P (dC, dI) clZ (wN cI cL cZ q A D G K N P T) t.heap) (aN q)) ([.ref (q 1), .int a1]).toArray s 0 0 (aN q) := ⟨_, rfl⟩
  rw [← hQ]
  have L7 : ∀ (Kx : Int64 → Prop) (A : S_A) (D : S_D) (G : S_G) (K : S_K) (N : S_N) (P : S_P) (T : S_T) (v1 : Int32) (n : Nat) (v2 : Int64) (v4 : Int32) (H : Heap) (locs : List Loc) (ls : Array Slot), lv_has ls 5 [(0, .ref (q 1)), (1, .int v1), (2, .long v2), (4, .int v4)] → va_P (dC, dI) clZ (wN cI cL cZ q A D G K N P T) H → va_S (aN q) s.heap H locs → wp_T_liveChildren_L7 T v1 Kx n v2 v4 → (∀ (x2 : Int64) (H : Heap) (locs : List Loc) (ls : Array Slot), lv_has ls 5 [(2, .long x2)] → va_P (dC, dI) clZ (wN cI cL cZ q A D G K N P T) H → va_S (aN q) s.heap H locs → Kx x2 → W p l e (headSpec ws_T_liveChildren rm_T_liveChildren).room s m ([.ref (q 1), .int a1]).toArray below meth c H locs 0 0 Q (F0 m 49 ls [])) → W p l e (headSpec ws_T_liveChildren rm_T_liveChildren).room s m ([.ref (q 1), .int a1]).toArray below meth c H locs 0 0 Q (F0 m 7 ls []) := by
    intro Kx A D G K N P T v1 n
    induction n with
    | zero =>
      intros
      rename_i hwp _
      exact hwp.elim
    | succ n7 ih =>
      intro v2 v4 H locs ls hl hP hS hwp hX
      rw [wp_T_liveChildren_L7] at hwp
      refine lv_iload hx hb d_T_liveChildren_7 (lv_at hl 3 rfl) ?_
      refine lv_aload_n hx hb d_T_liveChildren_9 rfl (lv_at hl 0 rfl) ?_
      refine va_get (D := (dC, dI)) (ci := 1) (v := .int (T_count T)) (C := R_T) (T := F_T) (N := 11) hx hb hts hiT hown hK hP 1 rfl rfl 0 (by decide) lk43 (fun _ h9 => h9) rfl d_T_liveChildren_10 ?_
      refine lv_icmp_ge (tgt := 49) hx hb d_T_liveChildren_13 (by decide) (fun hc => ?_) (fun hc => ?_)
      · rw [if_pos hc] at hwp
        exact hX (v2) _ _ _ (lv_sub hl [2] rfl) hP hS hwp
      · rw [if_neg hc] at hwp
        refine lv_aload_n hx hb d_T_liveChildren_16 rfl (lv_at hl 0 rfl) ?_
        refine va_get (D := (dC, dI)) (ci := 1) (v := .ref (q 7)) (C := R_T) (T := F_T) (N := 11) hx hb hts hiT hown hK hP 1 rfl rfl 1 (by decide) lk9 (fun _ h9 => h9) rfl d_T_liveChildren_17 ?_
        refine lv_iload hx hb d_T_liveChildren_20 (lv_at hl 3 rfl) ?_
        refine va_iald hx hb hK hP 7 0 rfl rfl hwp.1 d_T_liveChildren_22 ?_
        have hwp := hwp.2
        refine lv_iload_n hx hb d_T_liveChildren_23 rfl (lv_at hl 1 rfl) ?_
        refine lv_icmp_ne (tgt := 43) hx hb d_T_liveChildren_24 (by decide) (fun hc => ?_) (fun hc => ?_)
        · rw [if_neg hc] at hwp
          refine lv_iinc (k := 3) (v := (v4 + 1)) (lv' := [(4, .int (v4 + 1)), (0, .ref (q 1)), (1, .int v1), (2, .long v2)]) hx hb d_T_liveChildren_43 hl rfl (ii_1 _) (by decide) rfl (fun ls hl => ?_)
          refine lv_goto hx hb d_T_liveChildren_46 (tgt := 7) (by decide) ?_
          exact ih (v2) ((v4 + 1)) _ _ _ (lv_sub hl [1, 2, 3, 0] rfl) hP hS hwp hX
        · rw [if_pos hc] at hwp
          refine lv_aload_n hx hb d_T_liveChildren_27 rfl (lv_at hl 0 rfl) ?_
          refine lv_iload hx hb d_T_liveChildren_28 (lv_at hl 3 rfl) ?_
          refine ncn_i (As := [.int v4]) (c_T_isLive hq (A) (D) (G) (K) (N) (P) (T) (v4) _ hwp) (cwV 1 hts g_T_55 rfl rfl rfl hd_T_isLive ⟨Nat.le_of_ble_eq_true rfl, Nat.le_of_ble_eq_true rfl⟩) hx hb hml hown hts hK hP hS hl.1 d_T_liveChildren_30 (va_recv (q := (R_T, F_T, 11)) hK hP (ci := 1) (q0 := 1) rfl rfl) rfl (lv_room (Nat.le_of_ble_eq_true rfl)) (Nat.zero_le _) (Nat.zero_le _) rfl (fun r1 u H locs hwp hP hS => ?_)
          have hP : va_P (dC, dI) clZ (wN cI cL cZ q A D G K N P T) H := hP
          refine lv_if_eq (tgt := 43) hx hb d_T_liveChildren_33 (by decide) (fun hc => ?_) (fun hc => ?_)
          · rw [if_pos hc] at hwp
            refine lv_iinc (k := 3) (v := (v4 + 1)) (lv' := [(4, .int (v4 + 1)), (0, .ref (q 1)), (1, .int v1), (2, .long v2)]) hx hb d_T_liveChildren_43 hl rfl (ii_1 _) (by decide) rfl (fun ls hl => ?_)
            refine lv_goto hx hb d_T_liveChildren_46 (tgt := 7) (by decide) ?_
            exact ih (v2) ((v4 + 1)) _ _ _ (lv_sub hl [1, 2, 3, 0] rfl) hP hS hwp hX
          · rw [if_neg hc] at hwp
            refine lv_lload_n hx hb d_T_liveChildren_36 rfl (lv_at hl 2 rfl) ?_
            refine lv_lconst (v := (1 : Int64)) hx hb d_T_liveChildren_37 (by decide) ?_
            refine lv_iload hx hb d_T_liveChildren_38 (lv_at hl 3 rfl) ?_
            refine lv_lshl hx hb d_T_liveChildren_40 rfl ?_
            refine lv_lor hx hb d_T_liveChildren_41 ?_
            refine lv_lstore_n (lv' := [(2, .long (v2 ||| ((1 : Int64) <<< (Int32.toInt64 v4 &&& 63)))), (0, .ref (q 1)), (1, .int v1), (4, .int v4)]) hx hb d_T_liveChildren_42 rfl hl (by decide) rfl (fun ls hl => ?_)
            refine lv_iinc (k := 3) (v := (v4 + 1)) (lv' := [(4, .int (v4 + 1)), (2, .long (v2 ||| ((1 : Int64) <<< (Int32.toInt64 v4 &&& 63)))), (0, .ref (q 1)), (1, .int v1)]) hx hb d_T_liveChildren_43 hl rfl (ii_1 _) (by decide) rfl (fun ls hl => ?_)
            refine lv_goto hx hb d_T_liveChildren_46 (tgt := 7) (by decide) ?_
            exact ih ((v2 ||| ((1 : Int64) <<< (Int32.toInt64 v4 &&& 63)))) ((v4 + 1)) _ _ _ (lv_sub hl [2, 3, 1, 0] rfl) hP hS hwp hX
  rw [wp_T_liveChildren] at hwp
  refine lv_lconst (v := (0 : Int64)) hx hb d_T_liveChildren_0 (by decide) ?_
  refine lv_lstore_n (lv' := [(2, .long (0 : Int64)), (0, .ref (q 1)), (1, .int a1)]) hx hb d_T_liveChildren_1 rfl hl (by decide) rfl (fun ls hl => ?_)
  refine lv_iload_n hx hb d_T_liveChildren_2 rfl (lv_at hl 2 rfl) ?_
  refine lv_iconst (v := 1) hx hb d_T_liveChildren_3 (by decide) ?_
  refine lv_iadd hx hb d_T_liveChildren_4 ?_
  refine lv_istore (lv' := [(4, .int (a1 + 1)), (2, .long (0 : Int64)), (0, .ref (q 1)), (1, .int a1)]) hx hb d_T_liveChildren_5 hl (by decide) rfl (fun ls hl => ?_)
  obtain ⟨e7, hwp⟩ := hwp
  refine L7 _ (A) (D) (G) (K) (N) (P) (T) (a1) e7 ((0 : Int64)) ((a1 + 1)) _ _ _ (lv_sub hl [2, 3, 1, 0] rfl) hP hS hwp (fun x2 H locs ls hl hP hS hwp => ?_)
  refine lv_lload_n hx hb d_T_liveChildren_49 rfl (lv_at hl 0 rfl) ?_
  rw [hQ]
  exact W.lret (v := x2) hx hb hr (fun t ht hW => ⟨⟨x2, (), rfl, hwp, hp_of ht hP⟩, hS.F ht⟩) hS.2.2 d_T_liveChildren_50

set_option maxHeartbeats 4000000 in
set_option maxRecDepth 100000 in
theorem c_T_isBusy {l : Launch} {dC : Nat → ClassId} {dI : Nat → Nat → Nat} {cI cL cZ : ClassId} {q : Nat → Nat} (hq : iN q) (A : S_A) (D : S_D) (G : S_G) (K : S_K) (N : S_N) (P : S_P) (T : S_T) (a1 : Int32) (post : Int32 → Prop) (hwp : wp_T_isBusy T a1 post) : Met l y_T_isBusy ws_T_isBusy rm_T_isBusy (va_Pc [.ref (q 1), .int a1] (bN dC dI cI cL cZ q A D G K N P T)) (va_Qi (fun (r : Int32) (u : Unit) => post r) (fun u t => va_P (dC, dI) clZ (wN cI cL cZ q A D G K N P T) t.heap) (aN q)) 0 0 (aN q) := by
  refine Met.ofW (cc := b_T_isBusy) (maxL := 2) (ret := (some .boolean)) (by decide) rfl ?_
  intro p e s m args below meth c s₁ B hml hv
  obtain ⟨rfl, hP, hK⟩ := hv
  have hx := B.exec
  have hb := B.bytes
  have hr := B.returns
  have hts := atoms_spec (ws := ws_T_isBusy) B.pre
  have hown : s.vm.findClass R_T = some m.cls := findClass_of_methodNamed B.named
  have hlocks := B.notSynchronized
  have hS : va_S (aN q) s.heap s.heap [] := va_S.rf
  have hl := lv_entry ([.ref (q 1), .int a1]) (n := 2) (Nat.le_of_ble_eq_true rfl)
  rw [lg_entry_eq]
  generalize (lg_sl ([.ref (q 1), .int a1]) ++ List.replicate (2 - (lg_sl ([.ref (q 1), .int a1])).length) Slot.unset).toArray = ls at hl ⊢
  have hl : lv_has ls 2 [(0, .ref (q 1)), (1, .int a1)] := hl
  obtain ⟨Q, hQ⟩ : ∃ Q, Q = MQ below (va_Qi (fun (r : Int32) (u : Unit) => post r) (fun u t => va_P (dC, dI) clZ (wN cI cL cZ q A D G K N P T) t.heap) (aN q)) ([.ref (q 1), .int a1]).toArray s 0 0 (aN q) := ⟨_, rfl⟩
  rw [← hQ]
  rw [wp_T_isBusy] at hwp
  refine lv_aload_n hx hb d_T_isBusy_0 rfl (lv_at hl 0 rfl) ?_
  refine lv_iload_n hx hb d_T_isBusy_1 rfl (lv_at hl 1 rfl) ?_
  refine ncn_l (As := [.int a1]) (c_T_liveChildren hq (A) (D) (G) (K) (N) (P) (T) (a1) _ hwp) (cwV 1 hts g_T_51 rfl rfl rfl hd_T_liveChildren ⟨Nat.le_of_ble_eq_true rfl, Nat.le_of_ble_eq_true rfl⟩) hx hb hml hown hts hK hP hS hl.1 d_T_isBusy_2 (va_recv (q := (R_T, F_T, 11)) hK hP (ci := 1) (q0 := 1) rfl rfl) rfl (lv_room (Nat.le_of_ble_eq_true rfl)) (Nat.zero_le _) (Nat.zero_le _) rfl (fun r1 u H locs hwp hP hS => ?_)
  have hP : va_P (dC, dI) clZ (wN cI cL cZ q A D G K N P T) H := hP
  refine lv_lconst (v := (0 : Int64)) hx hb d_T_isBusy_5 (by decide) ?_
  refine W.lcmp hx hb d_T_isBusy_6 ?_
  refine lv_if_eq (tgt := 14) hx hb d_T_isBusy_7 (by decide) (fun hc => ?_) (fun hc => ?_)
  · rw [if_pos hc] at hwp
    refine lv_iconst (v := 0) hx hb d_T_isBusy_14 (by decide) ?_
    rw [hQ]
    exact W.zret (v := 0) hx hb hr rfl (fun t ht hW => ⟨⟨0, (), rfl, hwp, hp_of ht hP⟩, hS.F ht⟩) hS.2.2 d_T_isBusy_15
  · rw [if_neg hc] at hwp
    refine lv_iconst (v := 1) hx hb d_T_isBusy_10 (by decide) ?_
    refine lv_goto hx hb d_T_isBusy_11 (tgt := 15) (by decide) ?_
    rw [hQ]
    exact W.zret (v := 1) hx hb hr rfl (fun t ht hW => ⟨⟨1, (), rfl, hwp, hp_of ht hP⟩, hS.F ht⟩) hS.2.2 d_T_isBusy_15

set_option maxHeartbeats 4000000 in
set_option maxRecDepth 100000 in
theorem c_T_setRequest {l : Launch} {dC : Nat → ClassId} {dI : Nat → Nat → Nat} {cI cL cZ : ClassId} {q : Nat → Nat} (hq : iN q) (A : S_A) (D : S_D) (G : S_G) (K : S_K) (N : S_N) (P : S_P) (T : S_T) (a1 : Int32) (a2 : Int32) (a3 : Int32) (a4 : Int32) (a5 : Int32) (post : S_T → Prop) (hwp : wp_T_setRequest T a1 a2 a3 a4 a5 post) : Met l y_T_setRequest ws_T_setRequest rm_T_setRequest (va_Pc [.ref (q 1), .int a1, .int a2, .int a3, .int a4, .int a5] (bN dC dI cI cL cZ q A D G K N P T)) (va_Qv (fun (u : S_T) => post u) (fun u t => va_P (dC, dI) clZ (wN cI cL cZ q A D G K N P (u)) t.heap) (aN q)) 0 0 (aN q) := by
  refine Met.ofW (cc := b_T_setRequest) (maxL := 6) (ret := none) (by decide) rfl ?_
  intro p e s m args below meth c s₁ B hml hv
  obtain ⟨rfl, hP, hK⟩ := hv
  have hx := B.exec
  have hb := B.bytes
  have hr := B.returns
  have hts := atoms_spec (ws := ws_T_setRequest) B.pre
  have hown : s.vm.findClass R_T = some m.cls := findClass_of_methodNamed B.named
  have hlocks := B.notSynchronized
  have hiT : ∀ w ∈ u_ws R_T F_T 11, w ∈ ws_T_setRequest := fun w h => List.mem_cons_of_mem _ (in_T w h)
  have lk31 := hts _ (List.mem_cons_of_mem _ k_T_31)
  have lk34 := hts _ (List.mem_cons_of_mem _ k_T_34)
  have lk37 := hts _ (List.mem_cons_of_mem _ k_T_37)
  have lk40 := hts _ (List.mem_cons_of_mem _ k_T_40)
  have hS : va_S (aN q) s.heap s.heap [] := va_S.rf
  have hl := lv_entry ([.ref (q 1), .int a1, .int a2, .int a3, .int a4, .int a5]) (n := 6) (Nat.le_of_ble_eq_true rfl)
  rw [lg_entry_eq]
  generalize (lg_sl ([.ref (q 1), .int a1, .int a2, .int a3, .int a4, .int a5]) ++ List.replicate (6 - (lg_sl ([.ref (q 1), .int a1, .int a2, .int a3, .int a4, .int a5])).length) Slot.unset).toArray = ls at hl ⊢
  have hl : lv_has ls 6 [(0, .ref (q 1)), (1, .int a1), (2, .int a2), (3, .int a3), (4, .int a4), (5, .int a5)] := hl
  obtain ⟨Q, hQ⟩ : ∃ Q, Q = MQ below (va_Qv (fun (u : S_T) => post u) (fun u t => va_P (dC, dI) clZ (wN cI cL cZ q A D G K N P (u)) t.heap) (aN q)) ([.ref (q 1), .int a1, .int a2, .int a3, .int a4, .int a5]).toArray s 0 0 (aN q) := ⟨_, rfl⟩
  rw [← hQ]
  rw [wp_T_setRequest] at hwp
  refine lv_aload_n hx hb d_T_setRequest_0 rfl (lv_at hl 0 rfl) ?_
  refine va_get (D := (dC, dI)) (ci := 1) (v := .ref (q 13)) (C := R_T) (T := F_T) (N := 11) hx hb hts hiT hown hK hP 1 rfl rfl 7 (by decide) lk31 (fun _ h9 => h9) rfl d_T_setRequest_1 ?_
  refine lv_iload_n hx hb d_T_setRequest_4 rfl (lv_at hl 1 rfl) ?_
  refine lv_iload_n hx hb d_T_setRequest_5 rfl (lv_at hl 2 rfl) ?_
  refine va_iast hx hb hK hP (dN hq) hS 13 0 rfl rfl hwp.1 d_T_setRequest_6 (fun H locs hP _ hS => ?_)
  have hwp := hwp.2
  have hP : va_P (dC, dI) clZ (wN cI cL cZ q A D G K N P (T_kind' T (upd (T_kind T) (Int32.toNatClampNeg a1) a2))) H := hP
  refine lv_aload_n hx hb d_T_setRequest_7 rfl (lv_at hl 0 rfl) ?_
  refine va_get (D := (dC, dI)) (ci := 1) (v := .ref (q 14)) (C := R_T) (T := F_T) (N := 11) hx hb hts hiT hown hK hP 1 rfl rfl 8 (by decide) lk34 (fun _ h9 => h9) rfl d_T_setRequest_8 ?_
  refine lv_iload_n hx hb d_T_setRequest_11 rfl (lv_at hl 1 rfl) ?_
  refine lv_iload_n hx hb d_T_setRequest_12 rfl (lv_at hl 3 rfl) ?_
  refine va_iast hx hb hK hP (dN hq) hS 14 0 rfl rfl hwp.1 d_T_setRequest_13 (fun H locs hP _ hS => ?_)
  have hwp := hwp.2
  have hP : va_P (dC, dI) clZ (wN cI cL cZ q A D G K N P (T_low' (T_kind' T (upd (T_kind T) (Int32.toNatClampNeg a1) a2)) (upd (T_low T) (Int32.toNatClampNeg a1) a3))) H := hP
  refine lv_aload_n hx hb d_T_setRequest_14 rfl (lv_at hl 0 rfl) ?_
  refine va_get (D := (dC, dI)) (ci := 1) (v := .ref (q 15)) (C := R_T) (T := F_T) (N := 11) hx hb hts hiT hown hK hP 1 rfl rfl 9 (by decide) lk37 (fun _ h9 => h9) rfl d_T_setRequest_15 ?_
  refine lv_iload_n hx hb d_T_setRequest_18 rfl (lv_at hl 1 rfl) ?_
  refine lv_iload hx hb d_T_setRequest_19 (lv_at hl 4 rfl) ?_
  refine va_iast hx hb hK hP (dN hq) hS 15 0 rfl rfl hwp.1 d_T_setRequest_21 (fun H locs hP _ hS => ?_)
  have hwp := hwp.2
  have hP : va_P (dC, dI) clZ (wN cI cL cZ q A D G K N P (T_high' (T_low' (T_kind' T (upd (T_kind T) (Int32.toNatClampNeg a1) a2)) (upd (T_low T) (Int32.toNatClampNeg a1) a3)) (upd (T_high T) (Int32.toNatClampNeg a1) a4))) H := hP
  refine lv_aload_n hx hb d_T_setRequest_22 rfl (lv_at hl 0 rfl) ?_
  refine va_get (D := (dC, dI)) (ci := 1) (v := .ref (q 16)) (C := R_T) (T := F_T) (N := 11) hx hb hts hiT hown hK hP 1 rfl rfl 10 (by decide) lk40 (fun _ h9 => h9) rfl d_T_setRequest_23 ?_
  refine lv_iload_n hx hb d_T_setRequest_26 rfl (lv_at hl 1 rfl) ?_
  refine lv_iload hx hb d_T_setRequest_27 (lv_at hl 5 rfl) ?_
  refine va_iast hx hb hK hP (dN hq) hS 16 0 rfl rfl hwp.1 d_T_setRequest_29 (fun H locs hP _ hS => ?_)
  have hwp := hwp.2
  have hP : va_P (dC, dI) clZ (wN cI cL cZ q A D G K N P (T_newValue' (T_high' (T_low' (T_kind' T (upd (T_kind T) (Int32.toNatClampNeg a1) a2)) (upd (T_low T) (Int32.toNatClampNeg a1) a3)) (upd (T_high T) (Int32.toNatClampNeg a1) a4)) (upd (T_newValue T) (Int32.toNatClampNeg a1) a5))) H := hP
  rw [hQ]
  exact W.vret hx hb hr (fun t ht hW => ⟨⟨(T_newValue' (T_high' (T_low' (T_kind' T (upd (T_kind T) (Int32.toNatClampNeg a1) a2)) (upd (T_low T) (Int32.toNatClampNeg a1) a3)) (upd (T_high T) (Int32.toNatClampNeg a1) a4)) (upd (T_newValue T) (Int32.toNatClampNeg a1) a5)), rfl, hwp, hp_of ht hP⟩, hS.F ht⟩) hS.2.2 d_T_setRequest_30

set_option maxHeartbeats 4000000 in
set_option maxRecDepth 100000 in
theorem c_T_isWaiting {l : Launch} {dC : Nat → ClassId} {dI : Nat → Nat → Nat} {cI cL cZ : ClassId} {q : Nat → Nat} (hq : iN q) (A : S_A) (D : S_D) (G : S_G) (K : S_K) (N : S_N) (P : S_P) (T : S_T) (a1 : Int32) (post : Int32 → Prop) (hwp : wp_T_isWaiting T a1 post) : Met l y_T_isWaiting ws_T_isWaiting rm_T_isWaiting (va_Pc [.ref (q 1), .int a1] (bN dC dI cI cL cZ q A D G K N P T)) (va_Qi (fun (r : Int32) (u : Unit) => post r) (fun u t => va_P (dC, dI) clZ (wN cI cL cZ q A D G K N P T) t.heap) (aN q)) 0 0 (aN q) := by
  refine Met.ofW (cc := b_T_isWaiting) (maxL := 2) (ret := (some .boolean)) (by decide) rfl ?_
  intro p e s m args below meth c s₁ B hml hv
  obtain ⟨rfl, hP, hK⟩ := hv
  have hx := B.exec
  have hb := B.bytes
  have hr := B.returns
  have hts := atoms_spec (ws := ws_T_isWaiting) B.pre
  have hown : s.vm.findClass R_T = some m.cls := findClass_of_methodNamed B.named
  have hlocks := B.notSynchronized
  have hiT : ∀ w ∈ u_ws R_T F_T 11, w ∈ ws_T_isWaiting := fun w h => List.mem_cons_of_mem _ (in_T w h)
  have lk21 := hts _ (List.mem_cons_of_mem _ k_T_21)
  have hS : va_S (aN q) s.heap s.heap [] := va_S.rf
  have hl := lv_entry ([.ref (q 1), .int a1]) (n := 2) (Nat.le_of_ble_eq_true rfl)
  rw [lg_entry_eq]
  generalize (lg_sl ([.ref (q 1), .int a1]) ++ List.replicate (2 - (lg_sl ([.ref (q 1), .int a1])).length) Slot.unset).toArray = ls at hl ⊢
  have hl : lv_has ls 2 [(0, .ref (q 1)), (1, .int a1)] := hl
  obtain ⟨Q, hQ⟩ : ∃ Q, Q = MQ below (va_Qi (fun (r : Int32) (u : Unit) => post r) (fun u t => va_P (dC, dI) clZ (wN cI cL cZ q A D G K N P T) t.heap) (aN q)) ([.ref (q 1), .int a1]).toArray s 0 0 (aN q) := ⟨_, rfl⟩
  rw [← hQ]
  rw [wp_T_isWaiting] at hwp
  refine lv_aload_n hx hb d_T_isWaiting_0 rfl (lv_at hl 0 rfl) ?_
  refine lv_iload_n hx hb d_T_isWaiting_1 rfl (lv_at hl 1 rfl) ?_
  refine ncn_i (As := [.int a1]) (c_T_exists hq (A) (D) (G) (K) (N) (P) (T) (a1) _ hwp) (cwV 1 hts g_T_47 rfl rfl rfl hd_T_exists ⟨Nat.le_of_ble_eq_true rfl, Nat.le_of_ble_eq_true rfl⟩) hx hb hml hown hts hK hP hS hl.1 d_T_isWaiting_2 (va_recv (q := (R_T, F_T, 11)) hK hP (ci := 1) (q0 := 1) rfl rfl) rfl (lv_room (Nat.le_of_ble_eq_true rfl)) (Nat.zero_le _) (Nat.zero_le _) rfl (fun r1 u H locs hwp hP hS => ?_)
  have hP : va_P (dC, dI) clZ (wN cI cL cZ q A D G K N P T) H := hP
  refine lv_if_eq (tgt := 22) hx hb d_T_isWaiting_5 (by decide) (fun hc => ?_) (fun hc => ?_)
  · rw [if_pos hc] at hwp
    refine lv_iconst (v := 0) hx hb d_T_isWaiting_22 (by decide) ?_
    rw [hQ]
    exact W.zret (v := 0) hx hb hr rfl (fun t ht hW => ⟨⟨0, (), rfl, hwp, hp_of ht hP⟩, hS.F ht⟩) hS.2.2 d_T_isWaiting_23
  · rw [if_neg hc] at hwp
    refine lv_aload_n hx hb d_T_isWaiting_8 rfl (lv_at hl 0 rfl) ?_
    refine va_get (D := (dC, dI)) (ci := 1) (v := .ref (q 10)) (C := R_T) (T := F_T) (N := 11) hx hb hts hiT hown hK hP 1 rfl rfl 4 (by decide) lk21 (fun _ h9 => h9) rfl d_T_isWaiting_9 ?_
    refine lv_iload_n hx hb d_T_isWaiting_12 rfl (lv_at hl 1 rfl) ?_
    refine va_iald hx hb hK hP 10 0 rfl rfl hwp.1 d_T_isWaiting_13 ?_
    have hwp := hwp.2
    refine lv_iconst (v := 2) hx hb d_T_isWaiting_14 (by decide) ?_
    refine lv_icmp_ne (tgt := 22) hx hb d_T_isWaiting_15 (by decide) (fun hc => ?_) (fun hc => ?_)
    · rw [if_neg hc] at hwp
      refine lv_iconst (v := 0) hx hb d_T_isWaiting_22 (by decide) ?_
      rw [hQ]
      exact W.zret (v := 0) hx hb hr rfl (fun t ht hW => ⟨⟨0, (), rfl, hwp, hp_of ht hP⟩, hS.F ht⟩) hS.2.2 d_T_isWaiting_23
    · rw [if_pos hc] at hwp
      refine lv_iconst (v := 1) hx hb d_T_isWaiting_18 (by decide) ?_
      refine lv_goto hx hb d_T_isWaiting_19 (tgt := 23) (by decide) ?_
      rw [hQ]
      exact W.zret (v := 1) hx hb hr rfl (fun t ht hW => ⟨⟨1, (), rfl, hwp, hp_of ht hP⟩, hS.F ht⟩) hS.2.2 d_T_isWaiting_23

set_option maxHeartbeats 4000000 in
set_option maxRecDepth 100000 in
theorem c_T_isWithin {l : Launch} {dC : Nat → ClassId} {dI : Nat → Nat → Nat} {cI cL cZ : ClassId} {q : Nat → Nat} (hq : iN q) (A : S_A) (D : S_D) (G : S_G) (K : S_K) (N : S_N) (P : S_P) (T : S_T) (a1 : Int32) (a2 : Int32) (post : Int32 → Prop) (hwp : wp_T_isWithin T a1 a2 post) : Met l y_T_isWithin ws_T_isWithin rm_T_isWithin (va_Pc [.ref (q 1), .int a1, .int a2] (bN dC dI cI cL cZ q A D G K N P T)) (va_Qi (fun (r : Int32) (u : Unit) => post r) (fun u t => va_P (dC, dI) clZ (wN cI cL cZ q A D G K N P T) t.heap) (aN q)) 0 0 (aN q) := by
  refine Met.ofW (cc := b_T_isWithin) (maxL := 3) (ret := (some .boolean)) (by decide) rfl ?_
  intro p e s m args below meth c s₁ B hml hv
  obtain ⟨rfl, hP, hK⟩ := hv
  have hx := B.exec
  have hb := B.bytes
  have hr := B.returns
  have hts := atoms_spec (ws := ws_T_isWithin) B.pre
  have hown : s.vm.findClass R_T = some m.cls := findClass_of_methodNamed B.named
  have hlocks := B.notSynchronized
  have hiT : ∀ w ∈ u_ws R_T F_T 11, w ∈ ws_T_isWithin := fun w h => List.mem_cons_of_mem _ (in_T w h)
  have lk27 := hts _ (List.mem_cons_of_mem _ k_T_27)
  have hS : va_S (aN q) s.heap s.heap [] := va_S.rf
  have hl := lv_entry ([.ref (q 1), .int a1, .int a2]) (n := 3) (Nat.le_of_ble_eq_true rfl)
  rw [lg_entry_eq]
  generalize (lg_sl ([.ref (q 1), .int a1, .int a2]) ++ List.replicate (3 - (lg_sl ([.ref (q 1), .int a1, .int a2])).length) Slot.unset).toArray = ls at hl ⊢
  have hl : lv_has ls 3 [(0, .ref (q 1)), (1, .int a1), (2, .int a2)] := hl
  obtain ⟨Q, hQ⟩ : ∃ Q, Q = MQ below (va_Qi (fun (r : Int32) (u : Unit) => post r) (fun u t => va_P (dC, dI) clZ (wN cI cL cZ q A D G K N P T) t.heap) (aN q)) ([.ref (q 1), .int a1, .int a2]).toArray s 0 0 (aN q) := ⟨_, rfl⟩
  rw [← hQ]
  rw [wp_T_isWithin] at hwp
  refine lv_aload_n hx hb d_T_isWithin_0 rfl (lv_at hl 0 rfl) ?_
  refine va_get (D := (dC, dI)) (ci := 1) (v := .ref (q 12)) (C := R_T) (T := F_T) (N := 11) hx hb hts hiT hown hK hP 1 rfl rfl 6 (by decide) lk27 (fun _ h9 => h9) rfl d_T_isWithin_1 ?_
  refine lv_iload_n hx hb d_T_isWithin_4 rfl (lv_at hl 1 rfl) ?_
  refine va_lald hx hb hK hP 12 1 rfl rfl hwp.1 d_T_isWithin_5 ?_
  have hwp := hwp.2
  refine lv_lconst (v := (1 : Int64)) hx hb d_T_isWithin_6 (by decide) ?_
  refine lv_iload_n hx hb d_T_isWithin_7 rfl (lv_at hl 2 rfl) ?_
  refine lv_lshl hx hb d_T_isWithin_8 rfl ?_
  refine lv_land hx hb d_T_isWithin_9 ?_
  refine lv_lconst (v := (0 : Int64)) hx hb d_T_isWithin_10 (by decide) ?_
  refine W.lcmp hx hb d_T_isWithin_11 ?_
  refine lv_if_eq (tgt := 19) hx hb d_T_isWithin_12 (by decide) (fun hc => ?_) (fun hc => ?_)
  · rw [if_pos hc] at hwp
    refine lv_iconst (v := 0) hx hb d_T_isWithin_19 (by decide) ?_
    rw [hQ]
    exact W.zret (v := 0) hx hb hr rfl (fun t ht hW => ⟨⟨0, (), rfl, hwp, hp_of ht hP⟩, hS.F ht⟩) hS.2.2 d_T_isWithin_20
  · rw [if_neg hc] at hwp
    refine lv_iconst (v := 1) hx hb d_T_isWithin_15 (by decide) ?_
    refine lv_goto hx hb d_T_isWithin_16 (tgt := 20) (by decide) ?_
    rw [hQ]
    exact W.zret (v := 1) hx hb hr rfl (fun t ht hW => ⟨⟨1, (), rfl, hwp, hp_of ht hP⟩, hS.F ht⟩) hS.2.2 d_T_isWithin_20

set_option maxHeartbeats 4000000 in
set_option maxRecDepth 100000 in
theorem c_T_abortUncommitted {l : Launch} {dC : Nat → ClassId} {dI : Nat → Nat → Nat} {cI cL cZ : ClassId} {q : Nat → Nat} (hq : iN q) (A : S_A) (D : S_D) (G : S_G) (K : S_K) (N : S_N) (P : S_P) (T : S_T)  (post : S_T → Prop) (hwp : wp_T_abortUncommitted T post) : Met l y_T_abortUncommitted ws_T_abortUncommitted rm_T_abortUncommitted (va_Pc [.ref (q 1)] (bN dC dI cI cL cZ q A D G K N P T)) (va_Qv (fun (u : S_T) => post u) (fun u t => va_P (dC, dI) clZ (wN cI cL cZ q A D G K N P (u)) t.heap) (aN q)) 0 0 (aN q) := by
  refine Met.ofW (cc := b_T_abortUncommitted) (maxL := 2) (ret := none) (by decide) rfl ?_
  intro p e s m args below meth c s₁ B hml hv
  obtain ⟨rfl, hP, hK⟩ := hv
  have hx := B.exec
  have hb := B.bytes
  have hr := B.returns
  have hts := atoms_spec (ws := ws_T_abortUncommitted) B.pre
  have hown : s.vm.findClass R_T = some m.cls := findClass_of_methodNamed B.named
  have hlocks := B.notSynchronized
  have hiT : ∀ w ∈ u_ws R_T F_T 11, w ∈ ws_T_abortUncommitted := fun w h => List.mem_cons_of_mem _ (in_T w h)
  have lk15 := hts _ (List.mem_cons_of_mem _ k_T_15)
  have lk21 := hts _ (List.mem_cons_of_mem _ k_T_21)
  have lk43 := hts _ (List.mem_cons_of_mem _ k_T_43)
  have hS : va_S (aN q) s.heap s.heap [] := va_S.rf
  have hl := lv_entry ([.ref (q 1)]) (n := 2) (Nat.le_of_ble_eq_true rfl)
  rw [lg_entry_eq]
  generalize (lg_sl ([.ref (q 1)]) ++ List.replicate (2 - (lg_sl ([.ref (q 1)])).length) Slot.unset).toArray = ls at hl ⊢
  have hl : lv_has ls 2 [(0, .ref (q 1))] := hl
  obtain ⟨Q, hQ⟩ : ∃ Q, Q = MQ below (va_Qv (fun (u : S_T) => post u) (fun u t => va_P (dC, dI) clZ (wN cI cL cZ q A D G K N P (u)) t.heap) (aN q)) ([.ref (q 1)]).toArray s 0 0 (aN q) := ⟨_, rfl⟩
  rw [← hQ]
  have L2 : ∀ (Kx : S_T → Prop) (A : S_A) (D : S_D) (G : S_G) (K : S_K) (N : S_N) (P : S_P) (n : Nat) (v1 : Int32) (T : S_T) (H : Heap) (locs : List Loc) (ls : Array Slot), lv_has ls 2 [(0, .ref (q 1)), (1, .int v1)] → va_P (dC, dI) clZ (wN cI cL cZ q A D G K N P T) H → va_S (aN q) s.heap H locs → wp_T_abortUncommitted_L2 Kx n v1 T → (∀ (T1 : S_T) (H : Heap) (locs : List Loc) (ls : Array Slot), lv_has ls 2 [] → va_P (dC, dI) clZ (wN cI cL cZ q A D G K N P T1) H → va_S (aN q) s.heap H locs → Kx T1 → W p l e (headSpec ws_T_abortUncommitted rm_T_abortUncommitted).room s m ([.ref (q 1)]).toArray below meth c H locs 0 0 Q (F0 m 38 ls [])) → W p l e (headSpec ws_T_abortUncommitted rm_T_abortUncommitted).room s m ([.ref (q 1)]).toArray below meth c H locs 0 0 Q (F0 m 2 ls []) := by
    intro Kx A D G K N P n
    induction n with
    | zero =>
      intros
      rename_i hwp _
      exact hwp.elim
    | succ n2 ih =>
      intro v1 T H locs ls hl hP hS hwp hX
      rw [wp_T_abortUncommitted_L2] at hwp
      refine lv_iload_n hx hb d_T_abortUncommitted_2 rfl (lv_at hl 1 rfl) ?_
      refine lv_aload_n hx hb d_T_abortUncommitted_3 rfl (lv_at hl 0 rfl) ?_
      refine va_get (D := (dC, dI)) (ci := 1) (v := .int (T_count T)) (C := R_T) (T := F_T) (N := 11) hx hb hts hiT hown hK hP 1 rfl rfl 0 (by decide) lk43 (fun _ h9 => h9) rfl d_T_abortUncommitted_4 ?_
      refine lv_icmp_ge (tgt := 38) hx hb d_T_abortUncommitted_7 (by decide) (fun hc => ?_) (fun hc => ?_)
      · rw [if_pos hc] at hwp
        exact hX (T) _ _ _ (lv_sub hl [] rfl) hP hS hwp
      · rw [if_neg hc] at hwp
        refine lv_aload_n hx hb d_T_abortUncommitted_10 rfl (lv_at hl 0 rfl) ?_
        refine va_get (D := (dC, dI)) (ci := 1) (v := .ref (q 10)) (C := R_T) (T := F_T) (N := 11) hx hb hts hiT hown hK hP 1 rfl rfl 4 (by decide) lk21 (fun _ h9 => h9) rfl d_T_abortUncommitted_11 ?_
        refine lv_aload_n hx hb d_T_abortUncommitted_14 rfl (lv_at hl 0 rfl) ?_
        refine va_get (D := (dC, dI)) (ci := 1) (v := .ref (q 8)) (C := R_T) (T := F_T) (N := 11) hx hb hts hiT hown hK hP 1 rfl rfl 2 (by decide) lk15 (fun _ h9 => h9) rfl d_T_abortUncommitted_15 ?_
        refine lv_iload_n hx hb d_T_abortUncommitted_18 rfl (lv_at hl 1 rfl) ?_
        refine va_iald hx hb hK hP 8 0 rfl rfl hwp.1 d_T_abortUncommitted_19 ?_
        have hwp := hwp.2
        refine va_iald hx hb hK hP 10 0 rfl rfl hwp.1 d_T_abortUncommitted_20 ?_
        have hwp := hwp.2
        refine lv_iconst (v := 3) hx hb d_T_abortUncommitted_21 (by decide) ?_
        refine lv_icmp_eq (tgt := 32) hx hb d_T_abortUncommitted_22 (by decide) (fun hc => ?_) (fun hc => ?_)
        · rw [if_pos hc] at hwp
          refine lv_iinc (k := 1) (v := (v1 + 1)) (lv' := [(1, .int (v1 + 1)), (0, .ref (q 1))]) hx hb d_T_abortUncommitted_32 hl rfl (ii_1 _) (by decide) rfl (fun ls hl => ?_)
          refine lv_goto hx hb d_T_abortUncommitted_35 (tgt := 2) (by decide) ?_
          exact ih ((v1 + 1)) (T) _ _ _ (lv_sub hl [1, 0] rfl) hP hS hwp hX
        · rw [if_neg hc] at hwp
          refine lv_aload_n hx hb d_T_abortUncommitted_25 rfl (lv_at hl 0 rfl) ?_
          refine va_get (D := (dC, dI)) (ci := 1) (v := .ref (q 10)) (C := R_T) (T := F_T) (N := 11) hx hb hts hiT hown hK hP 1 rfl rfl 4 (by decide) lk21 (fun _ h9 => h9) rfl d_T_abortUncommitted_26 ?_
          refine lv_iload_n hx hb d_T_abortUncommitted_29 rfl (lv_at hl 1 rfl) ?_
          refine lv_iconst (v := 4) hx hb d_T_abortUncommitted_30 (by decide) ?_
          refine va_iast hx hb hK hP (dN hq) hS 10 0 rfl rfl hwp.1 d_T_abortUncommitted_31 (fun H locs hP _ hS => ?_)
          have hwp := hwp.2
          have hP : va_P (dC, dI) clZ (wN cI cL cZ q A D G K N P (T_state' T (upd (T_state T) (Int32.toNatClampNeg v1) 4))) H := hP
          refine lv_iinc (k := 1) (v := (v1 + 1)) (lv' := [(1, .int (v1 + 1)), (0, .ref (q 1))]) hx hb d_T_abortUncommitted_32 hl rfl (ii_1 _) (by decide) rfl (fun ls hl => ?_)
          refine lv_goto hx hb d_T_abortUncommitted_35 (tgt := 2) (by decide) ?_
          exact ih ((v1 + 1)) ((T_state' T (upd (T_state T) (Int32.toNatClampNeg v1) 4))) _ _ _ (lv_sub hl [1, 0] rfl) hP hS hwp hX
  rw [wp_T_abortUncommitted] at hwp
  refine lv_iconst (v := 0) hx hb d_T_abortUncommitted_0 (by decide) ?_
  refine lv_istore_n (lv' := [(1, .int 0), (0, .ref (q 1))]) hx hb d_T_abortUncommitted_1 rfl hl (by decide) rfl (fun ls hl => ?_)
  obtain ⟨e2, hwp⟩ := hwp
  refine L2 _ (A) (D) (G) (K) (N) (P) e2 (0) (T) _ _ _ (lv_sub hl [1, 0] rfl) hP hS hwp (fun T1 H locs ls hl hP hS hwp => ?_)
  rw [hQ]
  exact W.vret hx hb hr (fun t ht hW => ⟨⟨T1, rfl, hwp, hp_of ht hP⟩, hS.F ht⟩) hS.2.2 d_T_abortUncommitted_38
end
