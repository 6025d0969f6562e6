section
-- ===== PART A: goes FIRST, ahead of the names: the tables' words, and 'selects' of the private methods out of them =====
/-- a private method of a class that the tables say can be made, by its rows of tables_1 -/
def lw_okq (q : MethodName × Nat) : Prop := (q.1.cls ≠ "java/lang/invoke/MethodHandle" ∧ q.1.cls ≠ "java/lang/invoke/VarHandle") ∧ Cond.instantiable q.1.cls q.2 ∈ tables_1 ∧ Cond.privateMethod q.1 ∈ tables_1 ∧ Cond.instanceMethod q.1 ∈ tables_1
theorem lw_p0 : lw_okq (⟨"GodChips", "freshTrial", "()LGodChips$Memory;"⟩, 5) := ⟨⟨by decide +kernel, by decide +kernel⟩, List.mem_of_getElem? (i := 9) (by decide +kernel), List.mem_of_getElem? (i := 156) (by decide +kernel), List.mem_of_getElem? (i := 157) (by decide +kernel)⟩
theorem lw_p1 : lw_okq (⟨"GodChips", "settle", "(I)I"⟩, 5) := ⟨⟨by decide +kernel, by decide +kernel⟩, List.mem_of_getElem? (i := 9) (by decide +kernel), List.mem_of_getElem? (i := 176) (by decide +kernel), List.mem_of_getElem? (i := 177) (by decide +kernel)⟩
theorem lw_p2 : lw_okq (⟨"GodChips", "remember", "()V"⟩, 5) := ⟨⟨by decide +kernel, by decide +kernel⟩, List.mem_of_getElem? (i := 9) (by decide +kernel), List.mem_of_getElem? (i := 180) (by decide +kernel), List.mem_of_getElem? (i := 181) (by decide +kernel)⟩
theorem lw_p3 : lw_okq (⟨"GodChips$Memory", "loseWaiting", "(II)I"⟩, 18) := ⟨⟨by decide +kernel, by decide +kernel⟩, List.mem_of_getElem? (i := 18) (by decide +kernel), List.mem_of_getElem? (i := 227) (by decide +kernel), List.mem_of_getElem? (i := 228) (by decide +kernel)⟩
theorem lw_p4 : lw_okq (⟨"GodChips$Memory", "leaveQueue", "(I)V"⟩, 18) := ⟨⟨by decide +kernel, by decide +kernel⟩, List.mem_of_getElem? (i := 18) (by decide +kernel), List.mem_of_getElem? (i := 231) (by decide +kernel), List.mem_of_getElem? (i := 232) (by decide +kernel)⟩
theorem lw_p5 : lw_okq (⟨"GodChips$Memory", "loseUnlessSummed", "(I)I"⟩, 18) := ⟨⟨by decide +kernel, by decide +kernel⟩, List.mem_of_getElem? (i := 18) (by decide +kernel), List.mem_of_getElem? (i := 235) (by decide +kernel), List.mem_of_getElem? (i := 236) (by decide +kernel)⟩
theorem lw_p6 : lw_okq (⟨"GodChips$Memory", "takeFromChip", "(I)V"⟩, 18) := ⟨⟨by decide +kernel, by decide +kernel⟩, List.mem_of_getElem? (i := 18) (by decide +kernel), List.mem_of_getElem? (i := 239) (by decide +kernel), List.mem_of_getElem? (i := 240) (by decide +kernel)⟩
theorem lw_p7 : lw_okq (⟨"GodChips$Memory", "letWait", "(I)V"⟩, 18) := ⟨⟨by decide +kernel, by decide +kernel⟩, List.mem_of_getElem? (i := 18) (by decide +kernel), List.mem_of_getElem? (i := 243) (by decide +kernel), List.mem_of_getElem? (i := 244) (by decide +kernel)⟩
theorem lw_p8 : lw_okq (⟨"GodChips$Memory", "keepAtLowest", "(II)V"⟩, 18) := ⟨⟨by decide +kernel, by decide +kernel⟩, List.mem_of_getElem? (i := 18) (by decide +kernel), List.mem_of_getElem? (i := 300) (by decide +kernel), List.mem_of_getElem? (i := 301) (by decide +kernel)⟩
theorem lw_p9 : lw_okq (⟨"GodChips$Memory", "raiseFirst", "(I)V"⟩, 18) := ⟨⟨by decide +kernel, by decide +kernel⟩, List.mem_of_getElem? (i := 18) (by decide +kernel), List.mem_of_getElem? (i := 376) (by decide +kernel), List.mem_of_getElem? (i := 377) (by decide +kernel)⟩
theorem lw_p10 : lw_okq (⟨"GodChips", "lostBy", "(II)I"⟩, 5) := ⟨⟨by decide +kernel, by decide +kernel⟩, List.mem_of_getElem? (i := 9) (by decide +kernel), List.mem_of_getElem? (i := 384) (by decide +kernel), List.mem_of_getElem? (i := 385) (by decide +kernel)⟩
theorem lw_p11 : lw_okq (⟨"GodChips$Orders", "readOrder", "()Z"⟩, 8) := ⟨⟨by decide +kernel, by decide +kernel⟩, List.mem_of_getElem? (i := 100) (by decide +kernel), List.mem_of_getElem? (i := 445) (by decide +kernel), List.mem_of_getElem? (i := 446) (by decide +kernel)⟩
theorem lw_p12 : lw_okq (⟨"GodChips$Orders", "readNumber", "()I"⟩, 8) := ⟨⟨by decide +kernel, by decide +kernel⟩, List.mem_of_getElem? (i := 100) (by decide +kernel), List.mem_of_getElem? (i := 449) (by decide +kernel), List.mem_of_getElem? (i := 450) (by decide +kernel)⟩
theorem lw_p13 : lw_okq (⟨"GodChips$Orders", "skip", "(C)Z"⟩, 8) := ⟨⟨by decide +kernel, by decide +kernel⟩, List.mem_of_getElem? (i := 100) (by decide +kernel), List.mem_of_getElem? (i := 453) (by decide +kernel), List.mem_of_getElem? (i := 454) (by decide +kernel)⟩
theorem lw_p14 : lw_okq (⟨"GodChips$Orders", "doOrder", "(LGodChips$Memory;)I"⟩, 8) := ⟨⟨by decide +kernel, by decide +kernel⟩, List.mem_of_getElem? (i := 100) (by decide +kernel), List.mem_of_getElem? (i := 458) (by decide +kernel), List.mem_of_getElem? (i := 459) (by decide +kernel)⟩
theorem lw_p15 : lw_okq (⟨"GodChipsModel", "keeps", "()V"⟩, 11) := ⟨⟨by decide +kernel, by decide +kernel⟩, List.mem_of_getElem? (i := 473) (by decide +kernel), List.mem_of_getElem? (i := 522) (by decide +kernel), List.mem_of_getElem? (i := 523) (by decide +kernel)⟩
def lw_privs_1 : List (MethodName × Nat) := [(⟨"GodChips", "freshTrial", "()LGodChips$Memory;"⟩, 5), (⟨"GodChips", "settle", "(I)I"⟩, 5), (⟨"GodChips", "remember", "()V"⟩, 5), (⟨"GodChips$Memory", "loseWaiting", "(II)I"⟩, 18), (⟨"GodChips$Memory", "leaveQueue", "(I)V"⟩, 18), (⟨"GodChips$Memory", "loseUnlessSummed", "(I)I"⟩, 18), (⟨"GodChips$Memory", "takeFromChip", "(I)V"⟩, 18), (⟨"GodChips$Memory", "letWait", "(I)V"⟩, 18), (⟨"GodChips$Memory", "keepAtLowest", "(II)V"⟩, 18), (⟨"GodChips$Memory", "raiseFirst", "(I)V"⟩, 18), (⟨"GodChips", "lostBy", "(II)I"⟩, 5), (⟨"GodChips$Orders", "readOrder", "()Z"⟩, 8), (⟨"GodChips$Orders", "readNumber", "()I"⟩, 8), (⟨"GodChips$Orders", "skip", "(C)Z"⟩, 8), (⟨"GodChips$Orders", "doOrder", "(LGodChips$Memory;)I"⟩, 8), (⟨"GodChipsModel", "keeps", "()V"⟩, 11)]
theorem lw_r1 : ∀ q ∈ lw_privs_1, lw_okq q := List.forall_mem_cons.mpr ⟨lw_p0, List.forall_mem_cons.mpr ⟨lw_p1, List.forall_mem_cons.mpr ⟨lw_p2, List.forall_mem_cons.mpr ⟨lw_p3, List.forall_mem_cons.mpr ⟨lw_p4, List.forall_mem_cons.mpr ⟨lw_p5, List.forall_mem_cons.mpr ⟨lw_p6, List.forall_mem_cons.mpr ⟨lw_p7, List.forall_mem_cons.mpr ⟨lw_p8, List.forall_mem_cons.mpr ⟨lw_p9, List.forall_mem_cons.mpr ⟨lw_p10, List.forall_mem_cons.mpr ⟨lw_p11, List.forall_mem_cons.mpr ⟨lw_p12, List.forall_mem_cons.mpr ⟨lw_p13, List.forall_mem_cons.mpr ⟨lw_p14, List.forall_mem_cons.mpr ⟨lw_p15, fun _ h => absurd h List.not_mem_nil⟩⟩⟩⟩⟩⟩⟩⟩⟩⟩⟩⟩⟩⟩⟩⟩
theorem lw_p16 : lw_okq (⟨"GodChipsModel", "acted", "(I)I"⟩, 11) := ⟨⟨by decide +kernel, by decide +kernel⟩, List.mem_of_getElem? (i := 473) (by decide +kernel), List.mem_of_getElem? (i := 526) (by decide +kernel), List.mem_of_getElem? (i := 527) (by decide +kernel)⟩
theorem lw_p17 : lw_okq (⟨"GodChipsModel", "elects", "(I)I"⟩, 11) := ⟨⟨by decide +kernel, by decide +kernel⟩, List.mem_of_getElem? (i := 473) (by decide +kernel), List.mem_of_getElem? (i := 534) (by decide +kernel), List.mem_of_getElem? (i := 535) (by decide +kernel)⟩
theorem lw_p18 : lw_okq (⟨"GodChipsModel", "isChip", "(I)Z"⟩, 11) := ⟨⟨by decide +kernel, by decide +kernel⟩, List.mem_of_getElem? (i := 473) (by decide +kernel), List.mem_of_getElem? (i := 538) (by decide +kernel), List.mem_of_getElem? (i := 539) (by decide +kernel)⟩
theorem lw_p19 : lw_okq (⟨"GodChipsModel", "lives", "(I)Z"⟩, 11) := ⟨⟨by decide +kernel, by decide +kernel⟩, List.mem_of_getElem? (i := 473) (by decide +kernel), List.mem_of_getElem? (i := 542) (by decide +kernel), List.mem_of_getElem? (i := 543) (by decide +kernel)⟩
theorem lw_p20 : lw_okq (⟨"GodChipsModel", "ch", "(II)I"⟩, 11) := ⟨⟨by decide +kernel, by decide +kernel⟩, List.mem_of_getElem? (i := 473) (by decide +kernel), List.mem_of_getElem? (i := 546) (by decide +kernel), List.mem_of_getElem? (i := 547) (by decide +kernel)⟩
theorem lw_p21 : lw_okq (⟨"GodChipsModel", "words", "(I)I"⟩, 11) := ⟨⟨by decide +kernel, by decide +kernel⟩, List.mem_of_getElem? (i := 473) (by decide +kernel), List.mem_of_getElem? (i := 550) (by decide +kernel), List.mem_of_getElem? (i := 551) (by decide +kernel)⟩
theorem lw_p22 : lw_okq (⟨"GodChipsModel", "kept", "(II)I"⟩, 11) := ⟨⟨by decide +kernel, by decide +kernel⟩, List.mem_of_getElem? (i := 473) (by decide +kernel), List.mem_of_getElem? (i := 554) (by decide +kernel), List.mem_of_getElem? (i := 555) (by decide +kernel)⟩
theorem lw_p23 : lw_okq (⟨"GodChipsModel", "wd", "(II)I"⟩, 11) := ⟨⟨by decide +kernel, by decide +kernel⟩, List.mem_of_getElem? (i := 473) (by decide +kernel), List.mem_of_getElem? (i := 558) (by decide +kernel), List.mem_of_getElem? (i := 559) (by decide +kernel)⟩
theorem lw_p24 : lw_okq (⟨"GodChipsModel", "guarded", "(I)I"⟩, 11) := ⟨⟨by decide +kernel, by decide +kernel⟩, List.mem_of_getElem? (i := 473) (by decide +kernel), List.mem_of_getElem? (i := 563) (by decide +kernel), List.mem_of_getElem? (i := 564) (by decide +kernel)⟩
theorem lw_p25 : lw_okq (⟨"GodChipsModel", "isGuarded", "(II)Z"⟩, 11) := ⟨⟨by decide +kernel, by decide +kernel⟩, List.mem_of_getElem? (i := 473) (by decide +kernel), List.mem_of_getElem? (i := 567) (by decide +kernel), List.mem_of_getElem? (i := 568) (by decide +kernel)⟩
theorem lw_p26 : lw_okq (⟨"GodChipsModel", "isWhole", "(II)Z"⟩, 11) := ⟨⟨by decide +kernel, by decide +kernel⟩, List.mem_of_getElem? (i := 473) (by decide +kernel), List.mem_of_getElem? (i := 571) (by decide +kernel), List.mem_of_getElem? (i := 572) (by decide +kernel)⟩
theorem lw_p27 : lw_okq (⟨"GodChipsModel", "kills", "(I)I"⟩, 11) := ⟨⟨by decide +kernel, by decide +kernel⟩, List.mem_of_getElem? (i := 473) (by decide +kernel), List.mem_of_getElem? (i := 582) (by decide +kernel), List.mem_of_getElem? (i := 583) (by decide +kernel)⟩
theorem lw_p28 : lw_okq (⟨"GodChipsModel", "lost", "()I"⟩, 11) := ⟨⟨by decide +kernel, by decide +kernel⟩, List.mem_of_getElem? (i := 473) (by decide +kernel), List.mem_of_getElem? (i := 586) (by decide +kernel), List.mem_of_getElem? (i := 587) (by decide +kernel)⟩
theorem lw_p29 : lw_okq (⟨"GodChipsModel", "isGodfather", "(I)Z"⟩, 11) := ⟨⟨by decide +kernel, by decide +kernel⟩, List.mem_of_getElem? (i := 473) (by decide +kernel), List.mem_of_getElem? (i := 590) (by decide +kernel), List.mem_of_getElem? (i := 591) (by decide +kernel)⟩
theorem lw_p30 : lw_okq (⟨"GodChipsModel", "falls", "(IZ)V"⟩, 11) := ⟨⟨by decide +kernel, by decide +kernel⟩, List.mem_of_getElem? (i := 473) (by decide +kernel), List.mem_of_getElem? (i := 594) (by decide +kernel), List.mem_of_getElem? (i := 595) (by decide +kernel)⟩
theorem lw_p31 : lw_okq (⟨"GodChipsModel", "waiting", "(II)I"⟩, 11) := ⟨⟨by decide +kernel, by decide +kernel⟩, List.mem_of_getElem? (i := 473) (by decide +kernel), List.mem_of_getElem? (i := 598) (by decide +kernel), List.mem_of_getElem? (i := 599) (by decide +kernel)⟩
def lw_privs_2 : List (MethodName × Nat) := [(⟨"GodChipsModel", "acted", "(I)I"⟩, 11), (⟨"GodChipsModel", "elects", "(I)I"⟩, 11), (⟨"GodChipsModel", "isChip", "(I)Z"⟩, 11), (⟨"GodChipsModel", "lives", "(I)Z"⟩, 11), (⟨"GodChipsModel", "ch", "(II)I"⟩, 11), (⟨"GodChipsModel", "words", "(I)I"⟩, 11), (⟨"GodChipsModel", "kept", "(II)I"⟩, 11), (⟨"GodChipsModel", "wd", "(II)I"⟩, 11), (⟨"GodChipsModel", "guarded", "(I)I"⟩, 11), (⟨"GodChipsModel", "isGuarded", "(II)Z"⟩, 11), (⟨"GodChipsModel", "isWhole", "(II)Z"⟩, 11), (⟨"GodChipsModel", "kills", "(I)I"⟩, 11), (⟨"GodChipsModel", "lost", "()I"⟩, 11), (⟨"GodChipsModel", "isGodfather", "(I)Z"⟩, 11), (⟨"GodChipsModel", "falls", "(IZ)V"⟩, 11), (⟨"GodChipsModel", "waiting", "(II)I"⟩, 11)]
theorem lw_r2 : ∀ q ∈ lw_privs_2, lw_okq q := List.forall_mem_cons.mpr ⟨lw_p16, List.forall_mem_cons.mpr ⟨lw_p17, List.forall_mem_cons.mpr ⟨lw_p18, List.forall_mem_cons.mpr ⟨lw_p19, List.forall_mem_cons.mpr ⟨lw_p20, List.forall_mem_cons.mpr ⟨lw_p21, List.forall_mem_cons.mpr ⟨lw_p22, List.forall_mem_cons.mpr ⟨lw_p23, List.forall_mem_cons.mpr ⟨lw_p24, List.forall_mem_cons.mpr ⟨lw_p25, List.forall_mem_cons.mpr ⟨lw_p26, List.forall_mem_cons.mpr ⟨lw_p27, List.forall_mem_cons.mpr ⟨lw_p28, List.forall_mem_cons.mpr ⟨lw_p29, List.forall_mem_cons.mpr ⟨lw_p30, List.forall_mem_cons.mpr ⟨lw_p31, fun _ h => absurd h List.not_mem_nil⟩⟩⟩⟩⟩⟩⟩⟩⟩⟩⟩⟩⟩⟩⟩⟩
theorem lw_p32 : lw_okq (⟨"GodChipsModel", "lays", "(III)V"⟩, 11) := ⟨⟨by decide +kernel, by decide +kernel⟩, List.mem_of_getElem? (i := 473) (by decide +kernel), List.mem_of_getElem? (i := 602) (by decide +kernel), List.mem_of_getElem? (i := 603) (by decide +kernel)⟩
theorem lw_p33 : lw_okq (⟨"GodChipsModel", "waitsNow", "(I)V"⟩, 11) := ⟨⟨by decide +kernel, by decide +kernel⟩, List.mem_of_getElem? (i := 473) (by decide +kernel), List.mem_of_getElem? (i := 606) (by decide +kernel), List.mem_of_getElem? (i := 607) (by decide +kernel)⟩
theorem lw_p34 : lw_okq (⟨"GodChipsModel", "breaksOne", "(II)I"⟩, 11) := ⟨⟨by decide +kernel, by decide +kernel⟩, List.mem_of_getElem? (i := 473) (by decide +kernel), List.mem_of_getElem? (i := 614) (by decide +kernel), List.mem_of_getElem? (i := 615) (by decide +kernel)⟩
theorem lw_p35 : lw_okq (⟨"GodChipsModel", "places", "(I)I"⟩, 11) := ⟨⟨by decide +kernel, by decide +kernel⟩, List.mem_of_getElem? (i := 473) (by decide +kernel), List.mem_of_getElem? (i := 622) (by decide +kernel), List.mem_of_getElem? (i := 623) (by decide +kernel)⟩
theorem lw_p36 : lw_okq (⟨"GodChipsModel", "isPlace", "(II)Z"⟩, 11) := ⟨⟨by decide +kernel, by decide +kernel⟩, List.mem_of_getElem? (i := 473) (by decide +kernel), List.mem_of_getElem? (i := 626) (by decide +kernel), List.mem_of_getElem? (i := 627) (by decide +kernel)⟩
theorem lw_p37 : lw_okq (⟨"GodChipsModel", "sum", "(II)I"⟩, 11) := ⟨⟨by decide +kernel, by decide +kernel⟩, List.mem_of_getElem? (i := 473) (by decide +kernel), List.mem_of_getElem? (i := 634) (by decide +kernel), List.mem_of_getElem? (i := 635) (by decide +kernel)⟩
theorem lw_p38 : lw_okq (⟨"GodChipsModel", "putsOne", "(II)I"⟩, 11) := ⟨⟨by decide +kernel, by decide +kernel⟩, List.mem_of_getElem? (i := 473) (by decide +kernel), List.mem_of_getElem? (i := 643) (by decide +kernel), List.mem_of_getElem? (i := 644) (by decide +kernel)⟩
theorem lw_p39 : lw_okq (⟨"GodChipsModel", "lowest", "(I)I"⟩, 11) := ⟨⟨by decide +kernel, by decide +kernel⟩, List.mem_of_getElem? (i := 473) (by decide +kernel), List.mem_of_getElem? (i := 647) (by decide +kernel), List.mem_of_getElem? (i := 648) (by decide +kernel)⟩
theorem lw_p40 : lw_okq (⟨"GodChipsModel", "sits", "(III)V"⟩, 11) := ⟨⟨by decide +kernel, by decide +kernel⟩, List.mem_of_getElem? (i := 473) (by decide +kernel), List.mem_of_getElem? (i := 651) (by decide +kernel), List.mem_of_getElem? (i := 652) (by decide +kernel)⟩
theorem lw_p41 : lw_okq (⟨"GodChipsModel", "isWord", "(I)Z"⟩, 11) := ⟨⟨by decide +kernel, by decide +kernel⟩, List.mem_of_getElem? (i := 473) (by decide +kernel), List.mem_of_getElem? (i := 659) (by decide +kernel), List.mem_of_getElem? (i := 660) (by decide +kernel)⟩
theorem lw_p42 : lw_okq (⟨"GodChipsModel", "empties", "(I)I"⟩, 11) := ⟨⟨by decide +kernel, by decide +kernel⟩, List.mem_of_getElem? (i := 473) (by decide +kernel), List.mem_of_getElem? (i := 675) (by decide +kernel), List.mem_of_getElem? (i := 676) (by decide +kernel)⟩
theorem lw_p43 : lw_okq (⟨"GodChipsModel", "target", "(II)I"⟩, 11) := ⟨⟨by decide +kernel, by decide +kernel⟩, List.mem_of_getElem? (i := 473) (by decide +kernel), List.mem_of_getElem? (i := 679) (by decide +kernel), List.mem_of_getElem? (i := 680) (by decide +kernel)⟩
theorem lw_p44 : lw_okq (⟨"GodChipsModel", "ahead", "(I)I"⟩, 11) := ⟨⟨by decide +kernel, by decide +kernel⟩, List.mem_of_getElem? (i := 473) (by decide +kernel), List.mem_of_getElem? (i := 687) (by decide +kernel), List.mem_of_getElem? (i := 688) (by decide +kernel)⟩
theorem lw_p45 : lw_okq (⟨"GodChipsModel", "many", "(IIZ)I"⟩, 11) := ⟨⟨by decide +kernel, by decide +kernel⟩, List.mem_of_getElem? (i := 473) (by decide +kernel), List.mem_of_getElem? (i := 695) (by decide +kernel), List.mem_of_getElem? (i := 696) (by decide +kernel)⟩
theorem lw_p46 : lw_okq (⟨"GodChipsModel", "firstOf", "(I)I"⟩, 11) := ⟨⟨by decide +kernel, by decide +kernel⟩, List.mem_of_getElem? (i := 473) (by decide +kernel), List.mem_of_getElem? (i := 699) (by decide +kernel), List.mem_of_getElem? (i := 700) (by decide +kernel)⟩
theorem lw_p47 : lw_okq (⟨"GodChipsModel", "ticks", "(I)I"⟩, 11) := ⟨⟨by decide +kernel, by decide +kernel⟩, List.mem_of_getElem? (i := 473) (by decide +kernel), List.mem_of_getElem? (i := 707) (by decide +kernel), List.mem_of_getElem? (i := 708) (by decide +kernel)⟩
def lw_privs_3 : List (MethodName × Nat) := [(⟨"GodChipsModel", "lays", "(III)V"⟩, 11), (⟨"GodChipsModel", "waitsNow", "(I)V"⟩, 11), (⟨"GodChipsModel", "breaksOne", "(II)I"⟩, 11), (⟨"GodChipsModel", "places", "(I)I"⟩, 11), (⟨"GodChipsModel", "isPlace", "(II)Z"⟩, 11), (⟨"GodChipsModel", "sum", "(II)I"⟩, 11), (⟨"GodChipsModel", "putsOne", "(II)I"⟩, 11), (⟨"GodChipsModel", "lowest", "(I)I"⟩, 11), (⟨"GodChipsModel", "sits", "(III)V"⟩, 11), (⟨"GodChipsModel", "isWord", "(I)Z"⟩, 11), (⟨"GodChipsModel", "empties", "(I)I"⟩, 11), (⟨"GodChipsModel", "target", "(II)I"⟩, 11), (⟨"GodChipsModel", "ahead", "(I)I"⟩, 11), (⟨"GodChipsModel", "many", "(IIZ)I"⟩, 11), (⟨"GodChipsModel", "firstOf", "(I)I"⟩, 11), (⟨"GodChipsModel", "ticks", "(I)I"⟩, 11)]
theorem lw_r3 : ∀ q ∈ lw_privs_3, lw_okq q := List.forall_mem_cons.mpr ⟨lw_p32, List.forall_mem_cons.mpr ⟨lw_p33, List.forall_mem_cons.mpr ⟨lw_p34, List.forall_mem_cons.mpr ⟨lw_p35, List.forall_mem_cons.mpr ⟨lw_p36, List.forall_mem_cons.mpr ⟨lw_p37, List.forall_mem_cons.mpr ⟨lw_p38, List.forall_mem_cons.mpr ⟨lw_p39, List.forall_mem_cons.mpr ⟨lw_p40, List.forall_mem_cons.mpr ⟨lw_p41, List.forall_mem_cons.mpr ⟨lw_p42, List.forall_mem_cons.mpr ⟨lw_p43, List.forall_mem_cons.mpr ⟨lw_p44, List.forall_mem_cons.mpr ⟨lw_p45, List.forall_mem_cons.mpr ⟨lw_p46, List.forall_mem_cons.mpr ⟨lw_p47, fun _ h => absurd h List.not_mem_nil⟩⟩⟩⟩⟩⟩⟩⟩⟩⟩⟩⟩⟩⟩⟩⟩
theorem lw_p48 : lw_okq (⟨"GodChipsModel", "tickOne", "()I"⟩, 11) := ⟨⟨by decide +kernel, by decide +kernel⟩, List.mem_of_getElem? (i := 473) (by decide +kernel), List.mem_of_getElem? (i := 712) (by decide +kernel), List.mem_of_getElem? (i := 713) (by decide +kernel)⟩
theorem lw_p49 : lw_okq (⟨"GodChipsModel", "raises", "(I)Z"⟩, 11) := ⟨⟨by decide +kernel, by decide +kernel⟩, List.mem_of_getElem? (i := 473) (by decide +kernel), List.mem_of_getElem? (i := 716) (by decide +kernel), List.mem_of_getElem? (i := 717) (by decide +kernel)⟩
theorem lw_p50 : lw_okq (⟨"GodChipsModel", "lossOf", "(II)I"⟩, 11) := ⟨⟨by decide +kernel, by decide +kernel⟩, List.mem_of_getElem? (i := 473) (by decide +kernel), List.mem_of_getElem? (i := 724) (by decide +kernel), List.mem_of_getElem? (i := 725) (by decide +kernel)⟩
theorem lw_p51 : lw_okq (⟨"GodChipsModel", "puts", "()V"⟩, 11) := ⟨⟨by decide +kernel, by decide +kernel⟩, List.mem_of_getElem? (i := 473) (by decide +kernel), List.mem_of_getElem? (i := 728) (by decide +kernel), List.mem_of_getElem? (i := 729) (by decide +kernel)⟩
theorem lw_p52 : lw_okq (⟨"GodChipsModel", "restores", "()V"⟩, 11) := ⟨⟨by decide +kernel, by decide +kernel⟩, List.mem_of_getElem? (i := 473) (by decide +kernel), List.mem_of_getElem? (i := 732) (by decide +kernel), List.mem_of_getElem? (i := 733) (by decide +kernel)⟩
theorem lw_p53 : lw_okq (⟨"GodChipsModel", "faulty", "()I"⟩, 11) := ⟨⟨by decide +kernel, by decide +kernel⟩, List.mem_of_getElem? (i := 473) (by decide +kernel), List.mem_of_getElem? (i := 772) (by decide +kernel), List.mem_of_getElem? (i := 773) (by decide +kernel)⟩
theorem lw_p54 : lw_okq (⟨"GodChipsModel", "doesNext", "()I"⟩, 11) := ⟨⟨by decide +kernel, by decide +kernel⟩, List.mem_of_getElem? (i := 473) (by decide +kernel), List.mem_of_getElem? (i := 776) (by decide +kernel), List.mem_of_getElem? (i := 777) (by decide +kernel)⟩
theorem lw_p55 : lw_okq (⟨"GodChipsModel", "readsForm", "(C)Z"⟩, 11) := ⟨⟨by decide +kernel, by decide +kernel⟩, List.mem_of_getElem? (i := 473) (by decide +kernel), List.mem_of_getElem? (i := 780) (by decide +kernel), List.mem_of_getElem? (i := 781) (by decide +kernel)⟩
theorem lw_p56 : lw_okq (⟨"GodChipsModel", "number", "(I)Z"⟩, 11) := ⟨⟨by decide +kernel, by decide +kernel⟩, List.mem_of_getElem? (i := 473) (by decide +kernel), List.mem_of_getElem? (i := 784) (by decide +kernel), List.mem_of_getElem? (i := 785) (by decide +kernel)⟩
theorem lw_p57 : lw_okq (⟨"GodChipsModel", "has", "(C)Z"⟩, 11) := ⟨⟨by decide +kernel, by decide +kernel⟩, List.mem_of_getElem? (i := 473) (by decide +kernel), List.mem_of_getElem? (i := 788) (by decide +kernel), List.mem_of_getElem? (i := 789) (by decide +kernel)⟩
theorem lw_p58 : lw_okq (⟨"GodChipsModel", "does", "(C)I"⟩, 11) := ⟨⟨by decide +kernel, by decide +kernel⟩, List.mem_of_getElem? (i := 473) (by decide +kernel), List.mem_of_getElem? (i := 792) (by decide +kernel), List.mem_of_getElem? (i := 793) (by decide +kernel)⟩
def lw_privs_4 : List (MethodName × Nat) := [(⟨"GodChipsModel", "tickOne", "()I"⟩, 11), (⟨"GodChipsModel", "raises", "(I)Z"⟩, 11), (⟨"GodChipsModel", "lossOf", "(II)I"⟩, 11), (⟨"GodChipsModel", "puts", "()V"⟩, 11), (⟨"GodChipsModel", "restores", "()V"⟩, 11), (⟨"GodChipsModel", "faulty", "()I"⟩, 11), (⟨"GodChipsModel", "doesNext", "()I"⟩, 11), (⟨"GodChipsModel", "readsForm", "(C)Z"⟩, 11), (⟨"GodChipsModel", "number", "(I)Z"⟩, 11), (⟨"GodChipsModel", "has", "(C)Z"⟩, 11), (⟨"GodChipsModel", "does", "(C)I"⟩, 11)]
theorem lw_r4 : ∀ q ∈ lw_privs_4, lw_okq q := List.forall_mem_cons.mpr ⟨lw_p48, List.forall_mem_cons.mpr ⟨lw_p49, List.forall_mem_cons.mpr ⟨lw_p50, List.forall_mem_cons.mpr ⟨lw_p51, List.forall_mem_cons.mpr ⟨lw_p52, List.forall_mem_cons.mpr ⟨lw_p53, List.forall_mem_cons.mpr ⟨lw_p54, List.forall_mem_cons.mpr ⟨lw_p55, List.forall_mem_cons.mpr ⟨lw_p56, List.forall_mem_cons.mpr ⟨lw_p57, List.forall_mem_cons.mpr ⟨lw_p58, fun _ h => absurd h List.not_mem_nil⟩⟩⟩⟩⟩⟩⟩⟩⟩⟩⟩
def lw_privs : List (MethodName × Nat) := lw_privs_1 ++ (lw_privs_2 ++ (lw_privs_3 ++ (lw_privs_4)))
def lw_tbl : List Cond := k2_sels lw_privs ++ tables_1
theorem lw_privs_ok : ∀ q ∈ lw_privs, lw_okq q := by
  show ∀ q ∈ lw_privs_1 ++ (lw_privs_2 ++ (lw_privs_3 ++ (lw_privs_4))), lw_okq q
  exact List.forall_mem_append.mpr ⟨lw_r1, List.forall_mem_append.mpr ⟨lw_r2, List.forall_mem_append.mpr ⟨lw_r3, lw_r4⟩⟩⟩
-- ===== end of PART A; then your names; then what follows =====
end
section
def RX0 : String := "GodChips$Memory"
def TX0 : u_T := fun k => match k with
  | 0 => ("GodChips$Memory", "chips", "I", false)
  | 1 => ("GodChips$Memory", "living", "I", false)
  | 2 => ("GodChips$Memory", "words", "I", false)
  | 3 => ("GodChips$Memory", "time", "I", false)
  | 4 => ("GodChips$Memory", "raises", "I", false)
  | 5 => ("GodChips$Memory", "family", "[I", true)
  | 6 => ("GodChips$Memory", "broken", "[I", true)
  | 7 => ("GodChips$Memory", "spares", "[I", true)
  | 8 => ("GodChips$Memory", "kept", "[I", true)
  | 9 => ("GodChips$Memory", "godfather", "[I", true)
  | 10 => ("GodChips$Memory", "waiting", "[I", true)
  | 11 => ("GodChips$Memory", "queue", "[I", true)
  | 12 => ("GodChips$Memory", "queued", "[I", true)
  | 13 => ("GodChips$Memory", "value", "[I", true)
  | 14 => ("GodChips$Memory", "wordChip", "[I", true)
  | 15 => ("GodChips$Memory", "wordRow", "[I", true)
  | 16 => ("GodChips$Memory", "wordFamily", "[I", true)
  | _ => ("GodChips$Memory", "raised", "[I", true)
def tyX0 : Nat → FieldType := fun k => match k with
  | 0 => .int
  | 1 => .int
  | 2 => .int
  | 3 => .int
  | 4 => .int
  | 5 => .array .int
  | 6 => .array .int
  | 7 => .array .int
  | 8 => .array .int
  | 9 => .array .int
  | 10 => .array .int
  | 11 => .array .int
  | 12 => .array .int
  | 13 => .array .int
  | 14 => .array .int
  | 15 => .array .int
  | 16 => .array .int
  | _ => .array .int
abbrev wsX00 : List Cond := u_ws RX0 TX0 18
theorem nmX0 : ∀ a, a < 18 → ∀ b, b < 18 → a ≠ b → (TX0 a).2.1 ≠ (TX0 b).2.1 := by decide +kernel
theorem tyX0_ok : ∀ k, k < 18 → parseFieldDescriptor (TX0 k).2.2.1 = some (tyX0 k) := by decide +kernel
abbrev cX0_init : ByteArray := prog_2_method_1_code
def yX0_init : MethodName := ⟨RX0, "<init>", "()V"⟩
abbrev cX0_copyFrom : ByteArray := prog_2_method_2_code
def yX0_copyFrom : MethodName := ⟨RX0, "copyFrom", "(LGodChips$Memory;)V"⟩
abbrev cX0_hasChip : ByteArray := prog_2_method_3_code
def yX0_hasChip : MethodName := ⟨RX0, "hasChip", "(I)Z"⟩
abbrev cX0_hasWord : ByteArray := prog_2_method_4_code
def yX0_hasWord : MethodName := ⟨RX0, "hasWord", "(I)Z"⟩
abbrev cX0_lives : ByteArray := prog_2_method_5_code
def yX0_lives : MethodName := ⟨RX0, "lives", "(I)Z"⟩
abbrev cX0_isGodfather : ByteArray := prog_2_method_6_code
def yX0_isGodfather : MethodName := ⟨RX0, "isGodfather", "(I)Z"⟩
abbrev cX0_isBroken : ByteArray := prog_2_method_7_code
def yX0_isBroken : MethodName := ⟨RX0, "isBroken", "(II)Z"⟩
abbrev cX0_fateOf : ByteArray := prog_2_method_8_code
def yX0_fateOf : MethodName := ⟨RX0, "fateOf", "(I)I"⟩
abbrev cX0_guardedRows : ByteArray := prog_2_method_9_code
def yX0_guardedRows : MethodName := ⟨RX0, "guardedRows", "(I)I"⟩
abbrev cX0_livingOf : ByteArray := prog_2_method_10_code
def yX0_livingOf : MethodName := ⟨RX0, "livingOf", "(I)I"⟩
abbrev cX0_placeSet : ByteArray := prog_2_method_11_code
def yX0_placeSet : MethodName := ⟨RX0, "placeSet", "(I)I"⟩
abbrev cX0_allPlaces : ByteArray := prog_2_method_12_code
def yX0_allPlaces : MethodName := ⟨RX0, "allPlaces", "()I"⟩
abbrev cX0_sumOf : ByteArray := prog_2_method_13_code
def yX0_sumOf : MethodName := ⟨RX0, "sumOf", "(II)I"⟩
abbrev cX0_keptBy : ByteArray := prog_2_method_14_code
def yX0_keptBy : MethodName := ⟨RX0, "keptBy", "(I)I"⟩
abbrev cX0_keptIn : ByteArray := prog_2_method_15_code
def yX0_keptIn : MethodName := ⟨RX0, "keptIn", "(II)I"⟩
abbrev cX0_wordsKept : ByteArray := prog_2_method_16_code
def yX0_wordsKept : MethodName := ⟨RX0, "wordsKept", "()I"⟩
abbrev cX0_wordsWaiting : ByteArray := prog_2_method_17_code
def yX0_wordsWaiting : MethodName := ⟨RX0, "wordsWaiting", "()I"⟩
abbrev cX0_godfathers : ByteArray := prog_2_method_18_code
def yX0_godfathers : MethodName := ⟨RX0, "godfathers", "()I"⟩
abbrev cX0_aheadOf : ByteArray := prog_2_method_19_code
def yX0_aheadOf : MethodName := ⟨RX0, "aheadOf", "(I)I"⟩
abbrev cX0_chipFor : ByteArray := prog_2_method_20_code
def yX0_chipFor : MethodName := ⟨RX0, "chipFor", "(II)I"⟩
abbrev cX0_addChip : ByteArray := prog_2_method_21_code
def yX0_addChip : MethodName := ⟨RX0, "addChip", "(II)I"⟩
abbrev cX0_makeGodfather : ByteArray := prog_2_method_22_code
def yX0_makeGodfather : MethodName := ⟨RX0, "makeGodfather", "(I)I"⟩
abbrev cX0_letDie : ByteArray := prog_2_method_23_code
def yX0_letDie : MethodName := ⟨RX0, "letDie", "(I)I"⟩
abbrev cX0_breakRow : ByteArray := prog_2_method_24_code
def yX0_breakRow : MethodName := ⟨RX0, "breakRow", "(II)I"⟩
abbrev cX0_putWord : ByteArray := prog_2_method_25_code
def yX0_putWord : MethodName := ⟨RX0, "putWord", "(II)I"⟩
abbrev cX0_writeWord : ByteArray := prog_2_method_26_code
def yX0_writeWord : MethodName := ⟨RX0, "writeWord", "(II)I"⟩
abbrev cX0_carryWord : ByteArray := prog_2_method_27_code
def yX0_carryWord : MethodName := ⟨RX0, "carryWord", "(II)I"⟩
abbrev cX0_emptyChip : ByteArray := prog_2_method_28_code
def yX0_emptyChip : MethodName := ⟨RX0, "emptyChip", "(I)I"⟩
abbrev cX0_goTicks : ByteArray := prog_2_method_29_code
def yX0_goTicks : MethodName := ⟨RX0, "goTicks", "(I)I"⟩
abbrev cX0_raiseFirst : ByteArray := prog_2_method_30_code
def yX0_raiseFirst : MethodName := ⟨RX0, "raiseFirst", "(I)V"⟩
abbrev cX0_keepAtLowest : ByteArray := prog_2_method_31_code
def yX0_keepAtLowest : MethodName := ⟨RX0, "keepAtLowest", "(II)V"⟩
abbrev cX0_takeFromChip : ByteArray := prog_2_method_32_code
def yX0_takeFromChip : MethodName := ⟨RX0, "takeFromChip", "(I)V"⟩
abbrev cX0_letWait : ByteArray := prog_2_method_33_code
def yX0_letWait : MethodName := ⟨RX0, "letWait", "(I)V"⟩
abbrev cX0_loseUnlessSummed : ByteArray := prog_2_method_34_code
def yX0_loseUnlessSummed : MethodName := ⟨RX0, "loseUnlessSummed", "(I)I"⟩
abbrev cX0_loseWaiting : ByteArray := prog_2_method_35_code
def yX0_loseWaiting : MethodName := ⟨RX0, "loseWaiting", "(II)I"⟩
abbrev cX0_leaveQueue : ByteArray := prog_2_method_36_code
def yX0_leaveQueue : MethodName := ⟨RX0, "leaveQueue", "(I)V"⟩
def RX1 : String := "GodChips$Orders"
def TX1 : u_T := fun k => match k with
  | 0 => ("GodChips$Orders", "text", "[C", true)
  | 1 => ("GodChips$Orders", "length", "I", false)
  | 2 => ("GodChips$Orders", "start", "I", false)
  | 3 => ("GodChips$Orders", "reason", "I", false)
  | 4 => ("GodChips$Orders", "next", "I", false)
  | 5 => ("GodChips$Orders", "letter", "I", false)
  | 6 => ("GodChips$Orders", "first", "I", false)
  | _ => ("GodChips$Orders", "second", "I", false)
def tyX1 : Nat → FieldType := fun k => match k with
  | 0 => .array .char
  | 1 => .int
  | 2 => .int
  | 3 => .int
  | 4 => .int
  | 5 => .int
  | 6 => .int
  | _ => .int
abbrev wsX10 : List Cond := u_ws RX1 TX1 8
theorem nmX1 : ∀ a, a < 8 → ∀ b, b < 8 → a ≠ b → (TX1 a).2.1 ≠ (TX1 b).2.1 := by decide +kernel
theorem tyX1_ok : ∀ k, k < 8 → parseFieldDescriptor (TX1 k).2.2.1 = some (tyX1 k) := by decide +kernel
abbrev cX1_init : ByteArray := prog_3_method_1_code
def yX1_init : MethodName := ⟨RX1, "<init>", "()V"⟩
abbrev cX1_doAll : ByteArray := prog_3_method_2_code
def yX1_doAll : MethodName := ⟨RX1, "doAll", "(LGodChips$Memory;)I"⟩
abbrev cX1_doOrder : ByteArray := prog_3_method_3_code
def yX1_doOrder : MethodName := ⟨RX1, "doOrder", "(LGodChips$Memory;)I"⟩
abbrev cX1_readOrder : ByteArray := prog_3_method_4_code
def yX1_readOrder : MethodName := ⟨RX1, "readOrder", "()Z"⟩
abbrev cX1_readNumber : ByteArray := prog_3_method_5_code
def yX1_readNumber : MethodName := ⟨RX1, "readNumber", "()I"⟩
abbrev cX1_skip : ByteArray := prog_3_method_6_code
def yX1_skip : MethodName := ⟨RX1, "skip", "(C)Z"⟩
def RX2 : String := "GodChips"
def TX2 : u_T := fun k => match k with
  | 0 => ("GodChips", "history", "[LGodChips$Memory;", true)
  | 1 => ("GodChips", "orders", "LGodChips$Orders;", true)
  | 2 => ("GodChips", "present", "LGodChips$Memory;", false)
  | 3 => ("GodChips", "trial", "LGodChips$Memory;", false)
  | _ => ("GodChips", "states", "I", false)
def tyX2 : Nat → FieldType := fun k => match k with
  | 0 => .array (.object "GodChips$Memory")
  | 1 => .object "GodChips$Orders"
  | 2 => .object "GodChips$Memory"
  | 3 => .object "GodChips$Memory"
  | _ => .int
abbrev wsX20 : List Cond := u_ws RX2 TX2 5
theorem nmX2 : ∀ a, a < 5 → ∀ b, b < 5 → a ≠ b → (TX2 a).2.1 ≠ (TX2 b).2.1 := by decide +kernel
theorem tyX2_ok : ∀ k, k < 5 → parseFieldDescriptor (TX2 k).2.2.1 = some (tyX2 k) := by decide +kernel
abbrev cX2_init : ByteArray := prog_1_method_1_code
def yX2_init : MethodName := ⟨RX2, "<init>", "()V"⟩
abbrev cX2_chip : ByteArray := prog_1_method_2_code
def yX2_chip : MethodName := ⟨RX2, "chip", "(II)I"⟩
abbrev cX2_elect : ByteArray := prog_1_method_3_code
def yX2_elect : MethodName := ⟨RX2, "elect", "(I)I"⟩
abbrev cX2_kill : ByteArray := prog_1_method_4_code
def yX2_kill : MethodName := ⟨RX2, "kill", "(I)I"⟩
abbrev cX2_breaks : ByteArray := prog_1_method_5_code
def yX2_breaks : MethodName := ⟨RX2, "breaks", "(II)I"⟩
abbrev cX2_chipOf : ByteArray := prog_1_method_6_code
def yX2_chipOf : MethodName := ⟨RX2, "chipOf", "(II)I"⟩
abbrev cX2_rowOf : ByteArray := prog_1_method_7_code
def yX2_rowOf : MethodName := ⟨RX2, "rowOf", "(II)I"⟩
abbrev cX2_put : ByteArray := prog_1_method_8_code
def yX2_put : MethodName := ⟨RX2, "put", "(II)I"⟩
abbrev cX2_write : ByteArray := prog_1_method_9_code
def yX2_write : MethodName := ⟨RX2, "write", "(II)I"⟩
abbrev cX2_read : ByteArray := prog_1_method_10_code
def yX2_read : MethodName := ⟨RX2, "read", "(I)I"⟩
abbrev cX2_carry : ByteArray := prog_1_method_11_code
def yX2_carry : MethodName := ⟨RX2, "carry", "(II)I"⟩
abbrev cX2_empty : ByteArray := prog_1_method_12_code
def yX2_empty : MethodName := ⟨RX2, "empty", "(I)I"⟩
abbrev cX2_wordOf : ByteArray := prog_1_method_13_code
def yX2_wordOf : MethodName := ⟨RX2, "wordOf", "(II)I"⟩
abbrev cX2_familyOf : ByteArray := prog_1_method_14_code
def yX2_familyOf : MethodName := ⟨RX2, "familyOf", "(II)I"⟩
abbrev cX2_tick : ByteArray := prog_1_method_15_code
def yX2_tick : MethodName := ⟨RX2, "tick", "(I)I"⟩
abbrev cX2_loss : ByteArray := prog_1_method_16_code
def yX2_loss : MethodName := ⟨RX2, "loss", "(II)I"⟩
abbrev cX2_safe : ByteArray := prog_1_method_17_code
def yX2_safe : MethodName := ⟨RX2, "safe", "()I"⟩
abbrev cX2_worstTwo : ByteArray := prog_1_method_18_code
def yX2_worstTwo : MethodName := ⟨RX2, "worstTwo", "(I)I"⟩
abbrev cX2_calm : ByteArray := prog_1_method_19_code
def yX2_calm : MethodName := ⟨RX2, "calm", "()I"⟩
abbrev cX2_heir : ByteArray := prog_1_method_20_code
def yX2_heir : MethodName := ⟨RX2, "heir", "(I)I"⟩
abbrev cX2_count : ByteArray := prog_1_method_21_code
def yX2_count : MethodName := ⟨RX2, "count", "(I)I"⟩
abbrev cX2_undo : ByteArray := prog_1_method_22_code
def yX2_undo : MethodName := ⟨RX2, "undo", "()I"⟩
abbrev cX2_type : ByteArray := prog_1_method_23_code
def yX2_type : MethodName := ⟨RX2, "type", "(I)I"⟩
abbrev cX2_clearText : ByteArray := prog_1_method_24_code
def yX2_clearText : MethodName := ⟨RX2, "clearText", "()I"⟩
abbrev cX2_fault : ByteArray := prog_1_method_25_code
def yX2_fault : MethodName := ⟨RX2, "fault", "(I)I"⟩
abbrev cX2_play : ByteArray := prog_1_method_26_code
def yX2_play : MethodName := ⟨RX2, "play", "()I"⟩
abbrev cX2_isFamily : ByteArray := prog_1_method_27_code
def yX2_isFamily : MethodName := ⟨RX2, "isFamily", "(I)Z"⟩
abbrev cX2_isRow : ByteArray := prog_1_method_28_code
def yX2_isRow : MethodName := ⟨RX2, "isRow", "(I)Z"⟩
abbrev cX2_isValue : ByteArray := prog_1_method_29_code
def yX2_isValue : MethodName := ⟨RX2, "isValue", "(I)Z"⟩
abbrev cX2_freshTrial : ByteArray := prog_1_method_30_code
def yX2_freshTrial : MethodName := ⟨RX2, "freshTrial", "()LGodChips$Memory;"⟩
abbrev cX2_settle : ByteArray := prog_1_method_31_code
def yX2_settle : MethodName := ⟨RX2, "settle", "(I)I"⟩
abbrev cX2_remember : ByteArray := prog_1_method_32_code
def yX2_remember : MethodName := ⟨RX2, "remember", "()V"⟩
abbrev cX2_lostBy : ByteArray := prog_1_method_33_code
def yX2_lostBy : MethodName := ⟨RX2, "lostBy", "(II)I"⟩
def RX3 : String := "GodChipsModel"
def TX3 : u_T := fun k => match k with
  | 0 => ("GodChipsModel", "s", "[I", true)
  | 1 => ("GodChipsModel", "was", "[I", true)
  | 2 => ("GodChipsModel", "begun", "[I", true)
  | 3 => ("GodChipsModel", "aside", "[I", true)
  | 4 => ("GodChipsModel", "other", "[I", true)
  | 5 => ("GodChipsModel", "states", "I", false)
  | 6 => ("GodChipsModel", "text", "[C", true)
  | 7 => ("GodChipsModel", "typed", "I", false)
  | 8 => ("GodChipsModel", "at", "I", false)
  | 9 => ("GodChipsModel", "reason", "I", false)
  | _ => ("GodChipsModel", "got", "[I", true)
def tyX3 : Nat → FieldType := fun k => match k with
  | 0 => .array .int
  | 1 => .array .int
  | 2 => .array .int
  | 3 => .array .int
  | 4 => .array .int
  | 5 => .int
  | 6 => .array .char
  | 7 => .int
  | 8 => .int
  | 9 => .int
  | _ => .array .int
abbrev wsX30 : List Cond := u_ws RX3 TX3 11
theorem nmX3 : ∀ a, a < 11 → ∀ b, b < 11 → a ≠ b → (TX3 a).2.1 ≠ (TX3 b).2.1 := by decide +kernel
theorem tyX3_ok : ∀ k, k < 11 → parseFieldDescriptor (TX3 k).2.2.1 = some (tyX3 k) := by decide +kernel
abbrev cX3_init : ByteArray := prog_5_method_1_code
def yX3_init : MethodName := ⟨RX3, "<init>", "()V"⟩
abbrev cX3_in : ByteArray := prog_5_method_2_code
def yX3_in : MethodName := ⟨RX3, "in", "(III)Z"⟩
abbrev cX3_ch : ByteArray := prog_5_method_3_code
def yX3_ch : MethodName := ⟨RX3, "ch", "(II)I"⟩
abbrev cX3_wd : ByteArray := prog_5_method_4_code
def yX3_wd : MethodName := ⟨RX3, "wd", "(II)I"⟩
abbrev cX3_lays : ByteArray := prog_5_method_5_code
def yX3_lays : MethodName := ⟨RX3, "lays", "(III)V"⟩
abbrev cX3_isChip : ByteArray := prog_5_method_6_code
def yX3_isChip : MethodName := ⟨RX3, "isChip", "(I)Z"⟩
abbrev cX3_isWord : ByteArray := prog_5_method_7_code
def yX3_isWord : MethodName := ⟨RX3, "isWord", "(I)Z"⟩
abbrev cX3_lives : ByteArray := prog_5_method_8_code
def yX3_lives : MethodName := ⟨RX3, "lives", "(I)Z"⟩
abbrev cX3_isGodfather : ByteArray := prog_5_method_9_code
def yX3_isGodfather : MethodName := ⟨RX3, "isGodfather", "(I)Z"⟩
abbrev cX3_isWhole : ByteArray := prog_5_method_10_code
def yX3_isWhole : MethodName := ⟨RX3, "isWhole", "(II)Z"⟩
abbrev cX3_ones : ByteArray := prog_5_method_11_code
def yX3_ones : MethodName := ⟨RX3, "ones", "(I)I"⟩
abbrev cX3_keeps : ByteArray := prog_5_method_12_code
def yX3_keeps : MethodName := ⟨RX3, "keeps", "()V"⟩
abbrev cX3_acted : ByteArray := prog_5_method_13_code
def yX3_acted : MethodName := ⟨RX3, "acted", "(I)I"⟩
abbrev cX3_puts : ByteArray := prog_5_method_14_code
def yX3_puts : MethodName := ⟨RX3, "puts", "()V"⟩
abbrev cX3_restores : ByteArray := prog_5_method_15_code
def yX3_restores : MethodName := ⟨RX3, "restores", "()V"⟩
abbrev cX3_kept : ByteArray := prog_5_method_16_code
def yX3_kept : MethodName := ⟨RX3, "kept", "(II)I"⟩
abbrev cX3_waiting : ByteArray := prog_5_method_17_code
def yX3_waiting : MethodName := ⟨RX3, "waiting", "(II)I"⟩
abbrev cX3_isGuarded : ByteArray := prog_5_method_18_code
def yX3_isGuarded : MethodName := ⟨RX3, "isGuarded", "(II)Z"⟩
abbrev cX3_isPlace : ByteArray := prog_5_method_19_code
def yX3_isPlace : MethodName := ⟨RX3, "isPlace", "(II)Z"⟩
abbrev cX3_places : ByteArray := prog_5_method_20_code
def yX3_places : MethodName := ⟨RX3, "places", "(I)I"⟩
abbrev cX3_lowest : ByteArray := prog_5_method_21_code
def yX3_lowest : MethodName := ⟨RX3, "lowest", "(I)I"⟩
abbrev cX3_target : ByteArray := prog_5_method_22_code
def yX3_target : MethodName := ⟨RX3, "target", "(II)I"⟩
abbrev cX3_sits : ByteArray := prog_5_method_23_code
def yX3_sits : MethodName := ⟨RX3, "sits", "(III)V"⟩
abbrev cX3_waitsNow : ByteArray := prog_5_method_24_code
def yX3_waitsNow : MethodName := ⟨RX3, "waitsNow", "(I)V"⟩
abbrev cX3_lost : ByteArray := prog_5_method_25_code
def yX3_lost : MethodName := ⟨RX3, "lost", "()I"⟩
abbrev cX3_falls : ByteArray := prog_5_method_26_code
def yX3_falls : MethodName := ⟨RX3, "falls", "(IZ)V"⟩
abbrev cX3_chip : ByteArray := prog_5_method_27_code
def yX3_chip : MethodName := ⟨RX3, "chip", "(II)I"⟩
abbrev cX3_words : ByteArray := prog_5_method_28_code
def yX3_words : MethodName := ⟨RX3, "words", "(I)I"⟩
abbrev cX3_guarded : ByteArray := prog_5_method_29_code
def yX3_guarded : MethodName := ⟨RX3, "guarded", "(I)I"⟩
abbrev cX3_elects : ByteArray := prog_5_method_30_code
def yX3_elects : MethodName := ⟨RX3, "elects", "(I)I"⟩
abbrev cX3_elect : ByteArray := prog_5_method_31_code
def yX3_elect : MethodName := ⟨RX3, "elect", "(I)I"⟩
abbrev cX3_kills : ByteArray := prog_5_method_32_code
def yX3_kills : MethodName := ⟨RX3, "kills", "(I)I"⟩
abbrev cX3_kill : ByteArray := prog_5_method_33_code
def yX3_kill : MethodName := ⟨RX3, "kill", "(I)I"⟩
abbrev cX3_breaksOne : ByteArray := prog_5_method_34_code
def yX3_breaksOne : MethodName := ⟨RX3, "breaksOne", "(II)I"⟩
abbrev cX3_breaks : ByteArray := prog_5_method_35_code
def yX3_breaks : MethodName := ⟨RX3, "breaks", "(II)I"⟩
abbrev cX3_chipOf : ByteArray := prog_5_method_36_code
def yX3_chipOf : MethodName := ⟨RX3, "chipOf", "(II)I"⟩
abbrev cX3_sum : ByteArray := prog_5_method_37_code
def yX3_sum : MethodName := ⟨RX3, "sum", "(II)I"⟩
abbrev cX3_rowOf : ByteArray := prog_5_method_38_code
def yX3_rowOf : MethodName := ⟨RX3, "rowOf", "(II)I"⟩
abbrev cX3_putsOne : ByteArray := prog_5_method_39_code
def yX3_putsOne : MethodName := ⟨RX3, "putsOne", "(II)I"⟩
abbrev cX3_put : ByteArray := prog_5_method_40_code
def yX3_put : MethodName := ⟨RX3, "put", "(II)I"⟩
abbrev cX3_write : ByteArray := prog_5_method_41_code
def yX3_write : MethodName := ⟨RX3, "write", "(II)I"⟩
abbrev cX3_read : ByteArray := prog_5_method_42_code
def yX3_read : MethodName := ⟨RX3, "read", "(I)I"⟩
abbrev cX3_carry : ByteArray := prog_5_method_43_code
def yX3_carry : MethodName := ⟨RX3, "carry", "(II)I"⟩
abbrev cX3_empties : ByteArray := prog_5_method_44_code
def yX3_empties : MethodName := ⟨RX3, "empties", "(I)I"⟩
abbrev cX3_empty : ByteArray := prog_5_method_45_code
def yX3_empty : MethodName := ⟨RX3, "empty", "(I)I"⟩
abbrev cX3_ahead : ByteArray := prog_5_method_46_code
def yX3_ahead : MethodName := ⟨RX3, "ahead", "(I)I"⟩
abbrev cX3_wordOf : ByteArray := prog_5_method_47_code
def yX3_wordOf : MethodName := ⟨RX3, "wordOf", "(II)I"⟩
abbrev cX3_firstOf : ByteArray := prog_5_method_48_code
def yX3_firstOf : MethodName := ⟨RX3, "firstOf", "(I)I"⟩
abbrev cX3_many : ByteArray := prog_5_method_49_code
def yX3_many : MethodName := ⟨RX3, "many", "(IIZ)I"⟩
abbrev cX3_familyOf : ByteArray := prog_5_method_50_code
def yX3_familyOf : MethodName := ⟨RX3, "familyOf", "(II)I"⟩
abbrev cX3_raises : ByteArray := prog_5_method_51_code
def yX3_raises : MethodName := ⟨RX3, "raises", "(I)Z"⟩
abbrev cX3_tickOne : ByteArray := prog_5_method_52_code
def yX3_tickOne : MethodName := ⟨RX3, "tickOne", "()I"⟩
abbrev cX3_ticks : ByteArray := prog_5_method_53_code
def yX3_ticks : MethodName := ⟨RX3, "ticks", "(I)I"⟩
abbrev cX3_tick : ByteArray := prog_5_method_54_code
def yX3_tick : MethodName := ⟨RX3, "tick", "(I)I"⟩
abbrev cX3_lossOf : ByteArray := prog_5_method_55_code
def yX3_lossOf : MethodName := ⟨RX3, "lossOf", "(II)I"⟩
abbrev cX3_loss : ByteArray := prog_5_method_56_code
def yX3_loss : MethodName := ⟨RX3, "loss", "(II)I"⟩
abbrev cX3_safe : ByteArray := prog_5_method_57_code
def yX3_safe : MethodName := ⟨RX3, "safe", "()I"⟩
abbrev cX3_worstTwo : ByteArray := prog_5_method_58_code
def yX3_worstTwo : MethodName := ⟨RX3, "worstTwo", "(I)I"⟩
abbrev cX3_calm : ByteArray := prog_5_method_59_code
def yX3_calm : MethodName := ⟨RX3, "calm", "()I"⟩
abbrev cX3_heir : ByteArray := prog_5_method_60_code
def yX3_heir : MethodName := ⟨RX3, "heir", "(I)I"⟩
abbrev cX3_count : ByteArray := prog_5_method_61_code
def yX3_count : MethodName := ⟨RX3, "count", "(I)I"⟩
abbrev cX3_undo : ByteArray := prog_5_method_62_code
def yX3_undo : MethodName := ⟨RX3, "undo", "()I"⟩
abbrev cX3_type : ByteArray := prog_5_method_63_code
def yX3_type : MethodName := ⟨RX3, "type", "(I)I"⟩
abbrev cX3_clearText : ByteArray := prog_5_method_64_code
def yX3_clearText : MethodName := ⟨RX3, "clearText", "()I"⟩
abbrev cX3_has : ByteArray := prog_5_method_65_code
def yX3_has : MethodName := ⟨RX3, "has", "(C)Z"⟩
abbrev cX3_number : ByteArray := prog_5_method_66_code
def yX3_number : MethodName := ⟨RX3, "number", "(I)Z"⟩
abbrev cX3_readsForm : ByteArray := prog_5_method_67_code
def yX3_readsForm : MethodName := ⟨RX3, "readsForm", "(C)Z"⟩
abbrev cX3_does : ByteArray := prog_5_method_68_code
def yX3_does : MethodName := ⟨RX3, "does", "(C)I"⟩
abbrev cX3_doesNext : ByteArray := prog_5_method_69_code
def yX3_doesNext : MethodName := ⟨RX3, "doesNext", "()I"⟩
abbrev cX3_faulty : ByteArray := prog_5_method_70_code
def yX3_faulty : MethodName := ⟨RX3, "faulty", "()I"⟩
abbrev cX3_fault : ByteArray := prog_5_method_71_code
def yX3_fault : MethodName := ⟨RX3, "fault", "(I)I"⟩
abbrev cX3_play : ByteArray := prog_5_method_72_code
def yX3_play : MethodName := ⟨RX3, "play", "()I"⟩
def RJ6 : String := "java/lang/Integer"
def TJ6 : u_T := fun k => match k with
  | _ => ("", "", "", false)
def tyJ6 : Nat → FieldType := fun k => match k with
  | _ => .int
abbrev wsJ60 : List Cond := u_ws RJ6 TJ6 0
theorem nmJ6 : ∀ a, a < 0 → ∀ b, b < 0 → a ≠ b → (TJ6 a).2.1 ≠ (TJ6 b).2.1 := by decide +kernel
theorem tyJ6_ok : ∀ k, k < 0 → parseFieldDescriptor (TJ6 k).2.2.1 = some (tyJ6 k) := by decide +kernel
abbrev cJ6_bitCount_0f7a4 : ByteArray := prog_6_method_49_code
def yJ6_bitCount_0f7a4 : MethodName := ⟨RJ6, "bitCount", "(I)I"⟩
def RJ10 : String := "java/lang/System"
def TJ10 : u_T := fun k => match k with
  | _ => ("", "", "", false)
def tyJ10 : Nat → FieldType := fun k => match k with
  | _ => .int
abbrev wsJ100 : List Cond := u_ws RJ10 TJ10 0
theorem nmJ10 : ∀ a, a < 0 → ∀ b, b < 0 → a ≠ b → (TJ10 a).2.1 ≠ (TJ10 b).2.1 := by decide +kernel
theorem tyJ10_ok : ∀ k, k < 0 → parseFieldDescriptor (TJ10 k).2.2.1 = some (tyJ10 k) := by decide +kernel
def RJ7 : String := "java/util/Arrays"
def TJ7 : u_T := fun k => match k with
  | _ => ("", "", "", false)
def tyJ7 : Nat → FieldType := fun k => match k with
  | _ => .int
abbrev wsJ70 : List Cond := u_ws RJ7 TJ7 0
theorem nmJ7 : ∀ a, a < 0 → ∀ b, b < 0 → a ≠ b → (TJ7 a).2.1 ≠ (TJ7 b).2.1 := by decide +kernel
theorem tyJ7_ok : ∀ k, k < 0 → parseFieldDescriptor (TJ7 k).2.2.1 = some (tyJ7 k) := by decide +kernel
abbrev cJ7_fill_53178 : ByteArray := prog_8_method_103_code
def yJ7_fill_53178 : MethodName := ⟨RJ7, "fill", "([II)V"⟩
def RL : String := "GodChipsLaw"
abbrev cL_law : ByteArray := code
def yL_law : MethodName := ⟨RL, "law", "([I)Z"⟩
abbrev vwCl : List vw_C := [(RX0, TX0, 18), (RX1, TX1, 8), (RX2, TX2, 5), (RX3, TX3, 11)]
end
section
theorem dX0_init_0 : decode cX0_init 0 = .ok (.aload_n 0, 1) := by decide +kernel
theorem dX0_init_1 : decode cX0_init 1 = .ok (.invokespecial 3, 3) := by decide +kernel
theorem dX0_init_4 : decode cX0_init 4 = .ok (.aload_n 0, 1) := by decide +kernel
theorem dX0_init_5 : decode cX0_init 5 = .ok (.bipush 8, 2) := by decide +kernel
theorem dX0_init_7 : decode cX0_init 7 = .ok (.newarray .int, 2) := by decide +kernel
theorem dX0_init_9 : decode cX0_init 9 = .ok (.putfield 9, 3) := by decide +kernel
theorem dX0_init_12 : decode cX0_init 12 = .ok (.aload_n 0, 1) := by decide +kernel
theorem dX0_init_13 : decode cX0_init 13 = .ok (.bipush 8, 2) := by decide +kernel
theorem dX0_init_15 : decode cX0_init 15 = .ok (.newarray .int, 2) := by decide +kernel
theorem dX0_init_17 : decode cX0_init 17 = .ok (.putfield 15, 3) := by decide +kernel
theorem dX0_init_20 : decode cX0_init 20 = .ok (.aload_n 0, 1) := by decide +kernel
theorem dX0_init_21 : decode cX0_init 21 = .ok (.bipush 8, 2) := by decide +kernel
theorem dX0_init_23 : decode cX0_init 23 = .ok (.newarray .int, 2) := by decide +kernel
theorem dX0_init_25 : decode cX0_init 25 = .ok (.putfield 18, 3) := by decide +kernel
theorem dX0_init_28 : decode cX0_init 28 = .ok (.aload_n 0, 1) := by decide +kernel
theorem dX0_init_29 : decode cX0_init 29 = .ok (.bipush 48, 2) := by decide +kernel
theorem dX0_init_31 : decode cX0_init 31 = .ok (.newarray .int, 2) := by decide +kernel
theorem dX0_init_33 : decode cX0_init 33 = .ok (.putfield 21, 3) := by decide +kernel
theorem dX0_init_36 : decode cX0_init 36 = .ok (.aload_n 0, 1) := by decide +kernel
theorem dX0_init_37 : decode cX0_init 37 = .ok (.iconst 3, 1) := by decide +kernel
theorem dX0_init_38 : decode cX0_init 38 = .ok (.newarray .int, 2) := by decide +kernel
theorem dX0_init_40 : decode cX0_init 40 = .ok (.putfield 24, 3) := by decide +kernel
theorem dX0_init_43 : decode cX0_init 43 = .ok (.aload_n 0, 1) := by decide +kernel
theorem dX0_init_44 : decode cX0_init 44 = .ok (.bipush 18, 2) := by decide +kernel
theorem dX0_init_46 : decode cX0_init 46 = .ok (.newarray .int, 2) := by decide +kernel
theorem dX0_init_48 : decode cX0_init 48 = .ok (.putfield 27, 3) := by decide +kernel
theorem dX0_init_51 : decode cX0_init 51 = .ok (.aload_n 0, 1) := by decide +kernel
theorem dX0_init_52 : decode cX0_init 52 = .ok (.bipush 18, 2) := by decide +kernel
theorem dX0_init_54 : decode cX0_init 54 = .ok (.newarray .int, 2) := by decide +kernel
theorem dX0_init_56 : decode cX0_init 56 = .ok (.putfield 30, 3) := by decide +kernel
theorem dX0_init_59 : decode cX0_init 59 = .ok (.aload_n 0, 1) := by decide +kernel
theorem dX0_init_60 : decode cX0_init 60 = .ok (.iconst 3, 1) := by decide +kernel
theorem dX0_init_61 : decode cX0_init 61 = .ok (.newarray .int, 2) := by decide +kernel
theorem dX0_init_63 : decode cX0_init 63 = .ok (.putfield 33, 3) := by decide +kernel
theorem dX0_init_66 : decode cX0_init 66 = .ok (.aload_n 0, 1) := by decide +kernel
theorem dX0_init_67 : decode cX0_init 67 = .ok (.bipush 24, 2) := by decide +kernel
theorem dX0_init_69 : decode cX0_init 69 = .ok (.newarray .int, 2) := by decide +kernel
theorem dX0_init_71 : decode cX0_init 71 = .ok (.putfield 36, 3) := by decide +kernel
theorem dX0_init_74 : decode cX0_init 74 = .ok (.aload_n 0, 1) := by decide +kernel
theorem dX0_init_75 : decode cX0_init 75 = .ok (.bipush 24, 2) := by decide +kernel
theorem dX0_init_77 : decode cX0_init 77 = .ok (.newarray .int, 2) := by decide +kernel
theorem dX0_init_79 : decode cX0_init 79 = .ok (.putfield 39, 3) := by decide +kernel
theorem dX0_init_82 : decode cX0_init 82 = .ok (.aload_n 0, 1) := by decide +kernel
theorem dX0_init_83 : decode cX0_init 83 = .ok (.bipush 24, 2) := by decide +kernel
theorem dX0_init_85 : decode cX0_init 85 = .ok (.newarray .int, 2) := by decide +kernel
theorem dX0_init_87 : decode cX0_init 87 = .ok (.putfield 42, 3) := by decide +kernel
theorem dX0_init_90 : decode cX0_init 90 = .ok (.aload_n 0, 1) := by decide +kernel
theorem dX0_init_91 : decode cX0_init 91 = .ok (.bipush 24, 2) := by decide +kernel
theorem dX0_init_93 : decode cX0_init 93 = .ok (.newarray .int, 2) := by decide +kernel
theorem dX0_init_95 : decode cX0_init 95 = .ok (.putfield 45, 3) := by decide +kernel
theorem dX0_init_98 : decode cX0_init 98 = .ok (.aload_n 0, 1) := by decide +kernel
theorem dX0_init_99 : decode cX0_init 99 = .ok (.bipush 24, 2) := by decide +kernel
theorem dX0_init_101 : decode cX0_init 101 = .ok (.newarray .int, 2) := by decide +kernel
theorem dX0_init_103 : decode cX0_init 103 = .ok (.putfield 48, 3) := by decide +kernel
theorem dX0_init_106 : decode cX0_init 106 = .ok (.aload_n 0, 1) := by decide +kernel
theorem dX0_init_107 : decode cX0_init 107 = .ok (.getfield 21, 3) := by decide +kernel
theorem dX0_init_110 : decode cX0_init 110 = .ok (.iconst (-1), 1) := by decide +kernel
theorem dX0_init_111 : decode cX0_init 111 = .ok (.invokestatic 51, 3) := by decide +kernel
theorem dX0_init_114 : decode cX0_init 114 = .ok (.aload_n 0, 1) := by decide +kernel
theorem dX0_init_115 : decode cX0_init 115 = .ok (.getfield 24, 3) := by decide +kernel
theorem dX0_init_118 : decode cX0_init 118 = .ok (.iconst (-1), 1) := by decide +kernel
theorem dX0_init_119 : decode cX0_init 119 = .ok (.invokestatic 51, 3) := by decide +kernel
theorem dX0_init_122 : decode cX0_init 122 = .ok (.aload_n 0, 1) := by decide +kernel
theorem dX0_init_123 : decode cX0_init 123 = .ok (.getfield 27, 3) := by decide +kernel
theorem dX0_init_126 : decode cX0_init 126 = .ok (.iconst (-1), 1) := by decide +kernel
theorem dX0_init_127 : decode cX0_init 127 = .ok (.invokestatic 51, 3) := by decide +kernel
theorem dX0_init_130 : decode cX0_init 130 = .ok (.return_, 1) := by decide +kernel
theorem dX0_copyFrom_0 : decode cX0_copyFrom 0 = .ok (.aload_n 0, 1) := by decide +kernel
theorem dX0_copyFrom_1 : decode cX0_copyFrom 1 = .ok (.aload_n 1, 1) := by decide +kernel
theorem dX0_copyFrom_2 : decode cX0_copyFrom 2 = .ok (.getfield 57, 3) := by decide +kernel
theorem dX0_copyFrom_5 : decode cX0_copyFrom 5 = .ok (.putfield 57, 3) := by decide +kernel
theorem dX0_copyFrom_8 : decode cX0_copyFrom 8 = .ok (.aload_n 0, 1) := by decide +kernel
theorem dX0_copyFrom_9 : decode cX0_copyFrom 9 = .ok (.aload_n 1, 1) := by decide +kernel
theorem dX0_copyFrom_10 : decode cX0_copyFrom 10 = .ok (.getfield 61, 3) := by decide +kernel
theorem dX0_copyFrom_13 : decode cX0_copyFrom 13 = .ok (.putfield 61, 3) := by decide +kernel
theorem dX0_copyFrom_16 : decode cX0_copyFrom 16 = .ok (.aload_n 0, 1) := by decide +kernel
theorem dX0_copyFrom_17 : decode cX0_copyFrom 17 = .ok (.aload_n 1, 1) := by decide +kernel
theorem dX0_copyFrom_18 : decode cX0_copyFrom 18 = .ok (.getfield 64, 3) := by decide +kernel
theorem dX0_copyFrom_21 : decode cX0_copyFrom 21 = .ok (.putfield 64, 3) := by decide +kernel
theorem dX0_copyFrom_24 : decode cX0_copyFrom 24 = .ok (.aload_n 0, 1) := by decide +kernel
theorem dX0_copyFrom_25 : decode cX0_copyFrom 25 = .ok (.aload_n 1, 1) := by decide +kernel
theorem dX0_copyFrom_26 : decode cX0_copyFrom 26 = .ok (.getfield 67, 3) := by decide +kernel
theorem dX0_copyFrom_29 : decode cX0_copyFrom 29 = .ok (.putfield 67, 3) := by decide +kernel
theorem dX0_copyFrom_32 : decode cX0_copyFrom 32 = .ok (.aload_n 0, 1) := by decide +kernel
theorem dX0_copyFrom_33 : decode cX0_copyFrom 33 = .ok (.aload_n 1, 1) := by decide +kernel
theorem dX0_copyFrom_34 : decode cX0_copyFrom 34 = .ok (.getfield 70, 3) := by decide +kernel
theorem dX0_copyFrom_37 : decode cX0_copyFrom 37 = .ok (.putfield 70, 3) := by decide +kernel
theorem dX0_copyFrom_40 : decode cX0_copyFrom 40 = .ok (.aload_n 1, 1) := by decide +kernel
theorem dX0_copyFrom_41 : decode cX0_copyFrom 41 = .ok (.getfield 9, 3) := by decide +kernel
theorem dX0_copyFrom_44 : decode cX0_copyFrom 44 = .ok (.iconst 0, 1) := by decide +kernel
theorem dX0_copyFrom_45 : decode cX0_copyFrom 45 = .ok (.aload_n 0, 1) := by decide +kernel
theorem dX0_copyFrom_46 : decode cX0_copyFrom 46 = .ok (.getfield 9, 3) := by decide +kernel
theorem dX0_copyFrom_49 : decode cX0_copyFrom 49 = .ok (.iconst 0, 1) := by decide +kernel
theorem dX0_copyFrom_50 : decode cX0_copyFrom 50 = .ok (.bipush 8, 2) := by decide +kernel
theorem dX0_copyFrom_52 : decode cX0_copyFrom 52 = .ok (.invokestatic 73, 3) := by decide +kernel
theorem dX0_copyFrom_55 : decode cX0_copyFrom 55 = .ok (.aload_n 1, 1) := by decide +kernel
theorem dX0_copyFrom_56 : decode cX0_copyFrom 56 = .ok (.getfield 15, 3) := by decide +kernel
theorem dX0_copyFrom_59 : decode cX0_copyFrom 59 = .ok (.iconst 0, 1) := by decide +kernel
theorem dX0_copyFrom_60 : decode cX0_copyFrom 60 = .ok (.aload_n 0, 1) := by decide +kernel
theorem dX0_copyFrom_61 : decode cX0_copyFrom 61 = .ok (.getfield 15, 3) := by decide +kernel
theorem dX0_copyFrom_64 : decode cX0_copyFrom 64 = .ok (.iconst 0, 1) := by decide +kernel
theorem dX0_copyFrom_65 : decode cX0_copyFrom 65 = .ok (.bipush 8, 2) := by decide +kernel
theorem dX0_copyFrom_67 : decode cX0_copyFrom 67 = .ok (.invokestatic 73, 3) := by decide +kernel
theorem dX0_copyFrom_70 : decode cX0_copyFrom 70 = .ok (.aload_n 1, 1) := by decide +kernel
theorem dX0_copyFrom_71 : decode cX0_copyFrom 71 = .ok (.getfield 18, 3) := by decide +kernel
theorem dX0_copyFrom_74 : decode cX0_copyFrom 74 = .ok (.iconst 0, 1) := by decide +kernel
theorem dX0_copyFrom_75 : decode cX0_copyFrom 75 = .ok (.aload_n 0, 1) := by decide +kernel
theorem dX0_copyFrom_76 : decode cX0_copyFrom 76 = .ok (.getfield 18, 3) := by decide +kernel
theorem dX0_copyFrom_79 : decode cX0_copyFrom 79 = .ok (.iconst 0, 1) := by decide +kernel
theorem dX0_copyFrom_80 : decode cX0_copyFrom 80 = .ok (.bipush 8, 2) := by decide +kernel
theorem dX0_copyFrom_82 : decode cX0_copyFrom 82 = .ok (.invokestatic 73, 3) := by decide +kernel
theorem dX0_copyFrom_85 : decode cX0_copyFrom 85 = .ok (.aload_n 1, 1) := by decide +kernel
theorem dX0_copyFrom_86 : decode cX0_copyFrom 86 = .ok (.getfield 21, 3) := by decide +kernel
theorem dX0_copyFrom_89 : decode cX0_copyFrom 89 = .ok (.iconst 0, 1) := by decide +kernel
theorem dX0_copyFrom_90 : decode cX0_copyFrom 90 = .ok (.aload_n 0, 1) := by decide +kernel
theorem dX0_copyFrom_91 : decode cX0_copyFrom 91 = .ok (.getfield 21, 3) := by decide +kernel
theorem dX0_copyFrom_94 : decode cX0_copyFrom 94 = .ok (.iconst 0, 1) := by decide +kernel
theorem dX0_copyFrom_95 : decode cX0_copyFrom 95 = .ok (.bipush 48, 2) := by decide +kernel
theorem dX0_copyFrom_97 : decode cX0_copyFrom 97 = .ok (.invokestatic 73, 3) := by decide +kernel
theorem dX0_copyFrom_100 : decode cX0_copyFrom 100 = .ok (.aload_n 1, 1) := by decide +kernel
theorem dX0_copyFrom_101 : decode cX0_copyFrom 101 = .ok (.getfield 24, 3) := by decide +kernel
theorem dX0_copyFrom_104 : decode cX0_copyFrom 104 = .ok (.iconst 0, 1) := by decide +kernel
theorem dX0_copyFrom_105 : decode cX0_copyFrom 105 = .ok (.aload_n 0, 1) := by decide +kernel
theorem dX0_copyFrom_106 : decode cX0_copyFrom 106 = .ok (.getfield 24, 3) := by decide +kernel
theorem dX0_copyFrom_109 : decode cX0_copyFrom 109 = .ok (.iconst 0, 1) := by decide +kernel
theorem dX0_copyFrom_110 : decode cX0_copyFrom 110 = .ok (.iconst 3, 1) := by decide +kernel
theorem dX0_copyFrom_111 : decode cX0_copyFrom 111 = .ok (.invokestatic 73, 3) := by decide +kernel
theorem dX0_copyFrom_114 : decode cX0_copyFrom 114 = .ok (.aload_n 1, 1) := by decide +kernel
theorem dX0_copyFrom_115 : decode cX0_copyFrom 115 = .ok (.getfield 27, 3) := by decide +kernel
theorem dX0_copyFrom_118 : decode cX0_copyFrom 118 = .ok (.iconst 0, 1) := by decide +kernel
theorem dX0_copyFrom_119 : decode cX0_copyFrom 119 = .ok (.aload_n 0, 1) := by decide +kernel
theorem dX0_copyFrom_120 : decode cX0_copyFrom 120 = .ok (.getfield 27, 3) := by decide +kernel
theorem dX0_copyFrom_123 : decode cX0_copyFrom 123 = .ok (.iconst 0, 1) := by decide +kernel
theorem dX0_copyFrom_124 : decode cX0_copyFrom 124 = .ok (.bipush 18, 2) := by decide +kernel
theorem dX0_copyFrom_126 : decode cX0_copyFrom 126 = .ok (.invokestatic 73, 3) := by decide +kernel
theorem dX0_copyFrom_129 : decode cX0_copyFrom 129 = .ok (.aload_n 1, 1) := by decide +kernel
theorem dX0_copyFrom_130 : decode cX0_copyFrom 130 = .ok (.getfield 30, 3) := by decide +kernel
theorem dX0_copyFrom_133 : decode cX0_copyFrom 133 = .ok (.iconst 0, 1) := by decide +kernel
theorem dX0_copyFrom_134 : decode cX0_copyFrom 134 = .ok (.aload_n 0, 1) := by decide +kernel
theorem dX0_copyFrom_135 : decode cX0_copyFrom 135 = .ok (.getfield 30, 3) := by decide +kernel
theorem dX0_copyFrom_138 : decode cX0_copyFrom 138 = .ok (.iconst 0, 1) := by decide +kernel
theorem dX0_copyFrom_139 : decode cX0_copyFrom 139 = .ok (.bipush 18, 2) := by decide +kernel
theorem dX0_copyFrom_141 : decode cX0_copyFrom 141 = .ok (.invokestatic 73, 3) := by decide +kernel
theorem dX0_copyFrom_144 : decode cX0_copyFrom 144 = .ok (.aload_n 1, 1) := by decide +kernel
theorem dX0_copyFrom_145 : decode cX0_copyFrom 145 = .ok (.getfield 33, 3) := by decide +kernel
theorem dX0_copyFrom_148 : decode cX0_copyFrom 148 = .ok (.iconst 0, 1) := by decide +kernel
theorem dX0_copyFrom_149 : decode cX0_copyFrom 149 = .ok (.aload_n 0, 1) := by decide +kernel
theorem dX0_copyFrom_150 : decode cX0_copyFrom 150 = .ok (.getfield 33, 3) := by decide +kernel
theorem dX0_copyFrom_153 : decode cX0_copyFrom 153 = .ok (.iconst 0, 1) := by decide +kernel
theorem dX0_copyFrom_154 : decode cX0_copyFrom 154 = .ok (.iconst 3, 1) := by decide +kernel
theorem dX0_copyFrom_155 : decode cX0_copyFrom 155 = .ok (.invokestatic 73, 3) := by decide +kernel
theorem dX0_copyFrom_158 : decode cX0_copyFrom 158 = .ok (.aload_n 1, 1) := by decide +kernel
theorem dX0_copyFrom_159 : decode cX0_copyFrom 159 = .ok (.getfield 36, 3) := by decide +kernel
theorem dX0_copyFrom_162 : decode cX0_copyFrom 162 = .ok (.iconst 0, 1) := by decide +kernel
theorem dX0_copyFrom_163 : decode cX0_copyFrom 163 = .ok (.aload_n 0, 1) := by decide +kernel
theorem dX0_copyFrom_164 : decode cX0_copyFrom 164 = .ok (.getfield 36, 3) := by decide +kernel
theorem dX0_copyFrom_167 : decode cX0_copyFrom 167 = .ok (.iconst 0, 1) := by decide +kernel
theorem dX0_copyFrom_168 : decode cX0_copyFrom 168 = .ok (.bipush 24, 2) := by decide +kernel
theorem dX0_copyFrom_170 : decode cX0_copyFrom 170 = .ok (.invokestatic 73, 3) := by decide +kernel
theorem dX0_copyFrom_173 : decode cX0_copyFrom 173 = .ok (.aload_n 1, 1) := by decide +kernel
theorem dX0_copyFrom_174 : decode cX0_copyFrom 174 = .ok (.getfield 39, 3) := by decide +kernel
theorem dX0_copyFrom_177 : decode cX0_copyFrom 177 = .ok (.iconst 0, 1) := by decide +kernel
theorem dX0_copyFrom_178 : decode cX0_copyFrom 178 = .ok (.aload_n 0, 1) := by decide +kernel
theorem dX0_copyFrom_179 : decode cX0_copyFrom 179 = .ok (.getfield 39, 3) := by decide +kernel
theorem dX0_copyFrom_182 : decode cX0_copyFrom 182 = .ok (.iconst 0, 1) := by decide +kernel
theorem dX0_copyFrom_183 : decode cX0_copyFrom 183 = .ok (.bipush 24, 2) := by decide +kernel
theorem dX0_copyFrom_185 : decode cX0_copyFrom 185 = .ok (.invokestatic 73, 3) := by decide +kernel
theorem dX0_copyFrom_188 : decode cX0_copyFrom 188 = .ok (.aload_n 1, 1) := by decide +kernel
theorem dX0_copyFrom_189 : decode cX0_copyFrom 189 = .ok (.getfield 42, 3) := by decide +kernel
theorem dX0_copyFrom_192 : decode cX0_copyFrom 192 = .ok (.iconst 0, 1) := by decide +kernel
theorem dX0_copyFrom_193 : decode cX0_copyFrom 193 = .ok (.aload_n 0, 1) := by decide +kernel
theorem dX0_copyFrom_194 : decode cX0_copyFrom 194 = .ok (.getfield 42, 3) := by decide +kernel
theorem dX0_copyFrom_197 : decode cX0_copyFrom 197 = .ok (.iconst 0, 1) := by decide +kernel
theorem dX0_copyFrom_198 : decode cX0_copyFrom 198 = .ok (.bipush 24, 2) := by decide +kernel
theorem dX0_copyFrom_200 : decode cX0_copyFrom 200 = .ok (.invokestatic 73, 3) := by decide +kernel
theorem dX0_copyFrom_203 : decode cX0_copyFrom 203 = .ok (.aload_n 1, 1) := by decide +kernel
theorem dX0_copyFrom_204 : decode cX0_copyFrom 204 = .ok (.getfield 45, 3) := by decide +kernel
theorem dX0_copyFrom_207 : decode cX0_copyFrom 207 = .ok (.iconst 0, 1) := by decide +kernel
theorem dX0_copyFrom_208 : decode cX0_copyFrom 208 = .ok (.aload_n 0, 1) := by decide +kernel
theorem dX0_copyFrom_209 : decode cX0_copyFrom 209 = .ok (.getfield 45, 3) := by decide +kernel
theorem dX0_copyFrom_212 : decode cX0_copyFrom 212 = .ok (.iconst 0, 1) := by decide +kernel
theorem dX0_copyFrom_213 : decode cX0_copyFrom 213 = .ok (.bipush 24, 2) := by decide +kernel
theorem dX0_copyFrom_215 : decode cX0_copyFrom 215 = .ok (.invokestatic 73, 3) := by decide +kernel
theorem dX0_copyFrom_218 : decode cX0_copyFrom 218 = .ok (.aload_n 1, 1) := by decide +kernel
theorem dX0_copyFrom_219 : decode cX0_copyFrom 219 = .ok (.getfield 48, 3) := by decide +kernel
theorem dX0_copyFrom_222 : decode cX0_copyFrom 222 = .ok (.iconst 0, 1) := by decide +kernel
theorem dX0_copyFrom_223 : decode cX0_copyFrom 223 = .ok (.aload_n 0, 1) := by decide +kernel
theorem dX0_copyFrom_224 : decode cX0_copyFrom 224 = .ok (.getfield 48, 3) := by decide +kernel
theorem dX0_copyFrom_227 : decode cX0_copyFrom 227 = .ok (.iconst 0, 1) := by decide +kernel
theorem dX0_copyFrom_228 : decode cX0_copyFrom 228 = .ok (.bipush 24, 2) := by decide +kernel
theorem dX0_copyFrom_230 : decode cX0_copyFrom 230 = .ok (.invokestatic 73, 3) := by decide +kernel
theorem dX0_copyFrom_233 : decode cX0_copyFrom 233 = .ok (.return_, 1) := by decide +kernel
theorem dX0_hasChip_0 : decode cX0_hasChip 0 = .ok (.iload_n 1, 1) := by decide +kernel
theorem dX0_hasChip_1 : decode cX0_hasChip 1 = .ok (.ifCond .lt 15, 3) := by decide +kernel
theorem dX0_hasChip_4 : decode cX0_hasChip 4 = .ok (.iload_n 1, 1) := by decide +kernel
theorem dX0_hasChip_5 : decode cX0_hasChip 5 = .ok (.aload_n 0, 1) := by decide +kernel
theorem dX0_hasChip_6 : decode cX0_hasChip 6 = .ok (.getfield 57, 3) := by decide +kernel
theorem dX0_hasChip_9 : decode cX0_hasChip 9 = .ok (.if_icmp .ge 7, 3) := by decide +kernel
theorem dX0_hasChip_12 : decode cX0_hasChip 12 = .ok (.iconst 1, 1) := by decide +kernel
theorem dX0_hasChip_13 : decode cX0_hasChip 13 = .ok (.goto 4, 3) := by decide +kernel
theorem dX0_hasChip_16 : decode cX0_hasChip 16 = .ok (.iconst 0, 1) := by decide +kernel
theorem dX0_hasChip_17 : decode cX0_hasChip 17 = .ok (.ireturn, 1) := by decide +kernel
theorem dX0_hasWord_0 : decode cX0_hasWord 0 = .ok (.iload_n 1, 1) := by decide +kernel
theorem dX0_hasWord_1 : decode cX0_hasWord 1 = .ok (.ifCond .lt 15, 3) := by decide +kernel
theorem dX0_hasWord_4 : decode cX0_hasWord 4 = .ok (.iload_n 1, 1) := by decide +kernel
theorem dX0_hasWord_5 : decode cX0_hasWord 5 = .ok (.aload_n 0, 1) := by decide +kernel
theorem dX0_hasWord_6 : decode cX0_hasWord 6 = .ok (.getfield 64, 3) := by decide +kernel
theorem dX0_hasWord_9 : decode cX0_hasWord 9 = .ok (.if_icmp .ge 7, 3) := by decide +kernel
theorem dX0_hasWord_12 : decode cX0_hasWord 12 = .ok (.iconst 1, 1) := by decide +kernel
theorem dX0_hasWord_13 : decode cX0_hasWord 13 = .ok (.goto 4, 3) := by decide +kernel
theorem dX0_hasWord_16 : decode cX0_hasWord 16 = .ok (.iconst 0, 1) := by decide +kernel
theorem dX0_hasWord_17 : decode cX0_hasWord 17 = .ok (.ireturn, 1) := by decide +kernel
theorem dX0_lives_0 : decode cX0_lives 0 = .ok (.aload_n 0, 1) := by decide +kernel
theorem dX0_lives_1 : decode cX0_lives 1 = .ok (.getfield 61, 3) := by decide +kernel
theorem dX0_lives_4 : decode cX0_lives 4 = .ok (.iload_n 1, 1) := by decide +kernel
theorem dX0_lives_5 : decode cX0_lives 5 = .ok (.ishr, 1) := by decide +kernel
theorem dX0_lives_6 : decode cX0_lives 6 = .ok (.iconst 1, 1) := by decide +kernel
theorem dX0_lives_7 : decode cX0_lives 7 = .ok (.iand, 1) := by decide +kernel
theorem dX0_lives_8 : decode cX0_lives 8 = .ok (.iconst 1, 1) := by decide +kernel
theorem dX0_lives_9 : decode cX0_lives 9 = .ok (.if_icmp .ne 7, 3) := by decide +kernel
theorem dX0_lives_12 : decode cX0_lives 12 = .ok (.iconst 1, 1) := by decide +kernel
theorem dX0_lives_13 : decode cX0_lives 13 = .ok (.goto 4, 3) := by decide +kernel
theorem dX0_lives_16 : decode cX0_lives 16 = .ok (.iconst 0, 1) := by decide +kernel
theorem dX0_lives_17 : decode cX0_lives 17 = .ok (.ireturn, 1) := by decide +kernel
theorem dX0_isGodfather_0 : decode cX0_isGodfather 0 = .ok (.aload_n 0, 1) := by decide +kernel
theorem dX0_isGodfather_1 : decode cX0_isGodfather 1 = .ok (.getfield 24, 3) := by decide +kernel
theorem dX0_isGodfather_4 : decode cX0_isGodfather 4 = .ok (.aload_n 0, 1) := by decide +kernel
theorem dX0_isGodfather_5 : decode cX0_isGodfather 5 = .ok (.getfield 9, 3) := by decide +kernel
theorem dX0_isGodfather_8 : decode cX0_isGodfather 8 = .ok (.iload_n 1, 1) := by decide +kernel
theorem dX0_isGodfather_9 : decode cX0_isGodfather 9 = .ok (.iaload, 1) := by decide +kernel
theorem dX0_isGodfather_10 : decode cX0_isGodfather 10 = .ok (.iaload, 1) := by decide +kernel
theorem dX0_isGodfather_11 : decode cX0_isGodfather 11 = .ok (.iload_n 1, 1) := by decide +kernel
theorem dX0_isGodfather_12 : decode cX0_isGodfather 12 = .ok (.if_icmp .ne 7, 3) := by decide +kernel
theorem dX0_isGodfather_15 : decode cX0_isGodfather 15 = .ok (.iconst 1, 1) := by decide +kernel
theorem dX0_isGodfather_16 : decode cX0_isGodfather 16 = .ok (.goto 4, 3) := by decide +kernel
theorem dX0_isGodfather_19 : decode cX0_isGodfather 19 = .ok (.iconst 0, 1) := by decide +kernel
theorem dX0_isGodfather_20 : decode cX0_isGodfather 20 = .ok (.ireturn, 1) := by decide +kernel
theorem dX0_isBroken_0 : decode cX0_isBroken 0 = .ok (.aload_n 0, 1) := by decide +kernel
theorem dX0_isBroken_1 : decode cX0_isBroken 1 = .ok (.getfield 15, 3) := by decide +kernel
theorem dX0_isBroken_4 : decode cX0_isBroken 4 = .ok (.iload_n 1, 1) := by decide +kernel
theorem dX0_isBroken_5 : decode cX0_isBroken 5 = .ok (.iaload, 1) := by decide +kernel
theorem dX0_isBroken_6 : decode cX0_isBroken 6 = .ok (.iload_n 2, 1) := by decide +kernel
theorem dX0_isBroken_7 : decode cX0_isBroken 7 = .ok (.ishr, 1) := by decide +kernel
theorem dX0_isBroken_8 : decode cX0_isBroken 8 = .ok (.iconst 1, 1) := by decide +kernel
theorem dX0_isBroken_9 : decode cX0_isBroken 9 = .ok (.iand, 1) := by decide +kernel
theorem dX0_isBroken_10 : decode cX0_isBroken 10 = .ok (.iconst 1, 1) := by decide +kernel
theorem dX0_isBroken_11 : decode cX0_isBroken 11 = .ok (.if_icmp .ne 7, 3) := by decide +kernel
theorem dX0_isBroken_14 : decode cX0_isBroken 14 = .ok (.iconst 1, 1) := by decide +kernel
theorem dX0_isBroken_15 : decode cX0_isBroken 15 = .ok (.goto 4, 3) := by decide +kernel
theorem dX0_isBroken_18 : decode cX0_isBroken 18 = .ok (.iconst 0, 1) := by decide +kernel
theorem dX0_isBroken_19 : decode cX0_isBroken 19 = .ok (.ireturn, 1) := by decide +kernel
theorem dX0_fateOf_0 : decode cX0_fateOf 0 = .ok (.aload_n 0, 1) := by decide +kernel
theorem dX0_fateOf_1 : decode cX0_fateOf 1 = .ok (.getfield 39, 3) := by decide +kernel
theorem dX0_fateOf_4 : decode cX0_fateOf 4 = .ok (.iload_n 1, 1) := by decide +kernel
theorem dX0_fateOf_5 : decode cX0_fateOf 5 = .ok (.iaload, 1) := by decide +kernel
theorem dX0_fateOf_6 : decode cX0_fateOf 6 = .ok (.iconst (-1), 1) := by decide +kernel
theorem dX0_fateOf_7 : decode cX0_fateOf 7 = .ok (.if_icmp .eq 5, 3) := by decide +kernel
theorem dX0_fateOf_10 : decode cX0_fateOf 10 = .ok (.iconst 0, 1) := by decide +kernel
theorem dX0_fateOf_11 : decode cX0_fateOf 11 = .ok (.ireturn, 1) := by decide +kernel
theorem dX0_fateOf_12 : decode cX0_fateOf 12 = .ok (.aload_n 0, 1) := by decide +kernel
theorem dX0_fateOf_13 : decode cX0_fateOf 13 = .ok (.getfield 42, 3) := by decide +kernel
theorem dX0_fateOf_16 : decode cX0_fateOf 16 = .ok (.iload_n 1, 1) := by decide +kernel
theorem dX0_fateOf_17 : decode cX0_fateOf 17 = .ok (.iaload, 1) := by decide +kernel
theorem dX0_fateOf_18 : decode cX0_fateOf 18 = .ok (.iconst (-1), 1) := by decide +kernel
theorem dX0_fateOf_19 : decode cX0_fateOf 19 = .ok (.if_icmp .eq 7, 3) := by decide +kernel
theorem dX0_fateOf_22 : decode cX0_fateOf 22 = .ok (.iconst 1, 1) := by decide +kernel
theorem dX0_fateOf_23 : decode cX0_fateOf 23 = .ok (.goto 4, 3) := by decide +kernel
theorem dX0_fateOf_26 : decode cX0_fateOf 26 = .ok (.iconst 2, 1) := by decide +kernel
theorem dX0_fateOf_27 : decode cX0_fateOf 27 = .ok (.ireturn, 1) := by decide +kernel
theorem dX0_guardedRows_0 : decode cX0_guardedRows 0 = .ok (.aload_n 0, 1) := by decide +kernel
theorem dX0_guardedRows_1 : decode cX0_guardedRows 1 = .ok (.getfield 24, 3) := by decide +kernel
theorem dX0_guardedRows_4 : decode cX0_guardedRows 4 = .ok (.iload_n 1, 1) := by decide +kernel
theorem dX0_guardedRows_5 : decode cX0_guardedRows 5 = .ok (.iaload, 1) := by decide +kernel
theorem dX0_guardedRows_6 : decode cX0_guardedRows 6 = .ok (.istore_n 2, 1) := by decide +kernel
theorem dX0_guardedRows_7 : decode cX0_guardedRows 7 = .ok (.iload_n 2, 1) := by decide +kernel
theorem dX0_guardedRows_8 : decode cX0_guardedRows 8 = .ok (.iconst (-1), 1) := by decide +kernel
theorem dX0_guardedRows_9 : decode cX0_guardedRows 9 = .ok (.if_icmp .ne 7, 3) := by decide +kernel
theorem dX0_guardedRows_12 : decode cX0_guardedRows 12 = .ok (.iconst 0, 1) := by decide +kernel
theorem dX0_guardedRows_13 : decode cX0_guardedRows 13 = .ok (.goto 14, 3) := by decide +kernel
theorem dX0_guardedRows_16 : decode cX0_guardedRows 16 = .ok (.bipush 63, 2) := by decide +kernel
theorem dX0_guardedRows_18 : decode cX0_guardedRows 18 = .ok (.aload_n 0, 1) := by decide +kernel
theorem dX0_guardedRows_19 : decode cX0_guardedRows 19 = .ok (.getfield 15, 3) := by decide +kernel
theorem dX0_guardedRows_22 : decode cX0_guardedRows 22 = .ok (.iload_n 2, 1) := by decide +kernel
theorem dX0_guardedRows_23 : decode cX0_guardedRows 23 = .ok (.iaload, 1) := by decide +kernel
theorem dX0_guardedRows_24 : decode cX0_guardedRows 24 = .ok (.iconst (-1), 1) := by decide +kernel
theorem dX0_guardedRows_25 : decode cX0_guardedRows 25 = .ok (.ixor, 1) := by decide +kernel
theorem dX0_guardedRows_26 : decode cX0_guardedRows 26 = .ok (.iand, 1) := by decide +kernel
theorem dX0_guardedRows_27 : decode cX0_guardedRows 27 = .ok (.ireturn, 1) := by decide +kernel
theorem dX0_livingOf_0 : decode cX0_livingOf 0 = .ok (.iconst 0, 1) := by decide +kernel
theorem dX0_livingOf_1 : decode cX0_livingOf 1 = .ok (.istore_n 2, 1) := by decide +kernel
theorem dX0_livingOf_2 : decode cX0_livingOf 2 = .ok (.iconst 0, 1) := by decide +kernel
theorem dX0_livingOf_3 : decode cX0_livingOf 3 = .ok (.istore_n 3, 1) := by decide +kernel
theorem dX0_livingOf_4 : decode cX0_livingOf 4 = .ok (.iload_n 3, 1) := by decide +kernel
theorem dX0_livingOf_5 : decode cX0_livingOf 5 = .ok (.aload_n 0, 1) := by decide +kernel
theorem dX0_livingOf_6 : decode cX0_livingOf 6 = .ok (.getfield 57, 3) := by decide +kernel
theorem dX0_livingOf_9 : decode cX0_livingOf 9 = .ok (.if_icmp .ge 33, 3) := by decide +kernel
theorem dX0_livingOf_12 : decode cX0_livingOf 12 = .ok (.aload_n 0, 1) := by decide +kernel
theorem dX0_livingOf_13 : decode cX0_livingOf 13 = .ok (.getfield 9, 3) := by decide +kernel
theorem dX0_livingOf_16 : decode cX0_livingOf 16 = .ok (.iload_n 3, 1) := by decide +kernel
theorem dX0_livingOf_17 : decode cX0_livingOf 17 = .ok (.iaload, 1) := by decide +kernel
theorem dX0_livingOf_18 : decode cX0_livingOf 18 = .ok (.iload_n 1, 1) := by decide +kernel
theorem dX0_livingOf_19 : decode cX0_livingOf 19 = .ok (.if_icmp .ne 17, 3) := by decide +kernel
theorem dX0_livingOf_22 : decode cX0_livingOf 22 = .ok (.aload_n 0, 1) := by decide +kernel
theorem dX0_livingOf_23 : decode cX0_livingOf 23 = .ok (.iload_n 3, 1) := by decide +kernel
theorem dX0_livingOf_24 : decode cX0_livingOf 24 = .ok (.invokevirtual 79, 3) := by decide +kernel
theorem dX0_livingOf_27 : decode cX0_livingOf 27 = .ok (.ifCond .eq 9, 3) := by decide +kernel
theorem dX0_livingOf_30 : decode cX0_livingOf 30 = .ok (.iload_n 2, 1) := by decide +kernel
theorem dX0_livingOf_31 : decode cX0_livingOf 31 = .ok (.iconst 1, 1) := by decide +kernel
theorem dX0_livingOf_32 : decode cX0_livingOf 32 = .ok (.iload_n 3, 1) := by decide +kernel
theorem dX0_livingOf_33 : decode cX0_livingOf 33 = .ok (.ishl, 1) := by decide +kernel
theorem dX0_livingOf_34 : decode cX0_livingOf 34 = .ok (.ior, 1) := by decide +kernel
theorem dX0_livingOf_35 : decode cX0_livingOf 35 = .ok (.istore_n 2, 1) := by decide +kernel
theorem dX0_livingOf_36 : decode cX0_livingOf 36 = .ok (.iinc 3 1, 3) := by decide +kernel
theorem dX0_livingOf_39 : decode cX0_livingOf 39 = .ok (.goto (-35), 3) := by decide +kernel
theorem dX0_livingOf_42 : decode cX0_livingOf 42 = .ok (.iload_n 2, 1) := by decide +kernel
theorem dX0_livingOf_43 : decode cX0_livingOf 43 = .ok (.ireturn, 1) := by decide +kernel
theorem dX0_placeSet_0 : decode cX0_placeSet 0 = .ok (.aload_n 0, 1) := by decide +kernel
theorem dX0_placeSet_1 : decode cX0_placeSet 1 = .ok (.getfield 9, 3) := by decide +kernel
theorem dX0_placeSet_4 : decode cX0_placeSet 4 = .ok (.iload_n 1, 1) := by decide +kernel
theorem dX0_placeSet_5 : decode cX0_placeSet 5 = .ok (.iaload, 1) := by decide +kernel
theorem dX0_placeSet_6 : decode cX0_placeSet 6 = .ok (.istore_n 2, 1) := by decide +kernel
theorem dX0_placeSet_7 : decode cX0_placeSet 7 = .ok (.aload_n 0, 1) := by decide +kernel
theorem dX0_placeSet_8 : decode cX0_placeSet 8 = .ok (.getfield 61, 3) := by decide +kernel
theorem dX0_placeSet_11 : decode cX0_placeSet 11 = .ok (.iload_n 1, 1) := by decide +kernel
theorem dX0_placeSet_12 : decode cX0_placeSet 12 = .ok (.ishr, 1) := by decide +kernel
theorem dX0_placeSet_13 : decode cX0_placeSet 13 = .ok (.iconst 1, 1) := by decide +kernel
theorem dX0_placeSet_14 : decode cX0_placeSet 14 = .ok (.iand, 1) := by decide +kernel
theorem dX0_placeSet_15 : decode cX0_placeSet 15 = .ok (.ifCond .eq 13, 3) := by decide +kernel
theorem dX0_placeSet_18 : decode cX0_placeSet 18 = .ok (.aload_n 0, 1) := by decide +kernel
theorem dX0_placeSet_19 : decode cX0_placeSet 19 = .ok (.getfield 24, 3) := by decide +kernel
theorem dX0_placeSet_22 : decode cX0_placeSet 22 = .ok (.iload_n 2, 1) := by decide +kernel
theorem dX0_placeSet_23 : decode cX0_placeSet 23 = .ok (.iaload, 1) := by decide +kernel
theorem dX0_placeSet_24 : decode cX0_placeSet 24 = .ok (.iload_n 1, 1) := by decide +kernel
theorem dX0_placeSet_25 : decode cX0_placeSet 25 = .ok (.if_icmp .ne 5, 3) := by decide +kernel
theorem dX0_placeSet_28 : decode cX0_placeSet 28 = .ok (.iconst 0, 1) := by decide +kernel
theorem dX0_placeSet_29 : decode cX0_placeSet 29 = .ok (.ireturn, 1) := by decide +kernel
theorem dX0_placeSet_30 : decode cX0_placeSet 30 = .ok (.iconst 0, 1) := by decide +kernel
theorem dX0_placeSet_31 : decode cX0_placeSet 31 = .ok (.istore_n 3, 1) := by decide +kernel
theorem dX0_placeSet_32 : decode cX0_placeSet 32 = .ok (.iconst 0, 1) := by decide +kernel
theorem dX0_placeSet_33 : decode cX0_placeSet 33 = .ok (.istore 4, 2) := by decide +kernel
theorem dX0_placeSet_35 : decode cX0_placeSet 35 = .ok (.iload 4, 2) := by decide +kernel
theorem dX0_placeSet_37 : decode cX0_placeSet 37 = .ok (.bipush 6, 2) := by decide +kernel
theorem dX0_placeSet_39 : decode cX0_placeSet 39 = .ok (.if_icmp .ge 48, 3) := by decide +kernel
theorem dX0_placeSet_42 : decode cX0_placeSet 42 = .ok (.aload_n 0, 1) := by decide +kernel
theorem dX0_placeSet_43 : decode cX0_placeSet 43 = .ok (.getfield 21, 3) := by decide +kernel
theorem dX0_placeSet_46 : decode cX0_placeSet 46 = .ok (.iload_n 1, 1) := by decide +kernel
theorem dX0_placeSet_47 : decode cX0_placeSet 47 = .ok (.bipush 6, 2) := by decide +kernel
theorem dX0_placeSet_49 : decode cX0_placeSet 49 = .ok (.imul, 1) := by decide +kernel
theorem dX0_placeSet_50 : decode cX0_placeSet 50 = .ok (.iload 4, 2) := by decide +kernel
theorem dX0_placeSet_52 : decode cX0_placeSet 52 = .ok (.iadd, 1) := by decide +kernel
theorem dX0_placeSet_53 : decode cX0_placeSet 53 = .ok (.iaload, 1) := by decide +kernel
theorem dX0_placeSet_54 : decode cX0_placeSet 54 = .ok (.iconst (-1), 1) := by decide +kernel
theorem dX0_placeSet_55 : decode cX0_placeSet 55 = .ok (.if_icmp .ne 26, 3) := by decide +kernel
theorem dX0_placeSet_58 : decode cX0_placeSet 58 = .ok (.aload_n 0, 1) := by decide +kernel
theorem dX0_placeSet_59 : decode cX0_placeSet 59 = .ok (.getfield 27, 3) := by decide +kernel
theorem dX0_placeSet_62 : decode cX0_placeSet 62 = .ok (.iload_n 2, 1) := by decide +kernel
theorem dX0_placeSet_63 : decode cX0_placeSet 63 = .ok (.bipush 6, 2) := by decide +kernel
theorem dX0_placeSet_65 : decode cX0_placeSet 65 = .ok (.imul, 1) := by decide +kernel
theorem dX0_placeSet_66 : decode cX0_placeSet 66 = .ok (.iload 4, 2) := by decide +kernel
theorem dX0_placeSet_68 : decode cX0_placeSet 68 = .ok (.iadd, 1) := by decide +kernel
theorem dX0_placeSet_69 : decode cX0_placeSet 69 = .ok (.iaload, 1) := by decide +kernel
theorem dX0_placeSet_70 : decode cX0_placeSet 70 = .ok (.iconst (-1), 1) := by decide +kernel
theorem dX0_placeSet_71 : decode cX0_placeSet 71 = .ok (.if_icmp .ne 10, 3) := by decide +kernel
theorem dX0_placeSet_74 : decode cX0_placeSet 74 = .ok (.iload_n 3, 1) := by decide +kernel
theorem dX0_placeSet_75 : decode cX0_placeSet 75 = .ok (.iconst 1, 1) := by decide +kernel
theorem dX0_placeSet_76 : decode cX0_placeSet 76 = .ok (.iload 4, 2) := by decide +kernel
theorem dX0_placeSet_78 : decode cX0_placeSet 78 = .ok (.ishl, 1) := by decide +kernel
theorem dX0_placeSet_79 : decode cX0_placeSet 79 = .ok (.ior, 1) := by decide +kernel
theorem dX0_placeSet_80 : decode cX0_placeSet 80 = .ok (.istore_n 3, 1) := by decide +kernel
theorem dX0_placeSet_81 : decode cX0_placeSet 81 = .ok (.iinc 4 1, 3) := by decide +kernel
theorem dX0_placeSet_84 : decode cX0_placeSet 84 = .ok (.goto (-49), 3) := by decide +kernel
theorem dX0_placeSet_87 : decode cX0_placeSet 87 = .ok (.iload_n 3, 1) := by decide +kernel
theorem dX0_placeSet_88 : decode cX0_placeSet 88 = .ok (.aload_n 0, 1) := by decide +kernel
theorem dX0_placeSet_89 : decode cX0_placeSet 89 = .ok (.getfield 15, 3) := by decide +kernel
theorem dX0_placeSet_92 : decode cX0_placeSet 92 = .ok (.iload_n 1, 1) := by decide +kernel
theorem dX0_placeSet_93 : decode cX0_placeSet 93 = .ok (.iaload, 1) := by decide +kernel
theorem dX0_placeSet_94 : decode cX0_placeSet 94 = .ok (.iconst (-1), 1) := by decide +kernel
theorem dX0_placeSet_95 : decode cX0_placeSet 95 = .ok (.ixor, 1) := by decide +kernel
theorem dX0_placeSet_96 : decode cX0_placeSet 96 = .ok (.iand, 1) := by decide +kernel
theorem dX0_placeSet_97 : decode cX0_placeSet 97 = .ok (.ireturn, 1) := by decide +kernel
theorem dX0_allPlaces_0 : decode cX0_allPlaces 0 = .ok (.iconst 0, 1) := by decide +kernel
theorem dX0_allPlaces_1 : decode cX0_allPlaces 1 = .ok (.istore_n 1, 1) := by decide +kernel
theorem dX0_allPlaces_2 : decode cX0_allPlaces 2 = .ok (.iconst 0, 1) := by decide +kernel
theorem dX0_allPlaces_3 : decode cX0_allPlaces 3 = .ok (.istore_n 2, 1) := by decide +kernel
theorem dX0_allPlaces_4 : decode cX0_allPlaces 4 = .ok (.iload_n 2, 1) := by decide +kernel
theorem dX0_allPlaces_5 : decode cX0_allPlaces 5 = .ok (.aload_n 0, 1) := by decide +kernel
theorem dX0_allPlaces_6 : decode cX0_allPlaces 6 = .ok (.getfield 57, 3) := by decide +kernel
theorem dX0_allPlaces_9 : decode cX0_allPlaces 9 = .ok (.if_icmp .ge 20, 3) := by decide +kernel
theorem dX0_allPlaces_12 : decode cX0_allPlaces 12 = .ok (.iload_n 1, 1) := by decide +kernel
theorem dX0_allPlaces_13 : decode cX0_allPlaces 13 = .ok (.aload_n 0, 1) := by decide +kernel
theorem dX0_allPlaces_14 : decode cX0_allPlaces 14 = .ok (.iload_n 2, 1) := by decide +kernel
theorem dX0_allPlaces_15 : decode cX0_allPlaces 15 = .ok (.invokevirtual 83, 3) := by decide +kernel
theorem dX0_allPlaces_18 : decode cX0_allPlaces 18 = .ok (.invokestatic 87, 3) := by decide +kernel
theorem dX0_allPlaces_21 : decode cX0_allPlaces 21 = .ok (.iadd, 1) := by decide +kernel
theorem dX0_allPlaces_22 : decode cX0_allPlaces 22 = .ok (.istore_n 1, 1) := by decide +kernel
theorem dX0_allPlaces_23 : decode cX0_allPlaces 23 = .ok (.iinc 2 1, 3) := by decide +kernel
theorem dX0_allPlaces_26 : decode cX0_allPlaces 26 = .ok (.goto (-22), 3) := by decide +kernel
theorem dX0_allPlaces_29 : decode cX0_allPlaces 29 = .ok (.iload_n 1, 1) := by decide +kernel
theorem dX0_allPlaces_30 : decode cX0_allPlaces 30 = .ok (.ireturn, 1) := by decide +kernel
theorem dX0_sumOf_0 : decode cX0_sumOf 0 = .ok (.iconst 0, 1) := by decide +kernel
theorem dX0_sumOf_1 : decode cX0_sumOf 1 = .ok (.istore_n 3, 1) := by decide +kernel
theorem dX0_sumOf_2 : decode cX0_sumOf 2 = .ok (.iconst 0, 1) := by decide +kernel
theorem dX0_sumOf_3 : decode cX0_sumOf 3 = .ok (.istore 4, 2) := by decide +kernel
theorem dX0_sumOf_5 : decode cX0_sumOf 5 = .ok (.iload 4, 2) := by decide +kernel
theorem dX0_sumOf_7 : decode cX0_sumOf 7 = .ok (.aload_n 0, 1) := by decide +kernel
theorem dX0_sumOf_8 : decode cX0_sumOf 8 = .ok (.getfield 64, 3) := by decide +kernel
theorem dX0_sumOf_11 : decode cX0_sumOf 11 = .ok (.if_icmp .ge 41, 3) := by decide +kernel
theorem dX0_sumOf_14 : decode cX0_sumOf 14 = .ok (.aload_n 0, 1) := by decide +kernel
theorem dX0_sumOf_15 : decode cX0_sumOf 15 = .ok (.getfield 45, 3) := by decide +kernel
theorem dX0_sumOf_18 : decode cX0_sumOf 18 = .ok (.iload 4, 2) := by decide +kernel
theorem dX0_sumOf_20 : decode cX0_sumOf 20 = .ok (.iaload, 1) := by decide +kernel
theorem dX0_sumOf_21 : decode cX0_sumOf 21 = .ok (.iload_n 1, 1) := by decide +kernel
theorem dX0_sumOf_22 : decode cX0_sumOf 22 = .ok (.if_icmp .ne 24, 3) := by decide +kernel
theorem dX0_sumOf_25 : decode cX0_sumOf 25 = .ok (.aload_n 0, 1) := by decide +kernel
theorem dX0_sumOf_26 : decode cX0_sumOf 26 = .ok (.getfield 42, 3) := by decide +kernel
theorem dX0_sumOf_29 : decode cX0_sumOf 29 = .ok (.iload 4, 2) := by decide +kernel
theorem dX0_sumOf_31 : decode cX0_sumOf 31 = .ok (.iaload, 1) := by decide +kernel
theorem dX0_sumOf_32 : decode cX0_sumOf 32 = .ok (.iload_n 2, 1) := by decide +kernel
theorem dX0_sumOf_33 : decode cX0_sumOf 33 = .ok (.if_icmp .ne 13, 3) := by decide +kernel
theorem dX0_sumOf_36 : decode cX0_sumOf 36 = .ok (.iload_n 3, 1) := by decide +kernel
theorem dX0_sumOf_37 : decode cX0_sumOf 37 = .ok (.aload_n 0, 1) := by decide +kernel
theorem dX0_sumOf_38 : decode cX0_sumOf 38 = .ok (.getfield 36, 3) := by decide +kernel
theorem dX0_sumOf_41 : decode cX0_sumOf 41 = .ok (.iload 4, 2) := by decide +kernel
theorem dX0_sumOf_43 : decode cX0_sumOf 43 = .ok (.iaload, 1) := by decide +kernel
theorem dX0_sumOf_44 : decode cX0_sumOf 44 = .ok (.ixor, 1) := by decide +kernel
theorem dX0_sumOf_45 : decode cX0_sumOf 45 = .ok (.istore_n 3, 1) := by decide +kernel
theorem dX0_sumOf_46 : decode cX0_sumOf 46 = .ok (.iinc 4 1, 3) := by decide +kernel
theorem dX0_sumOf_49 : decode cX0_sumOf 49 = .ok (.goto (-44), 3) := by decide +kernel
theorem dX0_sumOf_52 : decode cX0_sumOf 52 = .ok (.iload_n 3, 1) := by decide +kernel
theorem dX0_sumOf_53 : decode cX0_sumOf 53 = .ok (.ireturn, 1) := by decide +kernel
theorem dX0_keptBy_0 : decode cX0_keptBy 0 = .ok (.iconst 0, 1) := by decide +kernel
theorem dX0_keptBy_1 : decode cX0_keptBy 1 = .ok (.istore_n 2, 1) := by decide +kernel
theorem dX0_keptBy_2 : decode cX0_keptBy 2 = .ok (.iconst 0, 1) := by decide +kernel
theorem dX0_keptBy_3 : decode cX0_keptBy 3 = .ok (.istore_n 3, 1) := by decide +kernel
theorem dX0_keptBy_4 : decode cX0_keptBy 4 = .ok (.iload_n 3, 1) := by decide +kernel
theorem dX0_keptBy_5 : decode cX0_keptBy 5 = .ok (.aload_n 0, 1) := by decide +kernel
theorem dX0_keptBy_6 : decode cX0_keptBy 6 = .ok (.getfield 64, 3) := by decide +kernel
theorem dX0_keptBy_9 : decode cX0_keptBy 9 = .ok (.if_icmp .ge 22, 3) := by decide +kernel
theorem dX0_keptBy_12 : decode cX0_keptBy 12 = .ok (.aload_n 0, 1) := by decide +kernel
theorem dX0_keptBy_13 : decode cX0_keptBy 13 = .ok (.getfield 39, 3) := by decide +kernel
theorem dX0_keptBy_16 : decode cX0_keptBy 16 = .ok (.iload_n 3, 1) := by decide +kernel
theorem dX0_keptBy_17 : decode cX0_keptBy 17 = .ok (.iaload, 1) := by decide +kernel
theorem dX0_keptBy_18 : decode cX0_keptBy 18 = .ok (.iload_n 1, 1) := by decide +kernel
theorem dX0_keptBy_19 : decode cX0_keptBy 19 = .ok (.if_icmp .ne 6, 3) := by decide +kernel
theorem dX0_keptBy_22 : decode cX0_keptBy 22 = .ok (.iinc 2 1, 3) := by decide +kernel
theorem dX0_keptBy_25 : decode cX0_keptBy 25 = .ok (.iinc 3 1, 3) := by decide +kernel
theorem dX0_keptBy_28 : decode cX0_keptBy 28 = .ok (.goto (-24), 3) := by decide +kernel
theorem dX0_keptBy_31 : decode cX0_keptBy 31 = .ok (.iload_n 2, 1) := by decide +kernel
theorem dX0_keptBy_32 : decode cX0_keptBy 32 = .ok (.ireturn, 1) := by decide +kernel
theorem dX0_keptIn_0 : decode cX0_keptIn 0 = .ok (.iconst 0, 1) := by decide +kernel
theorem dX0_keptIn_1 : decode cX0_keptIn 1 = .ok (.istore_n 3, 1) := by decide +kernel
theorem dX0_keptIn_2 : decode cX0_keptIn 2 = .ok (.iconst 0, 1) := by decide +kernel
theorem dX0_keptIn_3 : decode cX0_keptIn 3 = .ok (.istore 4, 2) := by decide +kernel
theorem dX0_keptIn_5 : decode cX0_keptIn 5 = .ok (.iload 4, 2) := by decide +kernel
theorem dX0_keptIn_7 : decode cX0_keptIn 7 = .ok (.aload_n 0, 1) := by decide +kernel
theorem dX0_keptIn_8 : decode cX0_keptIn 8 = .ok (.getfield 64, 3) := by decide +kernel
theorem dX0_keptIn_11 : decode cX0_keptIn 11 = .ok (.if_icmp .ge 49, 3) := by decide +kernel
theorem dX0_keptIn_14 : decode cX0_keptIn 14 = .ok (.aload_n 0, 1) := by decide +kernel
theorem dX0_keptIn_15 : decode cX0_keptIn 15 = .ok (.getfield 39, 3) := by decide +kernel
theorem dX0_keptIn_18 : decode cX0_keptIn 18 = .ok (.iload 4, 2) := by decide +kernel
theorem dX0_keptIn_20 : decode cX0_keptIn 20 = .ok (.iaload, 1) := by decide +kernel
theorem dX0_keptIn_21 : decode cX0_keptIn 21 = .ok (.iconst (-1), 1) := by decide +kernel
theorem dX0_keptIn_22 : decode cX0_keptIn 22 = .ok (.if_icmp .eq 32, 3) := by decide +kernel
theorem dX0_keptIn_25 : decode cX0_keptIn 25 = .ok (.aload_n 0, 1) := by decide +kernel
theorem dX0_keptIn_26 : decode cX0_keptIn 26 = .ok (.getfield 45, 3) := by decide +kernel
theorem dX0_keptIn_29 : decode cX0_keptIn 29 = .ok (.iload 4, 2) := by decide +kernel
theorem dX0_keptIn_31 : decode cX0_keptIn 31 = .ok (.iaload, 1) := by decide +kernel
theorem dX0_keptIn_32 : decode cX0_keptIn 32 = .ok (.iload_n 1, 1) := by decide +kernel
theorem dX0_keptIn_33 : decode cX0_keptIn 33 = .ok (.if_icmp .ne 21, 3) := by decide +kernel
theorem dX0_keptIn_36 : decode cX0_keptIn 36 = .ok (.iload_n 2, 1) := by decide +kernel
theorem dX0_keptIn_37 : decode cX0_keptIn 37 = .ok (.aload_n 0, 1) := by decide +kernel
theorem dX0_keptIn_38 : decode cX0_keptIn 38 = .ok (.getfield 42, 3) := by decide +kernel
theorem dX0_keptIn_41 : decode cX0_keptIn 41 = .ok (.iload 4, 2) := by decide +kernel
theorem dX0_keptIn_43 : decode cX0_keptIn 43 = .ok (.iaload, 1) := by decide +kernel
theorem dX0_keptIn_44 : decode cX0_keptIn 44 = .ok (.ishr, 1) := by decide +kernel
theorem dX0_keptIn_45 : decode cX0_keptIn 45 = .ok (.iconst 1, 1) := by decide +kernel
theorem dX0_keptIn_46 : decode cX0_keptIn 46 = .ok (.iand, 1) := by decide +kernel
theorem dX0_keptIn_47 : decode cX0_keptIn 47 = .ok (.iconst 1, 1) := by decide +kernel
theorem dX0_keptIn_48 : decode cX0_keptIn 48 = .ok (.if_icmp .ne 6, 3) := by decide +kernel
theorem dX0_keptIn_51 : decode cX0_keptIn 51 = .ok (.iinc 3 1, 3) := by decide +kernel
theorem dX0_keptIn_54 : decode cX0_keptIn 54 = .ok (.iinc 4 1, 3) := by decide +kernel
theorem dX0_keptIn_57 : decode cX0_keptIn 57 = .ok (.goto (-52), 3) := by decide +kernel
theorem dX0_keptIn_60 : decode cX0_keptIn 60 = .ok (.iload_n 3, 1) := by decide +kernel
theorem dX0_keptIn_61 : decode cX0_keptIn 61 = .ok (.ireturn, 1) := by decide +kernel
theorem dX0_wordsKept_0 : decode cX0_wordsKept 0 = .ok (.iconst 0, 1) := by decide +kernel
theorem dX0_wordsKept_1 : decode cX0_wordsKept 1 = .ok (.istore_n 1, 1) := by decide +kernel
theorem dX0_wordsKept_2 : decode cX0_wordsKept 2 = .ok (.iconst 0, 1) := by decide +kernel
theorem dX0_wordsKept_3 : decode cX0_wordsKept 3 = .ok (.istore_n 2, 1) := by decide +kernel
theorem dX0_wordsKept_4 : decode cX0_wordsKept 4 = .ok (.iload_n 2, 1) := by decide +kernel
theorem dX0_wordsKept_5 : decode cX0_wordsKept 5 = .ok (.aload_n 0, 1) := by decide +kernel
theorem dX0_wordsKept_6 : decode cX0_wordsKept 6 = .ok (.getfield 64, 3) := by decide +kernel
theorem dX0_wordsKept_9 : decode cX0_wordsKept 9 = .ok (.if_icmp .ge 22, 3) := by decide +kernel
theorem dX0_wordsKept_12 : decode cX0_wordsKept 12 = .ok (.aload_n 0, 1) := by decide +kernel
theorem dX0_wordsKept_13 : decode cX0_wordsKept 13 = .ok (.getfield 39, 3) := by decide +kernel
theorem dX0_wordsKept_16 : decode cX0_wordsKept 16 = .ok (.iload_n 2, 1) := by decide +kernel
theorem dX0_wordsKept_17 : decode cX0_wordsKept 17 = .ok (.iaload, 1) := by decide +kernel
theorem dX0_wordsKept_18 : decode cX0_wordsKept 18 = .ok (.iconst (-1), 1) := by decide +kernel
theorem dX0_wordsKept_19 : decode cX0_wordsKept 19 = .ok (.if_icmp .eq 6, 3) := by decide +kernel
theorem dX0_wordsKept_22 : decode cX0_wordsKept 22 = .ok (.iinc 1 1, 3) := by decide +kernel
theorem dX0_wordsKept_25 : decode cX0_wordsKept 25 = .ok (.iinc 2 1, 3) := by decide +kernel
theorem dX0_wordsKept_28 : decode cX0_wordsKept 28 = .ok (.goto (-24), 3) := by decide +kernel
theorem dX0_wordsKept_31 : decode cX0_wordsKept 31 = .ok (.iload_n 1, 1) := by decide +kernel
theorem dX0_wordsKept_32 : decode cX0_wordsKept 32 = .ok (.ireturn, 1) := by decide +kernel
theorem dX0_wordsWaiting_0 : decode cX0_wordsWaiting 0 = .ok (.iconst 0, 1) := by decide +kernel
theorem dX0_wordsWaiting_1 : decode cX0_wordsWaiting 1 = .ok (.istore_n 1, 1) := by decide +kernel
theorem dX0_wordsWaiting_2 : decode cX0_wordsWaiting 2 = .ok (.iconst 0, 1) := by decide +kernel
theorem dX0_wordsWaiting_3 : decode cX0_wordsWaiting 3 = .ok (.istore_n 2, 1) := by decide +kernel
theorem dX0_wordsWaiting_4 : decode cX0_wordsWaiting 4 = .ok (.iload_n 2, 1) := by decide +kernel
theorem dX0_wordsWaiting_5 : decode cX0_wordsWaiting 5 = .ok (.iconst 3, 1) := by decide +kernel
theorem dX0_wordsWaiting_6 : decode cX0_wordsWaiting 6 = .ok (.if_icmp .ge 18, 3) := by decide +kernel
theorem dX0_wordsWaiting_9 : decode cX0_wordsWaiting 9 = .ok (.iload_n 1, 1) := by decide +kernel
theorem dX0_wordsWaiting_10 : decode cX0_wordsWaiting 10 = .ok (.aload_n 0, 1) := by decide +kernel
theorem dX0_wordsWaiting_11 : decode cX0_wordsWaiting 11 = .ok (.getfield 33, 3) := by decide +kernel
theorem dX0_wordsWaiting_14 : decode cX0_wordsWaiting 14 = .ok (.iload_n 2, 1) := by decide +kernel
theorem dX0_wordsWaiting_15 : decode cX0_wordsWaiting 15 = .ok (.iaload, 1) := by decide +kernel
theorem dX0_wordsWaiting_16 : decode cX0_wordsWaiting 16 = .ok (.iadd, 1) := by decide +kernel
theorem dX0_wordsWaiting_17 : decode cX0_wordsWaiting 17 = .ok (.istore_n 1, 1) := by decide +kernel
theorem dX0_wordsWaiting_18 : decode cX0_wordsWaiting 18 = .ok (.iinc 2 1, 3) := by decide +kernel
theorem dX0_wordsWaiting_21 : decode cX0_wordsWaiting 21 = .ok (.goto (-17), 3) := by decide +kernel
theorem dX0_wordsWaiting_24 : decode cX0_wordsWaiting 24 = .ok (.iload_n 1, 1) := by decide +kernel
theorem dX0_wordsWaiting_25 : decode cX0_wordsWaiting 25 = .ok (.ireturn, 1) := by decide +kernel
theorem dX0_godfathers_0 : decode cX0_godfathers 0 = .ok (.iconst 0, 1) := by decide +kernel
theorem dX0_godfathers_1 : decode cX0_godfathers 1 = .ok (.istore_n 1, 1) := by decide +kernel
theorem dX0_godfathers_2 : decode cX0_godfathers 2 = .ok (.iconst 0, 1) := by decide +kernel
theorem dX0_godfathers_3 : decode cX0_godfathers 3 = .ok (.istore_n 2, 1) := by decide +kernel
theorem dX0_godfathers_4 : decode cX0_godfathers 4 = .ok (.iload_n 2, 1) := by decide +kernel
theorem dX0_godfathers_5 : decode cX0_godfathers 5 = .ok (.iconst 3, 1) := by decide +kernel
theorem dX0_godfathers_6 : decode cX0_godfathers 6 = .ok (.if_icmp .ge 22, 3) := by decide +kernel
theorem dX0_godfathers_9 : decode cX0_godfathers 9 = .ok (.aload_n 0, 1) := by decide +kernel
theorem dX0_godfathers_10 : decode cX0_godfathers 10 = .ok (.getfield 24, 3) := by decide +kernel
theorem dX0_godfathers_13 : decode cX0_godfathers 13 = .ok (.iload_n 2, 1) := by decide +kernel
theorem dX0_godfathers_14 : decode cX0_godfathers 14 = .ok (.iaload, 1) := by decide +kernel
theorem dX0_godfathers_15 : decode cX0_godfathers 15 = .ok (.iconst (-1), 1) := by decide +kernel
theorem dX0_godfathers_16 : decode cX0_godfathers 16 = .ok (.if_icmp .eq 6, 3) := by decide +kernel
theorem dX0_godfathers_19 : decode cX0_godfathers 19 = .ok (.iinc 1 1, 3) := by decide +kernel
theorem dX0_godfathers_22 : decode cX0_godfathers 22 = .ok (.iinc 2 1, 3) := by decide +kernel
theorem dX0_godfathers_25 : decode cX0_godfathers 25 = .ok (.goto (-21), 3) := by decide +kernel
theorem dX0_godfathers_28 : decode cX0_godfathers 28 = .ok (.iload_n 1, 1) := by decide +kernel
theorem dX0_godfathers_29 : decode cX0_godfathers 29 = .ok (.ireturn, 1) := by decide +kernel
theorem dX0_aheadOf_0 : decode cX0_aheadOf 0 = .ok (.aload_n 0, 1) := by decide +kernel
theorem dX0_aheadOf_1 : decode cX0_aheadOf 1 = .ok (.getfield 45, 3) := by decide +kernel
theorem dX0_aheadOf_4 : decode cX0_aheadOf 4 = .ok (.iload_n 1, 1) := by decide +kernel
theorem dX0_aheadOf_5 : decode cX0_aheadOf 5 = .ok (.iaload, 1) := by decide +kernel
theorem dX0_aheadOf_6 : decode cX0_aheadOf 6 = .ok (.istore_n 2, 1) := by decide +kernel
theorem dX0_aheadOf_7 : decode cX0_aheadOf 7 = .ok (.iconst 0, 1) := by decide +kernel
theorem dX0_aheadOf_8 : decode cX0_aheadOf 8 = .ok (.istore_n 3, 1) := by decide +kernel
theorem dX0_aheadOf_9 : decode cX0_aheadOf 9 = .ok (.iload_n 3, 1) := by decide +kernel
theorem dX0_aheadOf_10 : decode cX0_aheadOf 10 = .ok (.aload_n 0, 1) := by decide +kernel
theorem dX0_aheadOf_11 : decode cX0_aheadOf 11 = .ok (.getfield 33, 3) := by decide +kernel
theorem dX0_aheadOf_14 : decode cX0_aheadOf 14 = .ok (.iload_n 2, 1) := by decide +kernel
theorem dX0_aheadOf_15 : decode cX0_aheadOf 15 = .ok (.iaload, 1) := by decide +kernel
theorem dX0_aheadOf_16 : decode cX0_aheadOf 16 = .ok (.if_icmp .ge 24, 3) := by decide +kernel
theorem dX0_aheadOf_19 : decode cX0_aheadOf 19 = .ok (.aload_n 0, 1) := by decide +kernel
theorem dX0_aheadOf_20 : decode cX0_aheadOf 20 = .ok (.getfield 30, 3) := by decide +kernel
theorem dX0_aheadOf_23 : decode cX0_aheadOf 23 = .ok (.iload_n 2, 1) := by decide +kernel
theorem dX0_aheadOf_24 : decode cX0_aheadOf 24 = .ok (.bipush 6, 2) := by decide +kernel
theorem dX0_aheadOf_26 : decode cX0_aheadOf 26 = .ok (.imul, 1) := by decide +kernel
theorem dX0_aheadOf_27 : decode cX0_aheadOf 27 = .ok (.iload_n 3, 1) := by decide +kernel
theorem dX0_aheadOf_28 : decode cX0_aheadOf 28 = .ok (.iadd, 1) := by decide +kernel
theorem dX0_aheadOf_29 : decode cX0_aheadOf 29 = .ok (.iaload, 1) := by decide +kernel
theorem dX0_aheadOf_30 : decode cX0_aheadOf 30 = .ok (.iload_n 1, 1) := by decide +kernel
theorem dX0_aheadOf_31 : decode cX0_aheadOf 31 = .ok (.if_icmp .eq 9, 3) := by decide +kernel
theorem dX0_aheadOf_34 : decode cX0_aheadOf 34 = .ok (.iinc 3 1, 3) := by decide +kernel
theorem dX0_aheadOf_37 : decode cX0_aheadOf 37 = .ok (.goto (-28), 3) := by decide +kernel
theorem dX0_aheadOf_40 : decode cX0_aheadOf 40 = .ok (.iload_n 3, 1) := by decide +kernel
theorem dX0_aheadOf_41 : decode cX0_aheadOf 41 = .ok (.ireturn, 1) := by decide +kernel
theorem dX0_chipFor_0 : decode cX0_chipFor 0 = .ok (.iconst (-1), 1) := by decide +kernel
theorem dX0_chipFor_1 : decode cX0_chipFor 1 = .ok (.istore_n 3, 1) := by decide +kernel
theorem dX0_chipFor_2 : decode cX0_chipFor 2 = .ok (.iconst 0, 1) := by decide +kernel
theorem dX0_chipFor_3 : decode cX0_chipFor 3 = .ok (.istore 4, 2) := by decide +kernel
theorem dX0_chipFor_5 : decode cX0_chipFor 5 = .ok (.iconst 0, 1) := by decide +kernel
theorem dX0_chipFor_6 : decode cX0_chipFor 6 = .ok (.istore 5, 2) := by decide +kernel
theorem dX0_chipFor_8 : decode cX0_chipFor 8 = .ok (.iload 5, 2) := by decide +kernel
theorem dX0_chipFor_10 : decode cX0_chipFor 10 = .ok (.aload_n 0, 1) := by decide +kernel
theorem dX0_chipFor_11 : decode cX0_chipFor 11 = .ok (.getfield 57, 3) := by decide +kernel
theorem dX0_chipFor_14 : decode cX0_chipFor 14 = .ok (.if_icmp .ge 59, 3) := by decide +kernel
theorem dX0_chipFor_17 : decode cX0_chipFor 17 = .ok (.aload_n 0, 1) := by decide +kernel
theorem dX0_chipFor_18 : decode cX0_chipFor 18 = .ok (.iload 5, 2) := by decide +kernel
theorem dX0_chipFor_20 : decode cX0_chipFor 20 = .ok (.invokevirtual 83, 3) := by decide +kernel
theorem dX0_chipFor_23 : decode cX0_chipFor 23 = .ok (.invokestatic 87, 3) := by decide +kernel
theorem dX0_chipFor_26 : decode cX0_chipFor 26 = .ok (.istore 6, 2) := by decide +kernel
theorem dX0_chipFor_28 : decode cX0_chipFor 28 = .ok (.iload 6, 2) := by decide +kernel
theorem dX0_chipFor_30 : decode cX0_chipFor 30 = .ok (.ifCond .le 17, 3) := by decide +kernel
theorem dX0_chipFor_33 : decode cX0_chipFor 33 = .ok (.aload_n 0, 1) := by decide +kernel
theorem dX0_chipFor_34 : decode cX0_chipFor 34 = .ok (.getfield 9, 3) := by decide +kernel
theorem dX0_chipFor_37 : decode cX0_chipFor 37 = .ok (.iload 5, 2) := by decide +kernel
theorem dX0_chipFor_39 : decode cX0_chipFor 39 = .ok (.iaload, 1) := by decide +kernel
theorem dX0_chipFor_40 : decode cX0_chipFor 40 = .ok (.iload_n 1, 1) := by decide +kernel
theorem dX0_chipFor_41 : decode cX0_chipFor 41 = .ok (.if_icmp .ne 6, 3) := by decide +kernel
theorem dX0_chipFor_44 : decode cX0_chipFor 44 = .ok (.iinc 6 6, 3) := by decide +kernel
theorem dX0_chipFor_47 : decode cX0_chipFor 47 = .ok (.iload 6, 2) := by decide +kernel
theorem dX0_chipFor_49 : decode cX0_chipFor 49 = .ok (.iload 4, 2) := by decide +kernel
theorem dX0_chipFor_51 : decode cX0_chipFor 51 = .ok (.if_icmp .le 16, 3) := by decide +kernel
theorem dX0_chipFor_54 : decode cX0_chipFor 54 = .ok (.iload 5, 2) := by decide +kernel
theorem dX0_chipFor_56 : decode cX0_chipFor 56 = .ok (.iload_n 2, 1) := by decide +kernel
theorem dX0_chipFor_57 : decode cX0_chipFor 57 = .ok (.if_icmp .eq 10, 3) := by decide +kernel
theorem dX0_chipFor_60 : decode cX0_chipFor 60 = .ok (.iload 5, 2) := by decide +kernel
theorem dX0_chipFor_62 : decode cX0_chipFor 62 = .ok (.istore_n 3, 1) := by decide +kernel
theorem dX0_chipFor_63 : decode cX0_chipFor 63 = .ok (.iload 6, 2) := by decide +kernel
theorem dX0_chipFor_65 : decode cX0_chipFor 65 = .ok (.istore 4, 2) := by decide +kernel
theorem dX0_chipFor_67 : decode cX0_chipFor 67 = .ok (.iinc 5 1, 3) := by decide +kernel
theorem dX0_chipFor_70 : decode cX0_chipFor 70 = .ok (.goto (-62), 3) := by decide +kernel
theorem dX0_chipFor_73 : decode cX0_chipFor 73 = .ok (.iload_n 3, 1) := by decide +kernel
theorem dX0_chipFor_74 : decode cX0_chipFor 74 = .ok (.ireturn, 1) := by decide +kernel
theorem dX0_addChip_0 : decode cX0_addChip 0 = .ok (.iload_n 1, 1) := by decide +kernel
theorem dX0_addChip_1 : decode cX0_addChip 1 = .ok (.invokestatic 92, 3) := by decide +kernel
theorem dX0_addChip_4 : decode cX0_addChip 4 = .ok (.ifCond .eq 12, 3) := by decide +kernel
theorem dX0_addChip_7 : decode cX0_addChip 7 = .ok (.iload_n 2, 1) := by decide +kernel
theorem dX0_addChip_8 : decode cX0_addChip 8 = .ok (.ifCond .lt 8, 3) := by decide +kernel
theorem dX0_addChip_11 : decode cX0_addChip 11 = .ok (.iload_n 2, 1) := by decide +kernel
theorem dX0_addChip_12 : decode cX0_addChip 12 = .ok (.iconst 2, 1) := by decide +kernel
theorem dX0_addChip_13 : decode cX0_addChip 13 = .ok (.if_icmp .le 6, 3) := by decide +kernel
theorem dX0_addChip_16 : decode cX0_addChip 16 = .ok (.ldc 95, 2) := by decide +kernel
theorem dX0_addChip_18 : decode cX0_addChip 18 = .ok (.ireturn, 1) := by decide +kernel
theorem dX0_addChip_19 : decode cX0_addChip 19 = .ok (.aload_n 0, 1) := by decide +kernel
theorem dX0_addChip_20 : decode cX0_addChip 20 = .ok (.getfield 57, 3) := by decide +kernel
theorem dX0_addChip_23 : decode cX0_addChip 23 = .ok (.bipush 8, 2) := by decide +kernel
theorem dX0_addChip_25 : decode cX0_addChip 25 = .ok (.if_icmp .lt 6, 3) := by decide +kernel
theorem dX0_addChip_28 : decode cX0_addChip 28 = .ok (.ldc 96, 2) := by decide +kernel
theorem dX0_addChip_30 : decode cX0_addChip 30 = .ok (.ireturn, 1) := by decide +kernel
theorem dX0_addChip_31 : decode cX0_addChip 31 = .ok (.aload_n 0, 1) := by decide +kernel
theorem dX0_addChip_32 : decode cX0_addChip 32 = .ok (.getfield 57, 3) := by decide +kernel
theorem dX0_addChip_35 : decode cX0_addChip 35 = .ok (.istore_n 3, 1) := by decide +kernel
theorem dX0_addChip_36 : decode cX0_addChip 36 = .ok (.aload_n 0, 1) := by decide +kernel
theorem dX0_addChip_37 : decode cX0_addChip 37 = .ok (.dup, 1) := by decide +kernel
theorem dX0_addChip_38 : decode cX0_addChip 38 = .ok (.getfield 57, 3) := by decide +kernel
theorem dX0_addChip_41 : decode cX0_addChip 41 = .ok (.iconst 1, 1) := by decide +kernel
theorem dX0_addChip_42 : decode cX0_addChip 42 = .ok (.iadd, 1) := by decide +kernel
theorem dX0_addChip_43 : decode cX0_addChip 43 = .ok (.putfield 57, 3) := by decide +kernel
theorem dX0_addChip_46 : decode cX0_addChip 46 = .ok (.aload_n 0, 1) := by decide +kernel
theorem dX0_addChip_47 : decode cX0_addChip 47 = .ok (.dup, 1) := by decide +kernel
theorem dX0_addChip_48 : decode cX0_addChip 48 = .ok (.getfield 61, 3) := by decide +kernel
theorem dX0_addChip_51 : decode cX0_addChip 51 = .ok (.iconst 1, 1) := by decide +kernel
theorem dX0_addChip_52 : decode cX0_addChip 52 = .ok (.iload_n 3, 1) := by decide +kernel
theorem dX0_addChip_53 : decode cX0_addChip 53 = .ok (.ishl, 1) := by decide +kernel
theorem dX0_addChip_54 : decode cX0_addChip 54 = .ok (.ior, 1) := by decide +kernel
theorem dX0_addChip_55 : decode cX0_addChip 55 = .ok (.putfield 61, 3) := by decide +kernel
theorem dX0_addChip_58 : decode cX0_addChip 58 = .ok (.aload_n 0, 1) := by decide +kernel
theorem dX0_addChip_59 : decode cX0_addChip 59 = .ok (.getfield 9, 3) := by decide +kernel
theorem dX0_addChip_62 : decode cX0_addChip 62 = .ok (.iload_n 3, 1) := by decide +kernel
theorem dX0_addChip_63 : decode cX0_addChip 63 = .ok (.iload_n 1, 1) := by decide +kernel
theorem dX0_addChip_64 : decode cX0_addChip 64 = .ok (.iastore, 1) := by decide +kernel
theorem dX0_addChip_65 : decode cX0_addChip 65 = .ok (.aload_n 0, 1) := by decide +kernel
theorem dX0_addChip_66 : decode cX0_addChip 66 = .ok (.getfield 18, 3) := by decide +kernel
theorem dX0_addChip_69 : decode cX0_addChip 69 = .ok (.iload_n 3, 1) := by decide +kernel
theorem dX0_addChip_70 : decode cX0_addChip 70 = .ok (.iload_n 2, 1) := by decide +kernel
theorem dX0_addChip_71 : decode cX0_addChip 71 = .ok (.iastore, 1) := by decide +kernel
theorem dX0_addChip_72 : decode cX0_addChip 72 = .ok (.iload_n 3, 1) := by decide +kernel
theorem dX0_addChip_73 : decode cX0_addChip 73 = .ok (.ireturn, 1) := by decide +kernel
theorem dX0_makeGodfather_0 : decode cX0_makeGodfather 0 = .ok (.aload_n 0, 1) := by decide +kernel
theorem dX0_makeGodfather_1 : decode cX0_makeGodfather 1 = .ok (.iload_n 1, 1) := by decide +kernel
theorem dX0_makeGodfather_2 : decode cX0_makeGodfather 2 = .ok (.invokevirtual 97, 3) := by decide +kernel
theorem dX0_makeGodfather_5 : decode cX0_makeGodfather 5 = .ok (.ifCond .ne 6, 3) := by decide +kernel
theorem dX0_makeGodfather_8 : decode cX0_makeGodfather 8 = .ok (.ldc 95, 2) := by decide +kernel
theorem dX0_makeGodfather_10 : decode cX0_makeGodfather 10 = .ok (.ireturn, 1) := by decide +kernel
theorem dX0_makeGodfather_11 : decode cX0_makeGodfather 11 = .ok (.aload_n 0, 1) := by decide +kernel
theorem dX0_makeGodfather_12 : decode cX0_makeGodfather 12 = .ok (.iload_n 1, 1) := by decide +kernel
theorem dX0_makeGodfather_13 : decode cX0_makeGodfather 13 = .ok (.invokevirtual 79, 3) := by decide +kernel
theorem dX0_makeGodfather_16 : decode cX0_makeGodfather 16 = .ok (.ifCond .eq 26, 3) := by decide +kernel
theorem dX0_makeGodfather_19 : decode cX0_makeGodfather 19 = .ok (.aload_n 0, 1) := by decide +kernel
theorem dX0_makeGodfather_20 : decode cX0_makeGodfather 20 = .ok (.getfield 24, 3) := by decide +kernel
theorem dX0_makeGodfather_23 : decode cX0_makeGodfather 23 = .ok (.aload_n 0, 1) := by decide +kernel
theorem dX0_makeGodfather_24 : decode cX0_makeGodfather 24 = .ok (.getfield 9, 3) := by decide +kernel
theorem dX0_makeGodfather_27 : decode cX0_makeGodfather 27 = .ok (.iload_n 1, 1) := by decide +kernel
theorem dX0_makeGodfather_28 : decode cX0_makeGodfather 28 = .ok (.iaload, 1) := by decide +kernel
theorem dX0_makeGodfather_29 : decode cX0_makeGodfather 29 = .ok (.iaload, 1) := by decide +kernel
theorem dX0_makeGodfather_30 : decode cX0_makeGodfather 30 = .ok (.iconst (-1), 1) := by decide +kernel
theorem dX0_makeGodfather_31 : decode cX0_makeGodfather 31 = .ok (.if_icmp .ne 11, 3) := by decide +kernel
theorem dX0_makeGodfather_34 : decode cX0_makeGodfather 34 = .ok (.aload_n 0, 1) := by decide +kernel
theorem dX0_makeGodfather_35 : decode cX0_makeGodfather 35 = .ok (.iload_n 1, 1) := by decide +kernel
theorem dX0_makeGodfather_36 : decode cX0_makeGodfather 36 = .ok (.invokevirtual 100, 3) := by decide +kernel
theorem dX0_makeGodfather_39 : decode cX0_makeGodfather 39 = .ok (.ifCond .le 6, 3) := by decide +kernel
theorem dX0_makeGodfather_42 : decode cX0_makeGodfather 42 = .ok (.ldc 103, 2) := by decide +kernel
theorem dX0_makeGodfather_44 : decode cX0_makeGodfather 44 = .ok (.ireturn, 1) := by decide +kernel
theorem dX0_makeGodfather_45 : decode cX0_makeGodfather 45 = .ok (.aload_n 0, 1) := by decide +kernel
theorem dX0_makeGodfather_46 : decode cX0_makeGodfather 46 = .ok (.getfield 24, 3) := by decide +kernel
theorem dX0_makeGodfather_49 : decode cX0_makeGodfather 49 = .ok (.aload_n 0, 1) := by decide +kernel
theorem dX0_makeGodfather_50 : decode cX0_makeGodfather 50 = .ok (.getfield 9, 3) := by decide +kernel
theorem dX0_makeGodfather_53 : decode cX0_makeGodfather 53 = .ok (.iload_n 1, 1) := by decide +kernel
theorem dX0_makeGodfather_54 : decode cX0_makeGodfather 54 = .ok (.iaload, 1) := by decide +kernel
theorem dX0_makeGodfather_55 : decode cX0_makeGodfather 55 = .ok (.iload_n 1, 1) := by decide +kernel
theorem dX0_makeGodfather_56 : decode cX0_makeGodfather 56 = .ok (.iastore, 1) := by decide +kernel
theorem dX0_makeGodfather_57 : decode cX0_makeGodfather 57 = .ok (.aload_n 0, 1) := by decide +kernel
theorem dX0_makeGodfather_58 : decode cX0_makeGodfather 58 = .ok (.aload_n 0, 1) := by decide +kernel
theorem dX0_makeGodfather_59 : decode cX0_makeGodfather 59 = .ok (.getfield 9, 3) := by decide +kernel
theorem dX0_makeGodfather_62 : decode cX0_makeGodfather 62 = .ok (.iload_n 1, 1) := by decide +kernel
theorem dX0_makeGodfather_63 : decode cX0_makeGodfather 63 = .ok (.iaload, 1) := by decide +kernel
theorem dX0_makeGodfather_64 : decode cX0_makeGodfather 64 = .ok (.invokevirtual 104, 3) := by decide +kernel
theorem dX0_makeGodfather_67 : decode cX0_makeGodfather 67 = .ok (.invokestatic 87, 3) := by decide +kernel
theorem dX0_makeGodfather_70 : decode cX0_makeGodfather 70 = .ok (.ireturn, 1) := by decide +kernel
theorem dX0_letDie_0 : decode cX0_letDie 0 = .ok (.aload_n 0, 1) := by decide +kernel
theorem dX0_letDie_1 : decode cX0_letDie 1 = .ok (.iload_n 1, 1) := by decide +kernel
theorem dX0_letDie_2 : decode cX0_letDie 2 = .ok (.invokevirtual 97, 3) := by decide +kernel
theorem dX0_letDie_5 : decode cX0_letDie 5 = .ok (.ifCond .ne 6, 3) := by decide +kernel
theorem dX0_letDie_8 : decode cX0_letDie 8 = .ok (.ldc 95, 2) := by decide +kernel
theorem dX0_letDie_10 : decode cX0_letDie 10 = .ok (.ireturn, 1) := by decide +kernel
theorem dX0_letDie_11 : decode cX0_letDie 11 = .ok (.aload_n 0, 1) := by decide +kernel
theorem dX0_letDie_12 : decode cX0_letDie 12 = .ok (.iload_n 1, 1) := by decide +kernel
theorem dX0_letDie_13 : decode cX0_letDie 13 = .ok (.invokevirtual 79, 3) := by decide +kernel
theorem dX0_letDie_16 : decode cX0_letDie 16 = .ok (.ifCond .ne 6, 3) := by decide +kernel
theorem dX0_letDie_19 : decode cX0_letDie 19 = .ok (.ldc 103, 2) := by decide +kernel
theorem dX0_letDie_21 : decode cX0_letDie 21 = .ok (.ireturn, 1) := by decide +kernel
theorem dX0_letDie_22 : decode cX0_letDie 22 = .ok (.iconst 0, 1) := by decide +kernel
theorem dX0_letDie_23 : decode cX0_letDie 23 = .ok (.istore_n 2, 1) := by decide +kernel
theorem dX0_letDie_24 : decode cX0_letDie 24 = .ok (.aload_n 0, 1) := by decide +kernel
theorem dX0_letDie_25 : decode cX0_letDie 25 = .ok (.iload_n 1, 1) := by decide +kernel
theorem dX0_letDie_26 : decode cX0_letDie 26 = .ok (.invokevirtual 107, 3) := by decide +kernel
theorem dX0_letDie_29 : decode cX0_letDie 29 = .ok (.ifCond .eq 46, 3) := by decide +kernel
theorem dX0_letDie_32 : decode cX0_letDie 32 = .ok (.iconst 0, 1) := by decide +kernel
theorem dX0_letDie_33 : decode cX0_letDie 33 = .ok (.istore_n 3, 1) := by decide +kernel
theorem dX0_letDie_34 : decode cX0_letDie 34 = .ok (.iload_n 3, 1) := by decide +kernel
theorem dX0_letDie_35 : decode cX0_letDie 35 = .ok (.bipush 6, 2) := by decide +kernel
theorem dX0_letDie_37 : decode cX0_letDie 37 = .ok (.if_icmp .ge 23, 3) := by decide +kernel
theorem dX0_letDie_40 : decode cX0_letDie 40 = .ok (.iload_n 2, 1) := by decide +kernel
theorem dX0_letDie_41 : decode cX0_letDie 41 = .ok (.aload_n 0, 1) := by decide +kernel
theorem dX0_letDie_42 : decode cX0_letDie 42 = .ok (.aload_n 0, 1) := by decide +kernel
theorem dX0_letDie_43 : decode cX0_letDie 43 = .ok (.getfield 9, 3) := by decide +kernel
theorem dX0_letDie_46 : decode cX0_letDie 46 = .ok (.iload_n 1, 1) := by decide +kernel
theorem dX0_letDie_47 : decode cX0_letDie 47 = .ok (.iaload, 1) := by decide +kernel
theorem dX0_letDie_48 : decode cX0_letDie 48 = .ok (.iload_n 3, 1) := by decide +kernel
theorem dX0_letDie_49 : decode cX0_letDie 49 = .ok (.invokevirtual 110, 3) := by decide +kernel
theorem dX0_letDie_52 : decode cX0_letDie 52 = .ok (.iadd, 1) := by decide +kernel
theorem dX0_letDie_53 : decode cX0_letDie 53 = .ok (.istore_n 2, 1) := by decide +kernel
theorem dX0_letDie_54 : decode cX0_letDie 54 = .ok (.iinc 3 1, 3) := by decide +kernel
theorem dX0_letDie_57 : decode cX0_letDie 57 = .ok (.goto (-23), 3) := by decide +kernel
theorem dX0_letDie_60 : decode cX0_letDie 60 = .ok (.aload_n 0, 1) := by decide +kernel
theorem dX0_letDie_61 : decode cX0_letDie 61 = .ok (.getfield 24, 3) := by decide +kernel
theorem dX0_letDie_64 : decode cX0_letDie 64 = .ok (.aload_n 0, 1) := by decide +kernel
theorem dX0_letDie_65 : decode cX0_letDie 65 = .ok (.getfield 9, 3) := by decide +kernel
theorem dX0_letDie_68 : decode cX0_letDie 68 = .ok (.iload_n 1, 1) := by decide +kernel
theorem dX0_letDie_69 : decode cX0_letDie 69 = .ok (.iaload, 1) := by decide +kernel
theorem dX0_letDie_70 : decode cX0_letDie 70 = .ok (.iconst (-1), 1) := by decide +kernel
theorem dX0_letDie_71 : decode cX0_letDie 71 = .ok (.iastore, 1) := by decide +kernel
theorem dX0_letDie_72 : decode cX0_letDie 72 = .ok (.goto 45, 3) := by decide +kernel
theorem dX0_letDie_75 : decode cX0_letDie 75 = .ok (.iconst 0, 1) := by decide +kernel
theorem dX0_letDie_76 : decode cX0_letDie 76 = .ok (.istore_n 3, 1) := by decide +kernel
theorem dX0_letDie_77 : decode cX0_letDie 77 = .ok (.iload_n 3, 1) := by decide +kernel
theorem dX0_letDie_78 : decode cX0_letDie 78 = .ok (.bipush 6, 2) := by decide +kernel
theorem dX0_letDie_80 : decode cX0_letDie 80 = .ok (.if_icmp .ge 37, 3) := by decide +kernel
theorem dX0_letDie_83 : decode cX0_letDie 83 = .ok (.aload_n 0, 1) := by decide +kernel
theorem dX0_letDie_84 : decode cX0_letDie 84 = .ok (.getfield 21, 3) := by decide +kernel
theorem dX0_letDie_87 : decode cX0_letDie 87 = .ok (.iload_n 1, 1) := by decide +kernel
theorem dX0_letDie_88 : decode cX0_letDie 88 = .ok (.bipush 6, 2) := by decide +kernel
theorem dX0_letDie_90 : decode cX0_letDie 90 = .ok (.imul, 1) := by decide +kernel
theorem dX0_letDie_91 : decode cX0_letDie 91 = .ok (.iload_n 3, 1) := by decide +kernel
theorem dX0_letDie_92 : decode cX0_letDie 92 = .ok (.iadd, 1) := by decide +kernel
theorem dX0_letDie_93 : decode cX0_letDie 93 = .ok (.iaload, 1) := by decide +kernel
theorem dX0_letDie_94 : decode cX0_letDie 94 = .ok (.istore 4, 2) := by decide +kernel
theorem dX0_letDie_96 : decode cX0_letDie 96 = .ok (.iload_n 2, 1) := by decide +kernel
theorem dX0_letDie_97 : decode cX0_letDie 97 = .ok (.aload_n 0, 1) := by decide +kernel
theorem dX0_letDie_98 : decode cX0_letDie 98 = .ok (.iload 4, 2) := by decide +kernel
theorem dX0_letDie_100 : decode cX0_letDie 100 = .ok (.invokevirtual 114, 3) := by decide +kernel
theorem dX0_letDie_103 : decode cX0_letDie 103 = .ok (.iadd, 1) := by decide +kernel
theorem dX0_letDie_104 : decode cX0_letDie 104 = .ok (.istore_n 2, 1) := by decide +kernel
theorem dX0_letDie_105 : decode cX0_letDie 105 = .ok (.aload_n 0, 1) := by decide +kernel
theorem dX0_letDie_106 : decode cX0_letDie 106 = .ok (.iload 4, 2) := by decide +kernel
theorem dX0_letDie_108 : decode cX0_letDie 108 = .ok (.invokevirtual 117, 3) := by decide +kernel
theorem dX0_letDie_111 : decode cX0_letDie 111 = .ok (.iinc 3 1, 3) := by decide +kernel
theorem dX0_letDie_114 : decode cX0_letDie 114 = .ok (.goto (-37), 3) := by decide +kernel
theorem dX0_letDie_117 : decode cX0_letDie 117 = .ok (.aload_n 0, 1) := by decide +kernel
theorem dX0_letDie_118 : decode cX0_letDie 118 = .ok (.dup, 1) := by decide +kernel
theorem dX0_letDie_119 : decode cX0_letDie 119 = .ok (.getfield 61, 3) := by decide +kernel
theorem dX0_letDie_122 : decode cX0_letDie 122 = .ok (.iconst 1, 1) := by decide +kernel
theorem dX0_letDie_123 : decode cX0_letDie 123 = .ok (.iload_n 1, 1) := by decide +kernel
theorem dX0_letDie_124 : decode cX0_letDie 124 = .ok (.ishl, 1) := by decide +kernel
theorem dX0_letDie_125 : decode cX0_letDie 125 = .ok (.iconst (-1), 1) := by decide +kernel
theorem dX0_letDie_126 : decode cX0_letDie 126 = .ok (.ixor, 1) := by decide +kernel
theorem dX0_letDie_127 : decode cX0_letDie 127 = .ok (.iand, 1) := by decide +kernel
theorem dX0_letDie_128 : decode cX0_letDie 128 = .ok (.putfield 61, 3) := by decide +kernel
theorem dX0_letDie_131 : decode cX0_letDie 131 = .ok (.iload_n 2, 1) := by decide +kernel
theorem dX0_letDie_132 : decode cX0_letDie 132 = .ok (.ireturn, 1) := by decide +kernel
theorem dX0_breakRow_0 : decode cX0_breakRow 0 = .ok (.aload_n 0, 1) := by decide +kernel
theorem dX0_breakRow_1 : decode cX0_breakRow 1 = .ok (.iload_n 1, 1) := by decide +kernel
theorem dX0_breakRow_2 : decode cX0_breakRow 2 = .ok (.invokevirtual 97, 3) := by decide +kernel
theorem dX0_breakRow_5 : decode cX0_breakRow 5 = .ok (.ifCond .eq 10, 3) := by decide +kernel
theorem dX0_breakRow_8 : decode cX0_breakRow 8 = .ok (.iload_n 2, 1) := by decide +kernel
theorem dX0_breakRow_9 : decode cX0_breakRow 9 = .ok (.invokestatic 121, 3) := by decide +kernel
theorem dX0_breakRow_12 : decode cX0_breakRow 12 = .ok (.ifCond .ne 6, 3) := by decide +kernel
theorem dX0_breakRow_15 : decode cX0_breakRow 15 = .ok (.ldc 95, 2) := by decide +kernel
theorem dX0_breakRow_17 : decode cX0_breakRow 17 = .ok (.ireturn, 1) := by decide +kernel
theorem dX0_breakRow_18 : decode cX0_breakRow 18 = .ok (.aload_n 0, 1) := by decide +kernel
theorem dX0_breakRow_19 : decode cX0_breakRow 19 = .ok (.iload_n 1, 1) := by decide +kernel
theorem dX0_breakRow_20 : decode cX0_breakRow 20 = .ok (.invokevirtual 79, 3) := by decide +kernel
theorem dX0_breakRow_23 : decode cX0_breakRow 23 = .ok (.ifCond .eq 12, 3) := by decide +kernel
theorem dX0_breakRow_26 : decode cX0_breakRow 26 = .ok (.aload_n 0, 1) := by decide +kernel
theorem dX0_breakRow_27 : decode cX0_breakRow 27 = .ok (.iload_n 1, 1) := by decide +kernel
theorem dX0_breakRow_28 : decode cX0_breakRow 28 = .ok (.iload_n 2, 1) := by decide +kernel
theorem dX0_breakRow_29 : decode cX0_breakRow 29 = .ok (.invokevirtual 124, 3) := by decide +kernel
theorem dX0_breakRow_32 : decode cX0_breakRow 32 = .ok (.ifCond .eq 6, 3) := by decide +kernel
theorem dX0_breakRow_35 : decode cX0_breakRow 35 = .ok (.ldc 103, 2) := by decide +kernel
theorem dX0_breakRow_37 : decode cX0_breakRow 37 = .ok (.ireturn, 1) := by decide +kernel
theorem dX0_breakRow_38 : decode cX0_breakRow 38 = .ok (.aload_n 0, 1) := by decide +kernel
theorem dX0_breakRow_39 : decode cX0_breakRow 39 = .ok (.getfield 18, 3) := by decide +kernel
theorem dX0_breakRow_42 : decode cX0_breakRow 42 = .ok (.iload_n 1, 1) := by decide +kernel
theorem dX0_breakRow_43 : decode cX0_breakRow 43 = .ok (.iaload, 1) := by decide +kernel
theorem dX0_breakRow_44 : decode cX0_breakRow 44 = .ok (.ifCond .le 7, 3) := by decide +kernel
theorem dX0_breakRow_47 : decode cX0_breakRow 47 = .ok (.iconst 1, 1) := by decide +kernel
theorem dX0_breakRow_48 : decode cX0_breakRow 48 = .ok (.goto 4, 3) := by decide +kernel
theorem dX0_breakRow_51 : decode cX0_breakRow 51 = .ok (.iconst 0, 1) := by decide +kernel
theorem dX0_breakRow_52 : decode cX0_breakRow 52 = .ok (.istore_n 3, 1) := by decide +kernel
theorem dX0_breakRow_53 : decode cX0_breakRow 53 = .ok (.iload_n 3, 1) := by decide +kernel
theorem dX0_breakRow_54 : decode cX0_breakRow 54 = .ok (.ifCond .eq 16, 3) := by decide +kernel
theorem dX0_breakRow_57 : decode cX0_breakRow 57 = .ok (.aload_n 0, 1) := by decide +kernel
theorem dX0_breakRow_58 : decode cX0_breakRow 58 = .ok (.getfield 18, 3) := by decide +kernel
theorem dX0_breakRow_61 : decode cX0_breakRow 61 = .ok (.iload_n 1, 1) := by decide +kernel
theorem dX0_breakRow_62 : decode cX0_breakRow 62 = .ok (.dup2, 1) := by decide +kernel
theorem dX0_breakRow_63 : decode cX0_breakRow 63 = .ok (.iaload, 1) := by decide +kernel
theorem dX0_breakRow_64 : decode cX0_breakRow 64 = .ok (.iconst 1, 1) := by decide +kernel
theorem dX0_breakRow_65 : decode cX0_breakRow 65 = .ok (.isub, 1) := by decide +kernel
theorem dX0_breakRow_66 : decode cX0_breakRow 66 = .ok (.iastore, 1) := by decide +kernel
theorem dX0_breakRow_67 : decode cX0_breakRow 67 = .ok (.goto 15, 3) := by decide +kernel
theorem dX0_breakRow_70 : decode cX0_breakRow 70 = .ok (.aload_n 0, 1) := by decide +kernel
theorem dX0_breakRow_71 : decode cX0_breakRow 71 = .ok (.getfield 15, 3) := by decide +kernel
theorem dX0_breakRow_74 : decode cX0_breakRow 74 = .ok (.iload_n 1, 1) := by decide +kernel
theorem dX0_breakRow_75 : decode cX0_breakRow 75 = .ok (.dup2, 1) := by decide +kernel
theorem dX0_breakRow_76 : decode cX0_breakRow 76 = .ok (.iaload, 1) := by decide +kernel
theorem dX0_breakRow_77 : decode cX0_breakRow 77 = .ok (.iconst 1, 1) := by decide +kernel
theorem dX0_breakRow_78 : decode cX0_breakRow 78 = .ok (.iload_n 2, 1) := by decide +kernel
theorem dX0_breakRow_79 : decode cX0_breakRow 79 = .ok (.ishl, 1) := by decide +kernel
theorem dX0_breakRow_80 : decode cX0_breakRow 80 = .ok (.ior, 1) := by decide +kernel
theorem dX0_breakRow_81 : decode cX0_breakRow 81 = .ok (.iastore, 1) := by decide +kernel
theorem dX0_breakRow_82 : decode cX0_breakRow 82 = .ok (.aload_n 0, 1) := by decide +kernel
theorem dX0_breakRow_83 : decode cX0_breakRow 83 = .ok (.iload_n 1, 1) := by decide +kernel
theorem dX0_breakRow_84 : decode cX0_breakRow 84 = .ok (.invokevirtual 107, 3) := by decide +kernel
theorem dX0_breakRow_87 : decode cX0_breakRow 87 = .ok (.ifCond .eq 15, 3) := by decide +kernel
theorem dX0_breakRow_90 : decode cX0_breakRow 90 = .ok (.aload_n 0, 1) := by decide +kernel
theorem dX0_breakRow_91 : decode cX0_breakRow 91 = .ok (.aload_n 0, 1) := by decide +kernel
theorem dX0_breakRow_92 : decode cX0_breakRow 92 = .ok (.getfield 9, 3) := by decide +kernel
theorem dX0_breakRow_95 : decode cX0_breakRow 95 = .ok (.iload_n 1, 1) := by decide +kernel
theorem dX0_breakRow_96 : decode cX0_breakRow 96 = .ok (.iaload, 1) := by decide +kernel
theorem dX0_breakRow_97 : decode cX0_breakRow 97 = .ok (.iload_n 2, 1) := by decide +kernel
theorem dX0_breakRow_98 : decode cX0_breakRow 98 = .ok (.invokevirtual 110, 3) := by decide +kernel
theorem dX0_breakRow_101 : decode cX0_breakRow 101 = .ok (.ireturn, 1) := by decide +kernel
theorem dX0_breakRow_102 : decode cX0_breakRow 102 = .ok (.aload_n 0, 1) := by decide +kernel
theorem dX0_breakRow_103 : decode cX0_breakRow 103 = .ok (.getfield 21, 3) := by decide +kernel
theorem dX0_breakRow_106 : decode cX0_breakRow 106 = .ok (.iload_n 1, 1) := by decide +kernel
theorem dX0_breakRow_107 : decode cX0_breakRow 107 = .ok (.bipush 6, 2) := by decide +kernel
theorem dX0_breakRow_109 : decode cX0_breakRow 109 = .ok (.imul, 1) := by decide +kernel
theorem dX0_breakRow_110 : decode cX0_breakRow 110 = .ok (.iload_n 2, 1) := by decide +kernel
theorem dX0_breakRow_111 : decode cX0_breakRow 111 = .ok (.iadd, 1) := by decide +kernel
theorem dX0_breakRow_112 : decode cX0_breakRow 112 = .ok (.iaload, 1) := by decide +kernel
theorem dX0_breakRow_113 : decode cX0_breakRow 113 = .ok (.istore 4, 2) := by decide +kernel
theorem dX0_breakRow_115 : decode cX0_breakRow 115 = .ok (.aload_n 0, 1) := by decide +kernel
theorem dX0_breakRow_116 : decode cX0_breakRow 116 = .ok (.iload 4, 2) := by decide +kernel
theorem dX0_breakRow_118 : decode cX0_breakRow 118 = .ok (.invokevirtual 114, 3) := by decide +kernel
theorem dX0_breakRow_121 : decode cX0_breakRow 121 = .ok (.istore 5, 2) := by decide +kernel
theorem dX0_breakRow_123 : decode cX0_breakRow 123 = .ok (.iload_n 3, 1) := by decide +kernel
theorem dX0_breakRow_124 : decode cX0_breakRow 124 = .ok (.ifCond .ne 9, 3) := by decide +kernel
theorem dX0_breakRow_127 : decode cX0_breakRow 127 = .ok (.aload_n 0, 1) := by decide +kernel
theorem dX0_breakRow_128 : decode cX0_breakRow 128 = .ok (.iload 4, 2) := by decide +kernel
theorem dX0_breakRow_130 : decode cX0_breakRow 130 = .ok (.invokevirtual 117, 3) := by decide +kernel
theorem dX0_breakRow_133 : decode cX0_breakRow 133 = .ok (.iload 5, 2) := by decide +kernel
theorem dX0_breakRow_135 : decode cX0_breakRow 135 = .ok (.ireturn, 1) := by decide +kernel
theorem dX0_putWord_0 : decode cX0_putWord 0 = .ok (.aload_n 0, 1) := by decide +kernel
theorem dX0_putWord_1 : decode cX0_putWord 1 = .ok (.iload_n 1, 1) := by decide +kernel
theorem dX0_putWord_2 : decode cX0_putWord 2 = .ok (.invokevirtual 97, 3) := by decide +kernel
theorem dX0_putWord_5 : decode cX0_putWord 5 = .ok (.ifCond .eq 10, 3) := by decide +kernel
theorem dX0_putWord_8 : decode cX0_putWord 8 = .ok (.iload_n 2, 1) := by decide +kernel
theorem dX0_putWord_9 : decode cX0_putWord 9 = .ok (.invokestatic 128, 3) := by decide +kernel
theorem dX0_putWord_12 : decode cX0_putWord 12 = .ok (.ifCond .ne 6, 3) := by decide +kernel
theorem dX0_putWord_15 : decode cX0_putWord 15 = .ok (.ldc 95, 2) := by decide +kernel
theorem dX0_putWord_17 : decode cX0_putWord 17 = .ok (.ireturn, 1) := by decide +kernel
theorem dX0_putWord_18 : decode cX0_putWord 18 = .ok (.aload_n 0, 1) := by decide +kernel
theorem dX0_putWord_19 : decode cX0_putWord 19 = .ok (.iload_n 1, 1) := by decide +kernel
theorem dX0_putWord_20 : decode cX0_putWord 20 = .ok (.invokevirtual 83, 3) := by decide +kernel
theorem dX0_putWord_23 : decode cX0_putWord 23 = .ok (.ifCond .ne 6, 3) := by decide +kernel
theorem dX0_putWord_26 : decode cX0_putWord 26 = .ok (.ldc 103, 2) := by decide +kernel
theorem dX0_putWord_28 : decode cX0_putWord 28 = .ok (.ireturn, 1) := by decide +kernel
theorem dX0_putWord_29 : decode cX0_putWord 29 = .ok (.aload_n 0, 1) := by decide +kernel
theorem dX0_putWord_30 : decode cX0_putWord 30 = .ok (.getfield 64, 3) := by decide +kernel
theorem dX0_putWord_33 : decode cX0_putWord 33 = .ok (.bipush 24, 2) := by decide +kernel
theorem dX0_putWord_35 : decode cX0_putWord 35 = .ok (.if_icmp .lt 6, 3) := by decide +kernel
theorem dX0_putWord_38 : decode cX0_putWord 38 = .ok (.ldc 96, 2) := by decide +kernel
theorem dX0_putWord_40 : decode cX0_putWord 40 = .ok (.ireturn, 1) := by decide +kernel
theorem dX0_putWord_41 : decode cX0_putWord 41 = .ok (.aload_n 0, 1) := by decide +kernel
theorem dX0_putWord_42 : decode cX0_putWord 42 = .ok (.getfield 64, 3) := by decide +kernel
theorem dX0_putWord_45 : decode cX0_putWord 45 = .ok (.istore_n 3, 1) := by decide +kernel
theorem dX0_putWord_46 : decode cX0_putWord 46 = .ok (.aload_n 0, 1) := by decide +kernel
theorem dX0_putWord_47 : decode cX0_putWord 47 = .ok (.dup, 1) := by decide +kernel
theorem dX0_putWord_48 : decode cX0_putWord 48 = .ok (.getfield 64, 3) := by decide +kernel
theorem dX0_putWord_51 : decode cX0_putWord 51 = .ok (.iconst 1, 1) := by decide +kernel
theorem dX0_putWord_52 : decode cX0_putWord 52 = .ok (.iadd, 1) := by decide +kernel
theorem dX0_putWord_53 : decode cX0_putWord 53 = .ok (.putfield 64, 3) := by decide +kernel
theorem dX0_putWord_56 : decode cX0_putWord 56 = .ok (.aload_n 0, 1) := by decide +kernel
theorem dX0_putWord_57 : decode cX0_putWord 57 = .ok (.getfield 36, 3) := by decide +kernel
theorem dX0_putWord_60 : decode cX0_putWord 60 = .ok (.iload_n 3, 1) := by decide +kernel
theorem dX0_putWord_61 : decode cX0_putWord 61 = .ok (.iload_n 2, 1) := by decide +kernel
theorem dX0_putWord_62 : decode cX0_putWord 62 = .ok (.iastore, 1) := by decide +kernel
theorem dX0_putWord_63 : decode cX0_putWord 63 = .ok (.aload_n 0, 1) := by decide +kernel
theorem dX0_putWord_64 : decode cX0_putWord 64 = .ok (.iload_n 3, 1) := by decide +kernel
theorem dX0_putWord_65 : decode cX0_putWord 65 = .ok (.iload_n 1, 1) := by decide +kernel
theorem dX0_putWord_66 : decode cX0_putWord 66 = .ok (.invokevirtual 131, 3) := by decide +kernel
theorem dX0_putWord_69 : decode cX0_putWord 69 = .ok (.iload_n 3, 1) := by decide +kernel
theorem dX0_putWord_70 : decode cX0_putWord 70 = .ok (.ireturn, 1) := by decide +kernel
theorem dX0_writeWord_0 : decode cX0_writeWord 0 = .ok (.aload_n 0, 1) := by decide +kernel
theorem dX0_writeWord_1 : decode cX0_writeWord 1 = .ok (.iload_n 1, 1) := by decide +kernel
theorem dX0_writeWord_2 : decode cX0_writeWord 2 = .ok (.invokevirtual 135, 3) := by decide +kernel
theorem dX0_writeWord_5 : decode cX0_writeWord 5 = .ok (.ifCond .eq 10, 3) := by decide +kernel
theorem dX0_writeWord_8 : decode cX0_writeWord 8 = .ok (.iload_n 2, 1) := by decide +kernel
theorem dX0_writeWord_9 : decode cX0_writeWord 9 = .ok (.invokestatic 128, 3) := by decide +kernel
theorem dX0_writeWord_12 : decode cX0_writeWord 12 = .ok (.ifCond .ne 6, 3) := by decide +kernel
theorem dX0_writeWord_15 : decode cX0_writeWord 15 = .ok (.ldc 95, 2) := by decide +kernel
theorem dX0_writeWord_17 : decode cX0_writeWord 17 = .ok (.ireturn, 1) := by decide +kernel
theorem dX0_writeWord_18 : decode cX0_writeWord 18 = .ok (.aload_n 0, 1) := by decide +kernel
theorem dX0_writeWord_19 : decode cX0_writeWord 19 = .ok (.getfield 39, 3) := by decide +kernel
theorem dX0_writeWord_22 : decode cX0_writeWord 22 = .ok (.iload_n 1, 1) := by decide +kernel
theorem dX0_writeWord_23 : decode cX0_writeWord 23 = .ok (.iaload, 1) := by decide +kernel
theorem dX0_writeWord_24 : decode cX0_writeWord 24 = .ok (.iconst (-1), 1) := by decide +kernel
theorem dX0_writeWord_25 : decode cX0_writeWord 25 = .ok (.if_icmp .ne 6, 3) := by decide +kernel
theorem dX0_writeWord_28 : decode cX0_writeWord 28 = .ok (.ldc 103, 2) := by decide +kernel
theorem dX0_writeWord_30 : decode cX0_writeWord 30 = .ok (.ireturn, 1) := by decide +kernel
theorem dX0_writeWord_31 : decode cX0_writeWord 31 = .ok (.aload_n 0, 1) := by decide +kernel
theorem dX0_writeWord_32 : decode cX0_writeWord 32 = .ok (.getfield 36, 3) := by decide +kernel
theorem dX0_writeWord_35 : decode cX0_writeWord 35 = .ok (.iload_n 1, 1) := by decide +kernel
theorem dX0_writeWord_36 : decode cX0_writeWord 36 = .ok (.iaload, 1) := by decide +kernel
theorem dX0_writeWord_37 : decode cX0_writeWord 37 = .ok (.istore_n 3, 1) := by decide +kernel
theorem dX0_writeWord_38 : decode cX0_writeWord 38 = .ok (.aload_n 0, 1) := by decide +kernel
theorem dX0_writeWord_39 : decode cX0_writeWord 39 = .ok (.getfield 36, 3) := by decide +kernel
theorem dX0_writeWord_42 : decode cX0_writeWord 42 = .ok (.iload_n 1, 1) := by decide +kernel
theorem dX0_writeWord_43 : decode cX0_writeWord 43 = .ok (.iload_n 2, 1) := by decide +kernel
theorem dX0_writeWord_44 : decode cX0_writeWord 44 = .ok (.iastore, 1) := by decide +kernel
theorem dX0_writeWord_45 : decode cX0_writeWord 45 = .ok (.iload_n 3, 1) := by decide +kernel
theorem dX0_writeWord_46 : decode cX0_writeWord 46 = .ok (.ireturn, 1) := by decide +kernel
theorem dX0_carryWord_0 : decode cX0_carryWord 0 = .ok (.aload_n 0, 1) := by decide +kernel
theorem dX0_carryWord_1 : decode cX0_carryWord 1 = .ok (.iload_n 1, 1) := by decide +kernel
theorem dX0_carryWord_2 : decode cX0_carryWord 2 = .ok (.invokevirtual 135, 3) := by decide +kernel
theorem dX0_carryWord_5 : decode cX0_carryWord 5 = .ok (.ifCond .eq 11, 3) := by decide +kernel
theorem dX0_carryWord_8 : decode cX0_carryWord 8 = .ok (.aload_n 0, 1) := by decide +kernel
theorem dX0_carryWord_9 : decode cX0_carryWord 9 = .ok (.iload_n 2, 1) := by decide +kernel
theorem dX0_carryWord_10 : decode cX0_carryWord 10 = .ok (.invokevirtual 97, 3) := by decide +kernel
theorem dX0_carryWord_13 : decode cX0_carryWord 13 = .ok (.ifCond .ne 6, 3) := by decide +kernel
theorem dX0_carryWord_16 : decode cX0_carryWord 16 = .ok (.ldc 95, 2) := by decide +kernel
theorem dX0_carryWord_18 : decode cX0_carryWord 18 = .ok (.ireturn, 1) := by decide +kernel
theorem dX0_carryWord_19 : decode cX0_carryWord 19 = .ok (.aload_n 0, 1) := by decide +kernel
theorem dX0_carryWord_20 : decode cX0_carryWord 20 = .ok (.getfield 39, 3) := by decide +kernel
theorem dX0_carryWord_23 : decode cX0_carryWord 23 = .ok (.iload_n 1, 1) := by decide +kernel
theorem dX0_carryWord_24 : decode cX0_carryWord 24 = .ok (.iaload, 1) := by decide +kernel
theorem dX0_carryWord_25 : decode cX0_carryWord 25 = .ok (.iconst (-1), 1) := by decide +kernel
theorem dX0_carryWord_26 : decode cX0_carryWord 26 = .ok (.if_icmp .eq 21, 3) := by decide +kernel
theorem dX0_carryWord_29 : decode cX0_carryWord 29 = .ok (.aload_n 0, 1) := by decide +kernel
theorem dX0_carryWord_30 : decode cX0_carryWord 30 = .ok (.getfield 39, 3) := by decide +kernel
theorem dX0_carryWord_33 : decode cX0_carryWord 33 = .ok (.iload_n 1, 1) := by decide +kernel
theorem dX0_carryWord_34 : decode cX0_carryWord 34 = .ok (.iaload, 1) := by decide +kernel
theorem dX0_carryWord_35 : decode cX0_carryWord 35 = .ok (.iload_n 2, 1) := by decide +kernel
theorem dX0_carryWord_36 : decode cX0_carryWord 36 = .ok (.if_icmp .eq 11, 3) := by decide +kernel
theorem dX0_carryWord_39 : decode cX0_carryWord 39 = .ok (.aload_n 0, 1) := by decide +kernel
theorem dX0_carryWord_40 : decode cX0_carryWord 40 = .ok (.iload_n 2, 1) := by decide +kernel
theorem dX0_carryWord_41 : decode cX0_carryWord 41 = .ok (.invokevirtual 83, 3) := by decide +kernel
theorem dX0_carryWord_44 : decode cX0_carryWord 44 = .ok (.ifCond .ne 6, 3) := by decide +kernel
theorem dX0_carryWord_47 : decode cX0_carryWord 47 = .ok (.ldc 103, 2) := by decide +kernel
theorem dX0_carryWord_49 : decode cX0_carryWord 49 = .ok (.ireturn, 1) := by decide +kernel
theorem dX0_carryWord_50 : decode cX0_carryWord 50 = .ok (.aload_n 0, 1) := by decide +kernel
theorem dX0_carryWord_51 : decode cX0_carryWord 51 = .ok (.iload_n 1, 1) := by decide +kernel
theorem dX0_carryWord_52 : decode cX0_carryWord 52 = .ok (.invokevirtual 138, 3) := by decide +kernel
theorem dX0_carryWord_55 : decode cX0_carryWord 55 = .ok (.aload_n 0, 1) := by decide +kernel
theorem dX0_carryWord_56 : decode cX0_carryWord 56 = .ok (.iload_n 1, 1) := by decide +kernel
theorem dX0_carryWord_57 : decode cX0_carryWord 57 = .ok (.iload_n 2, 1) := by decide +kernel
theorem dX0_carryWord_58 : decode cX0_carryWord 58 = .ok (.invokevirtual 131, 3) := by decide +kernel
theorem dX0_carryWord_61 : decode cX0_carryWord 61 = .ok (.aload_n 0, 1) := by decide +kernel
theorem dX0_carryWord_62 : decode cX0_carryWord 62 = .ok (.getfield 42, 3) := by decide +kernel
theorem dX0_carryWord_65 : decode cX0_carryWord 65 = .ok (.iload_n 1, 1) := by decide +kernel
theorem dX0_carryWord_66 : decode cX0_carryWord 66 = .ok (.iaload, 1) := by decide +kernel
theorem dX0_carryWord_67 : decode cX0_carryWord 67 = .ok (.ireturn, 1) := by decide +kernel
theorem dX0_emptyChip_0 : decode cX0_emptyChip 0 = .ok (.aload_n 0, 1) := by decide +kernel
theorem dX0_emptyChip_1 : decode cX0_emptyChip 1 = .ok (.iload_n 1, 1) := by decide +kernel
theorem dX0_emptyChip_2 : decode cX0_emptyChip 2 = .ok (.invokevirtual 97, 3) := by decide +kernel
theorem dX0_emptyChip_5 : decode cX0_emptyChip 5 = .ok (.ifCond .ne 6, 3) := by decide +kernel
theorem dX0_emptyChip_8 : decode cX0_emptyChip 8 = .ok (.ldc 95, 2) := by decide +kernel
theorem dX0_emptyChip_10 : decode cX0_emptyChip 10 = .ok (.ireturn, 1) := by decide +kernel
theorem dX0_emptyChip_11 : decode cX0_emptyChip 11 = .ok (.aload_n 0, 1) := by decide +kernel
theorem dX0_emptyChip_12 : decode cX0_emptyChip 12 = .ok (.iload_n 1, 1) := by decide +kernel
theorem dX0_emptyChip_13 : decode cX0_emptyChip 13 = .ok (.invokevirtual 79, 3) := by decide +kernel
theorem dX0_emptyChip_16 : decode cX0_emptyChip 16 = .ok (.ifCond .eq 11, 3) := by decide +kernel
theorem dX0_emptyChip_19 : decode cX0_emptyChip 19 = .ok (.aload_n 0, 1) := by decide +kernel
theorem dX0_emptyChip_20 : decode cX0_emptyChip 20 = .ok (.iload_n 1, 1) := by decide +kernel
theorem dX0_emptyChip_21 : decode cX0_emptyChip 21 = .ok (.invokevirtual 107, 3) := by decide +kernel
theorem dX0_emptyChip_24 : decode cX0_emptyChip 24 = .ok (.ifCond .eq 6, 3) := by decide +kernel
theorem dX0_emptyChip_27 : decode cX0_emptyChip 27 = .ok (.ldc 103, 2) := by decide +kernel
theorem dX0_emptyChip_29 : decode cX0_emptyChip 29 = .ok (.ireturn, 1) := by decide +kernel
theorem dX0_emptyChip_30 : decode cX0_emptyChip 30 = .ok (.iconst 0, 1) := by decide +kernel
theorem dX0_emptyChip_31 : decode cX0_emptyChip 31 = .ok (.istore_n 2, 1) := by decide +kernel
theorem dX0_emptyChip_32 : decode cX0_emptyChip 32 = .ok (.iconst 0, 1) := by decide +kernel
theorem dX0_emptyChip_33 : decode cX0_emptyChip 33 = .ok (.istore_n 3, 1) := by decide +kernel
theorem dX0_emptyChip_34 : decode cX0_emptyChip 34 = .ok (.iload_n 3, 1) := by decide +kernel
theorem dX0_emptyChip_35 : decode cX0_emptyChip 35 = .ok (.bipush 6, 2) := by decide +kernel
theorem dX0_emptyChip_37 : decode cX0_emptyChip 37 = .ok (.if_icmp .ge 67, 3) := by decide +kernel
theorem dX0_emptyChip_40 : decode cX0_emptyChip 40 = .ok (.aload_n 0, 1) := by decide +kernel
theorem dX0_emptyChip_41 : decode cX0_emptyChip 41 = .ok (.getfield 21, 3) := by decide +kernel
theorem dX0_emptyChip_44 : decode cX0_emptyChip 44 = .ok (.iload_n 1, 1) := by decide +kernel
theorem dX0_emptyChip_45 : decode cX0_emptyChip 45 = .ok (.bipush 6, 2) := by decide +kernel
theorem dX0_emptyChip_47 : decode cX0_emptyChip 47 = .ok (.imul, 1) := by decide +kernel
theorem dX0_emptyChip_48 : decode cX0_emptyChip 48 = .ok (.iload_n 3, 1) := by decide +kernel
theorem dX0_emptyChip_49 : decode cX0_emptyChip 49 = .ok (.iadd, 1) := by decide +kernel
theorem dX0_emptyChip_50 : decode cX0_emptyChip 50 = .ok (.iaload, 1) := by decide +kernel
theorem dX0_emptyChip_51 : decode cX0_emptyChip 51 = .ok (.istore 4, 2) := by decide +kernel
theorem dX0_emptyChip_53 : decode cX0_emptyChip 53 = .ok (.iload 4, 2) := by decide +kernel
theorem dX0_emptyChip_55 : decode cX0_emptyChip 55 = .ok (.iconst (-1), 1) := by decide +kernel
theorem dX0_emptyChip_56 : decode cX0_emptyChip 56 = .ok (.if_icmp .eq 42, 3) := by decide +kernel
theorem dX0_emptyChip_59 : decode cX0_emptyChip 59 = .ok (.aload_n 0, 1) := by decide +kernel
theorem dX0_emptyChip_60 : decode cX0_emptyChip 60 = .ok (.aload_n 0, 1) := by decide +kernel
theorem dX0_emptyChip_61 : decode cX0_emptyChip 61 = .ok (.getfield 9, 3) := by decide +kernel
theorem dX0_emptyChip_64 : decode cX0_emptyChip 64 = .ok (.iload_n 1, 1) := by decide +kernel
theorem dX0_emptyChip_65 : decode cX0_emptyChip 65 = .ok (.iaload, 1) := by decide +kernel
theorem dX0_emptyChip_66 : decode cX0_emptyChip 66 = .ok (.iload_n 1, 1) := by decide +kernel
theorem dX0_emptyChip_67 : decode cX0_emptyChip 67 = .ok (.invokevirtual 141, 3) := by decide +kernel
theorem dX0_emptyChip_70 : decode cX0_emptyChip 70 = .ok (.istore 5, 2) := by decide +kernel
theorem dX0_emptyChip_72 : decode cX0_emptyChip 72 = .ok (.iload 5, 2) := by decide +kernel
theorem dX0_emptyChip_74 : decode cX0_emptyChip 74 = .ok (.iconst (-1), 1) := by decide +kernel
theorem dX0_emptyChip_75 : decode cX0_emptyChip 75 = .ok (.if_icmp .ne 6, 3) := by decide +kernel
theorem dX0_emptyChip_78 : decode cX0_emptyChip 78 = .ok (.ldc 103, 2) := by decide +kernel
theorem dX0_emptyChip_80 : decode cX0_emptyChip 80 = .ok (.ireturn, 1) := by decide +kernel
theorem dX0_emptyChip_81 : decode cX0_emptyChip 81 = .ok (.aload_n 0, 1) := by decide +kernel
theorem dX0_emptyChip_82 : decode cX0_emptyChip 82 = .ok (.iload 4, 2) := by decide +kernel
theorem dX0_emptyChip_84 : decode cX0_emptyChip 84 = .ok (.invokevirtual 138, 3) := by decide +kernel
theorem dX0_emptyChip_87 : decode cX0_emptyChip 87 = .ok (.aload_n 0, 1) := by decide +kernel
theorem dX0_emptyChip_88 : decode cX0_emptyChip 88 = .ok (.iload 4, 2) := by decide +kernel
theorem dX0_emptyChip_90 : decode cX0_emptyChip 90 = .ok (.iload 5, 2) := by decide +kernel
theorem dX0_emptyChip_92 : decode cX0_emptyChip 92 = .ok (.invokevirtual 131, 3) := by decide +kernel
theorem dX0_emptyChip_95 : decode cX0_emptyChip 95 = .ok (.iinc 2 1, 3) := by decide +kernel
theorem dX0_emptyChip_98 : decode cX0_emptyChip 98 = .ok (.iinc 3 1, 3) := by decide +kernel
theorem dX0_emptyChip_101 : decode cX0_emptyChip 101 = .ok (.goto (-67), 3) := by decide +kernel
theorem dX0_emptyChip_104 : decode cX0_emptyChip 104 = .ok (.iload_n 2, 1) := by decide +kernel
theorem dX0_emptyChip_105 : decode cX0_emptyChip 105 = .ok (.ireturn, 1) := by decide +kernel
theorem dX0_goTicks_0 : decode cX0_goTicks 0 = .ok (.iload_n 1, 1) := by decide +kernel
theorem dX0_goTicks_1 : decode cX0_goTicks 1 = .ok (.iconst 1, 1) := by decide +kernel
theorem dX0_goTicks_2 : decode cX0_goTicks 2 = .ok (.if_icmp .lt 9, 3) := by decide +kernel
theorem dX0_goTicks_5 : decode cX0_goTicks 5 = .ok (.iload_n 1, 1) := by decide +kernel
theorem dX0_goTicks_6 : decode cX0_goTicks 6 = .ok (.bipush 100, 2) := by decide +kernel
theorem dX0_goTicks_8 : decode cX0_goTicks 8 = .ok (.if_icmp .le 6, 3) := by decide +kernel
theorem dX0_goTicks_11 : decode cX0_goTicks 11 = .ok (.ldc 95, 2) := by decide +kernel
theorem dX0_goTicks_13 : decode cX0_goTicks 13 = .ok (.ireturn, 1) := by decide +kernel
theorem dX0_goTicks_14 : decode cX0_goTicks 14 = .ok (.aload_n 0, 1) := by decide +kernel
theorem dX0_goTicks_15 : decode cX0_goTicks 15 = .ok (.getfield 67, 3) := by decide +kernel
theorem dX0_goTicks_18 : decode cX0_goTicks 18 = .ok (.iload_n 1, 1) := by decide +kernel
theorem dX0_goTicks_19 : decode cX0_goTicks 19 = .ok (.iadd, 1) := by decide +kernel
theorem dX0_goTicks_20 : decode cX0_goTicks 20 = .ok (.ldc 144, 2) := by decide +kernel
theorem dX0_goTicks_22 : decode cX0_goTicks 22 = .ok (.if_icmp .le 6, 3) := by decide +kernel
theorem dX0_goTicks_25 : decode cX0_goTicks 25 = .ok (.ldc 96, 2) := by decide +kernel
theorem dX0_goTicks_27 : decode cX0_goTicks 27 = .ok (.ireturn, 1) := by decide +kernel
theorem dX0_goTicks_28 : decode cX0_goTicks 28 = .ok (.aload_n 0, 1) := by decide +kernel
theorem dX0_goTicks_29 : decode cX0_goTicks 29 = .ok (.dup, 1) := by decide +kernel
theorem dX0_goTicks_30 : decode cX0_goTicks 30 = .ok (.getfield 67, 3) := by decide +kernel
theorem dX0_goTicks_33 : decode cX0_goTicks 33 = .ok (.iload_n 1, 1) := by decide +kernel
theorem dX0_goTicks_34 : decode cX0_goTicks 34 = .ok (.iadd, 1) := by decide +kernel
theorem dX0_goTicks_35 : decode cX0_goTicks 35 = .ok (.putfield 67, 3) := by decide +kernel
theorem dX0_goTicks_38 : decode cX0_goTicks 38 = .ok (.aload_n 0, 1) := by decide +kernel
theorem dX0_goTicks_39 : decode cX0_goTicks 39 = .ok (.getfield 70, 3) := by decide +kernel
theorem dX0_goTicks_42 : decode cX0_goTicks 42 = .ok (.istore_n 2, 1) := by decide +kernel
theorem dX0_goTicks_43 : decode cX0_goTicks 43 = .ok (.iconst 0, 1) := by decide +kernel
theorem dX0_goTicks_44 : decode cX0_goTicks 44 = .ok (.istore_n 3, 1) := by decide +kernel
theorem dX0_goTicks_45 : decode cX0_goTicks 45 = .ok (.iload_n 3, 1) := by decide +kernel
theorem dX0_goTicks_46 : decode cX0_goTicks 46 = .ok (.iload_n 1, 1) := by decide +kernel
theorem dX0_goTicks_47 : decode cX0_goTicks 47 = .ok (.if_icmp .ge 48, 3) := by decide +kernel
theorem dX0_goTicks_50 : decode cX0_goTicks 50 = .ok (.aload_n 0, 1) := by decide +kernel
theorem dX0_goTicks_51 : decode cX0_goTicks 51 = .ok (.getfield 70, 3) := by decide +kernel
theorem dX0_goTicks_54 : decode cX0_goTicks 54 = .ok (.istore 4, 2) := by decide +kernel
theorem dX0_goTicks_56 : decode cX0_goTicks 56 = .ok (.iconst 0, 1) := by decide +kernel
theorem dX0_goTicks_57 : decode cX0_goTicks 57 = .ok (.istore 5, 2) := by decide +kernel
theorem dX0_goTicks_59 : decode cX0_goTicks 59 = .ok (.iload 5, 2) := by decide +kernel
theorem dX0_goTicks_61 : decode cX0_goTicks 61 = .ok (.iconst 3, 1) := by decide +kernel
theorem dX0_goTicks_62 : decode cX0_goTicks 62 = .ok (.if_icmp .ge 15, 3) := by decide +kernel
theorem dX0_goTicks_65 : decode cX0_goTicks 65 = .ok (.aload_n 0, 1) := by decide +kernel
theorem dX0_goTicks_66 : decode cX0_goTicks 66 = .ok (.iload 5, 2) := by decide +kernel
theorem dX0_goTicks_68 : decode cX0_goTicks 68 = .ok (.invokevirtual 145, 3) := by decide +kernel
theorem dX0_goTicks_71 : decode cX0_goTicks 71 = .ok (.iinc 5 1, 3) := by decide +kernel
theorem dX0_goTicks_74 : decode cX0_goTicks 74 = .ok (.goto (-15), 3) := by decide +kernel
theorem dX0_goTicks_77 : decode cX0_goTicks 77 = .ok (.aload_n 0, 1) := by decide +kernel
theorem dX0_goTicks_78 : decode cX0_goTicks 78 = .ok (.getfield 70, 3) := by decide +kernel
theorem dX0_goTicks_81 : decode cX0_goTicks 81 = .ok (.iload 4, 2) := by decide +kernel
theorem dX0_goTicks_83 : decode cX0_goTicks 83 = .ok (.if_icmp .ne 6, 3) := by decide +kernel
theorem dX0_goTicks_86 : decode cX0_goTicks 86 = .ok (.goto 9, 3) := by decide +kernel
theorem dX0_goTicks_89 : decode cX0_goTicks 89 = .ok (.iinc 3 1, 3) := by decide +kernel
theorem dX0_goTicks_92 : decode cX0_goTicks 92 = .ok (.goto (-47), 3) := by decide +kernel
theorem dX0_goTicks_95 : decode cX0_goTicks 95 = .ok (.aload_n 0, 1) := by decide +kernel
theorem dX0_goTicks_96 : decode cX0_goTicks 96 = .ok (.getfield 70, 3) := by decide +kernel
theorem dX0_goTicks_99 : decode cX0_goTicks 99 = .ok (.iload_n 2, 1) := by decide +kernel
theorem dX0_goTicks_100 : decode cX0_goTicks 100 = .ok (.isub, 1) := by decide +kernel
theorem dX0_goTicks_101 : decode cX0_goTicks 101 = .ok (.ireturn, 1) := by decide +kernel
theorem dX0_raiseFirst_0 : decode cX0_raiseFirst 0 = .ok (.aload_n 0, 1) := by decide +kernel
theorem dX0_raiseFirst_1 : decode cX0_raiseFirst 1 = .ok (.getfield 33, 3) := by decide +kernel
theorem dX0_raiseFirst_4 : decode cX0_raiseFirst 4 = .ok (.iload_n 1, 1) := by decide +kernel
theorem dX0_raiseFirst_5 : decode cX0_raiseFirst 5 = .ok (.iaload, 1) := by decide +kernel
theorem dX0_raiseFirst_6 : decode cX0_raiseFirst 6 = .ok (.ifCond .ne 4, 3) := by decide +kernel
theorem dX0_raiseFirst_9 : decode cX0_raiseFirst 9 = .ok (.return_, 1) := by decide +kernel
theorem dX0_raiseFirst_10 : decode cX0_raiseFirst 10 = .ok (.aload_n 0, 1) := by decide +kernel
theorem dX0_raiseFirst_11 : decode cX0_raiseFirst 11 = .ok (.getfield 30, 3) := by decide +kernel
theorem dX0_raiseFirst_14 : decode cX0_raiseFirst 14 = .ok (.iload_n 1, 1) := by decide +kernel
theorem dX0_raiseFirst_15 : decode cX0_raiseFirst 15 = .ok (.bipush 6, 2) := by decide +kernel
theorem dX0_raiseFirst_17 : decode cX0_raiseFirst 17 = .ok (.imul, 1) := by decide +kernel
theorem dX0_raiseFirst_18 : decode cX0_raiseFirst 18 = .ok (.iaload, 1) := by decide +kernel
theorem dX0_raiseFirst_19 : decode cX0_raiseFirst 19 = .ok (.istore_n 2, 1) := by decide +kernel
theorem dX0_raiseFirst_20 : decode cX0_raiseFirst 20 = .ok (.iload_n 1, 1) := by decide +kernel
theorem dX0_raiseFirst_21 : decode cX0_raiseFirst 21 = .ok (.bipush 6, 2) := by decide +kernel
theorem dX0_raiseFirst_23 : decode cX0_raiseFirst 23 = .ok (.imul, 1) := by decide +kernel
theorem dX0_raiseFirst_24 : decode cX0_raiseFirst 24 = .ok (.aload_n 0, 1) := by decide +kernel
theorem dX0_raiseFirst_25 : decode cX0_raiseFirst 25 = .ok (.getfield 42, 3) := by decide +kernel
theorem dX0_raiseFirst_28 : decode cX0_raiseFirst 28 = .ok (.iload_n 2, 1) := by decide +kernel
theorem dX0_raiseFirst_29 : decode cX0_raiseFirst 29 = .ok (.iaload, 1) := by decide +kernel
theorem dX0_raiseFirst_30 : decode cX0_raiseFirst 30 = .ok (.iadd, 1) := by decide +kernel
theorem dX0_raiseFirst_31 : decode cX0_raiseFirst 31 = .ok (.istore_n 3, 1) := by decide +kernel
theorem dX0_raiseFirst_32 : decode cX0_raiseFirst 32 = .ok (.aload_n 0, 1) := by decide +kernel
theorem dX0_raiseFirst_33 : decode cX0_raiseFirst 33 = .ok (.getfield 27, 3) := by decide +kernel
theorem dX0_raiseFirst_36 : decode cX0_raiseFirst 36 = .ok (.iload_n 3, 1) := by decide +kernel
theorem dX0_raiseFirst_37 : decode cX0_raiseFirst 37 = .ok (.iconst (-1), 1) := by decide +kernel
theorem dX0_raiseFirst_38 : decode cX0_raiseFirst 38 = .ok (.iastore, 1) := by decide +kernel
theorem dX0_raiseFirst_39 : decode cX0_raiseFirst 39 = .ok (.aload_n 0, 1) := by decide +kernel
theorem dX0_raiseFirst_40 : decode cX0_raiseFirst 40 = .ok (.iload_n 1, 1) := by decide +kernel
theorem dX0_raiseFirst_41 : decode cX0_raiseFirst 41 = .ok (.iconst (-1), 1) := by decide +kernel
theorem dX0_raiseFirst_42 : decode cX0_raiseFirst 42 = .ok (.invokevirtual 141, 3) := by decide +kernel
theorem dX0_raiseFirst_45 : decode cX0_raiseFirst 45 = .ok (.istore 4, 2) := by decide +kernel
theorem dX0_raiseFirst_47 : decode cX0_raiseFirst 47 = .ok (.iload 4, 2) := by decide +kernel
theorem dX0_raiseFirst_49 : decode cX0_raiseFirst 49 = .ok (.iconst (-1), 1) := by decide +kernel
theorem dX0_raiseFirst_50 : decode cX0_raiseFirst 50 = .ok (.if_icmp .ne 11, 3) := by decide +kernel
theorem dX0_raiseFirst_53 : decode cX0_raiseFirst 53 = .ok (.aload_n 0, 1) := by decide +kernel
theorem dX0_raiseFirst_54 : decode cX0_raiseFirst 54 = .ok (.getfield 27, 3) := by decide +kernel
theorem dX0_raiseFirst_57 : decode cX0_raiseFirst 57 = .ok (.iload_n 3, 1) := by decide +kernel
theorem dX0_raiseFirst_58 : decode cX0_raiseFirst 58 = .ok (.iload_n 2, 1) := by decide +kernel
theorem dX0_raiseFirst_59 : decode cX0_raiseFirst 59 = .ok (.iastore, 1) := by decide +kernel
theorem dX0_raiseFirst_60 : decode cX0_raiseFirst 60 = .ok (.return_, 1) := by decide +kernel
theorem dX0_raiseFirst_61 : decode cX0_raiseFirst 61 = .ok (.aload_n 0, 1) := by decide +kernel
theorem dX0_raiseFirst_62 : decode cX0_raiseFirst 62 = .ok (.iload_n 2, 1) := by decide +kernel
theorem dX0_raiseFirst_63 : decode cX0_raiseFirst 63 = .ok (.invokevirtual 148, 3) := by decide +kernel
theorem dX0_raiseFirst_66 : decode cX0_raiseFirst 66 = .ok (.aload_n 0, 1) := by decide +kernel
theorem dX0_raiseFirst_67 : decode cX0_raiseFirst 67 = .ok (.iload_n 2, 1) := by decide +kernel
theorem dX0_raiseFirst_68 : decode cX0_raiseFirst 68 = .ok (.iload 4, 2) := by decide +kernel
theorem dX0_raiseFirst_70 : decode cX0_raiseFirst 70 = .ok (.invokevirtual 131, 3) := by decide +kernel
theorem dX0_raiseFirst_73 : decode cX0_raiseFirst 73 = .ok (.aload_n 0, 1) := by decide +kernel
theorem dX0_raiseFirst_74 : decode cX0_raiseFirst 74 = .ok (.getfield 48, 3) := by decide +kernel
theorem dX0_raiseFirst_77 : decode cX0_raiseFirst 77 = .ok (.iload_n 2, 1) := by decide +kernel
theorem dX0_raiseFirst_78 : decode cX0_raiseFirst 78 = .ok (.dup2, 1) := by decide +kernel
theorem dX0_raiseFirst_79 : decode cX0_raiseFirst 79 = .ok (.iaload, 1) := by decide +kernel
theorem dX0_raiseFirst_80 : decode cX0_raiseFirst 80 = .ok (.iconst 1, 1) := by decide +kernel
theorem dX0_raiseFirst_81 : decode cX0_raiseFirst 81 = .ok (.iadd, 1) := by decide +kernel
theorem dX0_raiseFirst_82 : decode cX0_raiseFirst 82 = .ok (.iastore, 1) := by decide +kernel
theorem dX0_raiseFirst_83 : decode cX0_raiseFirst 83 = .ok (.aload_n 0, 1) := by decide +kernel
theorem dX0_raiseFirst_84 : decode cX0_raiseFirst 84 = .ok (.dup, 1) := by decide +kernel
theorem dX0_raiseFirst_85 : decode cX0_raiseFirst 85 = .ok (.getfield 70, 3) := by decide +kernel
theorem dX0_raiseFirst_88 : decode cX0_raiseFirst 88 = .ok (.iconst 1, 1) := by decide +kernel
theorem dX0_raiseFirst_89 : decode cX0_raiseFirst 89 = .ok (.iadd, 1) := by decide +kernel
theorem dX0_raiseFirst_90 : decode cX0_raiseFirst 90 = .ok (.putfield 70, 3) := by decide +kernel
theorem dX0_raiseFirst_93 : decode cX0_raiseFirst 93 = .ok (.return_, 1) := by decide +kernel
theorem dX0_keepAtLowest_0 : decode cX0_keepAtLowest 0 = .ok (.aload_n 0, 1) := by decide +kernel
theorem dX0_keepAtLowest_1 : decode cX0_keepAtLowest 1 = .ok (.iload_n 2, 1) := by decide +kernel
theorem dX0_keepAtLowest_2 : decode cX0_keepAtLowest 2 = .ok (.invokevirtual 83, 3) := by decide +kernel
theorem dX0_keepAtLowest_5 : decode cX0_keepAtLowest 5 = .ok (.istore_n 3, 1) := by decide +kernel
theorem dX0_keepAtLowest_6 : decode cX0_keepAtLowest 6 = .ok (.iconst 0, 1) := by decide +kernel
theorem dX0_keepAtLowest_7 : decode cX0_keepAtLowest 7 = .ok (.istore 4, 2) := by decide +kernel
theorem dX0_keepAtLowest_9 : decode cX0_keepAtLowest 9 = .ok (.iload 4, 2) := by decide +kernel
theorem dX0_keepAtLowest_11 : decode cX0_keepAtLowest 11 = .ok (.bipush 6, 2) := by decide +kernel
theorem dX0_keepAtLowest_13 : decode cX0_keepAtLowest 13 = .ok (.if_icmp .ge 60, 3) := by decide +kernel
theorem dX0_keepAtLowest_16 : decode cX0_keepAtLowest 16 = .ok (.iload_n 3, 1) := by decide +kernel
theorem dX0_keepAtLowest_17 : decode cX0_keepAtLowest 17 = .ok (.iload 4, 2) := by decide +kernel
theorem dX0_keepAtLowest_19 : decode cX0_keepAtLowest 19 = .ok (.ishr, 1) := by decide +kernel
theorem dX0_keepAtLowest_20 : decode cX0_keepAtLowest 20 = .ok (.iconst 1, 1) := by decide +kernel
theorem dX0_keepAtLowest_21 : decode cX0_keepAtLowest 21 = .ok (.iand, 1) := by decide +kernel
theorem dX0_keepAtLowest_22 : decode cX0_keepAtLowest 22 = .ok (.iconst 1, 1) := by decide +kernel
theorem dX0_keepAtLowest_23 : decode cX0_keepAtLowest 23 = .ok (.if_icmp .ne 44, 3) := by decide +kernel
theorem dX0_keepAtLowest_26 : decode cX0_keepAtLowest 26 = .ok (.aload_n 0, 1) := by decide +kernel
theorem dX0_keepAtLowest_27 : decode cX0_keepAtLowest 27 = .ok (.getfield 21, 3) := by decide +kernel
theorem dX0_keepAtLowest_30 : decode cX0_keepAtLowest 30 = .ok (.iload_n 2, 1) := by decide +kernel
theorem dX0_keepAtLowest_31 : decode cX0_keepAtLowest 31 = .ok (.bipush 6, 2) := by decide +kernel
theorem dX0_keepAtLowest_33 : decode cX0_keepAtLowest 33 = .ok (.imul, 1) := by decide +kernel
theorem dX0_keepAtLowest_34 : decode cX0_keepAtLowest 34 = .ok (.iload 4, 2) := by decide +kernel
theorem dX0_keepAtLowest_36 : decode cX0_keepAtLowest 36 = .ok (.iadd, 1) := by decide +kernel
theorem dX0_keepAtLowest_37 : decode cX0_keepAtLowest 37 = .ok (.iload_n 1, 1) := by decide +kernel
theorem dX0_keepAtLowest_38 : decode cX0_keepAtLowest 38 = .ok (.iastore, 1) := by decide +kernel
theorem dX0_keepAtLowest_39 : decode cX0_keepAtLowest 39 = .ok (.aload_n 0, 1) := by decide +kernel
theorem dX0_keepAtLowest_40 : decode cX0_keepAtLowest 40 = .ok (.getfield 39, 3) := by decide +kernel
theorem dX0_keepAtLowest_43 : decode cX0_keepAtLowest 43 = .ok (.iload_n 1, 1) := by decide +kernel
theorem dX0_keepAtLowest_44 : decode cX0_keepAtLowest 44 = .ok (.iload_n 2, 1) := by decide +kernel
theorem dX0_keepAtLowest_45 : decode cX0_keepAtLowest 45 = .ok (.iastore, 1) := by decide +kernel
theorem dX0_keepAtLowest_46 : decode cX0_keepAtLowest 46 = .ok (.aload_n 0, 1) := by decide +kernel
theorem dX0_keepAtLowest_47 : decode cX0_keepAtLowest 47 = .ok (.getfield 42, 3) := by decide +kernel
theorem dX0_keepAtLowest_50 : decode cX0_keepAtLowest 50 = .ok (.iload_n 1, 1) := by decide +kernel
theorem dX0_keepAtLowest_51 : decode cX0_keepAtLowest 51 = .ok (.iload 4, 2) := by decide +kernel
theorem dX0_keepAtLowest_53 : decode cX0_keepAtLowest 53 = .ok (.iastore, 1) := by decide +kernel
theorem dX0_keepAtLowest_54 : decode cX0_keepAtLowest 54 = .ok (.aload_n 0, 1) := by decide +kernel
theorem dX0_keepAtLowest_55 : decode cX0_keepAtLowest 55 = .ok (.getfield 45, 3) := by decide +kernel
theorem dX0_keepAtLowest_58 : decode cX0_keepAtLowest 58 = .ok (.iload_n 1, 1) := by decide +kernel
theorem dX0_keepAtLowest_59 : decode cX0_keepAtLowest 59 = .ok (.aload_n 0, 1) := by decide +kernel
theorem dX0_keepAtLowest_60 : decode cX0_keepAtLowest 60 = .ok (.getfield 9, 3) := by decide +kernel
theorem dX0_keepAtLowest_63 : decode cX0_keepAtLowest 63 = .ok (.iload_n 2, 1) := by decide +kernel
theorem dX0_keepAtLowest_64 : decode cX0_keepAtLowest 64 = .ok (.iaload, 1) := by decide +kernel
theorem dX0_keepAtLowest_65 : decode cX0_keepAtLowest 65 = .ok (.iastore, 1) := by decide +kernel
theorem dX0_keepAtLowest_66 : decode cX0_keepAtLowest 66 = .ok (.return_, 1) := by decide +kernel
theorem dX0_keepAtLowest_67 : decode cX0_keepAtLowest 67 = .ok (.iinc 4 1, 3) := by decide +kernel
theorem dX0_keepAtLowest_70 : decode cX0_keepAtLowest 70 = .ok (.goto (-61), 3) := by decide +kernel
theorem dX0_keepAtLowest_73 : decode cX0_keepAtLowest 73 = .ok (.return_, 1) := by decide +kernel
theorem dX0_takeFromChip_0 : decode cX0_takeFromChip 0 = .ok (.aload_n 0, 1) := by decide +kernel
theorem dX0_takeFromChip_1 : decode cX0_takeFromChip 1 = .ok (.getfield 21, 3) := by decide +kernel
theorem dX0_takeFromChip_4 : decode cX0_takeFromChip 4 = .ok (.aload_n 0, 1) := by decide +kernel
theorem dX0_takeFromChip_5 : decode cX0_takeFromChip 5 = .ok (.getfield 39, 3) := by decide +kernel
theorem dX0_takeFromChip_8 : decode cX0_takeFromChip 8 = .ok (.iload_n 1, 1) := by decide +kernel
theorem dX0_takeFromChip_9 : decode cX0_takeFromChip 9 = .ok (.iaload, 1) := by decide +kernel
theorem dX0_takeFromChip_10 : decode cX0_takeFromChip 10 = .ok (.bipush 6, 2) := by decide +kernel
theorem dX0_takeFromChip_12 : decode cX0_takeFromChip 12 = .ok (.imul, 1) := by decide +kernel
theorem dX0_takeFromChip_13 : decode cX0_takeFromChip 13 = .ok (.aload_n 0, 1) := by decide +kernel
theorem dX0_takeFromChip_14 : decode cX0_takeFromChip 14 = .ok (.getfield 42, 3) := by decide +kernel
theorem dX0_takeFromChip_17 : decode cX0_takeFromChip 17 = .ok (.iload_n 1, 1) := by decide +kernel
theorem dX0_takeFromChip_18 : decode cX0_takeFromChip 18 = .ok (.iaload, 1) := by decide +kernel
theorem dX0_takeFromChip_19 : decode cX0_takeFromChip 19 = .ok (.iadd, 1) := by decide +kernel
theorem dX0_takeFromChip_20 : decode cX0_takeFromChip 20 = .ok (.iconst (-1), 1) := by decide +kernel
theorem dX0_takeFromChip_21 : decode cX0_takeFromChip 21 = .ok (.iastore, 1) := by decide +kernel
theorem dX0_takeFromChip_22 : decode cX0_takeFromChip 22 = .ok (.aload_n 0, 1) := by decide +kernel
theorem dX0_takeFromChip_23 : decode cX0_takeFromChip 23 = .ok (.getfield 39, 3) := by decide +kernel
theorem dX0_takeFromChip_26 : decode cX0_takeFromChip 26 = .ok (.iload_n 1, 1) := by decide +kernel
theorem dX0_takeFromChip_27 : decode cX0_takeFromChip 27 = .ok (.iconst (-1), 1) := by decide +kernel
theorem dX0_takeFromChip_28 : decode cX0_takeFromChip 28 = .ok (.iastore, 1) := by decide +kernel
theorem dX0_takeFromChip_29 : decode cX0_takeFromChip 29 = .ok (.return_, 1) := by decide +kernel
theorem dX0_letWait_0 : decode cX0_letWait 0 = .ok (.iload_n 1, 1) := by decide +kernel
theorem dX0_letWait_1 : decode cX0_letWait 1 = .ok (.iconst (-1), 1) := by decide +kernel
theorem dX0_letWait_2 : decode cX0_letWait 2 = .ok (.if_icmp .eq 13, 3) := by decide +kernel
theorem dX0_letWait_5 : decode cX0_letWait 5 = .ok (.aload_n 0, 1) := by decide +kernel
theorem dX0_letWait_6 : decode cX0_letWait 6 = .ok (.getfield 39, 3) := by decide +kernel
theorem dX0_letWait_9 : decode cX0_letWait 9 = .ok (.iload_n 1, 1) := by decide +kernel
theorem dX0_letWait_10 : decode cX0_letWait 10 = .ok (.iaload, 1) := by decide +kernel
theorem dX0_letWait_11 : decode cX0_letWait 11 = .ok (.iconst (-1), 1) := by decide +kernel
theorem dX0_letWait_12 : decode cX0_letWait 12 = .ok (.if_icmp .ne 4, 3) := by decide +kernel
theorem dX0_letWait_15 : decode cX0_letWait 15 = .ok (.return_, 1) := by decide +kernel
theorem dX0_letWait_16 : decode cX0_letWait 16 = .ok (.aload_n 0, 1) := by decide +kernel
theorem dX0_letWait_17 : decode cX0_letWait 17 = .ok (.iload_n 1, 1) := by decide +kernel
theorem dX0_letWait_18 : decode cX0_letWait 18 = .ok (.invokevirtual 138, 3) := by decide +kernel
theorem dX0_letWait_21 : decode cX0_letWait 21 = .ok (.aload_n 0, 1) := by decide +kernel
theorem dX0_letWait_22 : decode cX0_letWait 22 = .ok (.getfield 45, 3) := by decide +kernel
theorem dX0_letWait_25 : decode cX0_letWait 25 = .ok (.iload_n 1, 1) := by decide +kernel
theorem dX0_letWait_26 : decode cX0_letWait 26 = .ok (.iaload, 1) := by decide +kernel
theorem dX0_letWait_27 : decode cX0_letWait 27 = .ok (.istore_n 2, 1) := by decide +kernel
theorem dX0_letWait_28 : decode cX0_letWait 28 = .ok (.aload_n 0, 1) := by decide +kernel
theorem dX0_letWait_29 : decode cX0_letWait 29 = .ok (.getfield 27, 3) := by decide +kernel
theorem dX0_letWait_32 : decode cX0_letWait 32 = .ok (.iload_n 2, 1) := by decide +kernel
theorem dX0_letWait_33 : decode cX0_letWait 33 = .ok (.bipush 6, 2) := by decide +kernel
theorem dX0_letWait_35 : decode cX0_letWait 35 = .ok (.imul, 1) := by decide +kernel
theorem dX0_letWait_36 : decode cX0_letWait 36 = .ok (.aload_n 0, 1) := by decide +kernel
theorem dX0_letWait_37 : decode cX0_letWait 37 = .ok (.getfield 42, 3) := by decide +kernel
theorem dX0_letWait_40 : decode cX0_letWait 40 = .ok (.iload_n 1, 1) := by decide +kernel
theorem dX0_letWait_41 : decode cX0_letWait 41 = .ok (.iaload, 1) := by decide +kernel
theorem dX0_letWait_42 : decode cX0_letWait 42 = .ok (.iadd, 1) := by decide +kernel
theorem dX0_letWait_43 : decode cX0_letWait 43 = .ok (.iload_n 1, 1) := by decide +kernel
theorem dX0_letWait_44 : decode cX0_letWait 44 = .ok (.iastore, 1) := by decide +kernel
theorem dX0_letWait_45 : decode cX0_letWait 45 = .ok (.aload_n 0, 1) := by decide +kernel
theorem dX0_letWait_46 : decode cX0_letWait 46 = .ok (.getfield 30, 3) := by decide +kernel
theorem dX0_letWait_49 : decode cX0_letWait 49 = .ok (.iload_n 2, 1) := by decide +kernel
theorem dX0_letWait_50 : decode cX0_letWait 50 = .ok (.bipush 6, 2) := by decide +kernel
theorem dX0_letWait_52 : decode cX0_letWait 52 = .ok (.imul, 1) := by decide +kernel
theorem dX0_letWait_53 : decode cX0_letWait 53 = .ok (.aload_n 0, 1) := by decide +kernel
theorem dX0_letWait_54 : decode cX0_letWait 54 = .ok (.getfield 33, 3) := by decide +kernel
theorem dX0_letWait_57 : decode cX0_letWait 57 = .ok (.iload_n 2, 1) := by decide +kernel
theorem dX0_letWait_58 : decode cX0_letWait 58 = .ok (.iaload, 1) := by decide +kernel
theorem dX0_letWait_59 : decode cX0_letWait 59 = .ok (.iadd, 1) := by decide +kernel
theorem dX0_letWait_60 : decode cX0_letWait 60 = .ok (.iload_n 1, 1) := by decide +kernel
theorem dX0_letWait_61 : decode cX0_letWait 61 = .ok (.iastore, 1) := by decide +kernel
theorem dX0_letWait_62 : decode cX0_letWait 62 = .ok (.aload_n 0, 1) := by decide +kernel
theorem dX0_letWait_63 : decode cX0_letWait 63 = .ok (.getfield 33, 3) := by decide +kernel
theorem dX0_letWait_66 : decode cX0_letWait 66 = .ok (.iload_n 2, 1) := by decide +kernel
theorem dX0_letWait_67 : decode cX0_letWait 67 = .ok (.dup2, 1) := by decide +kernel
theorem dX0_letWait_68 : decode cX0_letWait 68 = .ok (.iaload, 1) := by decide +kernel
theorem dX0_letWait_69 : decode cX0_letWait 69 = .ok (.iconst 1, 1) := by decide +kernel
theorem dX0_letWait_70 : decode cX0_letWait 70 = .ok (.iadd, 1) := by decide +kernel
theorem dX0_letWait_71 : decode cX0_letWait 71 = .ok (.iastore, 1) := by decide +kernel
theorem dX0_letWait_72 : decode cX0_letWait 72 = .ok (.return_, 1) := by decide +kernel
theorem dX0_loseUnlessSummed_0 : decode cX0_loseUnlessSummed 0 = .ok (.iload_n 1, 1) := by decide +kernel
theorem dX0_loseUnlessSummed_1 : decode cX0_loseUnlessSummed 1 = .ok (.iconst (-1), 1) := by decide +kernel
theorem dX0_loseUnlessSummed_2 : decode cX0_loseUnlessSummed 2 = .ok (.if_icmp .ne 5, 3) := by decide +kernel
theorem dX0_loseUnlessSummed_5 : decode cX0_loseUnlessSummed 5 = .ok (.iconst 0, 1) := by decide +kernel
theorem dX0_loseUnlessSummed_6 : decode cX0_loseUnlessSummed 6 = .ok (.ireturn, 1) := by decide +kernel
theorem dX0_loseUnlessSummed_7 : decode cX0_loseUnlessSummed 7 = .ok (.aload_n 0, 1) := by decide +kernel
theorem dX0_loseUnlessSummed_8 : decode cX0_loseUnlessSummed 8 = .ok (.getfield 45, 3) := by decide +kernel
theorem dX0_loseUnlessSummed_11 : decode cX0_loseUnlessSummed 11 = .ok (.iload_n 1, 1) := by decide +kernel
theorem dX0_loseUnlessSummed_12 : decode cX0_loseUnlessSummed 12 = .ok (.iaload, 1) := by decide +kernel
theorem dX0_loseUnlessSummed_13 : decode cX0_loseUnlessSummed 13 = .ok (.istore_n 2, 1) := by decide +kernel
theorem dX0_loseUnlessSummed_14 : decode cX0_loseUnlessSummed 14 = .ok (.aload_n 0, 1) := by decide +kernel
theorem dX0_loseUnlessSummed_15 : decode cX0_loseUnlessSummed 15 = .ok (.getfield 42, 3) := by decide +kernel
theorem dX0_loseUnlessSummed_18 : decode cX0_loseUnlessSummed 18 = .ok (.iload_n 1, 1) := by decide +kernel
theorem dX0_loseUnlessSummed_19 : decode cX0_loseUnlessSummed 19 = .ok (.iaload, 1) := by decide +kernel
theorem dX0_loseUnlessSummed_20 : decode cX0_loseUnlessSummed 20 = .ok (.istore_n 3, 1) := by decide +kernel
theorem dX0_loseUnlessSummed_21 : decode cX0_loseUnlessSummed 21 = .ok (.aload_n 0, 1) := by decide +kernel
theorem dX0_loseUnlessSummed_22 : decode cX0_loseUnlessSummed 22 = .ok (.iload_n 2, 1) := by decide +kernel
theorem dX0_loseUnlessSummed_23 : decode cX0_loseUnlessSummed 23 = .ok (.invokevirtual 104, 3) := by decide +kernel
theorem dX0_loseUnlessSummed_26 : decode cX0_loseUnlessSummed 26 = .ok (.iload_n 3, 1) := by decide +kernel
theorem dX0_loseUnlessSummed_27 : decode cX0_loseUnlessSummed 27 = .ok (.ishr, 1) := by decide +kernel
theorem dX0_loseUnlessSummed_28 : decode cX0_loseUnlessSummed 28 = .ok (.iconst 1, 1) := by decide +kernel
theorem dX0_loseUnlessSummed_29 : decode cX0_loseUnlessSummed 29 = .ok (.iand, 1) := by decide +kernel
theorem dX0_loseUnlessSummed_30 : decode cX0_loseUnlessSummed 30 = .ok (.iconst 1, 1) := by decide +kernel
theorem dX0_loseUnlessSummed_31 : decode cX0_loseUnlessSummed 31 = .ok (.if_icmp .ne 7, 3) := by decide +kernel
theorem dX0_loseUnlessSummed_34 : decode cX0_loseUnlessSummed 34 = .ok (.iconst 1, 1) := by decide +kernel
theorem dX0_loseUnlessSummed_35 : decode cX0_loseUnlessSummed 35 = .ok (.goto 4, 3) := by decide +kernel
theorem dX0_loseUnlessSummed_38 : decode cX0_loseUnlessSummed 38 = .ok (.iconst 0, 1) := by decide +kernel
theorem dX0_loseUnlessSummed_39 : decode cX0_loseUnlessSummed 39 = .ok (.istore 4, 2) := by decide +kernel
theorem dX0_loseUnlessSummed_41 : decode cX0_loseUnlessSummed 41 = .ok (.iload 4, 2) := by decide +kernel
theorem dX0_loseUnlessSummed_43 : decode cX0_loseUnlessSummed 43 = .ok (.ifCond .eq 20, 3) := by decide +kernel
theorem dX0_loseUnlessSummed_46 : decode cX0_loseUnlessSummed 46 = .ok (.aload_n 0, 1) := by decide +kernel
theorem dX0_loseUnlessSummed_47 : decode cX0_loseUnlessSummed 47 = .ok (.getfield 27, 3) := by decide +kernel
theorem dX0_loseUnlessSummed_50 : decode cX0_loseUnlessSummed 50 = .ok (.iload_n 2, 1) := by decide +kernel
theorem dX0_loseUnlessSummed_51 : decode cX0_loseUnlessSummed 51 = .ok (.bipush 6, 2) := by decide +kernel
theorem dX0_loseUnlessSummed_53 : decode cX0_loseUnlessSummed 53 = .ok (.imul, 1) := by decide +kernel
theorem dX0_loseUnlessSummed_54 : decode cX0_loseUnlessSummed 54 = .ok (.iload_n 3, 1) := by decide +kernel
theorem dX0_loseUnlessSummed_55 : decode cX0_loseUnlessSummed 55 = .ok (.iadd, 1) := by decide +kernel
theorem dX0_loseUnlessSummed_56 : decode cX0_loseUnlessSummed 56 = .ok (.iaload, 1) := by decide +kernel
theorem dX0_loseUnlessSummed_57 : decode cX0_loseUnlessSummed 57 = .ok (.iconst (-1), 1) := by decide +kernel
theorem dX0_loseUnlessSummed_58 : decode cX0_loseUnlessSummed 58 = .ok (.if_icmp .ne 5, 3) := by decide +kernel
theorem dX0_loseUnlessSummed_61 : decode cX0_loseUnlessSummed 61 = .ok (.iconst 0, 1) := by decide +kernel
theorem dX0_loseUnlessSummed_62 : decode cX0_loseUnlessSummed 62 = .ok (.ireturn, 1) := by decide +kernel
theorem dX0_loseUnlessSummed_63 : decode cX0_loseUnlessSummed 63 = .ok (.aload_n 0, 1) := by decide +kernel
theorem dX0_loseUnlessSummed_64 : decode cX0_loseUnlessSummed 64 = .ok (.iload_n 1, 1) := by decide +kernel
theorem dX0_loseUnlessSummed_65 : decode cX0_loseUnlessSummed 65 = .ok (.invokevirtual 138, 3) := by decide +kernel
theorem dX0_loseUnlessSummed_68 : decode cX0_loseUnlessSummed 68 = .ok (.aload_n 0, 1) := by decide +kernel
theorem dX0_loseUnlessSummed_69 : decode cX0_loseUnlessSummed 69 = .ok (.getfield 42, 3) := by decide +kernel
theorem dX0_loseUnlessSummed_72 : decode cX0_loseUnlessSummed 72 = .ok (.iload_n 1, 1) := by decide +kernel
theorem dX0_loseUnlessSummed_73 : decode cX0_loseUnlessSummed 73 = .ok (.iconst (-1), 1) := by decide +kernel
theorem dX0_loseUnlessSummed_74 : decode cX0_loseUnlessSummed 74 = .ok (.iastore, 1) := by decide +kernel
theorem dX0_loseUnlessSummed_75 : decode cX0_loseUnlessSummed 75 = .ok (.iconst 1, 1) := by decide +kernel
theorem dX0_loseUnlessSummed_76 : decode cX0_loseUnlessSummed 76 = .ok (.aload_n 0, 1) := by decide +kernel
theorem dX0_loseUnlessSummed_77 : decode cX0_loseUnlessSummed 77 = .ok (.iload_n 2, 1) := by decide +kernel
theorem dX0_loseUnlessSummed_78 : decode cX0_loseUnlessSummed 78 = .ok (.iload_n 3, 1) := by decide +kernel
theorem dX0_loseUnlessSummed_79 : decode cX0_loseUnlessSummed 79 = .ok (.invokevirtual 110, 3) := by decide +kernel
theorem dX0_loseUnlessSummed_82 : decode cX0_loseUnlessSummed 82 = .ok (.iadd, 1) := by decide +kernel
theorem dX0_loseUnlessSummed_83 : decode cX0_loseUnlessSummed 83 = .ok (.ireturn, 1) := by decide +kernel
theorem dX0_loseWaiting_0 : decode cX0_loseWaiting 0 = .ok (.aload_n 0, 1) := by decide +kernel
theorem dX0_loseWaiting_1 : decode cX0_loseWaiting 1 = .ok (.getfield 27, 3) := by decide +kernel
theorem dX0_loseWaiting_4 : decode cX0_loseWaiting 4 = .ok (.iload_n 1, 1) := by decide +kernel
theorem dX0_loseWaiting_5 : decode cX0_loseWaiting 5 = .ok (.bipush 6, 2) := by decide +kernel
theorem dX0_loseWaiting_7 : decode cX0_loseWaiting 7 = .ok (.imul, 1) := by decide +kernel
theorem dX0_loseWaiting_8 : decode cX0_loseWaiting 8 = .ok (.iload_n 2, 1) := by decide +kernel
theorem dX0_loseWaiting_9 : decode cX0_loseWaiting 9 = .ok (.iadd, 1) := by decide +kernel
theorem dX0_loseWaiting_10 : decode cX0_loseWaiting 10 = .ok (.iaload, 1) := by decide +kernel
theorem dX0_loseWaiting_11 : decode cX0_loseWaiting 11 = .ok (.istore_n 3, 1) := by decide +kernel
theorem dX0_loseWaiting_12 : decode cX0_loseWaiting 12 = .ok (.iload_n 3, 1) := by decide +kernel
theorem dX0_loseWaiting_13 : decode cX0_loseWaiting 13 = .ok (.iconst (-1), 1) := by decide +kernel
theorem dX0_loseWaiting_14 : decode cX0_loseWaiting 14 = .ok (.if_icmp .ne 5, 3) := by decide +kernel
theorem dX0_loseWaiting_17 : decode cX0_loseWaiting 17 = .ok (.iconst 0, 1) := by decide +kernel
theorem dX0_loseWaiting_18 : decode cX0_loseWaiting 18 = .ok (.ireturn, 1) := by decide +kernel
theorem dX0_loseWaiting_19 : decode cX0_loseWaiting 19 = .ok (.aload_n 0, 1) := by decide +kernel
theorem dX0_loseWaiting_20 : decode cX0_loseWaiting 20 = .ok (.getfield 27, 3) := by decide +kernel
theorem dX0_loseWaiting_23 : decode cX0_loseWaiting 23 = .ok (.iload_n 1, 1) := by decide +kernel
theorem dX0_loseWaiting_24 : decode cX0_loseWaiting 24 = .ok (.bipush 6, 2) := by decide +kernel
theorem dX0_loseWaiting_26 : decode cX0_loseWaiting 26 = .ok (.imul, 1) := by decide +kernel
theorem dX0_loseWaiting_27 : decode cX0_loseWaiting 27 = .ok (.iload_n 2, 1) := by decide +kernel
theorem dX0_loseWaiting_28 : decode cX0_loseWaiting 28 = .ok (.iadd, 1) := by decide +kernel
theorem dX0_loseWaiting_29 : decode cX0_loseWaiting 29 = .ok (.iconst (-1), 1) := by decide +kernel
theorem dX0_loseWaiting_30 : decode cX0_loseWaiting 30 = .ok (.iastore, 1) := by decide +kernel
theorem dX0_loseWaiting_31 : decode cX0_loseWaiting 31 = .ok (.aload_n 0, 1) := by decide +kernel
theorem dX0_loseWaiting_32 : decode cX0_loseWaiting 32 = .ok (.iload_n 3, 1) := by decide +kernel
theorem dX0_loseWaiting_33 : decode cX0_loseWaiting 33 = .ok (.invokevirtual 148, 3) := by decide +kernel
theorem dX0_loseWaiting_36 : decode cX0_loseWaiting 36 = .ok (.aload_n 0, 1) := by decide +kernel
theorem dX0_loseWaiting_37 : decode cX0_loseWaiting 37 = .ok (.getfield 42, 3) := by decide +kernel
theorem dX0_loseWaiting_40 : decode cX0_loseWaiting 40 = .ok (.iload_n 3, 1) := by decide +kernel
theorem dX0_loseWaiting_41 : decode cX0_loseWaiting 41 = .ok (.iconst (-1), 1) := by decide +kernel
theorem dX0_loseWaiting_42 : decode cX0_loseWaiting 42 = .ok (.iastore, 1) := by decide +kernel
theorem dX0_loseWaiting_43 : decode cX0_loseWaiting 43 = .ok (.iconst 1, 1) := by decide +kernel
theorem dX0_loseWaiting_44 : decode cX0_loseWaiting 44 = .ok (.ireturn, 1) := by decide +kernel
theorem dX0_leaveQueue_0 : decode cX0_leaveQueue 0 = .ok (.aload_n 0, 1) := by decide +kernel
theorem dX0_leaveQueue_1 : decode cX0_leaveQueue 1 = .ok (.getfield 45, 3) := by decide +kernel
theorem dX0_leaveQueue_4 : decode cX0_leaveQueue 4 = .ok (.iload_n 1, 1) := by decide +kernel
theorem dX0_leaveQueue_5 : decode cX0_leaveQueue 5 = .ok (.iaload, 1) := by decide +kernel
theorem dX0_leaveQueue_6 : decode cX0_leaveQueue 6 = .ok (.istore_n 2, 1) := by decide +kernel
theorem dX0_leaveQueue_7 : decode cX0_leaveQueue 7 = .ok (.aload_n 0, 1) := by decide +kernel
theorem dX0_leaveQueue_8 : decode cX0_leaveQueue 8 = .ok (.getfield 33, 3) := by decide +kernel
theorem dX0_leaveQueue_11 : decode cX0_leaveQueue 11 = .ok (.iload_n 2, 1) := by decide +kernel
theorem dX0_leaveQueue_12 : decode cX0_leaveQueue 12 = .ok (.iaload, 1) := by decide +kernel
theorem dX0_leaveQueue_13 : decode cX0_leaveQueue 13 = .ok (.iconst 1, 1) := by decide +kernel
theorem dX0_leaveQueue_14 : decode cX0_leaveQueue 14 = .ok (.isub, 1) := by decide +kernel
theorem dX0_leaveQueue_15 : decode cX0_leaveQueue 15 = .ok (.istore_n 3, 1) := by decide +kernel
theorem dX0_leaveQueue_16 : decode cX0_leaveQueue 16 = .ok (.iconst 0, 1) := by decide +kernel
theorem dX0_leaveQueue_17 : decode cX0_leaveQueue 17 = .ok (.istore 4, 2) := by decide +kernel
theorem dX0_leaveQueue_19 : decode cX0_leaveQueue 19 = .ok (.iload_n 2, 1) := by decide +kernel
theorem dX0_leaveQueue_20 : decode cX0_leaveQueue 20 = .ok (.bipush 6, 2) := by decide +kernel
theorem dX0_leaveQueue_22 : decode cX0_leaveQueue 22 = .ok (.imul, 1) := by decide +kernel
theorem dX0_leaveQueue_23 : decode cX0_leaveQueue 23 = .ok (.istore 5, 2) := by decide +kernel
theorem dX0_leaveQueue_25 : decode cX0_leaveQueue 25 = .ok (.iload 5, 2) := by decide +kernel
theorem dX0_leaveQueue_27 : decode cX0_leaveQueue 27 = .ok (.iload_n 2, 1) := by decide +kernel
theorem dX0_leaveQueue_28 : decode cX0_leaveQueue 28 = .ok (.bipush 6, 2) := by decide +kernel
theorem dX0_leaveQueue_30 : decode cX0_leaveQueue 30 = .ok (.imul, 1) := by decide +kernel
theorem dX0_leaveQueue_31 : decode cX0_leaveQueue 31 = .ok (.iload_n 3, 1) := by decide +kernel
theorem dX0_leaveQueue_32 : decode cX0_leaveQueue 32 = .ok (.iadd, 1) := by decide +kernel
theorem dX0_leaveQueue_33 : decode cX0_leaveQueue 33 = .ok (.if_icmp .ge 53, 3) := by decide +kernel
theorem dX0_leaveQueue_36 : decode cX0_leaveQueue 36 = .ok (.iload 4, 2) := by decide +kernel
theorem dX0_leaveQueue_38 : decode cX0_leaveQueue 38 = .ok (.ifCond .ne 14, 3) := by decide +kernel
theorem dX0_leaveQueue_41 : decode cX0_leaveQueue 41 = .ok (.aload_n 0, 1) := by decide +kernel
theorem dX0_leaveQueue_42 : decode cX0_leaveQueue 42 = .ok (.getfield 30, 3) := by decide +kernel
theorem dX0_leaveQueue_45 : decode cX0_leaveQueue 45 = .ok (.iload 5, 2) := by decide +kernel
theorem dX0_leaveQueue_47 : decode cX0_leaveQueue 47 = .ok (.iaload, 1) := by decide +kernel
theorem dX0_leaveQueue_48 : decode cX0_leaveQueue 48 = .ok (.iload_n 1, 1) := by decide +kernel
theorem dX0_leaveQueue_49 : decode cX0_leaveQueue 49 = .ok (.if_icmp .ne 7, 3) := by decide +kernel
theorem dX0_leaveQueue_52 : decode cX0_leaveQueue 52 = .ok (.iconst 1, 1) := by decide +kernel
theorem dX0_leaveQueue_53 : decode cX0_leaveQueue 53 = .ok (.goto 4, 3) := by decide +kernel
theorem dX0_leaveQueue_56 : decode cX0_leaveQueue 56 = .ok (.iconst 0, 1) := by decide +kernel
theorem dX0_leaveQueue_57 : decode cX0_leaveQueue 57 = .ok (.istore 4, 2) := by decide +kernel
theorem dX0_leaveQueue_59 : decode cX0_leaveQueue 59 = .ok (.iload 4, 2) := by decide +kernel
theorem dX0_leaveQueue_61 : decode cX0_leaveQueue 61 = .ok (.ifCond .eq 19, 3) := by decide +kernel
theorem dX0_leaveQueue_64 : decode cX0_leaveQueue 64 = .ok (.aload_n 0, 1) := by decide +kernel
theorem dX0_leaveQueue_65 : decode cX0_leaveQueue 65 = .ok (.getfield 30, 3) := by decide +kernel
theorem dX0_leaveQueue_68 : decode cX0_leaveQueue 68 = .ok (.iload 5, 2) := by decide +kernel
theorem dX0_leaveQueue_70 : decode cX0_leaveQueue 70 = .ok (.aload_n 0, 1) := by decide +kernel
theorem dX0_leaveQueue_71 : decode cX0_leaveQueue 71 = .ok (.getfield 30, 3) := by decide +kernel
theorem dX0_leaveQueue_74 : decode cX0_leaveQueue 74 = .ok (.iload 5, 2) := by decide +kernel
theorem dX0_leaveQueue_76 : decode cX0_leaveQueue 76 = .ok (.iconst 1, 1) := by decide +kernel
theorem dX0_leaveQueue_77 : decode cX0_leaveQueue 77 = .ok (.iadd, 1) := by decide +kernel
theorem dX0_leaveQueue_78 : decode cX0_leaveQueue 78 = .ok (.iaload, 1) := by decide +kernel
theorem dX0_leaveQueue_79 : decode cX0_leaveQueue 79 = .ok (.iastore, 1) := by decide +kernel
theorem dX0_leaveQueue_80 : decode cX0_leaveQueue 80 = .ok (.iinc 5 1, 3) := by decide +kernel
theorem dX0_leaveQueue_83 : decode cX0_leaveQueue 83 = .ok (.goto (-58), 3) := by decide +kernel
theorem dX0_leaveQueue_86 : decode cX0_leaveQueue 86 = .ok (.aload_n 0, 1) := by decide +kernel
theorem dX0_leaveQueue_87 : decode cX0_leaveQueue 87 = .ok (.getfield 33, 3) := by decide +kernel
theorem dX0_leaveQueue_90 : decode cX0_leaveQueue 90 = .ok (.iload_n 2, 1) := by decide +kernel
theorem dX0_leaveQueue_91 : decode cX0_leaveQueue 91 = .ok (.iload_n 3, 1) := by decide +kernel
theorem dX0_leaveQueue_92 : decode cX0_leaveQueue 92 = .ok (.iastore, 1) := by decide +kernel
theorem dX0_leaveQueue_93 : decode cX0_leaveQueue 93 = .ok (.return_, 1) := by decide +kernel
theorem dX1_init_0 : decode cX1_init 0 = .ok (.aload_n 0, 1) := by decide +kernel
theorem dX1_init_1 : decode cX1_init 1 = .ok (.invokespecial 3, 3) := by decide +kernel
theorem dX1_init_4 : decode cX1_init 4 = .ok (.aload_n 0, 1) := by decide +kernel
theorem dX1_init_5 : decode cX1_init 5 = .ok (.bipush 60, 2) := by decide +kernel
theorem dX1_init_7 : decode cX1_init 7 = .ok (.newarray .char, 2) := by decide +kernel
theorem dX1_init_9 : decode cX1_init 9 = .ok (.putfield 9, 3) := by decide +kernel
theorem dX1_init_12 : decode cX1_init 12 = .ok (.return_, 1) := by decide +kernel
theorem dX1_doAll_0 : decode cX1_doAll 0 = .ok (.iconst 0, 1) := by decide +kernel
theorem dX1_doAll_1 : decode cX1_doAll 1 = .ok (.istore_n 2, 1) := by decide +kernel
theorem dX1_doAll_2 : decode cX1_doAll 2 = .ok (.aload_n 0, 1) := by decide +kernel
theorem dX1_doAll_3 : decode cX1_doAll 3 = .ok (.iconst 0, 1) := by decide +kernel
theorem dX1_doAll_4 : decode cX1_doAll 4 = .ok (.putfield 15, 3) := by decide +kernel
theorem dX1_doAll_7 : decode cX1_doAll 7 = .ok (.aload_n 0, 1) := by decide +kernel
theorem dX1_doAll_8 : decode cX1_doAll 8 = .ok (.iconst 0, 1) := by decide +kernel
theorem dX1_doAll_9 : decode cX1_doAll 9 = .ok (.putfield 19, 3) := by decide +kernel
theorem dX1_doAll_12 : decode cX1_doAll 12 = .ok (.iload_n 2, 1) := by decide +kernel
theorem dX1_doAll_13 : decode cX1_doAll 13 = .ok (.bipush 60, 2) := by decide +kernel
theorem dX1_doAll_15 : decode cX1_doAll 15 = .ok (.if_icmp .ge 93, 3) := by decide +kernel
theorem dX1_doAll_18 : decode cX1_doAll 18 = .ok (.aload_n 0, 1) := by decide +kernel
theorem dX1_doAll_19 : decode cX1_doAll 19 = .ok (.getfield 15, 3) := by decide +kernel
theorem dX1_doAll_22 : decode cX1_doAll 22 = .ok (.aload_n 0, 1) := by decide +kernel
theorem dX1_doAll_23 : decode cX1_doAll 23 = .ok (.getfield 22, 3) := by decide +kernel
theorem dX1_doAll_26 : decode cX1_doAll 26 = .ok (.if_icmp .ge 82, 3) := by decide +kernel
theorem dX1_doAll_29 : decode cX1_doAll 29 = .ok (.aload_n 0, 1) := by decide +kernel
theorem dX1_doAll_30 : decode cX1_doAll 30 = .ok (.aload_n 0, 1) := by decide +kernel
theorem dX1_doAll_31 : decode cX1_doAll 31 = .ok (.getfield 15, 3) := by decide +kernel
theorem dX1_doAll_34 : decode cX1_doAll 34 = .ok (.putfield 25, 3) := by decide +kernel
theorem dX1_doAll_37 : decode cX1_doAll 37 = .ok (.aload_n 0, 1) := by decide +kernel
theorem dX1_doAll_38 : decode cX1_doAll 38 = .ok (.invokevirtual 28, 3) := by decide +kernel
theorem dX1_doAll_41 : decode cX1_doAll 41 = .ok (.ifCond .ne 11, 3) := by decide +kernel
theorem dX1_doAll_44 : decode cX1_doAll 44 = .ok (.aload_n 0, 1) := by decide +kernel
theorem dX1_doAll_45 : decode cX1_doAll 45 = .ok (.iconst 1, 1) := by decide +kernel
theorem dX1_doAll_46 : decode cX1_doAll 46 = .ok (.putfield 19, 3) := by decide +kernel
theorem dX1_doAll_49 : decode cX1_doAll 49 = .ok (.goto 44, 3) := by decide +kernel
theorem dX1_doAll_52 : decode cX1_doAll 52 = .ok (.aload_n 0, 1) := by decide +kernel
theorem dX1_doAll_53 : decode cX1_doAll 53 = .ok (.getfield 32, 3) := by decide +kernel
theorem dX1_doAll_56 : decode cX1_doAll 56 = .ok (.bipush 116, 2) := by decide +kernel
theorem dX1_doAll_58 : decode cX1_doAll 58 = .ok (.if_icmp .eq 22, 3) := by decide +kernel
theorem dX1_doAll_61 : decode cX1_doAll 61 = .ok (.aload_n 1, 1) := by decide +kernel
theorem dX1_doAll_62 : decode cX1_doAll 62 = .ok (.aload_n 0, 1) := by decide +kernel
theorem dX1_doAll_63 : decode cX1_doAll 63 = .ok (.getfield 35, 3) := by decide +kernel
theorem dX1_doAll_66 : decode cX1_doAll 66 = .ok (.invokevirtual 38, 3) := by decide +kernel
theorem dX1_doAll_69 : decode cX1_doAll 69 = .ok (.ifCond .ne 11, 3) := by decide +kernel
theorem dX1_doAll_72 : decode cX1_doAll 72 = .ok (.aload_n 0, 1) := by decide +kernel
theorem dX1_doAll_73 : decode cX1_doAll 73 = .ok (.iconst 2, 1) := by decide +kernel
theorem dX1_doAll_74 : decode cX1_doAll 74 = .ok (.putfield 19, 3) := by decide +kernel
theorem dX1_doAll_77 : decode cX1_doAll 77 = .ok (.goto 16, 3) := by decide +kernel
theorem dX1_doAll_80 : decode cX1_doAll 80 = .ok (.aload_n 0, 1) := by decide +kernel
theorem dX1_doAll_81 : decode cX1_doAll 81 = .ok (.aload_n 1, 1) := by decide +kernel
theorem dX1_doAll_82 : decode cX1_doAll 82 = .ok (.invokevirtual 44, 3) := by decide +kernel
theorem dX1_doAll_85 : decode cX1_doAll 85 = .ok (.ifCond .ge 8, 3) := by decide +kernel
theorem dX1_doAll_88 : decode cX1_doAll 88 = .ok (.aload_n 0, 1) := by decide +kernel
theorem dX1_doAll_89 : decode cX1_doAll 89 = .ok (.iconst 3, 1) := by decide +kernel
theorem dX1_doAll_90 : decode cX1_doAll 90 = .ok (.putfield 19, 3) := by decide +kernel
theorem dX1_doAll_93 : decode cX1_doAll 93 = .ok (.aload_n 0, 1) := by decide +kernel
theorem dX1_doAll_94 : decode cX1_doAll 94 = .ok (.getfield 19, 3) := by decide +kernel
theorem dX1_doAll_97 : decode cX1_doAll 97 = .ok (.ifCond .eq 5, 3) := by decide +kernel
theorem dX1_doAll_100 : decode cX1_doAll 100 = .ok (.iload_n 2, 1) := by decide +kernel
theorem dX1_doAll_101 : decode cX1_doAll 101 = .ok (.ireturn, 1) := by decide +kernel
theorem dX1_doAll_102 : decode cX1_doAll 102 = .ok (.iinc 2 1, 3) := by decide +kernel
theorem dX1_doAll_105 : decode cX1_doAll 105 = .ok (.goto (-93), 3) := by decide +kernel
theorem dX1_doAll_108 : decode cX1_doAll 108 = .ok (.iload_n 2, 1) := by decide +kernel
theorem dX1_doAll_109 : decode cX1_doAll 109 = .ok (.ireturn, 1) := by decide +kernel
theorem dX1_doOrder_0 : decode cX1_doOrder 0 = .ok (.aload_n 0, 1) := by decide +kernel
theorem dX1_doOrder_1 : decode cX1_doOrder 1 = .ok (.getfield 32, 3) := by decide +kernel
theorem dX1_doOrder_4 : decode cX1_doOrder 4 = .ok (.lookupswitch 122 #[(98, 109), (101, 78), (107, 60), (112, 96), (116, 69), (118, 87)], 60) := by decide +kernel
theorem dX1_doOrder_64 : decode cX1_doOrder 64 = .ok (.aload_n 1, 1) := by decide +kernel
theorem dX1_doOrder_65 : decode cX1_doOrder 65 = .ok (.aload_n 0, 1) := by decide +kernel
theorem dX1_doOrder_66 : decode cX1_doOrder 66 = .ok (.getfield 35, 3) := by decide +kernel
theorem dX1_doOrder_69 : decode cX1_doOrder 69 = .ok (.invokevirtual 48, 3) := by decide +kernel
theorem dX1_doOrder_72 : decode cX1_doOrder 72 = .ok (.ireturn, 1) := by decide +kernel
theorem dX1_doOrder_73 : decode cX1_doOrder 73 = .ok (.aload_n 1, 1) := by decide +kernel
theorem dX1_doOrder_74 : decode cX1_doOrder 74 = .ok (.aload_n 0, 1) := by decide +kernel
theorem dX1_doOrder_75 : decode cX1_doOrder 75 = .ok (.getfield 35, 3) := by decide +kernel
theorem dX1_doOrder_78 : decode cX1_doOrder 78 = .ok (.invokevirtual 52, 3) := by decide +kernel
theorem dX1_doOrder_81 : decode cX1_doOrder 81 = .ok (.ireturn, 1) := by decide +kernel
theorem dX1_doOrder_82 : decode cX1_doOrder 82 = .ok (.aload_n 1, 1) := by decide +kernel
theorem dX1_doOrder_83 : decode cX1_doOrder 83 = .ok (.aload_n 0, 1) := by decide +kernel
theorem dX1_doOrder_84 : decode cX1_doOrder 84 = .ok (.getfield 35, 3) := by decide +kernel
theorem dX1_doOrder_87 : decode cX1_doOrder 87 = .ok (.invokevirtual 55, 3) := by decide +kernel
theorem dX1_doOrder_90 : decode cX1_doOrder 90 = .ok (.ireturn, 1) := by decide +kernel
theorem dX1_doOrder_91 : decode cX1_doOrder 91 = .ok (.aload_n 1, 1) := by decide +kernel
theorem dX1_doOrder_92 : decode cX1_doOrder 92 = .ok (.aload_n 0, 1) := by decide +kernel
theorem dX1_doOrder_93 : decode cX1_doOrder 93 = .ok (.getfield 35, 3) := by decide +kernel
theorem dX1_doOrder_96 : decode cX1_doOrder 96 = .ok (.invokevirtual 58, 3) := by decide +kernel
theorem dX1_doOrder_99 : decode cX1_doOrder 99 = .ok (.ireturn, 1) := by decide +kernel
theorem dX1_doOrder_100 : decode cX1_doOrder 100 = .ok (.aload_n 1, 1) := by decide +kernel
theorem dX1_doOrder_101 : decode cX1_doOrder 101 = .ok (.aload_n 0, 1) := by decide +kernel
theorem dX1_doOrder_102 : decode cX1_doOrder 102 = .ok (.getfield 35, 3) := by decide +kernel
theorem dX1_doOrder_105 : decode cX1_doOrder 105 = .ok (.aload_n 0, 1) := by decide +kernel
theorem dX1_doOrder_106 : decode cX1_doOrder 106 = .ok (.getfield 61, 3) := by decide +kernel
theorem dX1_doOrder_109 : decode cX1_doOrder 109 = .ok (.invokevirtual 64, 3) := by decide +kernel
theorem dX1_doOrder_112 : decode cX1_doOrder 112 = .ok (.ireturn, 1) := by decide +kernel
theorem dX1_doOrder_113 : decode cX1_doOrder 113 = .ok (.aload_n 1, 1) := by decide +kernel
theorem dX1_doOrder_114 : decode cX1_doOrder 114 = .ok (.aload_n 0, 1) := by decide +kernel
theorem dX1_doOrder_115 : decode cX1_doOrder 115 = .ok (.getfield 35, 3) := by decide +kernel
theorem dX1_doOrder_118 : decode cX1_doOrder 118 = .ok (.aload_n 0, 1) := by decide +kernel
theorem dX1_doOrder_119 : decode cX1_doOrder 119 = .ok (.getfield 61, 3) := by decide +kernel
theorem dX1_doOrder_122 : decode cX1_doOrder 122 = .ok (.invokevirtual 68, 3) := by decide +kernel
theorem dX1_doOrder_125 : decode cX1_doOrder 125 = .ok (.ireturn, 1) := by decide +kernel
theorem dX1_doOrder_126 : decode cX1_doOrder 126 = .ok (.ldc 71, 2) := by decide +kernel
theorem dX1_doOrder_128 : decode cX1_doOrder 128 = .ok (.ireturn, 1) := by decide +kernel
theorem dX1_readOrder_0 : decode cX1_readOrder 0 = .ok (.aload_n 0, 1) := by decide +kernel
theorem dX1_readOrder_1 : decode cX1_readOrder 1 = .ok (.aload_n 0, 1) := by decide +kernel
theorem dX1_readOrder_2 : decode cX1_readOrder 2 = .ok (.getfield 9, 3) := by decide +kernel
theorem dX1_readOrder_5 : decode cX1_readOrder 5 = .ok (.aload_n 0, 1) := by decide +kernel
theorem dX1_readOrder_6 : decode cX1_readOrder 6 = .ok (.getfield 15, 3) := by decide +kernel
theorem dX1_readOrder_9 : decode cX1_readOrder 9 = .ok (.caload, 1) := by decide +kernel
theorem dX1_readOrder_10 : decode cX1_readOrder 10 = .ok (.putfield 32, 3) := by decide +kernel
theorem dX1_readOrder_13 : decode cX1_readOrder 13 = .ok (.aload_n 0, 1) := by decide +kernel
theorem dX1_readOrder_14 : decode cX1_readOrder 14 = .ok (.dup, 1) := by decide +kernel
theorem dX1_readOrder_15 : decode cX1_readOrder 15 = .ok (.getfield 15, 3) := by decide +kernel
theorem dX1_readOrder_18 : decode cX1_readOrder 18 = .ok (.iconst 1, 1) := by decide +kernel
theorem dX1_readOrder_19 : decode cX1_readOrder 19 = .ok (.iadd, 1) := by decide +kernel
theorem dX1_readOrder_20 : decode cX1_readOrder 20 = .ok (.putfield 15, 3) := by decide +kernel
theorem dX1_readOrder_23 : decode cX1_readOrder 23 = .ok (.aload_n 0, 1) := by decide +kernel
theorem dX1_readOrder_24 : decode cX1_readOrder 24 = .ok (.getfield 32, 3) := by decide +kernel
theorem dX1_readOrder_27 : decode cX1_readOrder 27 = .ok (.bipush 112, 2) := by decide +kernel
theorem dX1_readOrder_29 : decode cX1_readOrder 29 = .ok (.if_icmp .eq 12, 3) := by decide +kernel
theorem dX1_readOrder_32 : decode cX1_readOrder 32 = .ok (.aload_n 0, 1) := by decide +kernel
theorem dX1_readOrder_33 : decode cX1_readOrder 33 = .ok (.getfield 32, 3) := by decide +kernel
theorem dX1_readOrder_36 : decode cX1_readOrder 36 = .ok (.bipush 98, 2) := by decide +kernel
theorem dX1_readOrder_38 : decode cX1_readOrder 38 = .ok (.if_icmp .ne 7, 3) := by decide +kernel
theorem dX1_readOrder_41 : decode cX1_readOrder 41 = .ok (.iconst 1, 1) := by decide +kernel
theorem dX1_readOrder_42 : decode cX1_readOrder 42 = .ok (.goto 4, 3) := by decide +kernel
theorem dX1_readOrder_45 : decode cX1_readOrder 45 = .ok (.iconst 0, 1) := by decide +kernel
theorem dX1_readOrder_46 : decode cX1_readOrder 46 = .ok (.istore_n 1, 1) := by decide +kernel
theorem dX1_readOrder_47 : decode cX1_readOrder 47 = .ok (.iload_n 1, 1) := by decide +kernel
theorem dX1_readOrder_48 : decode cX1_readOrder 48 = .ok (.ifCond .ne 41, 3) := by decide +kernel
theorem dX1_readOrder_51 : decode cX1_readOrder 51 = .ok (.aload_n 0, 1) := by decide +kernel
theorem dX1_readOrder_52 : decode cX1_readOrder 52 = .ok (.getfield 32, 3) := by decide +kernel
theorem dX1_readOrder_55 : decode cX1_readOrder 55 = .ok (.bipush 107, 2) := by decide +kernel
theorem dX1_readOrder_57 : decode cX1_readOrder 57 = .ok (.if_icmp .eq 32, 3) := by decide +kernel
theorem dX1_readOrder_60 : decode cX1_readOrder 60 = .ok (.aload_n 0, 1) := by decide +kernel
theorem dX1_readOrder_61 : decode cX1_readOrder 61 = .ok (.getfield 32, 3) := by decide +kernel
theorem dX1_readOrder_64 : decode cX1_readOrder 64 = .ok (.bipush 116, 2) := by decide +kernel
theorem dX1_readOrder_66 : decode cX1_readOrder 66 = .ok (.if_icmp .eq 23, 3) := by decide +kernel
theorem dX1_readOrder_69 : decode cX1_readOrder 69 = .ok (.aload_n 0, 1) := by decide +kernel
theorem dX1_readOrder_70 : decode cX1_readOrder 70 = .ok (.getfield 32, 3) := by decide +kernel
theorem dX1_readOrder_73 : decode cX1_readOrder 73 = .ok (.bipush 101, 2) := by decide +kernel
theorem dX1_readOrder_75 : decode cX1_readOrder 75 = .ok (.if_icmp .eq 14, 3) := by decide +kernel
theorem dX1_readOrder_78 : decode cX1_readOrder 78 = .ok (.aload_n 0, 1) := by decide +kernel
theorem dX1_readOrder_79 : decode cX1_readOrder 79 = .ok (.getfield 32, 3) := by decide +kernel
theorem dX1_readOrder_82 : decode cX1_readOrder 82 = .ok (.bipush 118, 2) := by decide +kernel
theorem dX1_readOrder_84 : decode cX1_readOrder 84 = .ok (.if_icmp .eq 5, 3) := by decide +kernel
theorem dX1_readOrder_87 : decode cX1_readOrder 87 = .ok (.iconst 0, 1) := by decide +kernel
theorem dX1_readOrder_88 : decode cX1_readOrder 88 = .ok (.ireturn, 1) := by decide +kernel
theorem dX1_readOrder_89 : decode cX1_readOrder 89 = .ok (.aload_n 0, 1) := by decide +kernel
theorem dX1_readOrder_90 : decode cX1_readOrder 90 = .ok (.aload_n 0, 1) := by decide +kernel
theorem dX1_readOrder_91 : decode cX1_readOrder 91 = .ok (.invokevirtual 72, 3) := by decide +kernel
theorem dX1_readOrder_94 : decode cX1_readOrder 94 = .ok (.putfield 35, 3) := by decide +kernel
theorem dX1_readOrder_97 : decode cX1_readOrder 97 = .ok (.aload_n 0, 1) := by decide +kernel
theorem dX1_readOrder_98 : decode cX1_readOrder 98 = .ok (.getfield 35, 3) := by decide +kernel
theorem dX1_readOrder_101 : decode cX1_readOrder 101 = .ok (.iconst (-1), 1) := by decide +kernel
theorem dX1_readOrder_102 : decode cX1_readOrder 102 = .ok (.if_icmp .ne 5, 3) := by decide +kernel
theorem dX1_readOrder_105 : decode cX1_readOrder 105 = .ok (.iconst 0, 1) := by decide +kernel
theorem dX1_readOrder_106 : decode cX1_readOrder 106 = .ok (.ireturn, 1) := by decide +kernel
theorem dX1_readOrder_107 : decode cX1_readOrder 107 = .ok (.iload_n 1, 1) := by decide +kernel
theorem dX1_readOrder_108 : decode cX1_readOrder 108 = .ok (.ifCond .eq 34, 3) := by decide +kernel
theorem dX1_readOrder_111 : decode cX1_readOrder 111 = .ok (.aload_n 0, 1) := by decide +kernel
theorem dX1_readOrder_112 : decode cX1_readOrder 112 = .ok (.aload_n 0, 1) := by decide +kernel
theorem dX1_readOrder_113 : decode cX1_readOrder 113 = .ok (.bipush 44, 2) := by decide +kernel
theorem dX1_readOrder_115 : decode cX1_readOrder 115 = .ok (.invokevirtual 76, 3) := by decide +kernel
theorem dX1_readOrder_118 : decode cX1_readOrder 118 = .ok (.ifCond .eq 10, 3) := by decide +kernel
theorem dX1_readOrder_121 : decode cX1_readOrder 121 = .ok (.aload_n 0, 1) := by decide +kernel
theorem dX1_readOrder_122 : decode cX1_readOrder 122 = .ok (.invokevirtual 72, 3) := by decide +kernel
theorem dX1_readOrder_125 : decode cX1_readOrder 125 = .ok (.goto 4, 3) := by decide +kernel
theorem dX1_readOrder_128 : decode cX1_readOrder 128 = .ok (.iconst (-1), 1) := by decide +kernel
theorem dX1_readOrder_129 : decode cX1_readOrder 129 = .ok (.putfield 61, 3) := by decide +kernel
theorem dX1_readOrder_132 : decode cX1_readOrder 132 = .ok (.aload_n 0, 1) := by decide +kernel
theorem dX1_readOrder_133 : decode cX1_readOrder 133 = .ok (.getfield 61, 3) := by decide +kernel
theorem dX1_readOrder_136 : decode cX1_readOrder 136 = .ok (.iconst (-1), 1) := by decide +kernel
theorem dX1_readOrder_137 : decode cX1_readOrder 137 = .ok (.if_icmp .ne 5, 3) := by decide +kernel
theorem dX1_readOrder_140 : decode cX1_readOrder 140 = .ok (.iconst 0, 1) := by decide +kernel
theorem dX1_readOrder_141 : decode cX1_readOrder 141 = .ok (.ireturn, 1) := by decide +kernel
theorem dX1_readOrder_142 : decode cX1_readOrder 142 = .ok (.aload_n 0, 1) := by decide +kernel
theorem dX1_readOrder_143 : decode cX1_readOrder 143 = .ok (.bipush 59, 2) := by decide +kernel
theorem dX1_readOrder_145 : decode cX1_readOrder 145 = .ok (.invokevirtual 76, 3) := by decide +kernel
theorem dX1_readOrder_148 : decode cX1_readOrder 148 = .ok (.ireturn, 1) := by decide +kernel
theorem dX1_readNumber_0 : decode cX1_readNumber 0 = .ok (.iconst 0, 1) := by decide +kernel
theorem dX1_readNumber_1 : decode cX1_readNumber 1 = .ok (.istore_n 1, 1) := by decide +kernel
theorem dX1_readNumber_2 : decode cX1_readNumber 2 = .ok (.iconst 0, 1) := by decide +kernel
theorem dX1_readNumber_3 : decode cX1_readNumber 3 = .ok (.istore_n 2, 1) := by decide +kernel
theorem dX1_readNumber_4 : decode cX1_readNumber 4 = .ok (.iload_n 2, 1) := by decide +kernel
theorem dX1_readNumber_5 : decode cX1_readNumber 5 = .ok (.iconst 3, 1) := by decide +kernel
theorem dX1_readNumber_6 : decode cX1_readNumber 6 = .ok (.if_icmp .ge 76, 3) := by decide +kernel
theorem dX1_readNumber_9 : decode cX1_readNumber 9 = .ok (.aload_n 0, 1) := by decide +kernel
theorem dX1_readNumber_10 : decode cX1_readNumber 10 = .ok (.getfield 15, 3) := by decide +kernel
theorem dX1_readNumber_13 : decode cX1_readNumber 13 = .ok (.aload_n 0, 1) := by decide +kernel
theorem dX1_readNumber_14 : decode cX1_readNumber 14 = .ok (.getfield 22, 3) := by decide +kernel
theorem dX1_readNumber_17 : decode cX1_readNumber 17 = .ok (.if_icmp .ge 65, 3) := by decide +kernel
theorem dX1_readNumber_20 : decode cX1_readNumber 20 = .ok (.aload_n 0, 1) := by decide +kernel
theorem dX1_readNumber_21 : decode cX1_readNumber 21 = .ok (.getfield 9, 3) := by decide +kernel
theorem dX1_readNumber_24 : decode cX1_readNumber 24 = .ok (.aload_n 0, 1) := by decide +kernel
theorem dX1_readNumber_25 : decode cX1_readNumber 25 = .ok (.getfield 15, 3) := by decide +kernel
theorem dX1_readNumber_28 : decode cX1_readNumber 28 = .ok (.caload, 1) := by decide +kernel
theorem dX1_readNumber_29 : decode cX1_readNumber 29 = .ok (.bipush 48, 2) := by decide +kernel
theorem dX1_readNumber_31 : decode cX1_readNumber 31 = .ok (.if_icmp .lt 51, 3) := by decide +kernel
theorem dX1_readNumber_34 : decode cX1_readNumber 34 = .ok (.aload_n 0, 1) := by decide +kernel
theorem dX1_readNumber_35 : decode cX1_readNumber 35 = .ok (.getfield 9, 3) := by decide +kernel
theorem dX1_readNumber_38 : decode cX1_readNumber 38 = .ok (.aload_n 0, 1) := by decide +kernel
theorem dX1_readNumber_39 : decode cX1_readNumber 39 = .ok (.getfield 15, 3) := by decide +kernel
theorem dX1_readNumber_42 : decode cX1_readNumber 42 = .ok (.caload, 1) := by decide +kernel
theorem dX1_readNumber_43 : decode cX1_readNumber 43 = .ok (.bipush 57, 2) := by decide +kernel
theorem dX1_readNumber_45 : decode cX1_readNumber 45 = .ok (.if_icmp .gt 37, 3) := by decide +kernel
theorem dX1_readNumber_48 : decode cX1_readNumber 48 = .ok (.bipush 10, 2) := by decide +kernel
theorem dX1_readNumber_50 : decode cX1_readNumber 50 = .ok (.iload_n 1, 1) := by decide +kernel
theorem dX1_readNumber_51 : decode cX1_readNumber 51 = .ok (.imul, 1) := by decide +kernel
theorem dX1_readNumber_52 : decode cX1_readNumber 52 = .ok (.aload_n 0, 1) := by decide +kernel
theorem dX1_readNumber_53 : decode cX1_readNumber 53 = .ok (.getfield 9, 3) := by decide +kernel
theorem dX1_readNumber_56 : decode cX1_readNumber 56 = .ok (.aload_n 0, 1) := by decide +kernel
theorem dX1_readNumber_57 : decode cX1_readNumber 57 = .ok (.getfield 15, 3) := by decide +kernel
theorem dX1_readNumber_60 : decode cX1_readNumber 60 = .ok (.caload, 1) := by decide +kernel
theorem dX1_readNumber_61 : decode cX1_readNumber 61 = .ok (.iadd, 1) := by decide +kernel
theorem dX1_readNumber_62 : decode cX1_readNumber 62 = .ok (.bipush 48, 2) := by decide +kernel
theorem dX1_readNumber_64 : decode cX1_readNumber 64 = .ok (.isub, 1) := by decide +kernel
theorem dX1_readNumber_65 : decode cX1_readNumber 65 = .ok (.istore_n 1, 1) := by decide +kernel
theorem dX1_readNumber_66 : decode cX1_readNumber 66 = .ok (.aload_n 0, 1) := by decide +kernel
theorem dX1_readNumber_67 : decode cX1_readNumber 67 = .ok (.dup, 1) := by decide +kernel
theorem dX1_readNumber_68 : decode cX1_readNumber 68 = .ok (.getfield 15, 3) := by decide +kernel
theorem dX1_readNumber_71 : decode cX1_readNumber 71 = .ok (.iconst 1, 1) := by decide +kernel
theorem dX1_readNumber_72 : decode cX1_readNumber 72 = .ok (.iadd, 1) := by decide +kernel
theorem dX1_readNumber_73 : decode cX1_readNumber 73 = .ok (.putfield 15, 3) := by decide +kernel
theorem dX1_readNumber_76 : decode cX1_readNumber 76 = .ok (.iinc 2 1, 3) := by decide +kernel
theorem dX1_readNumber_79 : decode cX1_readNumber 79 = .ok (.goto (-75), 3) := by decide +kernel
theorem dX1_readNumber_82 : decode cX1_readNumber 82 = .ok (.iload_n 2, 1) := by decide +kernel
theorem dX1_readNumber_83 : decode cX1_readNumber 83 = .ok (.ifCond .ne 7, 3) := by decide +kernel
theorem dX1_readNumber_86 : decode cX1_readNumber 86 = .ok (.iconst (-1), 1) := by decide +kernel
theorem dX1_readNumber_87 : decode cX1_readNumber 87 = .ok (.goto 4, 3) := by decide +kernel
theorem dX1_readNumber_90 : decode cX1_readNumber 90 = .ok (.iload_n 1, 1) := by decide +kernel
theorem dX1_readNumber_91 : decode cX1_readNumber 91 = .ok (.ireturn, 1) := by decide +kernel
theorem dX1_skip_0 : decode cX1_skip 0 = .ok (.aload_n 0, 1) := by decide +kernel
theorem dX1_skip_1 : decode cX1_skip 1 = .ok (.getfield 15, 3) := by decide +kernel
theorem dX1_skip_4 : decode cX1_skip 4 = .ok (.aload_n 0, 1) := by decide +kernel
theorem dX1_skip_5 : decode cX1_skip 5 = .ok (.getfield 22, 3) := by decide +kernel
theorem dX1_skip_8 : decode cX1_skip 8 = .ok (.if_icmp .ge 28, 3) := by decide +kernel
theorem dX1_skip_11 : decode cX1_skip 11 = .ok (.aload_n 0, 1) := by decide +kernel
theorem dX1_skip_12 : decode cX1_skip 12 = .ok (.getfield 9, 3) := by decide +kernel
theorem dX1_skip_15 : decode cX1_skip 15 = .ok (.aload_n 0, 1) := by decide +kernel
theorem dX1_skip_16 : decode cX1_skip 16 = .ok (.getfield 15, 3) := by decide +kernel
theorem dX1_skip_19 : decode cX1_skip 19 = .ok (.caload, 1) := by decide +kernel
theorem dX1_skip_20 : decode cX1_skip 20 = .ok (.iload_n 1, 1) := by decide +kernel
theorem dX1_skip_21 : decode cX1_skip 21 = .ok (.if_icmp .ne 15, 3) := by decide +kernel
theorem dX1_skip_24 : decode cX1_skip 24 = .ok (.aload_n 0, 1) := by decide +kernel
theorem dX1_skip_25 : decode cX1_skip 25 = .ok (.dup, 1) := by decide +kernel
theorem dX1_skip_26 : decode cX1_skip 26 = .ok (.getfield 15, 3) := by decide +kernel
theorem dX1_skip_29 : decode cX1_skip 29 = .ok (.iconst 1, 1) := by decide +kernel
theorem dX1_skip_30 : decode cX1_skip 30 = .ok (.iadd, 1) := by decide +kernel
theorem dX1_skip_31 : decode cX1_skip 31 = .ok (.putfield 15, 3) := by decide +kernel
theorem dX1_skip_34 : decode cX1_skip 34 = .ok (.iconst 1, 1) := by decide +kernel
theorem dX1_skip_35 : decode cX1_skip 35 = .ok (.ireturn, 1) := by decide +kernel
theorem dX1_skip_36 : decode cX1_skip 36 = .ok (.iconst 0, 1) := by decide +kernel
theorem dX1_skip_37 : decode cX1_skip 37 = .ok (.ireturn, 1) := by decide +kernel
theorem dJ6_bitCount_0f7a4_0 : decode cJ6_bitCount_0f7a4 0 = .ok (.iload_n 0, 1) := by decide +kernel
theorem dJ6_bitCount_0f7a4_1 : decode cJ6_bitCount_0f7a4 1 = .ok (.iload_n 0, 1) := by decide +kernel
theorem dJ6_bitCount_0f7a4_2 : decode cJ6_bitCount_0f7a4 2 = .ok (.iconst 1, 1) := by decide +kernel
theorem dJ6_bitCount_0f7a4_3 : decode cJ6_bitCount_0f7a4 3 = .ok (.iushr, 1) := by decide +kernel
theorem dJ6_bitCount_0f7a4_4 : decode cJ6_bitCount_0f7a4 4 = .ok (.ldc_w 265, 3) := by decide +kernel
theorem dJ6_bitCount_0f7a4_7 : decode cJ6_bitCount_0f7a4 7 = .ok (.iand, 1) := by decide +kernel
theorem dJ6_bitCount_0f7a4_8 : decode cJ6_bitCount_0f7a4 8 = .ok (.isub, 1) := by decide +kernel
theorem dJ6_bitCount_0f7a4_9 : decode cJ6_bitCount_0f7a4 9 = .ok (.istore_n 0, 1) := by decide +kernel
theorem dJ6_bitCount_0f7a4_10 : decode cJ6_bitCount_0f7a4 10 = .ok (.iload_n 0, 1) := by decide +kernel
theorem dJ6_bitCount_0f7a4_11 : decode cJ6_bitCount_0f7a4 11 = .ok (.ldc_w 266, 3) := by decide +kernel
theorem dJ6_bitCount_0f7a4_14 : decode cJ6_bitCount_0f7a4 14 = .ok (.iand, 1) := by decide +kernel
theorem dJ6_bitCount_0f7a4_15 : decode cJ6_bitCount_0f7a4 15 = .ok (.iload_n 0, 1) := by decide +kernel
theorem dJ6_bitCount_0f7a4_16 : decode cJ6_bitCount_0f7a4 16 = .ok (.iconst 2, 1) := by decide +kernel
theorem dJ6_bitCount_0f7a4_17 : decode cJ6_bitCount_0f7a4 17 = .ok (.iushr, 1) := by decide +kernel
theorem dJ6_bitCount_0f7a4_18 : decode cJ6_bitCount_0f7a4 18 = .ok (.ldc_w 266, 3) := by decide +kernel
theorem dJ6_bitCount_0f7a4_21 : decode cJ6_bitCount_0f7a4 21 = .ok (.iand, 1) := by decide +kernel
theorem dJ6_bitCount_0f7a4_22 : decode cJ6_bitCount_0f7a4 22 = .ok (.iadd, 1) := by decide +kernel
theorem dJ6_bitCount_0f7a4_23 : decode cJ6_bitCount_0f7a4 23 = .ok (.istore_n 0, 1) := by decide +kernel
theorem dJ6_bitCount_0f7a4_24 : decode cJ6_bitCount_0f7a4 24 = .ok (.iload_n 0, 1) := by decide +kernel
theorem dJ6_bitCount_0f7a4_25 : decode cJ6_bitCount_0f7a4 25 = .ok (.iload_n 0, 1) := by decide +kernel
theorem dJ6_bitCount_0f7a4_26 : decode cJ6_bitCount_0f7a4 26 = .ok (.iconst 4, 1) := by decide +kernel
theorem dJ6_bitCount_0f7a4_27 : decode cJ6_bitCount_0f7a4 27 = .ok (.iushr, 1) := by decide +kernel
theorem dJ6_bitCount_0f7a4_28 : decode cJ6_bitCount_0f7a4 28 = .ok (.iadd, 1) := by decide +kernel
theorem dJ6_bitCount_0f7a4_29 : decode cJ6_bitCount_0f7a4 29 = .ok (.ldc_w 267, 3) := by decide +kernel
theorem dJ6_bitCount_0f7a4_32 : decode cJ6_bitCount_0f7a4 32 = .ok (.iand, 1) := by decide +kernel
theorem dJ6_bitCount_0f7a4_33 : decode cJ6_bitCount_0f7a4 33 = .ok (.istore_n 0, 1) := by decide +kernel
theorem dJ6_bitCount_0f7a4_34 : decode cJ6_bitCount_0f7a4 34 = .ok (.iload_n 0, 1) := by decide +kernel
theorem dJ6_bitCount_0f7a4_35 : decode cJ6_bitCount_0f7a4 35 = .ok (.iload_n 0, 1) := by decide +kernel
theorem dJ6_bitCount_0f7a4_36 : decode cJ6_bitCount_0f7a4 36 = .ok (.bipush 8, 2) := by decide +kernel
theorem dJ6_bitCount_0f7a4_38 : decode cJ6_bitCount_0f7a4 38 = .ok (.iushr, 1) := by decide +kernel
theorem dJ6_bitCount_0f7a4_39 : decode cJ6_bitCount_0f7a4 39 = .ok (.iadd, 1) := by decide +kernel
theorem dJ6_bitCount_0f7a4_40 : decode cJ6_bitCount_0f7a4 40 = .ok (.istore_n 0, 1) := by decide +kernel
theorem dJ6_bitCount_0f7a4_41 : decode cJ6_bitCount_0f7a4 41 = .ok (.iload_n 0, 1) := by decide +kernel
theorem dJ6_bitCount_0f7a4_42 : decode cJ6_bitCount_0f7a4 42 = .ok (.iload_n 0, 1) := by decide +kernel
theorem dJ6_bitCount_0f7a4_43 : decode cJ6_bitCount_0f7a4 43 = .ok (.bipush 16, 2) := by decide +kernel
theorem dJ6_bitCount_0f7a4_45 : decode cJ6_bitCount_0f7a4 45 = .ok (.iushr, 1) := by decide +kernel
theorem dJ6_bitCount_0f7a4_46 : decode cJ6_bitCount_0f7a4 46 = .ok (.iadd, 1) := by decide +kernel
theorem dJ6_bitCount_0f7a4_47 : decode cJ6_bitCount_0f7a4 47 = .ok (.istore_n 0, 1) := by decide +kernel
theorem dJ6_bitCount_0f7a4_48 : decode cJ6_bitCount_0f7a4 48 = .ok (.iload_n 0, 1) := by decide +kernel
theorem dJ6_bitCount_0f7a4_49 : decode cJ6_bitCount_0f7a4 49 = .ok (.bipush 63, 2) := by decide +kernel
theorem dJ6_bitCount_0f7a4_51 : decode cJ6_bitCount_0f7a4 51 = .ok (.iand, 1) := by decide +kernel
theorem dJ6_bitCount_0f7a4_52 : decode cJ6_bitCount_0f7a4 52 = .ok (.ireturn, 1) := by decide +kernel
theorem dJ7_fill_53178_0 : decode cJ7_fill_53178 0 = .ok (.iconst 0, 1) := by decide +kernel
theorem dJ7_fill_53178_1 : decode cJ7_fill_53178 1 = .ok (.istore_n 2, 1) := by decide +kernel
theorem dJ7_fill_53178_2 : decode cJ7_fill_53178 2 = .ok (.aload_n 0, 1) := by decide +kernel
theorem dJ7_fill_53178_3 : decode cJ7_fill_53178 3 = .ok (.arraylength, 1) := by decide +kernel
theorem dJ7_fill_53178_4 : decode cJ7_fill_53178 4 = .ok (.istore_n 3, 1) := by decide +kernel
theorem dJ7_fill_53178_5 : decode cJ7_fill_53178 5 = .ok (.iload_n 2, 1) := by decide +kernel
theorem dJ7_fill_53178_6 : decode cJ7_fill_53178 6 = .ok (.iload_n 3, 1) := by decide +kernel
theorem dJ7_fill_53178_7 : decode cJ7_fill_53178 7 = .ok (.if_icmp .ge 13, 3) := by decide +kernel
theorem dJ7_fill_53178_10 : decode cJ7_fill_53178 10 = .ok (.aload_n 0, 1) := by decide +kernel
theorem dJ7_fill_53178_11 : decode cJ7_fill_53178 11 = .ok (.iload_n 2, 1) := by decide +kernel
theorem dJ7_fill_53178_12 : decode cJ7_fill_53178 12 = .ok (.iload_n 1, 1) := by decide +kernel
theorem dJ7_fill_53178_13 : decode cJ7_fill_53178 13 = .ok (.iastore, 1) := by decide +kernel
theorem dJ7_fill_53178_14 : decode cJ7_fill_53178 14 = .ok (.iinc 2 1, 3) := by decide +kernel
theorem dJ7_fill_53178_17 : decode cJ7_fill_53178 17 = .ok (.goto (-12), 3) := by decide +kernel
theorem dJ7_fill_53178_20 : decode cJ7_fill_53178 20 = .ok (.return_, 1) := by decide +kernel
end
section
theorem dX2_init_0 : decode cX2_init 0 = .ok (.aload_n 0, 1) := by decide +kernel
theorem dX2_init_1 : decode cX2_init 1 = .ok (.invokespecial 3, 3) := by decide +kernel
theorem dX2_init_4 : decode cX2_init 4 = .ok (.aload_n 0, 1) := by decide +kernel
theorem dX2_init_5 : decode cX2_init 5 = .ok (.iconst 4, 1) := by decide +kernel
theorem dX2_init_6 : decode cX2_init 6 = .ok (.anewarray 9, 3) := by decide +kernel
theorem dX2_init_9 : decode cX2_init 9 = .ok (.putfield 11, 3) := by decide +kernel
theorem dX2_init_12 : decode cX2_init 12 = .ok (.iconst 0, 1) := by decide +kernel
theorem dX2_init_13 : decode cX2_init 13 = .ok (.istore_n 1, 1) := by decide +kernel
theorem dX2_init_14 : decode cX2_init 14 = .ok (.iload_n 1, 1) := by decide +kernel
theorem dX2_init_15 : decode cX2_init 15 = .ok (.iconst 4, 1) := by decide +kernel
theorem dX2_init_16 : decode cX2_init 16 = .ok (.if_icmp .ge 22, 3) := by decide +kernel
theorem dX2_init_19 : decode cX2_init 19 = .ok (.aload_n 0, 1) := by decide +kernel
theorem dX2_init_20 : decode cX2_init 20 = .ok (.getfield 11, 3) := by decide +kernel
theorem dX2_init_23 : decode cX2_init 23 = .ok (.iload_n 1, 1) := by decide +kernel
theorem dX2_init_24 : decode cX2_init 24 = .ok (.new 9, 3) := by decide +kernel
theorem dX2_init_27 : decode cX2_init 27 = .ok (.dup, 1) := by decide +kernel
theorem dX2_init_28 : decode cX2_init 28 = .ok (.invokespecial 15, 3) := by decide +kernel
theorem dX2_init_31 : decode cX2_init 31 = .ok (.aastore, 1) := by decide +kernel
theorem dX2_init_32 : decode cX2_init 32 = .ok (.iinc 1 1, 3) := by decide +kernel
theorem dX2_init_35 : decode cX2_init 35 = .ok (.goto (-21), 3) := by decide +kernel
theorem dX2_init_38 : decode cX2_init 38 = .ok (.aload_n 0, 1) := by decide +kernel
theorem dX2_init_39 : decode cX2_init 39 = .ok (.new 16, 3) := by decide +kernel
theorem dX2_init_42 : decode cX2_init 42 = .ok (.dup, 1) := by decide +kernel
theorem dX2_init_43 : decode cX2_init 43 = .ok (.invokespecial 18, 3) := by decide +kernel
theorem dX2_init_46 : decode cX2_init 46 = .ok (.putfield 19, 3) := by decide +kernel
theorem dX2_init_49 : decode cX2_init 49 = .ok (.aload_n 0, 1) := by decide +kernel
theorem dX2_init_50 : decode cX2_init 50 = .ok (.new 9, 3) := by decide +kernel
theorem dX2_init_53 : decode cX2_init 53 = .ok (.dup, 1) := by decide +kernel
theorem dX2_init_54 : decode cX2_init 54 = .ok (.invokespecial 15, 3) := by decide +kernel
theorem dX2_init_57 : decode cX2_init 57 = .ok (.putfield 23, 3) := by decide +kernel
theorem dX2_init_60 : decode cX2_init 60 = .ok (.aload_n 0, 1) := by decide +kernel
theorem dX2_init_61 : decode cX2_init 61 = .ok (.new 9, 3) := by decide +kernel
theorem dX2_init_64 : decode cX2_init 64 = .ok (.dup, 1) := by decide +kernel
theorem dX2_init_65 : decode cX2_init 65 = .ok (.invokespecial 15, 3) := by decide +kernel
theorem dX2_init_68 : decode cX2_init 68 = .ok (.putfield 27, 3) := by decide +kernel
theorem dX2_init_71 : decode cX2_init 71 = .ok (.aload_n 0, 1) := by decide +kernel
theorem dX2_init_72 : decode cX2_init 72 = .ok (.iconst 0, 1) := by decide +kernel
theorem dX2_init_73 : decode cX2_init 73 = .ok (.putfield 30, 3) := by decide +kernel
theorem dX2_init_76 : decode cX2_init 76 = .ok (.return_, 1) := by decide +kernel
theorem dX2_chip_0 : decode cX2_chip 0 = .ok (.aload_n 0, 1) := by decide +kernel
theorem dX2_chip_1 : decode cX2_chip 1 = .ok (.aload_n 0, 1) := by decide +kernel
theorem dX2_chip_2 : decode cX2_chip 2 = .ok (.invokevirtual 34, 3) := by decide +kernel
theorem dX2_chip_5 : decode cX2_chip 5 = .ok (.iload_n 1, 1) := by decide +kernel
theorem dX2_chip_6 : decode cX2_chip 6 = .ok (.iload_n 2, 1) := by decide +kernel
theorem dX2_chip_7 : decode cX2_chip 7 = .ok (.invokevirtual 38, 3) := by decide +kernel
theorem dX2_chip_10 : decode cX2_chip 10 = .ok (.invokevirtual 42, 3) := by decide +kernel
theorem dX2_chip_13 : decode cX2_chip 13 = .ok (.ireturn, 1) := by decide +kernel
theorem dX2_elect_0 : decode cX2_elect 0 = .ok (.aload_n 0, 1) := by decide +kernel
theorem dX2_elect_1 : decode cX2_elect 1 = .ok (.aload_n 0, 1) := by decide +kernel
theorem dX2_elect_2 : decode cX2_elect 2 = .ok (.invokevirtual 34, 3) := by decide +kernel
theorem dX2_elect_5 : decode cX2_elect 5 = .ok (.iload_n 1, 1) := by decide +kernel
theorem dX2_elect_6 : decode cX2_elect 6 = .ok (.invokevirtual 46, 3) := by decide +kernel
theorem dX2_elect_9 : decode cX2_elect 9 = .ok (.invokevirtual 42, 3) := by decide +kernel
theorem dX2_elect_12 : decode cX2_elect 12 = .ok (.ireturn, 1) := by decide +kernel
theorem dX2_kill_0 : decode cX2_kill 0 = .ok (.aload_n 0, 1) := by decide +kernel
theorem dX2_kill_1 : decode cX2_kill 1 = .ok (.aload_n 0, 1) := by decide +kernel
theorem dX2_kill_2 : decode cX2_kill 2 = .ok (.invokevirtual 34, 3) := by decide +kernel
theorem dX2_kill_5 : decode cX2_kill 5 = .ok (.iload_n 1, 1) := by decide +kernel
theorem dX2_kill_6 : decode cX2_kill 6 = .ok (.invokevirtual 49, 3) := by decide +kernel
theorem dX2_kill_9 : decode cX2_kill 9 = .ok (.invokevirtual 42, 3) := by decide +kernel
theorem dX2_kill_12 : decode cX2_kill 12 = .ok (.ireturn, 1) := by decide +kernel
theorem dX2_breaks_0 : decode cX2_breaks 0 = .ok (.aload_n 0, 1) := by decide +kernel
theorem dX2_breaks_1 : decode cX2_breaks 1 = .ok (.aload_n 0, 1) := by decide +kernel
theorem dX2_breaks_2 : decode cX2_breaks 2 = .ok (.invokevirtual 34, 3) := by decide +kernel
theorem dX2_breaks_5 : decode cX2_breaks 5 = .ok (.iload_n 1, 1) := by decide +kernel
theorem dX2_breaks_6 : decode cX2_breaks 6 = .ok (.iload_n 2, 1) := by decide +kernel
theorem dX2_breaks_7 : decode cX2_breaks 7 = .ok (.invokevirtual 52, 3) := by decide +kernel
theorem dX2_breaks_10 : decode cX2_breaks 10 = .ok (.invokevirtual 42, 3) := by decide +kernel
theorem dX2_breaks_13 : decode cX2_breaks 13 = .ok (.ireturn, 1) := by decide +kernel
theorem dX2_chipOf_0 : decode cX2_chipOf 0 = .ok (.aload_n 0, 1) := by decide +kernel
theorem dX2_chipOf_1 : decode cX2_chipOf 1 = .ok (.getfield 23, 3) := by decide +kernel
theorem dX2_chipOf_4 : decode cX2_chipOf 4 = .ok (.iload_n 1, 1) := by decide +kernel
theorem dX2_chipOf_5 : decode cX2_chipOf 5 = .ok (.invokevirtual 55, 3) := by decide +kernel
theorem dX2_chipOf_8 : decode cX2_chipOf 8 = .ok (.ifCond .ne 6, 3) := by decide +kernel
theorem dX2_chipOf_11 : decode cX2_chipOf 11 = .ok (.ldc 59, 2) := by decide +kernel
theorem dX2_chipOf_13 : decode cX2_chipOf 13 = .ok (.ireturn, 1) := by decide +kernel
theorem dX2_chipOf_14 : decode cX2_chipOf 14 = .ok (.iload_n 2, 1) := by decide +kernel
theorem dX2_chipOf_15 : decode cX2_chipOf 15 = .ok (.tableswitch 126 0 6 #[41, 51, 68, 85, 94, 106, 116], 41) := by decide +kernel
theorem dX2_chipOf_56 : decode cX2_chipOf 56 = .ok (.aload_n 0, 1) := by decide +kernel
theorem dX2_chipOf_57 : decode cX2_chipOf 57 = .ok (.getfield 23, 3) := by decide +kernel
theorem dX2_chipOf_60 : decode cX2_chipOf 60 = .ok (.getfield 60, 3) := by decide +kernel
theorem dX2_chipOf_63 : decode cX2_chipOf 63 = .ok (.iload_n 1, 1) := by decide +kernel
theorem dX2_chipOf_64 : decode cX2_chipOf 64 = .ok (.iaload, 1) := by decide +kernel
theorem dX2_chipOf_65 : decode cX2_chipOf 65 = .ok (.ireturn, 1) := by decide +kernel
theorem dX2_chipOf_66 : decode cX2_chipOf 66 = .ok (.aload_n 0, 1) := by decide +kernel
theorem dX2_chipOf_67 : decode cX2_chipOf 67 = .ok (.getfield 23, 3) := by decide +kernel
theorem dX2_chipOf_70 : decode cX2_chipOf 70 = .ok (.iload_n 1, 1) := by decide +kernel
theorem dX2_chipOf_71 : decode cX2_chipOf 71 = .ok (.invokevirtual 64, 3) := by decide +kernel
theorem dX2_chipOf_74 : decode cX2_chipOf 74 = .ok (.ifCond .eq 7, 3) := by decide +kernel
theorem dX2_chipOf_77 : decode cX2_chipOf 77 = .ok (.iconst 1, 1) := by decide +kernel
theorem dX2_chipOf_78 : decode cX2_chipOf 78 = .ok (.goto 4, 3) := by decide +kernel
theorem dX2_chipOf_81 : decode cX2_chipOf 81 = .ok (.iconst 0, 1) := by decide +kernel
theorem dX2_chipOf_82 : decode cX2_chipOf 82 = .ok (.ireturn, 1) := by decide +kernel
theorem dX2_chipOf_83 : decode cX2_chipOf 83 = .ok (.aload_n 0, 1) := by decide +kernel
theorem dX2_chipOf_84 : decode cX2_chipOf 84 = .ok (.getfield 23, 3) := by decide +kernel
theorem dX2_chipOf_87 : decode cX2_chipOf 87 = .ok (.iload_n 1, 1) := by decide +kernel
theorem dX2_chipOf_88 : decode cX2_chipOf 88 = .ok (.invokevirtual 67, 3) := by decide +kernel
theorem dX2_chipOf_91 : decode cX2_chipOf 91 = .ok (.ifCond .eq 7, 3) := by decide +kernel
theorem dX2_chipOf_94 : decode cX2_chipOf 94 = .ok (.iconst 1, 1) := by decide +kernel
theorem dX2_chipOf_95 : decode cX2_chipOf 95 = .ok (.goto 4, 3) := by decide +kernel
theorem dX2_chipOf_98 : decode cX2_chipOf 98 = .ok (.iconst 0, 1) := by decide +kernel
theorem dX2_chipOf_99 : decode cX2_chipOf 99 = .ok (.ireturn, 1) := by decide +kernel
theorem dX2_chipOf_100 : decode cX2_chipOf 100 = .ok (.aload_n 0, 1) := by decide +kernel
theorem dX2_chipOf_101 : decode cX2_chipOf 101 = .ok (.getfield 23, 3) := by decide +kernel
theorem dX2_chipOf_104 : decode cX2_chipOf 104 = .ok (.iload_n 1, 1) := by decide +kernel
theorem dX2_chipOf_105 : decode cX2_chipOf 105 = .ok (.invokevirtual 70, 3) := by decide +kernel
theorem dX2_chipOf_108 : decode cX2_chipOf 108 = .ok (.ireturn, 1) := by decide +kernel
theorem dX2_chipOf_109 : decode cX2_chipOf 109 = .ok (.aload_n 0, 1) := by decide +kernel
theorem dX2_chipOf_110 : decode cX2_chipOf 110 = .ok (.getfield 23, 3) := by decide +kernel
theorem dX2_chipOf_113 : decode cX2_chipOf 113 = .ok (.iload_n 1, 1) := by decide +kernel
theorem dX2_chipOf_114 : decode cX2_chipOf 114 = .ok (.invokevirtual 73, 3) := by decide +kernel
theorem dX2_chipOf_117 : decode cX2_chipOf 117 = .ok (.invokestatic 76, 3) := by decide +kernel
theorem dX2_chipOf_120 : decode cX2_chipOf 120 = .ok (.ireturn, 1) := by decide +kernel
theorem dX2_chipOf_121 : decode cX2_chipOf 121 = .ok (.aload_n 0, 1) := by decide +kernel
theorem dX2_chipOf_122 : decode cX2_chipOf 122 = .ok (.getfield 23, 3) := by decide +kernel
theorem dX2_chipOf_125 : decode cX2_chipOf 125 = .ok (.getfield 81, 3) := by decide +kernel
theorem dX2_chipOf_128 : decode cX2_chipOf 128 = .ok (.iload_n 1, 1) := by decide +kernel
theorem dX2_chipOf_129 : decode cX2_chipOf 129 = .ok (.iaload, 1) := by decide +kernel
theorem dX2_chipOf_130 : decode cX2_chipOf 130 = .ok (.ireturn, 1) := by decide +kernel
theorem dX2_chipOf_131 : decode cX2_chipOf 131 = .ok (.aload_n 0, 1) := by decide +kernel
theorem dX2_chipOf_132 : decode cX2_chipOf 132 = .ok (.getfield 23, 3) := by decide +kernel
theorem dX2_chipOf_135 : decode cX2_chipOf 135 = .ok (.getfield 84, 3) := by decide +kernel
theorem dX2_chipOf_138 : decode cX2_chipOf 138 = .ok (.iload_n 1, 1) := by decide +kernel
theorem dX2_chipOf_139 : decode cX2_chipOf 139 = .ok (.iaload, 1) := by decide +kernel
theorem dX2_chipOf_140 : decode cX2_chipOf 140 = .ok (.ireturn, 1) := by decide +kernel
theorem dX2_chipOf_141 : decode cX2_chipOf 141 = .ok (.ldc 59, 2) := by decide +kernel
theorem dX2_chipOf_143 : decode cX2_chipOf 143 = .ok (.ireturn, 1) := by decide +kernel
theorem dX2_rowOf_0 : decode cX2_rowOf 0 = .ok (.aload_n 0, 1) := by decide +kernel
theorem dX2_rowOf_1 : decode cX2_rowOf 1 = .ok (.getfield 23, 3) := by decide +kernel
theorem dX2_rowOf_4 : decode cX2_rowOf 4 = .ok (.iload_n 1, 1) := by decide +kernel
theorem dX2_rowOf_5 : decode cX2_rowOf 5 = .ok (.invokevirtual 55, 3) := by decide +kernel
theorem dX2_rowOf_8 : decode cX2_rowOf 8 = .ok (.ifCond .eq 10, 3) := by decide +kernel
theorem dX2_rowOf_11 : decode cX2_rowOf 11 = .ok (.iload_n 2, 1) := by decide +kernel
theorem dX2_rowOf_12 : decode cX2_rowOf 12 = .ok (.invokestatic 87, 3) := by decide +kernel
theorem dX2_rowOf_15 : decode cX2_rowOf 15 = .ok (.ifCond .ne 6, 3) := by decide +kernel
theorem dX2_rowOf_18 : decode cX2_rowOf 18 = .ok (.ldc 59, 2) := by decide +kernel
theorem dX2_rowOf_20 : decode cX2_rowOf 20 = .ok (.ireturn, 1) := by decide +kernel
theorem dX2_rowOf_21 : decode cX2_rowOf 21 = .ok (.aload_n 0, 1) := by decide +kernel
theorem dX2_rowOf_22 : decode cX2_rowOf 22 = .ok (.getfield 23, 3) := by decide +kernel
theorem dX2_rowOf_25 : decode cX2_rowOf 25 = .ok (.iload_n 1, 1) := by decide +kernel
theorem dX2_rowOf_26 : decode cX2_rowOf 26 = .ok (.invokevirtual 64, 3) := by decide +kernel
theorem dX2_rowOf_29 : decode cX2_rowOf 29 = .ok (.ifCond .eq 15, 3) := by decide +kernel
theorem dX2_rowOf_32 : decode cX2_rowOf 32 = .ok (.aload_n 0, 1) := by decide +kernel
theorem dX2_rowOf_33 : decode cX2_rowOf 33 = .ok (.getfield 23, 3) := by decide +kernel
theorem dX2_rowOf_36 : decode cX2_rowOf 36 = .ok (.iload_n 1, 1) := by decide +kernel
theorem dX2_rowOf_37 : decode cX2_rowOf 37 = .ok (.iload_n 2, 1) := by decide +kernel
theorem dX2_rowOf_38 : decode cX2_rowOf 38 = .ok (.invokevirtual 90, 3) := by decide +kernel
theorem dX2_rowOf_41 : decode cX2_rowOf 41 = .ok (.ifCond .eq 6, 3) := by decide +kernel
theorem dX2_rowOf_44 : decode cX2_rowOf 44 = .ok (.ldc 94, 2) := by decide +kernel
theorem dX2_rowOf_46 : decode cX2_rowOf 46 = .ok (.ireturn, 1) := by decide +kernel
theorem dX2_rowOf_47 : decode cX2_rowOf 47 = .ok (.aload_n 0, 1) := by decide +kernel
theorem dX2_rowOf_48 : decode cX2_rowOf 48 = .ok (.getfield 23, 3) := by decide +kernel
theorem dX2_rowOf_51 : decode cX2_rowOf 51 = .ok (.iload_n 1, 1) := by decide +kernel
theorem dX2_rowOf_52 : decode cX2_rowOf 52 = .ok (.invokevirtual 67, 3) := by decide +kernel
theorem dX2_rowOf_55 : decode cX2_rowOf 55 = .ok (.ifCond .eq 21, 3) := by decide +kernel
theorem dX2_rowOf_58 : decode cX2_rowOf 58 = .ok (.aload_n 0, 1) := by decide +kernel
theorem dX2_rowOf_59 : decode cX2_rowOf 59 = .ok (.getfield 23, 3) := by decide +kernel
theorem dX2_rowOf_62 : decode cX2_rowOf 62 = .ok (.aload_n 0, 1) := by decide +kernel
theorem dX2_rowOf_63 : decode cX2_rowOf 63 = .ok (.getfield 23, 3) := by decide +kernel
theorem dX2_rowOf_66 : decode cX2_rowOf 66 = .ok (.getfield 60, 3) := by decide +kernel
theorem dX2_rowOf_69 : decode cX2_rowOf 69 = .ok (.iload_n 1, 1) := by decide +kernel
theorem dX2_rowOf_70 : decode cX2_rowOf 70 = .ok (.iaload, 1) := by decide +kernel
theorem dX2_rowOf_71 : decode cX2_rowOf 71 = .ok (.iload_n 2, 1) := by decide +kernel
theorem dX2_rowOf_72 : decode cX2_rowOf 72 = .ok (.invokevirtual 95, 3) := by decide +kernel
theorem dX2_rowOf_75 : decode cX2_rowOf 75 = .ok (.ireturn, 1) := by decide +kernel
theorem dX2_rowOf_76 : decode cX2_rowOf 76 = .ok (.aload_n 0, 1) := by decide +kernel
theorem dX2_rowOf_77 : decode cX2_rowOf 77 = .ok (.getfield 23, 3) := by decide +kernel
theorem dX2_rowOf_80 : decode cX2_rowOf 80 = .ok (.getfield 98, 3) := by decide +kernel
theorem dX2_rowOf_83 : decode cX2_rowOf 83 = .ok (.iload_n 1, 1) := by decide +kernel
theorem dX2_rowOf_84 : decode cX2_rowOf 84 = .ok (.bipush 6, 2) := by decide +kernel
theorem dX2_rowOf_86 : decode cX2_rowOf 86 = .ok (.imul, 1) := by decide +kernel
theorem dX2_rowOf_87 : decode cX2_rowOf 87 = .ok (.iload_n 2, 1) := by decide +kernel
theorem dX2_rowOf_88 : decode cX2_rowOf 88 = .ok (.iadd, 1) := by decide +kernel
theorem dX2_rowOf_89 : decode cX2_rowOf 89 = .ok (.iaload, 1) := by decide +kernel
theorem dX2_rowOf_90 : decode cX2_rowOf 90 = .ok (.istore_n 3, 1) := by decide +kernel
theorem dX2_rowOf_91 : decode cX2_rowOf 91 = .ok (.iload_n 3, 1) := by decide +kernel
theorem dX2_rowOf_92 : decode cX2_rowOf 92 = .ok (.iconst (-1), 1) := by decide +kernel
theorem dX2_rowOf_93 : decode cX2_rowOf 93 = .ok (.if_icmp .ne 8, 3) := by decide +kernel
theorem dX2_rowOf_96 : decode cX2_rowOf 96 = .ok (.ldc 101, 2) := by decide +kernel
theorem dX2_rowOf_98 : decode cX2_rowOf 98 = .ok (.goto 4, 3) := by decide +kernel
theorem dX2_rowOf_101 : decode cX2_rowOf 101 = .ok (.iload_n 3, 1) := by decide +kernel
theorem dX2_rowOf_102 : decode cX2_rowOf 102 = .ok (.ireturn, 1) := by decide +kernel
theorem dX2_put_0 : decode cX2_put 0 = .ok (.aload_n 0, 1) := by decide +kernel
theorem dX2_put_1 : decode cX2_put 1 = .ok (.aload_n 0, 1) := by decide +kernel
theorem dX2_put_2 : decode cX2_put 2 = .ok (.invokevirtual 34, 3) := by decide +kernel
theorem dX2_put_5 : decode cX2_put 5 = .ok (.iload_n 1, 1) := by decide +kernel
theorem dX2_put_6 : decode cX2_put 6 = .ok (.iload_n 2, 1) := by decide +kernel
theorem dX2_put_7 : decode cX2_put 7 = .ok (.invokevirtual 102, 3) := by decide +kernel
theorem dX2_put_10 : decode cX2_put 10 = .ok (.invokevirtual 42, 3) := by decide +kernel
theorem dX2_put_13 : decode cX2_put 13 = .ok (.ireturn, 1) := by decide +kernel
theorem dX2_write_0 : decode cX2_write 0 = .ok (.aload_n 0, 1) := by decide +kernel
theorem dX2_write_1 : decode cX2_write 1 = .ok (.aload_n 0, 1) := by decide +kernel
theorem dX2_write_2 : decode cX2_write 2 = .ok (.invokevirtual 34, 3) := by decide +kernel
theorem dX2_write_5 : decode cX2_write 5 = .ok (.iload_n 1, 1) := by decide +kernel
theorem dX2_write_6 : decode cX2_write 6 = .ok (.iload_n 2, 1) := by decide +kernel
theorem dX2_write_7 : decode cX2_write 7 = .ok (.invokevirtual 105, 3) := by decide +kernel
theorem dX2_write_10 : decode cX2_write 10 = .ok (.invokevirtual 42, 3) := by decide +kernel
theorem dX2_write_13 : decode cX2_write 13 = .ok (.ireturn, 1) := by decide +kernel
theorem dX2_read_0 : decode cX2_read 0 = .ok (.aload_n 0, 1) := by decide +kernel
theorem dX2_read_1 : decode cX2_read 1 = .ok (.getfield 23, 3) := by decide +kernel
theorem dX2_read_4 : decode cX2_read 4 = .ok (.iload_n 1, 1) := by decide +kernel
theorem dX2_read_5 : decode cX2_read 5 = .ok (.invokevirtual 108, 3) := by decide +kernel
theorem dX2_read_8 : decode cX2_read 8 = .ok (.ifCond .ne 6, 3) := by decide +kernel
theorem dX2_read_11 : decode cX2_read 11 = .ok (.ldc 59, 2) := by decide +kernel
theorem dX2_read_13 : decode cX2_read 13 = .ok (.ireturn, 1) := by decide +kernel
theorem dX2_read_14 : decode cX2_read 14 = .ok (.aload_n 0, 1) := by decide +kernel
theorem dX2_read_15 : decode cX2_read 15 = .ok (.getfield 23, 3) := by decide +kernel
theorem dX2_read_18 : decode cX2_read 18 = .ok (.iload_n 1, 1) := by decide +kernel
theorem dX2_read_19 : decode cX2_read 19 = .ok (.invokevirtual 111, 3) := by decide +kernel
theorem dX2_read_22 : decode cX2_read 22 = .ok (.iconst 2, 1) := by decide +kernel
theorem dX2_read_23 : decode cX2_read 23 = .ok (.if_icmp .ne 8, 3) := by decide +kernel
theorem dX2_read_26 : decode cX2_read 26 = .ok (.ldc 101, 2) := by decide +kernel
theorem dX2_read_28 : decode cX2_read 28 = .ok (.goto 12, 3) := by decide +kernel
theorem dX2_read_31 : decode cX2_read 31 = .ok (.aload_n 0, 1) := by decide +kernel
theorem dX2_read_32 : decode cX2_read 32 = .ok (.getfield 23, 3) := by decide +kernel
theorem dX2_read_35 : decode cX2_read 35 = .ok (.getfield 114, 3) := by decide +kernel
theorem dX2_read_38 : decode cX2_read 38 = .ok (.iload_n 1, 1) := by decide +kernel
theorem dX2_read_39 : decode cX2_read 39 = .ok (.iaload, 1) := by decide +kernel
theorem dX2_read_40 : decode cX2_read 40 = .ok (.ireturn, 1) := by decide +kernel
theorem dX2_carry_0 : decode cX2_carry 0 = .ok (.aload_n 0, 1) := by decide +kernel
theorem dX2_carry_1 : decode cX2_carry 1 = .ok (.aload_n 0, 1) := by decide +kernel
theorem dX2_carry_2 : decode cX2_carry 2 = .ok (.invokevirtual 34, 3) := by decide +kernel
theorem dX2_carry_5 : decode cX2_carry 5 = .ok (.iload_n 1, 1) := by decide +kernel
theorem dX2_carry_6 : decode cX2_carry 6 = .ok (.iload_n 2, 1) := by decide +kernel
theorem dX2_carry_7 : decode cX2_carry 7 = .ok (.invokevirtual 117, 3) := by decide +kernel
theorem dX2_carry_10 : decode cX2_carry 10 = .ok (.invokevirtual 42, 3) := by decide +kernel
theorem dX2_carry_13 : decode cX2_carry 13 = .ok (.ireturn, 1) := by decide +kernel
theorem dX2_empty_0 : decode cX2_empty 0 = .ok (.aload_n 0, 1) := by decide +kernel
theorem dX2_empty_1 : decode cX2_empty 1 = .ok (.aload_n 0, 1) := by decide +kernel
theorem dX2_empty_2 : decode cX2_empty 2 = .ok (.invokevirtual 34, 3) := by decide +kernel
theorem dX2_empty_5 : decode cX2_empty 5 = .ok (.iload_n 1, 1) := by decide +kernel
theorem dX2_empty_6 : decode cX2_empty 6 = .ok (.invokevirtual 120, 3) := by decide +kernel
theorem dX2_empty_9 : decode cX2_empty 9 = .ok (.invokevirtual 42, 3) := by decide +kernel
theorem dX2_empty_12 : decode cX2_empty 12 = .ok (.ireturn, 1) := by decide +kernel
theorem dX2_wordOf_0 : decode cX2_wordOf 0 = .ok (.aload_n 0, 1) := by decide +kernel
theorem dX2_wordOf_1 : decode cX2_wordOf 1 = .ok (.getfield 23, 3) := by decide +kernel
theorem dX2_wordOf_4 : decode cX2_wordOf 4 = .ok (.iload_n 1, 1) := by decide +kernel
theorem dX2_wordOf_5 : decode cX2_wordOf 5 = .ok (.invokevirtual 108, 3) := by decide +kernel
theorem dX2_wordOf_8 : decode cX2_wordOf 8 = .ok (.ifCond .ne 6, 3) := by decide +kernel
theorem dX2_wordOf_11 : decode cX2_wordOf 11 = .ok (.ldc 59, 2) := by decide +kernel
theorem dX2_wordOf_13 : decode cX2_wordOf 13 = .ok (.ireturn, 1) := by decide +kernel
theorem dX2_wordOf_14 : decode cX2_wordOf 14 = .ok (.aload_n 0, 1) := by decide +kernel
theorem dX2_wordOf_15 : decode cX2_wordOf 15 = .ok (.getfield 23, 3) := by decide +kernel
theorem dX2_wordOf_18 : decode cX2_wordOf 18 = .ok (.iload_n 1, 1) := by decide +kernel
theorem dX2_wordOf_19 : decode cX2_wordOf 19 = .ok (.invokevirtual 111, 3) := by decide +kernel
theorem dX2_wordOf_22 : decode cX2_wordOf 22 = .ok (.istore_n 3, 1) := by decide +kernel
theorem dX2_wordOf_23 : decode cX2_wordOf 23 = .ok (.iload_n 2, 1) := by decide +kernel
theorem dX2_wordOf_24 : decode cX2_wordOf 24 = .ok (.tableswitch 130 0 5 #[40, 42, 61, 81, 101, 120], 40) := by decide +kernel
theorem dX2_wordOf_64 : decode cX2_wordOf 64 = .ok (.iload_n 3, 1) := by decide +kernel
theorem dX2_wordOf_65 : decode cX2_wordOf 65 = .ok (.ireturn, 1) := by decide +kernel
theorem dX2_wordOf_66 : decode cX2_wordOf 66 = .ok (.iload_n 3, 1) := by decide +kernel
theorem dX2_wordOf_67 : decode cX2_wordOf 67 = .ok (.ifCond .ne 15, 3) := by decide +kernel
theorem dX2_wordOf_70 : decode cX2_wordOf 70 = .ok (.aload_n 0, 1) := by decide +kernel
theorem dX2_wordOf_71 : decode cX2_wordOf 71 = .ok (.getfield 23, 3) := by decide +kernel
theorem dX2_wordOf_74 : decode cX2_wordOf 74 = .ok (.getfield 123, 3) := by decide +kernel
theorem dX2_wordOf_77 : decode cX2_wordOf 77 = .ok (.iload_n 1, 1) := by decide +kernel
theorem dX2_wordOf_78 : decode cX2_wordOf 78 = .ok (.iaload, 1) := by decide +kernel
theorem dX2_wordOf_79 : decode cX2_wordOf 79 = .ok (.goto 5, 3) := by decide +kernel
theorem dX2_wordOf_82 : decode cX2_wordOf 82 = .ok (.ldc 101, 2) := by decide +kernel
theorem dX2_wordOf_84 : decode cX2_wordOf 84 = .ok (.ireturn, 1) := by decide +kernel
theorem dX2_wordOf_85 : decode cX2_wordOf 85 = .ok (.iload_n 3, 1) := by decide +kernel
theorem dX2_wordOf_86 : decode cX2_wordOf 86 = .ok (.iconst 2, 1) := by decide +kernel
theorem dX2_wordOf_87 : decode cX2_wordOf 87 = .ok (.if_icmp .ne 8, 3) := by decide +kernel
theorem dX2_wordOf_90 : decode cX2_wordOf 90 = .ok (.ldc 101, 2) := by decide +kernel
theorem dX2_wordOf_92 : decode cX2_wordOf 92 = .ok (.goto 12, 3) := by decide +kernel
theorem dX2_wordOf_95 : decode cX2_wordOf 95 = .ok (.aload_n 0, 1) := by decide +kernel
theorem dX2_wordOf_96 : decode cX2_wordOf 96 = .ok (.getfield 23, 3) := by decide +kernel
theorem dX2_wordOf_99 : decode cX2_wordOf 99 = .ok (.getfield 126, 3) := by decide +kernel
theorem dX2_wordOf_102 : decode cX2_wordOf 102 = .ok (.iload_n 1, 1) := by decide +kernel
theorem dX2_wordOf_103 : decode cX2_wordOf 103 = .ok (.iaload, 1) := by decide +kernel
theorem dX2_wordOf_104 : decode cX2_wordOf 104 = .ok (.ireturn, 1) := by decide +kernel
theorem dX2_wordOf_105 : decode cX2_wordOf 105 = .ok (.iload_n 3, 1) := by decide +kernel
theorem dX2_wordOf_106 : decode cX2_wordOf 106 = .ok (.iconst 2, 1) := by decide +kernel
theorem dX2_wordOf_107 : decode cX2_wordOf 107 = .ok (.if_icmp .ne 8, 3) := by decide +kernel
theorem dX2_wordOf_110 : decode cX2_wordOf 110 = .ok (.ldc 101, 2) := by decide +kernel
theorem dX2_wordOf_112 : decode cX2_wordOf 112 = .ok (.goto 12, 3) := by decide +kernel
theorem dX2_wordOf_115 : decode cX2_wordOf 115 = .ok (.aload_n 0, 1) := by decide +kernel
theorem dX2_wordOf_116 : decode cX2_wordOf 116 = .ok (.getfield 23, 3) := by decide +kernel
theorem dX2_wordOf_119 : decode cX2_wordOf 119 = .ok (.getfield 129, 3) := by decide +kernel
theorem dX2_wordOf_122 : decode cX2_wordOf 122 = .ok (.iload_n 1, 1) := by decide +kernel
theorem dX2_wordOf_123 : decode cX2_wordOf 123 = .ok (.iaload, 1) := by decide +kernel
theorem dX2_wordOf_124 : decode cX2_wordOf 124 = .ok (.ireturn, 1) := by decide +kernel
theorem dX2_wordOf_125 : decode cX2_wordOf 125 = .ok (.iload_n 3, 1) := by decide +kernel
theorem dX2_wordOf_126 : decode cX2_wordOf 126 = .ok (.iconst 1, 1) := by decide +kernel
theorem dX2_wordOf_127 : decode cX2_wordOf 127 = .ok (.if_icmp .ne 14, 3) := by decide +kernel
theorem dX2_wordOf_130 : decode cX2_wordOf 130 = .ok (.aload_n 0, 1) := by decide +kernel
theorem dX2_wordOf_131 : decode cX2_wordOf 131 = .ok (.getfield 23, 3) := by decide +kernel
theorem dX2_wordOf_134 : decode cX2_wordOf 134 = .ok (.iload_n 1, 1) := by decide +kernel
theorem dX2_wordOf_135 : decode cX2_wordOf 135 = .ok (.invokevirtual 132, 3) := by decide +kernel
theorem dX2_wordOf_138 : decode cX2_wordOf 138 = .ok (.goto 5, 3) := by decide +kernel
theorem dX2_wordOf_141 : decode cX2_wordOf 141 = .ok (.ldc 101, 2) := by decide +kernel
theorem dX2_wordOf_143 : decode cX2_wordOf 143 = .ok (.ireturn, 1) := by decide +kernel
theorem dX2_wordOf_144 : decode cX2_wordOf 144 = .ok (.aload_n 0, 1) := by decide +kernel
theorem dX2_wordOf_145 : decode cX2_wordOf 145 = .ok (.getfield 23, 3) := by decide +kernel
theorem dX2_wordOf_148 : decode cX2_wordOf 148 = .ok (.getfield 135, 3) := by decide +kernel
theorem dX2_wordOf_151 : decode cX2_wordOf 151 = .ok (.iload_n 1, 1) := by decide +kernel
theorem dX2_wordOf_152 : decode cX2_wordOf 152 = .ok (.iaload, 1) := by decide +kernel
theorem dX2_wordOf_153 : decode cX2_wordOf 153 = .ok (.ireturn, 1) := by decide +kernel
theorem dX2_wordOf_154 : decode cX2_wordOf 154 = .ok (.ldc 59, 2) := by decide +kernel
theorem dX2_wordOf_156 : decode cX2_wordOf 156 = .ok (.ireturn, 1) := by decide +kernel
theorem dX2_familyOf_0 : decode cX2_familyOf 0 = .ok (.iload_n 1, 1) := by decide +kernel
theorem dX2_familyOf_1 : decode cX2_familyOf 1 = .ok (.invokestatic 138, 3) := by decide +kernel
theorem dX2_familyOf_4 : decode cX2_familyOf 4 = .ok (.ifCond .ne 6, 3) := by decide +kernel
theorem dX2_familyOf_7 : decode cX2_familyOf 7 = .ok (.ldc 59, 2) := by decide +kernel
theorem dX2_familyOf_9 : decode cX2_familyOf 9 = .ok (.ireturn, 1) := by decide +kernel
theorem dX2_familyOf_10 : decode cX2_familyOf 10 = .ok (.aload_n 0, 1) := by decide +kernel
theorem dX2_familyOf_11 : decode cX2_familyOf 11 = .ok (.getfield 23, 3) := by decide +kernel
theorem dX2_familyOf_14 : decode cX2_familyOf 14 = .ok (.getfield 141, 3) := by decide +kernel
theorem dX2_familyOf_17 : decode cX2_familyOf 17 = .ok (.iload_n 1, 1) := by decide +kernel
theorem dX2_familyOf_18 : decode cX2_familyOf 18 = .ok (.iaload, 1) := by decide +kernel
theorem dX2_familyOf_19 : decode cX2_familyOf 19 = .ok (.istore_n 3, 1) := by decide +kernel
theorem dX2_familyOf_20 : decode cX2_familyOf 20 = .ok (.iload_n 2, 1) := by decide +kernel
theorem dX2_familyOf_21 : decode cX2_familyOf 21 = .ok (.tableswitch 146 0 6 #[43, 71, 80, 82, 93, 102, 124], 43) := by decide +kernel
theorem dX2_familyOf_64 : decode cX2_familyOf 64 = .ok (.aload_n 0, 1) := by decide +kernel
theorem dX2_familyOf_65 : decode cX2_familyOf 65 = .ok (.getfield 23, 3) := by decide +kernel
theorem dX2_familyOf_68 : decode cX2_familyOf 68 = .ok (.getfield 144, 3) := by decide +kernel
theorem dX2_familyOf_71 : decode cX2_familyOf 71 = .ok (.iload_n 1, 1) := by decide +kernel
theorem dX2_familyOf_72 : decode cX2_familyOf 72 = .ok (.iaload, 1) := by decide +kernel
theorem dX2_familyOf_73 : decode cX2_familyOf 73 = .ok (.iconst (-1), 1) := by decide +kernel
theorem dX2_familyOf_74 : decode cX2_familyOf 74 = .ok (.if_icmp .ne 8, 3) := by decide +kernel
theorem dX2_familyOf_77 : decode cX2_familyOf 77 = .ok (.ldc 101, 2) := by decide +kernel
theorem dX2_familyOf_79 : decode cX2_familyOf 79 = .ok (.goto 12, 3) := by decide +kernel
theorem dX2_familyOf_82 : decode cX2_familyOf 82 = .ok (.aload_n 0, 1) := by decide +kernel
theorem dX2_familyOf_83 : decode cX2_familyOf 83 = .ok (.getfield 23, 3) := by decide +kernel
theorem dX2_familyOf_86 : decode cX2_familyOf 86 = .ok (.getfield 144, 3) := by decide +kernel
theorem dX2_familyOf_89 : decode cX2_familyOf 89 = .ok (.iload_n 1, 1) := by decide +kernel
theorem dX2_familyOf_90 : decode cX2_familyOf 90 = .ok (.iaload, 1) := by decide +kernel
theorem dX2_familyOf_91 : decode cX2_familyOf 91 = .ok (.ireturn, 1) := by decide +kernel
theorem dX2_familyOf_92 : decode cX2_familyOf 92 = .ok (.aload_n 0, 1) := by decide +kernel
theorem dX2_familyOf_93 : decode cX2_familyOf 93 = .ok (.getfield 23, 3) := by decide +kernel
theorem dX2_familyOf_96 : decode cX2_familyOf 96 = .ok (.iload_n 1, 1) := by decide +kernel
theorem dX2_familyOf_97 : decode cX2_familyOf 97 = .ok (.invokevirtual 147, 3) := by decide +kernel
theorem dX2_familyOf_100 : decode cX2_familyOf 100 = .ok (.ireturn, 1) := by decide +kernel
theorem dX2_familyOf_101 : decode cX2_familyOf 101 = .ok (.iload_n 3, 1) := by decide +kernel
theorem dX2_familyOf_102 : decode cX2_familyOf 102 = .ok (.ireturn, 1) := by decide +kernel
theorem dX2_familyOf_103 : decode cX2_familyOf 103 = .ok (.aload_n 0, 1) := by decide +kernel
theorem dX2_familyOf_104 : decode cX2_familyOf 104 = .ok (.getfield 23, 3) := by decide +kernel
theorem dX2_familyOf_107 : decode cX2_familyOf 107 = .ok (.iload_n 1, 1) := by decide +kernel
theorem dX2_familyOf_108 : decode cX2_familyOf 108 = .ok (.bipush 63, 2) := by decide +kernel
theorem dX2_familyOf_110 : decode cX2_familyOf 110 = .ok (.invokevirtual 150, 3) := by decide +kernel
theorem dX2_familyOf_113 : decode cX2_familyOf 113 = .ok (.ireturn, 1) := by decide +kernel
theorem dX2_familyOf_114 : decode cX2_familyOf 114 = .ok (.aload_n 0, 1) := by decide +kernel
theorem dX2_familyOf_115 : decode cX2_familyOf 115 = .ok (.getfield 23, 3) := by decide +kernel
theorem dX2_familyOf_118 : decode cX2_familyOf 118 = .ok (.iload_n 1, 1) := by decide +kernel
theorem dX2_familyOf_119 : decode cX2_familyOf 119 = .ok (.invokevirtual 153, 3) := by decide +kernel
theorem dX2_familyOf_122 : decode cX2_familyOf 122 = .ok (.ireturn, 1) := by decide +kernel
theorem dX2_familyOf_123 : decode cX2_familyOf 123 = .ok (.aload_n 0, 1) := by decide +kernel
theorem dX2_familyOf_124 : decode cX2_familyOf 124 = .ok (.getfield 23, 3) := by decide +kernel
theorem dX2_familyOf_127 : decode cX2_familyOf 127 = .ok (.iload_n 1, 1) := by decide +kernel
theorem dX2_familyOf_128 : decode cX2_familyOf 128 = .ok (.bipush 63, 2) := by decide +kernel
theorem dX2_familyOf_130 : decode cX2_familyOf 130 = .ok (.aload_n 0, 1) := by decide +kernel
theorem dX2_familyOf_131 : decode cX2_familyOf 131 = .ok (.getfield 23, 3) := by decide +kernel
theorem dX2_familyOf_134 : decode cX2_familyOf 134 = .ok (.iload_n 1, 1) := by decide +kernel
theorem dX2_familyOf_135 : decode cX2_familyOf 135 = .ok (.invokevirtual 153, 3) := by decide +kernel
theorem dX2_familyOf_138 : decode cX2_familyOf 138 = .ok (.iconst (-1), 1) := by decide +kernel
theorem dX2_familyOf_139 : decode cX2_familyOf 139 = .ok (.ixor, 1) := by decide +kernel
theorem dX2_familyOf_140 : decode cX2_familyOf 140 = .ok (.iand, 1) := by decide +kernel
theorem dX2_familyOf_141 : decode cX2_familyOf 141 = .ok (.invokevirtual 150, 3) := by decide +kernel
theorem dX2_familyOf_144 : decode cX2_familyOf 144 = .ok (.ireturn, 1) := by decide +kernel
theorem dX2_familyOf_145 : decode cX2_familyOf 145 = .ok (.iload_n 3, 1) := by decide +kernel
theorem dX2_familyOf_146 : decode cX2_familyOf 146 = .ok (.ifCond .ne 8, 3) := by decide +kernel
theorem dX2_familyOf_149 : decode cX2_familyOf 149 = .ok (.ldc 101, 2) := by decide +kernel
theorem dX2_familyOf_151 : decode cX2_familyOf 151 = .ok (.goto 15, 3) := by decide +kernel
theorem dX2_familyOf_154 : decode cX2_familyOf 154 = .ok (.aload_n 0, 1) := by decide +kernel
theorem dX2_familyOf_155 : decode cX2_familyOf 155 = .ok (.getfield 23, 3) := by decide +kernel
theorem dX2_familyOf_158 : decode cX2_familyOf 158 = .ok (.getfield 156, 3) := by decide +kernel
theorem dX2_familyOf_161 : decode cX2_familyOf 161 = .ok (.iload_n 1, 1) := by decide +kernel
theorem dX2_familyOf_162 : decode cX2_familyOf 162 = .ok (.bipush 6, 2) := by decide +kernel
theorem dX2_familyOf_164 : decode cX2_familyOf 164 = .ok (.imul, 1) := by decide +kernel
theorem dX2_familyOf_165 : decode cX2_familyOf 165 = .ok (.iaload, 1) := by decide +kernel
theorem dX2_familyOf_166 : decode cX2_familyOf 166 = .ok (.ireturn, 1) := by decide +kernel
theorem dX2_familyOf_167 : decode cX2_familyOf 167 = .ok (.ldc 59, 2) := by decide +kernel
theorem dX2_familyOf_169 : decode cX2_familyOf 169 = .ok (.ireturn, 1) := by decide +kernel
theorem dX2_tick_0 : decode cX2_tick 0 = .ok (.aload_n 0, 1) := by decide +kernel
theorem dX2_tick_1 : decode cX2_tick 1 = .ok (.aload_n 0, 1) := by decide +kernel
theorem dX2_tick_2 : decode cX2_tick 2 = .ok (.invokevirtual 34, 3) := by decide +kernel
theorem dX2_tick_5 : decode cX2_tick 5 = .ok (.iload_n 1, 1) := by decide +kernel
theorem dX2_tick_6 : decode cX2_tick 6 = .ok (.invokevirtual 159, 3) := by decide +kernel
theorem dX2_tick_9 : decode cX2_tick 9 = .ok (.invokevirtual 42, 3) := by decide +kernel
theorem dX2_tick_12 : decode cX2_tick 12 = .ok (.ireturn, 1) := by decide +kernel
theorem dX2_loss_0 : decode cX2_loss 0 = .ok (.aload_n 0, 1) := by decide +kernel
theorem dX2_loss_1 : decode cX2_loss 1 = .ok (.getfield 23, 3) := by decide +kernel
theorem dX2_loss_4 : decode cX2_loss 4 = .ok (.iload_n 1, 1) := by decide +kernel
theorem dX2_loss_5 : decode cX2_loss 5 = .ok (.invokevirtual 55, 3) := by decide +kernel
theorem dX2_loss_8 : decode cX2_loss 8 = .ok (.ifCond .eq 8, 3) := by decide +kernel
theorem dX2_loss_11 : decode cX2_loss 11 = .ok (.iload_n 1, 1) := by decide +kernel
theorem dX2_loss_12 : decode cX2_loss 12 = .ok (.iload_n 2, 1) := by decide +kernel
theorem dX2_loss_13 : decode cX2_loss 13 = .ok (.if_icmp .ne 6, 3) := by decide +kernel
theorem dX2_loss_16 : decode cX2_loss 16 = .ok (.ldc 59, 2) := by decide +kernel
theorem dX2_loss_18 : decode cX2_loss 18 = .ok (.ireturn, 1) := by decide +kernel
theorem dX2_loss_19 : decode cX2_loss 19 = .ok (.iload_n 2, 1) := by decide +kernel
theorem dX2_loss_20 : decode cX2_loss 20 = .ok (.iconst (-1), 1) := by decide +kernel
theorem dX2_loss_21 : decode cX2_loss 21 = .ok (.if_icmp .eq 17, 3) := by decide +kernel
theorem dX2_loss_24 : decode cX2_loss 24 = .ok (.aload_n 0, 1) := by decide +kernel
theorem dX2_loss_25 : decode cX2_loss 25 = .ok (.getfield 23, 3) := by decide +kernel
theorem dX2_loss_28 : decode cX2_loss 28 = .ok (.iload_n 2, 1) := by decide +kernel
theorem dX2_loss_29 : decode cX2_loss 29 = .ok (.invokevirtual 55, 3) := by decide +kernel
theorem dX2_loss_32 : decode cX2_loss 32 = .ok (.ifCond .ne 6, 3) := by decide +kernel
theorem dX2_loss_35 : decode cX2_loss 35 = .ok (.ldc 59, 2) := by decide +kernel
theorem dX2_loss_37 : decode cX2_loss 37 = .ok (.ireturn, 1) := by decide +kernel
theorem dX2_loss_38 : decode cX2_loss 38 = .ok (.aload_n 0, 1) := by decide +kernel
theorem dX2_loss_39 : decode cX2_loss 39 = .ok (.getfield 23, 3) := by decide +kernel
theorem dX2_loss_42 : decode cX2_loss 42 = .ok (.iload_n 1, 1) := by decide +kernel
theorem dX2_loss_43 : decode cX2_loss 43 = .ok (.invokevirtual 64, 3) := by decide +kernel
theorem dX2_loss_46 : decode cX2_loss 46 = .ok (.ifCond .eq 19, 3) := by decide +kernel
theorem dX2_loss_49 : decode cX2_loss 49 = .ok (.iload_n 2, 1) := by decide +kernel
theorem dX2_loss_50 : decode cX2_loss 50 = .ok (.iconst (-1), 1) := by decide +kernel
theorem dX2_loss_51 : decode cX2_loss 51 = .ok (.if_icmp .eq 17, 3) := by decide +kernel
theorem dX2_loss_54 : decode cX2_loss 54 = .ok (.aload_n 0, 1) := by decide +kernel
theorem dX2_loss_55 : decode cX2_loss 55 = .ok (.getfield 23, 3) := by decide +kernel
theorem dX2_loss_58 : decode cX2_loss 58 = .ok (.iload_n 2, 1) := by decide +kernel
theorem dX2_loss_59 : decode cX2_loss 59 = .ok (.invokevirtual 64, 3) := by decide +kernel
theorem dX2_loss_62 : decode cX2_loss 62 = .ok (.ifCond .ne 6, 3) := by decide +kernel
theorem dX2_loss_65 : decode cX2_loss 65 = .ok (.ldc 94, 2) := by decide +kernel
theorem dX2_loss_67 : decode cX2_loss 67 = .ok (.ireturn, 1) := by decide +kernel
theorem dX2_loss_68 : decode cX2_loss 68 = .ok (.aload_n 0, 1) := by decide +kernel
theorem dX2_loss_69 : decode cX2_loss 69 = .ok (.iload_n 1, 1) := by decide +kernel
theorem dX2_loss_70 : decode cX2_loss 70 = .ok (.iload_n 2, 1) := by decide +kernel
theorem dX2_loss_71 : decode cX2_loss 71 = .ok (.invokevirtual 162, 3) := by decide +kernel
theorem dX2_loss_74 : decode cX2_loss 74 = .ok (.ireturn, 1) := by decide +kernel
theorem dX2_safe_0 : decode cX2_safe 0 = .ok (.iconst 0, 1) := by decide +kernel
theorem dX2_safe_1 : decode cX2_safe 1 = .ok (.istore_n 1, 1) := by decide +kernel
theorem dX2_safe_2 : decode cX2_safe 2 = .ok (.iconst 0, 1) := by decide +kernel
theorem dX2_safe_3 : decode cX2_safe 3 = .ok (.istore_n 2, 1) := by decide +kernel
theorem dX2_safe_4 : decode cX2_safe 4 = .ok (.iload_n 2, 1) := by decide +kernel
theorem dX2_safe_5 : decode cX2_safe 5 = .ok (.aload_n 0, 1) := by decide +kernel
theorem dX2_safe_6 : decode cX2_safe 6 = .ok (.getfield 23, 3) := by decide +kernel
theorem dX2_safe_9 : decode cX2_safe 9 = .ok (.getfield 165, 3) := by decide +kernel
theorem dX2_safe_12 : decode cX2_safe 12 = .ok (.if_icmp .ge 35, 3) := by decide +kernel
theorem dX2_safe_15 : decode cX2_safe 15 = .ok (.aload_n 0, 1) := by decide +kernel
theorem dX2_safe_16 : decode cX2_safe 16 = .ok (.getfield 23, 3) := by decide +kernel
theorem dX2_safe_19 : decode cX2_safe 19 = .ok (.iload_n 2, 1) := by decide +kernel
theorem dX2_safe_20 : decode cX2_safe 20 = .ok (.invokevirtual 64, 3) := by decide +kernel
theorem dX2_safe_23 : decode cX2_safe 23 = .ok (.ifCond .eq 18, 3) := by decide +kernel
theorem dX2_safe_26 : decode cX2_safe 26 = .ok (.aload_n 0, 1) := by decide +kernel
theorem dX2_safe_27 : decode cX2_safe 27 = .ok (.iload_n 2, 1) := by decide +kernel
theorem dX2_safe_28 : decode cX2_safe 28 = .ok (.iconst (-1), 1) := by decide +kernel
theorem dX2_safe_29 : decode cX2_safe 29 = .ok (.invokevirtual 162, 3) := by decide +kernel
theorem dX2_safe_32 : decode cX2_safe 32 = .ok (.ifCond .ne 9, 3) := by decide +kernel
theorem dX2_safe_35 : decode cX2_safe 35 = .ok (.iload_n 1, 1) := by decide +kernel
theorem dX2_safe_36 : decode cX2_safe 36 = .ok (.iconst 1, 1) := by decide +kernel
theorem dX2_safe_37 : decode cX2_safe 37 = .ok (.iload_n 2, 1) := by decide +kernel
theorem dX2_safe_38 : decode cX2_safe 38 = .ok (.ishl, 1) := by decide +kernel
theorem dX2_safe_39 : decode cX2_safe 39 = .ok (.ior, 1) := by decide +kernel
theorem dX2_safe_40 : decode cX2_safe 40 = .ok (.istore_n 1, 1) := by decide +kernel
theorem dX2_safe_41 : decode cX2_safe 41 = .ok (.iinc 2 1, 3) := by decide +kernel
theorem dX2_safe_44 : decode cX2_safe 44 = .ok (.goto (-40), 3) := by decide +kernel
theorem dX2_safe_47 : decode cX2_safe 47 = .ok (.iload_n 1, 1) := by decide +kernel
theorem dX2_safe_48 : decode cX2_safe 48 = .ok (.ireturn, 1) := by decide +kernel
theorem dX2_worstTwo_0 : decode cX2_worstTwo 0 = .ok (.iload_n 1, 1) := by decide +kernel
theorem dX2_worstTwo_1 : decode cX2_worstTwo 1 = .ok (.ifCond .eq 11, 3) := by decide +kernel
theorem dX2_worstTwo_4 : decode cX2_worstTwo 4 = .ok (.iload_n 1, 1) := by decide +kernel
theorem dX2_worstTwo_5 : decode cX2_worstTwo 5 = .ok (.iconst 1, 1) := by decide +kernel
theorem dX2_worstTwo_6 : decode cX2_worstTwo 6 = .ok (.if_icmp .eq 6, 3) := by decide +kernel
theorem dX2_worstTwo_9 : decode cX2_worstTwo 9 = .ok (.ldc 59, 2) := by decide +kernel
theorem dX2_worstTwo_11 : decode cX2_worstTwo 11 = .ok (.ireturn, 1) := by decide +kernel
theorem dX2_worstTwo_12 : decode cX2_worstTwo 12 = .ok (.iconst (-1), 1) := by decide +kernel
theorem dX2_worstTwo_13 : decode cX2_worstTwo 13 = .ok (.istore_n 2, 1) := by decide +kernel
theorem dX2_worstTwo_14 : decode cX2_worstTwo 14 = .ok (.iconst 0, 1) := by decide +kernel
theorem dX2_worstTwo_15 : decode cX2_worstTwo 15 = .ok (.istore_n 3, 1) := by decide +kernel
theorem dX2_worstTwo_16 : decode cX2_worstTwo 16 = .ok (.iconst 0, 1) := by decide +kernel
theorem dX2_worstTwo_17 : decode cX2_worstTwo 17 = .ok (.istore 4, 2) := by decide +kernel
theorem dX2_worstTwo_19 : decode cX2_worstTwo 19 = .ok (.iload 4, 2) := by decide +kernel
theorem dX2_worstTwo_21 : decode cX2_worstTwo 21 = .ok (.aload_n 0, 1) := by decide +kernel
theorem dX2_worstTwo_22 : decode cX2_worstTwo 22 = .ok (.getfield 23, 3) := by decide +kernel
theorem dX2_worstTwo_25 : decode cX2_worstTwo 25 = .ok (.getfield 165, 3) := by decide +kernel
theorem dX2_worstTwo_28 : decode cX2_worstTwo 28 = .ok (.if_icmp .ge 89, 3) := by decide +kernel
theorem dX2_worstTwo_31 : decode cX2_worstTwo 31 = .ok (.iconst 0, 1) := by decide +kernel
theorem dX2_worstTwo_32 : decode cX2_worstTwo 32 = .ok (.istore 5, 2) := by decide +kernel
theorem dX2_worstTwo_34 : decode cX2_worstTwo 34 = .ok (.iload 5, 2) := by decide +kernel
theorem dX2_worstTwo_36 : decode cX2_worstTwo 36 = .ok (.aload_n 0, 1) := by decide +kernel
theorem dX2_worstTwo_37 : decode cX2_worstTwo 37 = .ok (.getfield 23, 3) := by decide +kernel
theorem dX2_worstTwo_40 : decode cX2_worstTwo 40 = .ok (.getfield 165, 3) := by decide +kernel
theorem dX2_worstTwo_43 : decode cX2_worstTwo 43 = .ok (.if_icmp .ge 68, 3) := by decide +kernel
theorem dX2_worstTwo_46 : decode cX2_worstTwo 46 = .ok (.iload 4, 2) := by decide +kernel
theorem dX2_worstTwo_48 : decode cX2_worstTwo 48 = .ok (.iload 5, 2) := by decide +kernel
theorem dX2_worstTwo_50 : decode cX2_worstTwo 50 = .ok (.if_icmp .eq 55, 3) := by decide +kernel
theorem dX2_worstTwo_53 : decode cX2_worstTwo 53 = .ok (.aload_n 0, 1) := by decide +kernel
theorem dX2_worstTwo_54 : decode cX2_worstTwo 54 = .ok (.getfield 23, 3) := by decide +kernel
theorem dX2_worstTwo_57 : decode cX2_worstTwo 57 = .ok (.iload 4, 2) := by decide +kernel
theorem dX2_worstTwo_59 : decode cX2_worstTwo 59 = .ok (.invokevirtual 64, 3) := by decide +kernel
theorem dX2_worstTwo_62 : decode cX2_worstTwo 62 = .ok (.ifCond .eq 43, 3) := by decide +kernel
theorem dX2_worstTwo_65 : decode cX2_worstTwo 65 = .ok (.aload_n 0, 1) := by decide +kernel
theorem dX2_worstTwo_66 : decode cX2_worstTwo 66 = .ok (.getfield 23, 3) := by decide +kernel
theorem dX2_worstTwo_69 : decode cX2_worstTwo 69 = .ok (.iload 5, 2) := by decide +kernel
theorem dX2_worstTwo_71 : decode cX2_worstTwo 71 = .ok (.invokevirtual 64, 3) := by decide +kernel
theorem dX2_worstTwo_74 : decode cX2_worstTwo 74 = .ok (.ifCond .eq 31, 3) := by decide +kernel
theorem dX2_worstTwo_77 : decode cX2_worstTwo 77 = .ok (.aload_n 0, 1) := by decide +kernel
theorem dX2_worstTwo_78 : decode cX2_worstTwo 78 = .ok (.iload 4, 2) := by decide +kernel
theorem dX2_worstTwo_80 : decode cX2_worstTwo 80 = .ok (.iload 5, 2) := by decide +kernel
theorem dX2_worstTwo_82 : decode cX2_worstTwo 82 = .ok (.invokevirtual 162, 3) := by decide +kernel
theorem dX2_worstTwo_85 : decode cX2_worstTwo 85 = .ok (.istore 6, 2) := by decide +kernel
theorem dX2_worstTwo_87 : decode cX2_worstTwo 87 = .ok (.iload 6, 2) := by decide +kernel
theorem dX2_worstTwo_89 : decode cX2_worstTwo 89 = .ok (.iload_n 2, 1) := by decide +kernel
theorem dX2_worstTwo_90 : decode cX2_worstTwo 90 = .ok (.if_icmp .le 15, 3) := by decide +kernel
theorem dX2_worstTwo_93 : decode cX2_worstTwo 93 = .ok (.iload 6, 2) := by decide +kernel
theorem dX2_worstTwo_95 : decode cX2_worstTwo 95 = .ok (.istore_n 2, 1) := by decide +kernel
theorem dX2_worstTwo_96 : decode cX2_worstTwo 96 = .ok (.bipush 10, 2) := by decide +kernel
theorem dX2_worstTwo_98 : decode cX2_worstTwo 98 = .ok (.iload 4, 2) := by decide +kernel
theorem dX2_worstTwo_100 : decode cX2_worstTwo 100 = .ok (.imul, 1) := by decide +kernel
theorem dX2_worstTwo_101 : decode cX2_worstTwo 101 = .ok (.iload 5, 2) := by decide +kernel
theorem dX2_worstTwo_103 : decode cX2_worstTwo 103 = .ok (.iadd, 1) := by decide +kernel
theorem dX2_worstTwo_104 : decode cX2_worstTwo 104 = .ok (.istore_n 3, 1) := by decide +kernel
theorem dX2_worstTwo_105 : decode cX2_worstTwo 105 = .ok (.iinc 5 1, 3) := by decide +kernel
theorem dX2_worstTwo_108 : decode cX2_worstTwo 108 = .ok (.goto (-74), 3) := by decide +kernel
theorem dX2_worstTwo_111 : decode cX2_worstTwo 111 = .ok (.iinc 4 1, 3) := by decide +kernel
theorem dX2_worstTwo_114 : decode cX2_worstTwo 114 = .ok (.goto (-95), 3) := by decide +kernel
theorem dX2_worstTwo_117 : decode cX2_worstTwo 117 = .ok (.iload_n 2, 1) := by decide +kernel
theorem dX2_worstTwo_118 : decode cX2_worstTwo 118 = .ok (.iconst (-1), 1) := by decide +kernel
theorem dX2_worstTwo_119 : decode cX2_worstTwo 119 = .ok (.if_icmp .ne 6, 3) := by decide +kernel
theorem dX2_worstTwo_122 : decode cX2_worstTwo 122 = .ok (.ldc 101, 2) := by decide +kernel
theorem dX2_worstTwo_124 : decode cX2_worstTwo 124 = .ok (.ireturn, 1) := by decide +kernel
theorem dX2_worstTwo_125 : decode cX2_worstTwo 125 = .ok (.iload_n 1, 1) := by decide +kernel
theorem dX2_worstTwo_126 : decode cX2_worstTwo 126 = .ok (.ifCond .ne 7, 3) := by decide +kernel
theorem dX2_worstTwo_129 : decode cX2_worstTwo 129 = .ok (.iload_n 3, 1) := by decide +kernel
theorem dX2_worstTwo_130 : decode cX2_worstTwo 130 = .ok (.goto 4, 3) := by decide +kernel
theorem dX2_worstTwo_133 : decode cX2_worstTwo 133 = .ok (.iload_n 2, 1) := by decide +kernel
theorem dX2_worstTwo_134 : decode cX2_worstTwo 134 = .ok (.ireturn, 1) := by decide +kernel
theorem dX2_calm_0 : decode cX2_calm 0 = .ok (.aload_n 0, 1) := by decide +kernel
theorem dX2_calm_1 : decode cX2_calm 1 = .ok (.invokevirtual 34, 3) := by decide +kernel
theorem dX2_calm_4 : decode cX2_calm 4 = .ok (.astore_n 1, 1) := by decide +kernel
theorem dX2_calm_5 : decode cX2_calm 5 = .ok (.aload_n 1, 1) := by decide +kernel
theorem dX2_calm_6 : decode cX2_calm 6 = .ok (.iconst 0, 1) := by decide +kernel
theorem dX2_calm_7 : decode cX2_calm 7 = .ok (.putfield 168, 3) := by decide +kernel
theorem dX2_calm_10 : decode cX2_calm 10 = .ok (.iconst 0, 1) := by decide +kernel
theorem dX2_calm_11 : decode cX2_calm 11 = .ok (.istore_n 2, 1) := by decide +kernel
theorem dX2_calm_12 : decode cX2_calm 12 = .ok (.iload_n 2, 1) := by decide +kernel
theorem dX2_calm_13 : decode cX2_calm 13 = .ok (.bipush 24, 2) := by decide +kernel
theorem dX2_calm_15 : decode cX2_calm 15 = .ok (.if_icmp .gt 29, 3) := by decide +kernel
theorem dX2_calm_18 : decode cX2_calm 18 = .ok (.aload_n 1, 1) := by decide +kernel
theorem dX2_calm_19 : decode cX2_calm 19 = .ok (.invokevirtual 171, 3) := by decide +kernel
theorem dX2_calm_22 : decode cX2_calm 22 = .ok (.ifCond .ne 5, 3) := by decide +kernel
theorem dX2_calm_25 : decode cX2_calm 25 = .ok (.iload_n 2, 1) := by decide +kernel
theorem dX2_calm_26 : decode cX2_calm 26 = .ok (.ireturn, 1) := by decide +kernel
theorem dX2_calm_27 : decode cX2_calm 27 = .ok (.aload_n 1, 1) := by decide +kernel
theorem dX2_calm_28 : decode cX2_calm 28 = .ok (.iconst 1, 1) := by decide +kernel
theorem dX2_calm_29 : decode cX2_calm 29 = .ok (.invokevirtual 159, 3) := by decide +kernel
theorem dX2_calm_32 : decode cX2_calm 32 = .ok (.ifCond .gt 6, 3) := by decide +kernel
theorem dX2_calm_35 : decode cX2_calm 35 = .ok (.ldc 101, 2) := by decide +kernel
theorem dX2_calm_37 : decode cX2_calm 37 = .ok (.ireturn, 1) := by decide +kernel
theorem dX2_calm_38 : decode cX2_calm 38 = .ok (.iinc 2 1, 3) := by decide +kernel
theorem dX2_calm_41 : decode cX2_calm 41 = .ok (.goto (-29), 3) := by decide +kernel
theorem dX2_calm_44 : decode cX2_calm 44 = .ok (.ldc 101, 2) := by decide +kernel
theorem dX2_calm_46 : decode cX2_calm 46 = .ok (.ireturn, 1) := by decide +kernel
theorem dX2_heir_0 : decode cX2_heir 0 = .ok (.iload_n 1, 1) := by decide +kernel
theorem dX2_heir_1 : decode cX2_heir 1 = .ok (.invokestatic 138, 3) := by decide +kernel
theorem dX2_heir_4 : decode cX2_heir 4 = .ok (.ifCond .ne 6, 3) := by decide +kernel
theorem dX2_heir_7 : decode cX2_heir 7 = .ok (.ldc 59, 2) := by decide +kernel
theorem dX2_heir_9 : decode cX2_heir 9 = .ok (.ireturn, 1) := by decide +kernel
theorem dX2_heir_10 : decode cX2_heir 10 = .ok (.aload_n 0, 1) := by decide +kernel
theorem dX2_heir_11 : decode cX2_heir 11 = .ok (.getfield 23, 3) := by decide +kernel
theorem dX2_heir_14 : decode cX2_heir 14 = .ok (.getfield 144, 3) := by decide +kernel
theorem dX2_heir_17 : decode cX2_heir 17 = .ok (.iload_n 1, 1) := by decide +kernel
theorem dX2_heir_18 : decode cX2_heir 18 = .ok (.iaload, 1) := by decide +kernel
theorem dX2_heir_19 : decode cX2_heir 19 = .ok (.iconst (-1), 1) := by decide +kernel
theorem dX2_heir_20 : decode cX2_heir 20 = .ok (.if_icmp .eq 6, 3) := by decide +kernel
theorem dX2_heir_23 : decode cX2_heir 23 = .ok (.ldc 94, 2) := by decide +kernel
theorem dX2_heir_25 : decode cX2_heir 25 = .ok (.ireturn, 1) := by decide +kernel
theorem dX2_heir_26 : decode cX2_heir 26 = .ok (.ldc 101, 2) := by decide +kernel
theorem dX2_heir_28 : decode cX2_heir 28 = .ok (.istore_n 2, 1) := by decide +kernel
theorem dX2_heir_29 : decode cX2_heir 29 = .ok (.bipush 7, 2) := by decide +kernel
theorem dX2_heir_31 : decode cX2_heir 31 = .ok (.istore_n 3, 1) := by decide +kernel
theorem dX2_heir_32 : decode cX2_heir 32 = .ok (.iconst 0, 1) := by decide +kernel
theorem dX2_heir_33 : decode cX2_heir 33 = .ok (.istore 4, 2) := by decide +kernel
theorem dX2_heir_35 : decode cX2_heir 35 = .ok (.iload 4, 2) := by decide +kernel
theorem dX2_heir_37 : decode cX2_heir 37 = .ok (.aload_n 0, 1) := by decide +kernel
theorem dX2_heir_38 : decode cX2_heir 38 = .ok (.getfield 23, 3) := by decide +kernel
theorem dX2_heir_41 : decode cX2_heir 41 = .ok (.getfield 165, 3) := by decide +kernel
theorem dX2_heir_44 : decode cX2_heir 44 = .ok (.if_icmp .ge 61, 3) := by decide +kernel
theorem dX2_heir_47 : decode cX2_heir 47 = .ok (.aload_n 0, 1) := by decide +kernel
theorem dX2_heir_48 : decode cX2_heir 48 = .ok (.getfield 23, 3) := by decide +kernel
theorem dX2_heir_51 : decode cX2_heir 51 = .ok (.getfield 60, 3) := by decide +kernel
theorem dX2_heir_54 : decode cX2_heir 54 = .ok (.iload 4, 2) := by decide +kernel
theorem dX2_heir_56 : decode cX2_heir 56 = .ok (.iaload, 1) := by decide +kernel
theorem dX2_heir_57 : decode cX2_heir 57 = .ok (.iload_n 1, 1) := by decide +kernel
theorem dX2_heir_58 : decode cX2_heir 58 = .ok (.if_icmp .ne 41, 3) := by decide +kernel
theorem dX2_heir_61 : decode cX2_heir 61 = .ok (.aload_n 0, 1) := by decide +kernel
theorem dX2_heir_62 : decode cX2_heir 62 = .ok (.getfield 23, 3) := by decide +kernel
theorem dX2_heir_65 : decode cX2_heir 65 = .ok (.iload 4, 2) := by decide +kernel
theorem dX2_heir_67 : decode cX2_heir 67 = .ok (.invokevirtual 70, 3) := by decide +kernel
theorem dX2_heir_70 : decode cX2_heir 70 = .ok (.iload_n 3, 1) := by decide +kernel
theorem dX2_heir_71 : decode cX2_heir 71 = .ok (.if_icmp .ge 28, 3) := by decide +kernel
theorem dX2_heir_74 : decode cX2_heir 74 = .ok (.aload_n 0, 1) := by decide +kernel
theorem dX2_heir_75 : decode cX2_heir 75 = .ok (.invokevirtual 34, 3) := by decide +kernel
theorem dX2_heir_78 : decode cX2_heir 78 = .ok (.iload 4, 2) := by decide +kernel
theorem dX2_heir_80 : decode cX2_heir 80 = .ok (.invokevirtual 120, 3) := by decide +kernel
theorem dX2_heir_83 : decode cX2_heir 83 = .ok (.ifCond .lt 16, 3) := by decide +kernel
theorem dX2_heir_86 : decode cX2_heir 86 = .ok (.iload 4, 2) := by decide +kernel
theorem dX2_heir_88 : decode cX2_heir 88 = .ok (.istore_n 2, 1) := by decide +kernel
theorem dX2_heir_89 : decode cX2_heir 89 = .ok (.aload_n 0, 1) := by decide +kernel
theorem dX2_heir_90 : decode cX2_heir 90 = .ok (.getfield 23, 3) := by decide +kernel
theorem dX2_heir_93 : decode cX2_heir 93 = .ok (.iload 4, 2) := by decide +kernel
theorem dX2_heir_95 : decode cX2_heir 95 = .ok (.invokevirtual 70, 3) := by decide +kernel
theorem dX2_heir_98 : decode cX2_heir 98 = .ok (.istore_n 3, 1) := by decide +kernel
theorem dX2_heir_99 : decode cX2_heir 99 = .ok (.iinc 4 1, 3) := by decide +kernel
theorem dX2_heir_102 : decode cX2_heir 102 = .ok (.goto (-67), 3) := by decide +kernel
theorem dX2_heir_105 : decode cX2_heir 105 = .ok (.iload_n 2, 1) := by decide +kernel
theorem dX2_heir_106 : decode cX2_heir 106 = .ok (.ireturn, 1) := by decide +kernel
theorem dX2_count_0 : decode cX2_count 0 = .ok (.iload_n 1, 1) := by decide +kernel
theorem dX2_count_1 : decode cX2_count 1 = .ok (.tableswitch 175 0 11 #[63, 71, 82, 90, 98, 106, 130, 138, 146, 154, 162, 167], 63) := by decide +kernel
theorem dX2_count_64 : decode cX2_count 64 = .ok (.aload_n 0, 1) := by decide +kernel
theorem dX2_count_65 : decode cX2_count 65 = .ok (.getfield 23, 3) := by decide +kernel
theorem dX2_count_68 : decode cX2_count 68 = .ok (.getfield 165, 3) := by decide +kernel
theorem dX2_count_71 : decode cX2_count 71 = .ok (.ireturn, 1) := by decide +kernel
theorem dX2_count_72 : decode cX2_count 72 = .ok (.aload_n 0, 1) := by decide +kernel
theorem dX2_count_73 : decode cX2_count 73 = .ok (.getfield 23, 3) := by decide +kernel
theorem dX2_count_76 : decode cX2_count 76 = .ok (.getfield 175, 3) := by decide +kernel
theorem dX2_count_79 : decode cX2_count 79 = .ok (.invokestatic 76, 3) := by decide +kernel
theorem dX2_count_82 : decode cX2_count 82 = .ok (.ireturn, 1) := by decide +kernel
theorem dX2_count_83 : decode cX2_count 83 = .ok (.aload_n 0, 1) := by decide +kernel
theorem dX2_count_84 : decode cX2_count 84 = .ok (.getfield 23, 3) := by decide +kernel
theorem dX2_count_87 : decode cX2_count 87 = .ok (.getfield 178, 3) := by decide +kernel
theorem dX2_count_90 : decode cX2_count 90 = .ok (.ireturn, 1) := by decide +kernel
theorem dX2_count_91 : decode cX2_count 91 = .ok (.aload_n 0, 1) := by decide +kernel
theorem dX2_count_92 : decode cX2_count 92 = .ok (.getfield 23, 3) := by decide +kernel
theorem dX2_count_95 : decode cX2_count 95 = .ok (.invokevirtual 181, 3) := by decide +kernel
theorem dX2_count_98 : decode cX2_count 98 = .ok (.ireturn, 1) := by decide +kernel
theorem dX2_count_99 : decode cX2_count 99 = .ok (.aload_n 0, 1) := by decide +kernel
theorem dX2_count_100 : decode cX2_count 100 = .ok (.getfield 23, 3) := by decide +kernel
theorem dX2_count_103 : decode cX2_count 103 = .ok (.invokevirtual 171, 3) := by decide +kernel
theorem dX2_count_106 : decode cX2_count 106 = .ok (.ireturn, 1) := by decide +kernel
theorem dX2_count_107 : decode cX2_count 107 = .ok (.aload_n 0, 1) := by decide +kernel
theorem dX2_count_108 : decode cX2_count 108 = .ok (.getfield 23, 3) := by decide +kernel
theorem dX2_count_111 : decode cX2_count 111 = .ok (.getfield 178, 3) := by decide +kernel
theorem dX2_count_114 : decode cX2_count 114 = .ok (.aload_n 0, 1) := by decide +kernel
theorem dX2_count_115 : decode cX2_count 115 = .ok (.getfield 23, 3) := by decide +kernel
theorem dX2_count_118 : decode cX2_count 118 = .ok (.invokevirtual 181, 3) := by decide +kernel
theorem dX2_count_121 : decode cX2_count 121 = .ok (.isub, 1) := by decide +kernel
theorem dX2_count_122 : decode cX2_count 122 = .ok (.aload_n 0, 1) := by decide +kernel
theorem dX2_count_123 : decode cX2_count 123 = .ok (.getfield 23, 3) := by decide +kernel
theorem dX2_count_126 : decode cX2_count 126 = .ok (.invokevirtual 171, 3) := by decide +kernel
theorem dX2_count_129 : decode cX2_count 129 = .ok (.isub, 1) := by decide +kernel
theorem dX2_count_130 : decode cX2_count 130 = .ok (.ireturn, 1) := by decide +kernel
theorem dX2_count_131 : decode cX2_count 131 = .ok (.aload_n 0, 1) := by decide +kernel
theorem dX2_count_132 : decode cX2_count 132 = .ok (.getfield 23, 3) := by decide +kernel
theorem dX2_count_135 : decode cX2_count 135 = .ok (.getfield 168, 3) := by decide +kernel
theorem dX2_count_138 : decode cX2_count 138 = .ok (.ireturn, 1) := by decide +kernel
theorem dX2_count_139 : decode cX2_count 139 = .ok (.aload_n 0, 1) := by decide +kernel
theorem dX2_count_140 : decode cX2_count 140 = .ok (.getfield 23, 3) := by decide +kernel
theorem dX2_count_143 : decode cX2_count 143 = .ok (.getfield 184, 3) := by decide +kernel
theorem dX2_count_146 : decode cX2_count 146 = .ok (.ireturn, 1) := by decide +kernel
theorem dX2_count_147 : decode cX2_count 147 = .ok (.aload_n 0, 1) := by decide +kernel
theorem dX2_count_148 : decode cX2_count 148 = .ok (.getfield 23, 3) := by decide +kernel
theorem dX2_count_151 : decode cX2_count 151 = .ok (.invokevirtual 187, 3) := by decide +kernel
theorem dX2_count_154 : decode cX2_count 154 = .ok (.ireturn, 1) := by decide +kernel
theorem dX2_count_155 : decode cX2_count 155 = .ok (.aload_n 0, 1) := by decide +kernel
theorem dX2_count_156 : decode cX2_count 156 = .ok (.getfield 23, 3) := by decide +kernel
theorem dX2_count_159 : decode cX2_count 159 = .ok (.invokevirtual 190, 3) := by decide +kernel
theorem dX2_count_162 : decode cX2_count 162 = .ok (.ireturn, 1) := by decide +kernel
theorem dX2_count_163 : decode cX2_count 163 = .ok (.aload_n 0, 1) := by decide +kernel
theorem dX2_count_164 : decode cX2_count 164 = .ok (.getfield 30, 3) := by decide +kernel
theorem dX2_count_167 : decode cX2_count 167 = .ok (.ireturn, 1) := by decide +kernel
theorem dX2_count_168 : decode cX2_count 168 = .ok (.aload_n 0, 1) := by decide +kernel
theorem dX2_count_169 : decode cX2_count 169 = .ok (.getfield 19, 3) := by decide +kernel
theorem dX2_count_172 : decode cX2_count 172 = .ok (.getfield 193, 3) := by decide +kernel
theorem dX2_count_175 : decode cX2_count 175 = .ok (.ireturn, 1) := by decide +kernel
theorem dX2_count_176 : decode cX2_count 176 = .ok (.ldc 59, 2) := by decide +kernel
theorem dX2_count_178 : decode cX2_count 178 = .ok (.ireturn, 1) := by decide +kernel
theorem dX2_undo_0 : decode cX2_undo 0 = .ok (.aload_n 0, 1) := by decide +kernel
theorem dX2_undo_1 : decode cX2_undo 1 = .ok (.getfield 30, 3) := by decide +kernel
theorem dX2_undo_4 : decode cX2_undo 4 = .ok (.ifCond .gt 6, 3) := by decide +kernel
theorem dX2_undo_7 : decode cX2_undo 7 = .ok (.ldc 94, 2) := by decide +kernel
theorem dX2_undo_9 : decode cX2_undo 9 = .ok (.ireturn, 1) := by decide +kernel
theorem dX2_undo_10 : decode cX2_undo 10 = .ok (.aload_n 0, 1) := by decide +kernel
theorem dX2_undo_11 : decode cX2_undo 11 = .ok (.dup, 1) := by decide +kernel
theorem dX2_undo_12 : decode cX2_undo 12 = .ok (.getfield 30, 3) := by decide +kernel
theorem dX2_undo_15 : decode cX2_undo 15 = .ok (.iconst 1, 1) := by decide +kernel
theorem dX2_undo_16 : decode cX2_undo 16 = .ok (.isub, 1) := by decide +kernel
theorem dX2_undo_17 : decode cX2_undo 17 = .ok (.putfield 30, 3) := by decide +kernel
theorem dX2_undo_20 : decode cX2_undo 20 = .ok (.aload_n 0, 1) := by decide +kernel
theorem dX2_undo_21 : decode cX2_undo 21 = .ok (.getfield 23, 3) := by decide +kernel
theorem dX2_undo_24 : decode cX2_undo 24 = .ok (.aload_n 0, 1) := by decide +kernel
theorem dX2_undo_25 : decode cX2_undo 25 = .ok (.getfield 11, 3) := by decide +kernel
theorem dX2_undo_28 : decode cX2_undo 28 = .ok (.aload_n 0, 1) := by decide +kernel
theorem dX2_undo_29 : decode cX2_undo 29 = .ok (.getfield 30, 3) := by decide +kernel
theorem dX2_undo_32 : decode cX2_undo 32 = .ok (.aaload, 1) := by decide +kernel
theorem dX2_undo_33 : decode cX2_undo 33 = .ok (.invokevirtual 196, 3) := by decide +kernel
theorem dX2_undo_36 : decode cX2_undo 36 = .ok (.aload_n 0, 1) := by decide +kernel
theorem dX2_undo_37 : decode cX2_undo 37 = .ok (.getfield 30, 3) := by decide +kernel
theorem dX2_undo_40 : decode cX2_undo 40 = .ok (.ireturn, 1) := by decide +kernel
theorem dX2_type_0 : decode cX2_type 0 = .ok (.iload_n 1, 1) := by decide +kernel
theorem dX2_type_1 : decode cX2_type 1 = .ok (.bipush 32, 2) := by decide +kernel
theorem dX2_type_3 : decode cX2_type 3 = .ok (.if_icmp .lt 9, 3) := by decide +kernel
theorem dX2_type_6 : decode cX2_type 6 = .ok (.iload_n 1, 1) := by decide +kernel
theorem dX2_type_7 : decode cX2_type 7 = .ok (.bipush 126, 2) := by decide +kernel
theorem dX2_type_9 : decode cX2_type 9 = .ok (.if_icmp .le 6, 3) := by decide +kernel
theorem dX2_type_12 : decode cX2_type 12 = .ok (.ldc 59, 2) := by decide +kernel
theorem dX2_type_14 : decode cX2_type 14 = .ok (.ireturn, 1) := by decide +kernel
theorem dX2_type_15 : decode cX2_type 15 = .ok (.aload_n 0, 1) := by decide +kernel
theorem dX2_type_16 : decode cX2_type 16 = .ok (.getfield 19, 3) := by decide +kernel
theorem dX2_type_19 : decode cX2_type 19 = .ok (.getfield 193, 3) := by decide +kernel
theorem dX2_type_22 : decode cX2_type 22 = .ok (.bipush 60, 2) := by decide +kernel
theorem dX2_type_24 : decode cX2_type 24 = .ok (.if_icmp .lt 6, 3) := by decide +kernel
theorem dX2_type_27 : decode cX2_type 27 = .ok (.ldc 200, 2) := by decide +kernel
theorem dX2_type_29 : decode cX2_type 29 = .ok (.ireturn, 1) := by decide +kernel
theorem dX2_type_30 : decode cX2_type 30 = .ok (.aload_n 0, 1) := by decide +kernel
theorem dX2_type_31 : decode cX2_type 31 = .ok (.getfield 19, 3) := by decide +kernel
theorem dX2_type_34 : decode cX2_type 34 = .ok (.getfield 201, 3) := by decide +kernel
theorem dX2_type_37 : decode cX2_type 37 = .ok (.aload_n 0, 1) := by decide +kernel
theorem dX2_type_38 : decode cX2_type 38 = .ok (.getfield 19, 3) := by decide +kernel
theorem dX2_type_41 : decode cX2_type 41 = .ok (.getfield 193, 3) := by decide +kernel
theorem dX2_type_44 : decode cX2_type 44 = .ok (.iload_n 1, 1) := by decide +kernel
theorem dX2_type_45 : decode cX2_type 45 = .ok (.i2c, 1) := by decide +kernel
theorem dX2_type_46 : decode cX2_type 46 = .ok (.castore, 1) := by decide +kernel
theorem dX2_type_47 : decode cX2_type 47 = .ok (.aload_n 0, 1) := by decide +kernel
theorem dX2_type_48 : decode cX2_type 48 = .ok (.getfield 19, 3) := by decide +kernel
theorem dX2_type_51 : decode cX2_type 51 = .ok (.dup, 1) := by decide +kernel
theorem dX2_type_52 : decode cX2_type 52 = .ok (.getfield 193, 3) := by decide +kernel
theorem dX2_type_55 : decode cX2_type 55 = .ok (.iconst 1, 1) := by decide +kernel
theorem dX2_type_56 : decode cX2_type 56 = .ok (.iadd, 1) := by decide +kernel
theorem dX2_type_57 : decode cX2_type 57 = .ok (.putfield 193, 3) := by decide +kernel
theorem dX2_type_60 : decode cX2_type 60 = .ok (.aload_n 0, 1) := by decide +kernel
theorem dX2_type_61 : decode cX2_type 61 = .ok (.getfield 19, 3) := by decide +kernel
theorem dX2_type_64 : decode cX2_type 64 = .ok (.getfield 193, 3) := by decide +kernel
theorem dX2_type_67 : decode cX2_type 67 = .ok (.ireturn, 1) := by decide +kernel
theorem dX2_clearText_0 : decode cX2_clearText 0 = .ok (.aload_n 0, 1) := by decide +kernel
theorem dX2_clearText_1 : decode cX2_clearText 1 = .ok (.getfield 19, 3) := by decide +kernel
theorem dX2_clearText_4 : decode cX2_clearText 4 = .ok (.getfield 193, 3) := by decide +kernel
theorem dX2_clearText_7 : decode cX2_clearText 7 = .ok (.istore_n 1, 1) := by decide +kernel
theorem dX2_clearText_8 : decode cX2_clearText 8 = .ok (.aload_n 0, 1) := by decide +kernel
theorem dX2_clearText_9 : decode cX2_clearText 9 = .ok (.getfield 19, 3) := by decide +kernel
theorem dX2_clearText_12 : decode cX2_clearText 12 = .ok (.iconst 0, 1) := by decide +kernel
theorem dX2_clearText_13 : decode cX2_clearText 13 = .ok (.putfield 193, 3) := by decide +kernel
theorem dX2_clearText_16 : decode cX2_clearText 16 = .ok (.iload_n 1, 1) := by decide +kernel
theorem dX2_clearText_17 : decode cX2_clearText 17 = .ok (.ireturn, 1) := by decide +kernel
theorem dX2_fault_0 : decode cX2_fault 0 = .ok (.iload_n 1, 1) := by decide +kernel
theorem dX2_fault_1 : decode cX2_fault 1 = .ok (.ifCond .eq 11, 3) := by decide +kernel
theorem dX2_fault_4 : decode cX2_fault 4 = .ok (.iload_n 1, 1) := by decide +kernel
theorem dX2_fault_5 : decode cX2_fault 5 = .ok (.iconst 1, 1) := by decide +kernel
theorem dX2_fault_6 : decode cX2_fault 6 = .ok (.if_icmp .eq 6, 3) := by decide +kernel
theorem dX2_fault_9 : decode cX2_fault 9 = .ok (.ldc 59, 2) := by decide +kernel
theorem dX2_fault_11 : decode cX2_fault 11 = .ok (.ireturn, 1) := by decide +kernel
theorem dX2_fault_12 : decode cX2_fault 12 = .ok (.aload_n 0, 1) := by decide +kernel
theorem dX2_fault_13 : decode cX2_fault 13 = .ok (.getfield 19, 3) := by decide +kernel
theorem dX2_fault_16 : decode cX2_fault 16 = .ok (.aload_n 0, 1) := by decide +kernel
theorem dX2_fault_17 : decode cX2_fault 17 = .ok (.invokevirtual 34, 3) := by decide +kernel
theorem dX2_fault_20 : decode cX2_fault 20 = .ok (.invokevirtual 205, 3) := by decide +kernel
theorem dX2_fault_23 : decode cX2_fault 23 = .ok (.pop, 1) := by decide +kernel
theorem dX2_fault_24 : decode cX2_fault 24 = .ok (.aload_n 0, 1) := by decide +kernel
theorem dX2_fault_25 : decode cX2_fault 25 = .ok (.getfield 19, 3) := by decide +kernel
theorem dX2_fault_28 : decode cX2_fault 28 = .ok (.getfield 209, 3) := by decide +kernel
theorem dX2_fault_31 : decode cX2_fault 31 = .ok (.ifCond .ne 6, 3) := by decide +kernel
theorem dX2_fault_34 : decode cX2_fault 34 = .ok (.ldc 101, 2) := by decide +kernel
theorem dX2_fault_36 : decode cX2_fault 36 = .ok (.ireturn, 1) := by decide +kernel
theorem dX2_fault_37 : decode cX2_fault 37 = .ok (.iload_n 1, 1) := by decide +kernel
theorem dX2_fault_38 : decode cX2_fault 38 = .ok (.ifCond .ne 13, 3) := by decide +kernel
theorem dX2_fault_41 : decode cX2_fault 41 = .ok (.aload_n 0, 1) := by decide +kernel
theorem dX2_fault_42 : decode cX2_fault 42 = .ok (.getfield 19, 3) := by decide +kernel
theorem dX2_fault_45 : decode cX2_fault 45 = .ok (.getfield 212, 3) := by decide +kernel
theorem dX2_fault_48 : decode cX2_fault 48 = .ok (.goto 10, 3) := by decide +kernel
theorem dX2_fault_51 : decode cX2_fault 51 = .ok (.aload_n 0, 1) := by decide +kernel
theorem dX2_fault_52 : decode cX2_fault 52 = .ok (.getfield 19, 3) := by decide +kernel
theorem dX2_fault_55 : decode cX2_fault 55 = .ok (.getfield 209, 3) := by decide +kernel
theorem dX2_fault_58 : decode cX2_fault 58 = .ok (.ireturn, 1) := by decide +kernel
theorem dX2_play_0 : decode cX2_play 0 = .ok (.aload_n 0, 1) := by decide +kernel
theorem dX2_play_1 : decode cX2_play 1 = .ok (.getfield 19, 3) := by decide +kernel
theorem dX2_play_4 : decode cX2_play 4 = .ok (.aload_n 0, 1) := by decide +kernel
theorem dX2_play_5 : decode cX2_play 5 = .ok (.invokevirtual 34, 3) := by decide +kernel
theorem dX2_play_8 : decode cX2_play 8 = .ok (.invokevirtual 205, 3) := by decide +kernel
theorem dX2_play_11 : decode cX2_play 11 = .ok (.istore_n 1, 1) := by decide +kernel
theorem dX2_play_12 : decode cX2_play 12 = .ok (.aload_n 0, 1) := by decide +kernel
theorem dX2_play_13 : decode cX2_play 13 = .ok (.aload_n 0, 1) := by decide +kernel
theorem dX2_play_14 : decode cX2_play 14 = .ok (.getfield 19, 3) := by decide +kernel
theorem dX2_play_17 : decode cX2_play 17 = .ok (.getfield 209, 3) := by decide +kernel
theorem dX2_play_20 : decode cX2_play 20 = .ok (.ifCond .ne 7, 3) := by decide +kernel
theorem dX2_play_23 : decode cX2_play 23 = .ok (.iload_n 1, 1) := by decide +kernel
theorem dX2_play_24 : decode cX2_play 24 = .ok (.goto 5, 3) := by decide +kernel
theorem dX2_play_27 : decode cX2_play 27 = .ok (.ldc 94, 2) := by decide +kernel
theorem dX2_play_29 : decode cX2_play 29 = .ok (.invokevirtual 42, 3) := by decide +kernel
theorem dX2_play_32 : decode cX2_play 32 = .ok (.ireturn, 1) := by decide +kernel
theorem dX2_isFamily_0 : decode cX2_isFamily 0 = .ok (.iload_n 0, 1) := by decide +kernel
theorem dX2_isFamily_1 : decode cX2_isFamily 1 = .ok (.ifCond .lt 12, 3) := by decide +kernel
theorem dX2_isFamily_4 : decode cX2_isFamily 4 = .ok (.iload_n 0, 1) := by decide +kernel
theorem dX2_isFamily_5 : decode cX2_isFamily 5 = .ok (.iconst 3, 1) := by decide +kernel
theorem dX2_isFamily_6 : decode cX2_isFamily 6 = .ok (.if_icmp .ge 7, 3) := by decide +kernel
theorem dX2_isFamily_9 : decode cX2_isFamily 9 = .ok (.iconst 1, 1) := by decide +kernel
theorem dX2_isFamily_10 : decode cX2_isFamily 10 = .ok (.goto 4, 3) := by decide +kernel
theorem dX2_isFamily_13 : decode cX2_isFamily 13 = .ok (.iconst 0, 1) := by decide +kernel
theorem dX2_isFamily_14 : decode cX2_isFamily 14 = .ok (.ireturn, 1) := by decide +kernel
theorem dX2_isRow_0 : decode cX2_isRow 0 = .ok (.iload_n 0, 1) := by decide +kernel
theorem dX2_isRow_1 : decode cX2_isRow 1 = .ok (.ifCond .lt 13, 3) := by decide +kernel
theorem dX2_isRow_4 : decode cX2_isRow 4 = .ok (.iload_n 0, 1) := by decide +kernel
theorem dX2_isRow_5 : decode cX2_isRow 5 = .ok (.bipush 6, 2) := by decide +kernel
theorem dX2_isRow_7 : decode cX2_isRow 7 = .ok (.if_icmp .ge 7, 3) := by decide +kernel
theorem dX2_isRow_10 : decode cX2_isRow 10 = .ok (.iconst 1, 1) := by decide +kernel
theorem dX2_isRow_11 : decode cX2_isRow 11 = .ok (.goto 4, 3) := by decide +kernel
theorem dX2_isRow_14 : decode cX2_isRow 14 = .ok (.iconst 0, 1) := by decide +kernel
theorem dX2_isRow_15 : decode cX2_isRow 15 = .ok (.ireturn, 1) := by decide +kernel
theorem dX2_isValue_0 : decode cX2_isValue 0 = .ok (.iload_n 0, 1) := by decide +kernel
theorem dX2_isValue_1 : decode cX2_isValue 1 = .ok (.ifCond .lt 14, 3) := by decide +kernel
theorem dX2_isValue_4 : decode cX2_isValue 4 = .ok (.iload_n 0, 1) := by decide +kernel
theorem dX2_isValue_5 : decode cX2_isValue 5 = .ok (.sipush 255, 3) := by decide +kernel
theorem dX2_isValue_8 : decode cX2_isValue 8 = .ok (.if_icmp .gt 7, 3) := by decide +kernel
theorem dX2_isValue_11 : decode cX2_isValue 11 = .ok (.iconst 1, 1) := by decide +kernel
theorem dX2_isValue_12 : decode cX2_isValue 12 = .ok (.goto 4, 3) := by decide +kernel
theorem dX2_isValue_15 : decode cX2_isValue 15 = .ok (.iconst 0, 1) := by decide +kernel
theorem dX2_isValue_16 : decode cX2_isValue 16 = .ok (.ireturn, 1) := by decide +kernel
theorem dX2_freshTrial_0 : decode cX2_freshTrial 0 = .ok (.aload_n 0, 1) := by decide +kernel
theorem dX2_freshTrial_1 : decode cX2_freshTrial 1 = .ok (.getfield 27, 3) := by decide +kernel
theorem dX2_freshTrial_4 : decode cX2_freshTrial 4 = .ok (.aload_n 0, 1) := by decide +kernel
theorem dX2_freshTrial_5 : decode cX2_freshTrial 5 = .ok (.getfield 23, 3) := by decide +kernel
theorem dX2_freshTrial_8 : decode cX2_freshTrial 8 = .ok (.invokevirtual 196, 3) := by decide +kernel
theorem dX2_freshTrial_11 : decode cX2_freshTrial 11 = .ok (.aload_n 0, 1) := by decide +kernel
theorem dX2_freshTrial_12 : decode cX2_freshTrial 12 = .ok (.getfield 27, 3) := by decide +kernel
theorem dX2_freshTrial_15 : decode cX2_freshTrial 15 = .ok (.areturn, 1) := by decide +kernel
theorem dX2_settle_0 : decode cX2_settle 0 = .ok (.iload_n 1, 1) := by decide +kernel
theorem dX2_settle_1 : decode cX2_settle 1 = .ok (.ifCond .ge 5, 3) := by decide +kernel
theorem dX2_settle_4 : decode cX2_settle 4 = .ok (.iload_n 1, 1) := by decide +kernel
theorem dX2_settle_5 : decode cX2_settle 5 = .ok (.ireturn, 1) := by decide +kernel
theorem dX2_settle_6 : decode cX2_settle 6 = .ok (.aload_n 0, 1) := by decide +kernel
theorem dX2_settle_7 : decode cX2_settle 7 = .ok (.invokevirtual 215, 3) := by decide +kernel
theorem dX2_settle_10 : decode cX2_settle 10 = .ok (.aload_n 0, 1) := by decide +kernel
theorem dX2_settle_11 : decode cX2_settle 11 = .ok (.getfield 23, 3) := by decide +kernel
theorem dX2_settle_14 : decode cX2_settle 14 = .ok (.astore_n 2, 1) := by decide +kernel
theorem dX2_settle_15 : decode cX2_settle 15 = .ok (.aload_n 0, 1) := by decide +kernel
theorem dX2_settle_16 : decode cX2_settle 16 = .ok (.aload_n 0, 1) := by decide +kernel
theorem dX2_settle_17 : decode cX2_settle 17 = .ok (.getfield 27, 3) := by decide +kernel
theorem dX2_settle_20 : decode cX2_settle 20 = .ok (.putfield 23, 3) := by decide +kernel
theorem dX2_settle_23 : decode cX2_settle 23 = .ok (.aload_n 0, 1) := by decide +kernel
theorem dX2_settle_24 : decode cX2_settle 24 = .ok (.aload_n 2, 1) := by decide +kernel
theorem dX2_settle_25 : decode cX2_settle 25 = .ok (.putfield 27, 3) := by decide +kernel
theorem dX2_settle_28 : decode cX2_settle 28 = .ok (.iload_n 1, 1) := by decide +kernel
theorem dX2_settle_29 : decode cX2_settle 29 = .ok (.ireturn, 1) := by decide +kernel
theorem dX2_remember_0 : decode cX2_remember 0 = .ok (.aload_n 0, 1) := by decide +kernel
theorem dX2_remember_1 : decode cX2_remember 1 = .ok (.getfield 30, 3) := by decide +kernel
theorem dX2_remember_4 : decode cX2_remember 4 = .ok (.iconst 4, 1) := by decide +kernel
theorem dX2_remember_5 : decode cX2_remember 5 = .ok (.if_icmp .ne 54, 3) := by decide +kernel
theorem dX2_remember_8 : decode cX2_remember 8 = .ok (.aload_n 0, 1) := by decide +kernel
theorem dX2_remember_9 : decode cX2_remember 9 = .ok (.getfield 11, 3) := by decide +kernel
theorem dX2_remember_12 : decode cX2_remember 12 = .ok (.iconst 0, 1) := by decide +kernel
theorem dX2_remember_13 : decode cX2_remember 13 = .ok (.aaload, 1) := by decide +kernel
theorem dX2_remember_14 : decode cX2_remember 14 = .ok (.astore_n 1, 1) := by decide +kernel
theorem dX2_remember_15 : decode cX2_remember 15 = .ok (.iconst 1, 1) := by decide +kernel
theorem dX2_remember_16 : decode cX2_remember 16 = .ok (.istore_n 2, 1) := by decide +kernel
theorem dX2_remember_17 : decode cX2_remember 17 = .ok (.iload_n 2, 1) := by decide +kernel
theorem dX2_remember_18 : decode cX2_remember 18 = .ok (.iconst 4, 1) := by decide +kernel
theorem dX2_remember_19 : decode cX2_remember 19 = .ok (.if_icmp .ge 23, 3) := by decide +kernel
theorem dX2_remember_22 : decode cX2_remember 22 = .ok (.aload_n 0, 1) := by decide +kernel
theorem dX2_remember_23 : decode cX2_remember 23 = .ok (.getfield 11, 3) := by decide +kernel
theorem dX2_remember_26 : decode cX2_remember 26 = .ok (.iload_n 2, 1) := by decide +kernel
theorem dX2_remember_27 : decode cX2_remember 27 = .ok (.iconst 1, 1) := by decide +kernel
theorem dX2_remember_28 : decode cX2_remember 28 = .ok (.isub, 1) := by decide +kernel
theorem dX2_remember_29 : decode cX2_remember 29 = .ok (.aload_n 0, 1) := by decide +kernel
theorem dX2_remember_30 : decode cX2_remember 30 = .ok (.getfield 11, 3) := by decide +kernel
theorem dX2_remember_33 : decode cX2_remember 33 = .ok (.iload_n 2, 1) := by decide +kernel
theorem dX2_remember_34 : decode cX2_remember 34 = .ok (.aaload, 1) := by decide +kernel
theorem dX2_remember_35 : decode cX2_remember 35 = .ok (.aastore, 1) := by decide +kernel
theorem dX2_remember_36 : decode cX2_remember 36 = .ok (.iinc 2 1, 3) := by decide +kernel
theorem dX2_remember_39 : decode cX2_remember 39 = .ok (.goto (-22), 3) := by decide +kernel
theorem dX2_remember_42 : decode cX2_remember 42 = .ok (.aload_n 0, 1) := by decide +kernel
theorem dX2_remember_43 : decode cX2_remember 43 = .ok (.getfield 11, 3) := by decide +kernel
theorem dX2_remember_46 : decode cX2_remember 46 = .ok (.iconst 3, 1) := by decide +kernel
theorem dX2_remember_47 : decode cX2_remember 47 = .ok (.aload_n 1, 1) := by decide +kernel
theorem dX2_remember_48 : decode cX2_remember 48 = .ok (.aastore, 1) := by decide +kernel
theorem dX2_remember_49 : decode cX2_remember 49 = .ok (.aload_n 0, 1) := by decide +kernel
theorem dX2_remember_50 : decode cX2_remember 50 = .ok (.dup, 1) := by decide +kernel
theorem dX2_remember_51 : decode cX2_remember 51 = .ok (.getfield 30, 3) := by decide +kernel
theorem dX2_remember_54 : decode cX2_remember 54 = .ok (.iconst 1, 1) := by decide +kernel
theorem dX2_remember_55 : decode cX2_remember 55 = .ok (.isub, 1) := by decide +kernel
theorem dX2_remember_56 : decode cX2_remember 56 = .ok (.putfield 30, 3) := by decide +kernel
theorem dX2_remember_59 : decode cX2_remember 59 = .ok (.aload_n 0, 1) := by decide +kernel
theorem dX2_remember_60 : decode cX2_remember 60 = .ok (.getfield 11, 3) := by decide +kernel
theorem dX2_remember_63 : decode cX2_remember 63 = .ok (.aload_n 0, 1) := by decide +kernel
theorem dX2_remember_64 : decode cX2_remember 64 = .ok (.getfield 30, 3) := by decide +kernel
theorem dX2_remember_67 : decode cX2_remember 67 = .ok (.aaload, 1) := by decide +kernel
theorem dX2_remember_68 : decode cX2_remember 68 = .ok (.aload_n 0, 1) := by decide +kernel
theorem dX2_remember_69 : decode cX2_remember 69 = .ok (.getfield 23, 3) := by decide +kernel
theorem dX2_remember_72 : decode cX2_remember 72 = .ok (.invokevirtual 196, 3) := by decide +kernel
theorem dX2_remember_75 : decode cX2_remember 75 = .ok (.aload_n 0, 1) := by decide +kernel
theorem dX2_remember_76 : decode cX2_remember 76 = .ok (.dup, 1) := by decide +kernel
theorem dX2_remember_77 : decode cX2_remember 77 = .ok (.getfield 30, 3) := by decide +kernel
theorem dX2_remember_80 : decode cX2_remember 80 = .ok (.iconst 1, 1) := by decide +kernel
theorem dX2_remember_81 : decode cX2_remember 81 = .ok (.iadd, 1) := by decide +kernel
theorem dX2_remember_82 : decode cX2_remember 82 = .ok (.putfield 30, 3) := by decide +kernel
theorem dX2_remember_85 : decode cX2_remember 85 = .ok (.return_, 1) := by decide +kernel
theorem dX2_lostBy_0 : decode cX2_lostBy 0 = .ok (.aload_n 0, 1) := by decide +kernel
theorem dX2_lostBy_1 : decode cX2_lostBy 1 = .ok (.invokevirtual 34, 3) := by decide +kernel
theorem dX2_lostBy_4 : decode cX2_lostBy 4 = .ok (.astore_n 3, 1) := by decide +kernel
theorem dX2_lostBy_5 : decode cX2_lostBy 5 = .ok (.aload_n 3, 1) := by decide +kernel
theorem dX2_lostBy_6 : decode cX2_lostBy 6 = .ok (.iload_n 1, 1) := by decide +kernel
theorem dX2_lostBy_7 : decode cX2_lostBy 7 = .ok (.invokevirtual 49, 3) := by decide +kernel
theorem dX2_lostBy_10 : decode cX2_lostBy 10 = .ok (.istore 4, 2) := by decide +kernel
theorem dX2_lostBy_12 : decode cX2_lostBy 12 = .ok (.iload_n 2, 1) := by decide +kernel
theorem dX2_lostBy_13 : decode cX2_lostBy 13 = .ok (.iconst (-1), 1) := by decide +kernel
theorem dX2_lostBy_14 : decode cX2_lostBy 14 = .ok (.if_icmp .ne 8, 3) := by decide +kernel
theorem dX2_lostBy_17 : decode cX2_lostBy 17 = .ok (.iload 4, 2) := by decide +kernel
theorem dX2_lostBy_19 : decode cX2_lostBy 19 = .ok (.goto 11, 3) := by decide +kernel
theorem dX2_lostBy_22 : decode cX2_lostBy 22 = .ok (.iload 4, 2) := by decide +kernel
theorem dX2_lostBy_24 : decode cX2_lostBy 24 = .ok (.aload_n 3, 1) := by decide +kernel
theorem dX2_lostBy_25 : decode cX2_lostBy 25 = .ok (.iload_n 2, 1) := by decide +kernel
theorem dX2_lostBy_26 : decode cX2_lostBy 26 = .ok (.invokevirtual 49, 3) := by decide +kernel
theorem dX2_lostBy_29 : decode cX2_lostBy 29 = .ok (.iadd, 1) := by decide +kernel
theorem dX2_lostBy_30 : decode cX2_lostBy 30 = .ok (.ireturn, 1) := by decide +kernel
end
section
theorem dX3_init_0 : decode cX3_init 0 = .ok (.aload_n 0, 1) := by decide +kernel
theorem dX3_init_1 : decode cX3_init 1 = .ok (.invokespecial 1, 3) := by decide +kernel
theorem dX3_init_4 : decode cX3_init 4 = .ok (.aload_n 0, 1) := by decide +kernel
theorem dX3_init_5 : decode cX3_init 5 = .ok (.sipush 208, 3) := by decide +kernel
theorem dX3_init_8 : decode cX3_init 8 = .ok (.newarray .int, 2) := by decide +kernel
theorem dX3_init_10 : decode cX3_init 10 = .ok (.putfield 7, 3) := by decide +kernel
theorem dX3_init_13 : decode cX3_init 13 = .ok (.aload_n 0, 1) := by decide +kernel
theorem dX3_init_14 : decode cX3_init 14 = .ok (.sipush 832, 3) := by decide +kernel
theorem dX3_init_17 : decode cX3_init 17 = .ok (.newarray .int, 2) := by decide +kernel
theorem dX3_init_19 : decode cX3_init 19 = .ok (.putfield 13, 3) := by decide +kernel
theorem dX3_init_22 : decode cX3_init 22 = .ok (.aload_n 0, 1) := by decide +kernel
theorem dX3_init_23 : decode cX3_init 23 = .ok (.sipush 208, 3) := by decide +kernel
theorem dX3_init_26 : decode cX3_init 26 = .ok (.newarray .int, 2) := by decide +kernel
theorem dX3_init_28 : decode cX3_init 28 = .ok (.putfield 16, 3) := by decide +kernel
theorem dX3_init_31 : decode cX3_init 31 = .ok (.aload_n 0, 1) := by decide +kernel
theorem dX3_init_32 : decode cX3_init 32 = .ok (.sipush 208, 3) := by decide +kernel
theorem dX3_init_35 : decode cX3_init 35 = .ok (.newarray .int, 2) := by decide +kernel
theorem dX3_init_37 : decode cX3_init 37 = .ok (.putfield 19, 3) := by decide +kernel
theorem dX3_init_40 : decode cX3_init 40 = .ok (.aload_n 0, 1) := by decide +kernel
theorem dX3_init_41 : decode cX3_init 41 = .ok (.sipush 208, 3) := by decide +kernel
theorem dX3_init_44 : decode cX3_init 44 = .ok (.newarray .int, 2) := by decide +kernel
theorem dX3_init_46 : decode cX3_init 46 = .ok (.putfield 22, 3) := by decide +kernel
theorem dX3_init_49 : decode cX3_init 49 = .ok (.aload_n 0, 1) := by decide +kernel
theorem dX3_init_50 : decode cX3_init 50 = .ok (.bipush 60, 2) := by decide +kernel
theorem dX3_init_52 : decode cX3_init 52 = .ok (.newarray .char, 2) := by decide +kernel
theorem dX3_init_54 : decode cX3_init 54 = .ok (.putfield 25, 3) := by decide +kernel
theorem dX3_init_57 : decode cX3_init 57 = .ok (.aload_n 0, 1) := by decide +kernel
theorem dX3_init_58 : decode cX3_init 58 = .ok (.iconst 2, 1) := by decide +kernel
theorem dX3_init_59 : decode cX3_init 59 = .ok (.newarray .int, 2) := by decide +kernel
theorem dX3_init_61 : decode cX3_init 61 = .ok (.putfield 29, 3) := by decide +kernel
theorem dX3_init_64 : decode cX3_init 64 = .ok (.iconst 0, 1) := by decide +kernel
theorem dX3_init_65 : decode cX3_init 65 = .ok (.istore_n 1, 1) := by decide +kernel
theorem dX3_init_66 : decode cX3_init 66 = .ok (.iload_n 1, 1) := by decide +kernel
theorem dX3_init_67 : decode cX3_init 67 = .ok (.iconst 3, 1) := by decide +kernel
theorem dX3_init_68 : decode cX3_init 68 = .ok (.if_icmp .ge 18, 3) := by decide +kernel
theorem dX3_init_71 : decode cX3_init 71 = .ok (.aload_n 0, 1) := by decide +kernel
theorem dX3_init_72 : decode cX3_init 72 = .ok (.getfield 7, 3) := by decide +kernel
theorem dX3_init_75 : decode cX3_init 75 = .ok (.iconst 5, 1) := by decide +kernel
theorem dX3_init_76 : decode cX3_init 76 = .ok (.iload_n 1, 1) := by decide +kernel
theorem dX3_init_77 : decode cX3_init 77 = .ok (.iadd, 1) := by decide +kernel
theorem dX3_init_78 : decode cX3_init 78 = .ok (.iconst (-1), 1) := by decide +kernel
theorem dX3_init_79 : decode cX3_init 79 = .ok (.iastore, 1) := by decide +kernel
theorem dX3_init_80 : decode cX3_init 80 = .ok (.iinc 1 1, 3) := by decide +kernel
theorem dX3_init_83 : decode cX3_init 83 = .ok (.goto (-17), 3) := by decide +kernel
theorem dX3_init_86 : decode cX3_init 86 = .ok (.return_, 1) := by decide +kernel
theorem dX3_in_0 : decode cX3_in 0 = .ok (.iload_n 0, 1) := by decide +kernel
theorem dX3_in_1 : decode cX3_in 1 = .ok (.iload_n 1, 1) := by decide +kernel
theorem dX3_in_2 : decode cX3_in 2 = .ok (.if_icmp .lt 12, 3) := by decide +kernel
theorem dX3_in_5 : decode cX3_in 5 = .ok (.iload_n 0, 1) := by decide +kernel
theorem dX3_in_6 : decode cX3_in 6 = .ok (.iload_n 2, 1) := by decide +kernel
theorem dX3_in_7 : decode cX3_in 7 = .ok (.if_icmp .gt 7, 3) := by decide +kernel
theorem dX3_in_10 : decode cX3_in 10 = .ok (.iconst 1, 1) := by decide +kernel
theorem dX3_in_11 : decode cX3_in 11 = .ok (.goto 4, 3) := by decide +kernel
theorem dX3_in_14 : decode cX3_in 14 = .ok (.iconst 0, 1) := by decide +kernel
theorem dX3_in_15 : decode cX3_in 15 = .ok (.ireturn, 1) := by decide +kernel
theorem dX3_ch_0 : decode cX3_ch 0 = .ok (.aload_n 0, 1) := by decide +kernel
theorem dX3_ch_1 : decode cX3_ch 1 = .ok (.getfield 7, 3) := by decide +kernel
theorem dX3_ch_4 : decode cX3_ch 4 = .ok (.bipush 8, 2) := by decide +kernel
theorem dX3_ch_6 : decode cX3_ch 6 = .ok (.iconst 4, 1) := by decide +kernel
theorem dX3_ch_7 : decode cX3_ch 7 = .ok (.iload_n 1, 1) := by decide +kernel
theorem dX3_ch_8 : decode cX3_ch 8 = .ok (.imul, 1) := by decide +kernel
theorem dX3_ch_9 : decode cX3_ch 9 = .ok (.iadd, 1) := by decide +kernel
theorem dX3_ch_10 : decode cX3_ch 10 = .ok (.iload_n 2, 1) := by decide +kernel
theorem dX3_ch_11 : decode cX3_ch 11 = .ok (.iadd, 1) := by decide +kernel
theorem dX3_ch_12 : decode cX3_ch 12 = .ok (.iaload, 1) := by decide +kernel
theorem dX3_ch_13 : decode cX3_ch 13 = .ok (.ireturn, 1) := by decide +kernel
theorem dX3_wd_0 : decode cX3_wd 0 = .ok (.aload_n 0, 1) := by decide +kernel
theorem dX3_wd_1 : decode cX3_wd 1 = .ok (.getfield 7, 3) := by decide +kernel
theorem dX3_wd_4 : decode cX3_wd 4 = .ok (.bipush 40, 2) := by decide +kernel
theorem dX3_wd_6 : decode cX3_wd 6 = .ok (.bipush 7, 2) := by decide +kernel
theorem dX3_wd_8 : decode cX3_wd 8 = .ok (.iload_n 1, 1) := by decide +kernel
theorem dX3_wd_9 : decode cX3_wd 9 = .ok (.imul, 1) := by decide +kernel
theorem dX3_wd_10 : decode cX3_wd 10 = .ok (.iadd, 1) := by decide +kernel
theorem dX3_wd_11 : decode cX3_wd 11 = .ok (.iload_n 2, 1) := by decide +kernel
theorem dX3_wd_12 : decode cX3_wd 12 = .ok (.iadd, 1) := by decide +kernel
theorem dX3_wd_13 : decode cX3_wd 13 = .ok (.iaload, 1) := by decide +kernel
theorem dX3_wd_14 : decode cX3_wd 14 = .ok (.ireturn, 1) := by decide +kernel
theorem dX3_lays_0 : decode cX3_lays 0 = .ok (.aload_n 0, 1) := by decide +kernel
theorem dX3_lays_1 : decode cX3_lays 1 = .ok (.getfield 7, 3) := by decide +kernel
theorem dX3_lays_4 : decode cX3_lays 4 = .ok (.bipush 40, 2) := by decide +kernel
theorem dX3_lays_6 : decode cX3_lays 6 = .ok (.bipush 7, 2) := by decide +kernel
theorem dX3_lays_8 : decode cX3_lays 8 = .ok (.iload_n 1, 1) := by decide +kernel
theorem dX3_lays_9 : decode cX3_lays 9 = .ok (.imul, 1) := by decide +kernel
theorem dX3_lays_10 : decode cX3_lays 10 = .ok (.iadd, 1) := by decide +kernel
theorem dX3_lays_11 : decode cX3_lays 11 = .ok (.iload_n 2, 1) := by decide +kernel
theorem dX3_lays_12 : decode cX3_lays 12 = .ok (.iadd, 1) := by decide +kernel
theorem dX3_lays_13 : decode cX3_lays 13 = .ok (.iload_n 3, 1) := by decide +kernel
theorem dX3_lays_14 : decode cX3_lays 14 = .ok (.iastore, 1) := by decide +kernel
theorem dX3_lays_15 : decode cX3_lays 15 = .ok (.return_, 1) := by decide +kernel
theorem dX3_isChip_0 : decode cX3_isChip 0 = .ok (.iload_n 1, 1) := by decide +kernel
theorem dX3_isChip_1 : decode cX3_isChip 1 = .ok (.iconst 0, 1) := by decide +kernel
theorem dX3_isChip_2 : decode cX3_isChip 2 = .ok (.aload_n 0, 1) := by decide +kernel
theorem dX3_isChip_3 : decode cX3_isChip 3 = .ok (.getfield 7, 3) := by decide +kernel
theorem dX3_isChip_6 : decode cX3_isChip 6 = .ok (.iconst 0, 1) := by decide +kernel
theorem dX3_isChip_7 : decode cX3_isChip 7 = .ok (.iaload, 1) := by decide +kernel
theorem dX3_isChip_8 : decode cX3_isChip 8 = .ok (.iconst 1, 1) := by decide +kernel
theorem dX3_isChip_9 : decode cX3_isChip 9 = .ok (.isub, 1) := by decide +kernel
theorem dX3_isChip_10 : decode cX3_isChip 10 = .ok (.invokestatic 32, 3) := by decide +kernel
theorem dX3_isChip_13 : decode cX3_isChip 13 = .ok (.ireturn, 1) := by decide +kernel
theorem dX3_isWord_0 : decode cX3_isWord 0 = .ok (.iload_n 1, 1) := by decide +kernel
theorem dX3_isWord_1 : decode cX3_isWord 1 = .ok (.iconst 0, 1) := by decide +kernel
theorem dX3_isWord_2 : decode cX3_isWord 2 = .ok (.aload_n 0, 1) := by decide +kernel
theorem dX3_isWord_3 : decode cX3_isWord 3 = .ok (.getfield 7, 3) := by decide +kernel
theorem dX3_isWord_6 : decode cX3_isWord 6 = .ok (.iconst 1, 1) := by decide +kernel
theorem dX3_isWord_7 : decode cX3_isWord 7 = .ok (.iaload, 1) := by decide +kernel
theorem dX3_isWord_8 : decode cX3_isWord 8 = .ok (.iconst 1, 1) := by decide +kernel
theorem dX3_isWord_9 : decode cX3_isWord 9 = .ok (.isub, 1) := by decide +kernel
theorem dX3_isWord_10 : decode cX3_isWord 10 = .ok (.invokestatic 32, 3) := by decide +kernel
theorem dX3_isWord_13 : decode cX3_isWord 13 = .ok (.ireturn, 1) := by decide +kernel
theorem dX3_lives_0 : decode cX3_lives 0 = .ok (.aload_n 0, 1) := by decide +kernel
theorem dX3_lives_1 : decode cX3_lives 1 = .ok (.iload_n 1, 1) := by decide +kernel
theorem dX3_lives_2 : decode cX3_lives 2 = .ok (.iconst 2, 1) := by decide +kernel
theorem dX3_lives_3 : decode cX3_lives 3 = .ok (.invokevirtual 36, 3) := by decide +kernel
theorem dX3_lives_6 : decode cX3_lives 6 = .ok (.iconst 1, 1) := by decide +kernel
theorem dX3_lives_7 : decode cX3_lives 7 = .ok (.if_icmp .ne 7, 3) := by decide +kernel
theorem dX3_lives_10 : decode cX3_lives 10 = .ok (.iconst 1, 1) := by decide +kernel
theorem dX3_lives_11 : decode cX3_lives 11 = .ok (.goto 4, 3) := by decide +kernel
theorem dX3_lives_14 : decode cX3_lives 14 = .ok (.iconst 0, 1) := by decide +kernel
theorem dX3_lives_15 : decode cX3_lives 15 = .ok (.ireturn, 1) := by decide +kernel
theorem dX3_isGodfather_0 : decode cX3_isGodfather 0 = .ok (.aload_n 0, 1) := by decide +kernel
theorem dX3_isGodfather_1 : decode cX3_isGodfather 1 = .ok (.getfield 7, 3) := by decide +kernel
theorem dX3_isGodfather_4 : decode cX3_isGodfather 4 = .ok (.iconst 5, 1) := by decide +kernel
theorem dX3_isGodfather_5 : decode cX3_isGodfather 5 = .ok (.aload_n 0, 1) := by decide +kernel
theorem dX3_isGodfather_6 : decode cX3_isGodfather 6 = .ok (.iload_n 1, 1) := by decide +kernel
theorem dX3_isGodfather_7 : decode cX3_isGodfather 7 = .ok (.iconst 0, 1) := by decide +kernel
theorem dX3_isGodfather_8 : decode cX3_isGodfather 8 = .ok (.invokevirtual 36, 3) := by decide +kernel
theorem dX3_isGodfather_11 : decode cX3_isGodfather 11 = .ok (.iadd, 1) := by decide +kernel
theorem dX3_isGodfather_12 : decode cX3_isGodfather 12 = .ok (.iaload, 1) := by decide +kernel
theorem dX3_isGodfather_13 : decode cX3_isGodfather 13 = .ok (.iload_n 1, 1) := by decide +kernel
theorem dX3_isGodfather_14 : decode cX3_isGodfather 14 = .ok (.if_icmp .ne 7, 3) := by decide +kernel
theorem dX3_isGodfather_17 : decode cX3_isGodfather 17 = .ok (.iconst 1, 1) := by decide +kernel
theorem dX3_isGodfather_18 : decode cX3_isGodfather 18 = .ok (.goto 4, 3) := by decide +kernel
theorem dX3_isGodfather_21 : decode cX3_isGodfather 21 = .ok (.iconst 0, 1) := by decide +kernel
theorem dX3_isGodfather_22 : decode cX3_isGodfather 22 = .ok (.ireturn, 1) := by decide +kernel
theorem dX3_isWhole_0 : decode cX3_isWhole 0 = .ok (.aload_n 0, 1) := by decide +kernel
theorem dX3_isWhole_1 : decode cX3_isWhole 1 = .ok (.iload_n 1, 1) := by decide +kernel
theorem dX3_isWhole_2 : decode cX3_isWhole 2 = .ok (.iconst 3, 1) := by decide +kernel
theorem dX3_isWhole_3 : decode cX3_isWhole 3 = .ok (.invokevirtual 36, 3) := by decide +kernel
theorem dX3_isWhole_6 : decode cX3_isWhole 6 = .ok (.iload_n 2, 1) := by decide +kernel
theorem dX3_isWhole_7 : decode cX3_isWhole 7 = .ok (.ishr, 1) := by decide +kernel
theorem dX3_isWhole_8 : decode cX3_isWhole 8 = .ok (.iconst 1, 1) := by decide +kernel
theorem dX3_isWhole_9 : decode cX3_isWhole 9 = .ok (.iand, 1) := by decide +kernel
theorem dX3_isWhole_10 : decode cX3_isWhole 10 = .ok (.ifCond .ne 7, 3) := by decide +kernel
theorem dX3_isWhole_13 : decode cX3_isWhole 13 = .ok (.iconst 1, 1) := by decide +kernel
theorem dX3_isWhole_14 : decode cX3_isWhole 14 = .ok (.goto 4, 3) := by decide +kernel
theorem dX3_isWhole_17 : decode cX3_isWhole 17 = .ok (.iconst 0, 1) := by decide +kernel
theorem dX3_isWhole_18 : decode cX3_isWhole 18 = .ok (.ireturn, 1) := by decide +kernel
theorem dX3_ones_0 : decode cX3_ones 0 = .ok (.iconst 0, 1) := by decide +kernel
theorem dX3_ones_1 : decode cX3_ones 1 = .ok (.istore_n 1, 1) := by decide +kernel
theorem dX3_ones_2 : decode cX3_ones 2 = .ok (.iconst 0, 1) := by decide +kernel
theorem dX3_ones_3 : decode cX3_ones 3 = .ok (.istore_n 2, 1) := by decide +kernel
theorem dX3_ones_4 : decode cX3_ones 4 = .ok (.iload_n 2, 1) := by decide +kernel
theorem dX3_ones_5 : decode cX3_ones 5 = .ok (.bipush 8, 2) := by decide +kernel
theorem dX3_ones_7 : decode cX3_ones 7 = .ok (.if_icmp .ge 17, 3) := by decide +kernel
theorem dX3_ones_10 : decode cX3_ones 10 = .ok (.iload_n 1, 1) := by decide +kernel
theorem dX3_ones_11 : decode cX3_ones 11 = .ok (.iload_n 0, 1) := by decide +kernel
theorem dX3_ones_12 : decode cX3_ones 12 = .ok (.iload_n 2, 1) := by decide +kernel
theorem dX3_ones_13 : decode cX3_ones 13 = .ok (.ishr, 1) := by decide +kernel
theorem dX3_ones_14 : decode cX3_ones 14 = .ok (.iconst 1, 1) := by decide +kernel
theorem dX3_ones_15 : decode cX3_ones 15 = .ok (.iand, 1) := by decide +kernel
theorem dX3_ones_16 : decode cX3_ones 16 = .ok (.iadd, 1) := by decide +kernel
theorem dX3_ones_17 : decode cX3_ones 17 = .ok (.istore_n 1, 1) := by decide +kernel
theorem dX3_ones_18 : decode cX3_ones 18 = .ok (.iinc 2 1, 3) := by decide +kernel
theorem dX3_ones_21 : decode cX3_ones 21 = .ok (.goto (-17), 3) := by decide +kernel
theorem dX3_ones_24 : decode cX3_ones 24 = .ok (.iload_n 1, 1) := by decide +kernel
theorem dX3_ones_25 : decode cX3_ones 25 = .ok (.ireturn, 1) := by decide +kernel
theorem dX3_keeps_0 : decode cX3_keeps 0 = .ok (.iconst 0, 1) := by decide +kernel
theorem dX3_keeps_1 : decode cX3_keeps 1 = .ok (.istore_n 1, 1) := by decide +kernel
theorem dX3_keeps_2 : decode cX3_keeps 2 = .ok (.iload_n 1, 1) := by decide +kernel
theorem dX3_keeps_3 : decode cX3_keeps 3 = .ok (.sipush 208, 3) := by decide +kernel
theorem dX3_keeps_6 : decode cX3_keeps 6 = .ok (.if_icmp .ge 21, 3) := by decide +kernel
theorem dX3_keeps_9 : decode cX3_keeps 9 = .ok (.aload_n 0, 1) := by decide +kernel
theorem dX3_keeps_10 : decode cX3_keeps 10 = .ok (.getfield 16, 3) := by decide +kernel
theorem dX3_keeps_13 : decode cX3_keeps 13 = .ok (.iload_n 1, 1) := by decide +kernel
theorem dX3_keeps_14 : decode cX3_keeps 14 = .ok (.aload_n 0, 1) := by decide +kernel
theorem dX3_keeps_15 : decode cX3_keeps 15 = .ok (.getfield 7, 3) := by decide +kernel
theorem dX3_keeps_18 : decode cX3_keeps 18 = .ok (.iload_n 1, 1) := by decide +kernel
theorem dX3_keeps_19 : decode cX3_keeps 19 = .ok (.iaload, 1) := by decide +kernel
theorem dX3_keeps_20 : decode cX3_keeps 20 = .ok (.iastore, 1) := by decide +kernel
theorem dX3_keeps_21 : decode cX3_keeps 21 = .ok (.iinc 1 1, 3) := by decide +kernel
theorem dX3_keeps_24 : decode cX3_keeps 24 = .ok (.goto (-22), 3) := by decide +kernel
theorem dX3_keeps_27 : decode cX3_keeps 27 = .ok (.return_, 1) := by decide +kernel
theorem dX3_acted_0 : decode cX3_acted 0 = .ok (.iload_n 1, 1) := by decide +kernel
theorem dX3_acted_1 : decode cX3_acted 1 = .ok (.ldc 40, 2) := by decide +kernel
theorem dX3_acted_3 : decode cX3_acted 3 = .ok (.if_icmp .le 98, 3) := by decide +kernel
theorem dX3_acted_6 : decode cX3_acted 6 = .ok (.aload_n 0, 1) := by decide +kernel
theorem dX3_acted_7 : decode cX3_acted 7 = .ok (.getfield 41, 3) := by decide +kernel
theorem dX3_acted_10 : decode cX3_acted 10 = .ok (.iconst 4, 1) := by decide +kernel
theorem dX3_acted_11 : decode cX3_acted 11 = .ok (.if_icmp .ne 44, 3) := by decide +kernel
theorem dX3_acted_14 : decode cX3_acted 14 = .ok (.iconst 0, 1) := by decide +kernel
theorem dX3_acted_15 : decode cX3_acted 15 = .ok (.istore_n 2, 1) := by decide +kernel
theorem dX3_acted_16 : decode cX3_acted 16 = .ok (.iload_n 2, 1) := by decide +kernel
theorem dX3_acted_17 : decode cX3_acted 17 = .ok (.sipush 624, 3) := by decide +kernel
theorem dX3_acted_20 : decode cX3_acted 20 = .ok (.if_icmp .ge 25, 3) := by decide +kernel
theorem dX3_acted_23 : decode cX3_acted 23 = .ok (.aload_n 0, 1) := by decide +kernel
theorem dX3_acted_24 : decode cX3_acted 24 = .ok (.getfield 13, 3) := by decide +kernel
theorem dX3_acted_27 : decode cX3_acted 27 = .ok (.iload_n 2, 1) := by decide +kernel
theorem dX3_acted_28 : decode cX3_acted 28 = .ok (.aload_n 0, 1) := by decide +kernel
theorem dX3_acted_29 : decode cX3_acted 29 = .ok (.getfield 13, 3) := by decide +kernel
theorem dX3_acted_32 : decode cX3_acted 32 = .ok (.iload_n 2, 1) := by decide +kernel
theorem dX3_acted_33 : decode cX3_acted 33 = .ok (.sipush 208, 3) := by decide +kernel
theorem dX3_acted_36 : decode cX3_acted 36 = .ok (.iadd, 1) := by decide +kernel
theorem dX3_acted_37 : decode cX3_acted 37 = .ok (.iaload, 1) := by decide +kernel
theorem dX3_acted_38 : decode cX3_acted 38 = .ok (.iastore, 1) := by decide +kernel
theorem dX3_acted_39 : decode cX3_acted 39 = .ok (.iinc 2 1, 3) := by decide +kernel
theorem dX3_acted_42 : decode cX3_acted 42 = .ok (.goto (-26), 3) := by decide +kernel
theorem dX3_acted_45 : decode cX3_acted 45 = .ok (.aload_n 0, 1) := by decide +kernel
theorem dX3_acted_46 : decode cX3_acted 46 = .ok (.dup, 1) := by decide +kernel
theorem dX3_acted_47 : decode cX3_acted 47 = .ok (.getfield 41, 3) := by decide +kernel
theorem dX3_acted_50 : decode cX3_acted 50 = .ok (.iconst 1, 1) := by decide +kernel
theorem dX3_acted_51 : decode cX3_acted 51 = .ok (.isub, 1) := by decide +kernel
theorem dX3_acted_52 : decode cX3_acted 52 = .ok (.putfield 41, 3) := by decide +kernel
theorem dX3_acted_55 : decode cX3_acted 55 = .ok (.iconst 0, 1) := by decide +kernel
theorem dX3_acted_56 : decode cX3_acted 56 = .ok (.istore_n 2, 1) := by decide +kernel
theorem dX3_acted_57 : decode cX3_acted 57 = .ok (.iload_n 2, 1) := by decide +kernel
theorem dX3_acted_58 : decode cX3_acted 58 = .ok (.sipush 208, 3) := by decide +kernel
theorem dX3_acted_61 : decode cX3_acted 61 = .ok (.if_icmp .ge 30, 3) := by decide +kernel
theorem dX3_acted_64 : decode cX3_acted 64 = .ok (.aload_n 0, 1) := by decide +kernel
theorem dX3_acted_65 : decode cX3_acted 65 = .ok (.getfield 13, 3) := by decide +kernel
theorem dX3_acted_68 : decode cX3_acted 68 = .ok (.sipush 208, 3) := by decide +kernel
theorem dX3_acted_71 : decode cX3_acted 71 = .ok (.aload_n 0, 1) := by decide +kernel
theorem dX3_acted_72 : decode cX3_acted 72 = .ok (.getfield 41, 3) := by decide +kernel
theorem dX3_acted_75 : decode cX3_acted 75 = .ok (.imul, 1) := by decide +kernel
theorem dX3_acted_76 : decode cX3_acted 76 = .ok (.iload_n 2, 1) := by decide +kernel
theorem dX3_acted_77 : decode cX3_acted 77 = .ok (.iadd, 1) := by decide +kernel
theorem dX3_acted_78 : decode cX3_acted 78 = .ok (.aload_n 0, 1) := by decide +kernel
theorem dX3_acted_79 : decode cX3_acted 79 = .ok (.getfield 16, 3) := by decide +kernel
theorem dX3_acted_82 : decode cX3_acted 82 = .ok (.iload_n 2, 1) := by decide +kernel
theorem dX3_acted_83 : decode cX3_acted 83 = .ok (.iaload, 1) := by decide +kernel
theorem dX3_acted_84 : decode cX3_acted 84 = .ok (.iastore, 1) := by decide +kernel
theorem dX3_acted_85 : decode cX3_acted 85 = .ok (.iinc 2 1, 3) := by decide +kernel
theorem dX3_acted_88 : decode cX3_acted 88 = .ok (.goto (-31), 3) := by decide +kernel
theorem dX3_acted_91 : decode cX3_acted 91 = .ok (.aload_n 0, 1) := by decide +kernel
theorem dX3_acted_92 : decode cX3_acted 92 = .ok (.dup, 1) := by decide +kernel
theorem dX3_acted_93 : decode cX3_acted 93 = .ok (.getfield 41, 3) := by decide +kernel
theorem dX3_acted_96 : decode cX3_acted 96 = .ok (.iconst 1, 1) := by decide +kernel
theorem dX3_acted_97 : decode cX3_acted 97 = .ok (.iadd, 1) := by decide +kernel
theorem dX3_acted_98 : decode cX3_acted 98 = .ok (.putfield 41, 3) := by decide +kernel
theorem dX3_acted_101 : decode cX3_acted 101 = .ok (.iload_n 1, 1) := by decide +kernel
theorem dX3_acted_102 : decode cX3_acted 102 = .ok (.ireturn, 1) := by decide +kernel
theorem dX3_puts_0 : decode cX3_puts 0 = .ok (.iconst 0, 1) := by decide +kernel
theorem dX3_puts_1 : decode cX3_puts 1 = .ok (.istore_n 1, 1) := by decide +kernel
theorem dX3_puts_2 : decode cX3_puts 2 = .ok (.iload_n 1, 1) := by decide +kernel
theorem dX3_puts_3 : decode cX3_puts 3 = .ok (.sipush 208, 3) := by decide +kernel
theorem dX3_puts_6 : decode cX3_puts 6 = .ok (.if_icmp .ge 21, 3) := by decide +kernel
theorem dX3_puts_9 : decode cX3_puts 9 = .ok (.aload_n 0, 1) := by decide +kernel
theorem dX3_puts_10 : decode cX3_puts 10 = .ok (.getfield 19, 3) := by decide +kernel
theorem dX3_puts_13 : decode cX3_puts 13 = .ok (.iload_n 1, 1) := by decide +kernel
theorem dX3_puts_14 : decode cX3_puts 14 = .ok (.aload_n 0, 1) := by decide +kernel
theorem dX3_puts_15 : decode cX3_puts 15 = .ok (.getfield 7, 3) := by decide +kernel
theorem dX3_puts_18 : decode cX3_puts 18 = .ok (.iload_n 1, 1) := by decide +kernel
theorem dX3_puts_19 : decode cX3_puts 19 = .ok (.iaload, 1) := by decide +kernel
theorem dX3_puts_20 : decode cX3_puts 20 = .ok (.iastore, 1) := by decide +kernel
theorem dX3_puts_21 : decode cX3_puts 21 = .ok (.iinc 1 1, 3) := by decide +kernel
theorem dX3_puts_24 : decode cX3_puts 24 = .ok (.goto (-22), 3) := by decide +kernel
theorem dX3_puts_27 : decode cX3_puts 27 = .ok (.return_, 1) := by decide +kernel
theorem dX3_restores_0 : decode cX3_restores 0 = .ok (.iconst 0, 1) := by decide +kernel
theorem dX3_restores_1 : decode cX3_restores 1 = .ok (.istore_n 1, 1) := by decide +kernel
theorem dX3_restores_2 : decode cX3_restores 2 = .ok (.iload_n 1, 1) := by decide +kernel
theorem dX3_restores_3 : decode cX3_restores 3 = .ok (.sipush 208, 3) := by decide +kernel
theorem dX3_restores_6 : decode cX3_restores 6 = .ok (.if_icmp .ge 21, 3) := by decide +kernel
theorem dX3_restores_9 : decode cX3_restores 9 = .ok (.aload_n 0, 1) := by decide +kernel
theorem dX3_restores_10 : decode cX3_restores 10 = .ok (.getfield 7, 3) := by decide +kernel
theorem dX3_restores_13 : decode cX3_restores 13 = .ok (.iload_n 1, 1) := by decide +kernel
theorem dX3_restores_14 : decode cX3_restores 14 = .ok (.aload_n 0, 1) := by decide +kernel
theorem dX3_restores_15 : decode cX3_restores 15 = .ok (.getfield 19, 3) := by decide +kernel
theorem dX3_restores_18 : decode cX3_restores 18 = .ok (.iload_n 1, 1) := by decide +kernel
theorem dX3_restores_19 : decode cX3_restores 19 = .ok (.iaload, 1) := by decide +kernel
theorem dX3_restores_20 : decode cX3_restores 20 = .ok (.iastore, 1) := by decide +kernel
theorem dX3_restores_21 : decode cX3_restores 21 = .ok (.iinc 1 1, 3) := by decide +kernel
theorem dX3_restores_24 : decode cX3_restores 24 = .ok (.goto (-22), 3) := by decide +kernel
theorem dX3_restores_27 : decode cX3_restores 27 = .ok (.return_, 1) := by decide +kernel
theorem dX3_kept_0 : decode cX3_kept 0 = .ok (.iconst (-1), 1) := by decide +kernel
theorem dX3_kept_1 : decode cX3_kept 1 = .ok (.istore_n 3, 1) := by decide +kernel
theorem dX3_kept_2 : decode cX3_kept 2 = .ok (.iconst 0, 1) := by decide +kernel
theorem dX3_kept_3 : decode cX3_kept 3 = .ok (.istore 4, 2) := by decide +kernel
theorem dX3_kept_5 : decode cX3_kept 5 = .ok (.iload 4, 2) := by decide +kernel
theorem dX3_kept_7 : decode cX3_kept 7 = .ok (.aload_n 0, 1) := by decide +kernel
theorem dX3_kept_8 : decode cX3_kept 8 = .ok (.getfield 7, 3) := by decide +kernel
theorem dX3_kept_11 : decode cX3_kept 11 = .ok (.iconst 1, 1) := by decide +kernel
theorem dX3_kept_12 : decode cX3_kept 12 = .ok (.iaload, 1) := by decide +kernel
theorem dX3_kept_13 : decode cX3_kept 13 = .ok (.if_icmp .ge 48, 3) := by decide +kernel
theorem dX3_kept_16 : decode cX3_kept 16 = .ok (.aload_n 0, 1) := by decide +kernel
theorem dX3_kept_17 : decode cX3_kept 17 = .ok (.iload 4, 2) := by decide +kernel
theorem dX3_kept_19 : decode cX3_kept 19 = .ok (.iconst 1, 1) := by decide +kernel
theorem dX3_kept_20 : decode cX3_kept 20 = .ok (.invokevirtual 45, 3) := by decide +kernel
theorem dX3_kept_23 : decode cX3_kept 23 = .ok (.ifCond .ne 30, 3) := by decide +kernel
theorem dX3_kept_26 : decode cX3_kept 26 = .ok (.aload_n 0, 1) := by decide +kernel
theorem dX3_kept_27 : decode cX3_kept 27 = .ok (.iload 4, 2) := by decide +kernel
theorem dX3_kept_29 : decode cX3_kept 29 = .ok (.iconst 2, 1) := by decide +kernel
theorem dX3_kept_30 : decode cX3_kept 30 = .ok (.invokevirtual 45, 3) := by decide +kernel
theorem dX3_kept_33 : decode cX3_kept 33 = .ok (.iload_n 1, 1) := by decide +kernel
theorem dX3_kept_34 : decode cX3_kept 34 = .ok (.if_icmp .ne 19, 3) := by decide +kernel
theorem dX3_kept_37 : decode cX3_kept 37 = .ok (.aload_n 0, 1) := by decide +kernel
theorem dX3_kept_38 : decode cX3_kept 38 = .ok (.iload 4, 2) := by decide +kernel
theorem dX3_kept_40 : decode cX3_kept 40 = .ok (.iconst 3, 1) := by decide +kernel
theorem dX3_kept_41 : decode cX3_kept 41 = .ok (.invokevirtual 45, 3) := by decide +kernel
theorem dX3_kept_44 : decode cX3_kept 44 = .ok (.iload_n 2, 1) := by decide +kernel
theorem dX3_kept_45 : decode cX3_kept 45 = .ok (.if_icmp .ne 8, 3) := by decide +kernel
theorem dX3_kept_48 : decode cX3_kept 48 = .ok (.iload 4, 2) := by decide +kernel
theorem dX3_kept_50 : decode cX3_kept 50 = .ok (.goto 4, 3) := by decide +kernel
theorem dX3_kept_53 : decode cX3_kept 53 = .ok (.iload_n 3, 1) := by decide +kernel
theorem dX3_kept_54 : decode cX3_kept 54 = .ok (.istore_n 3, 1) := by decide +kernel
theorem dX3_kept_55 : decode cX3_kept 55 = .ok (.iinc 4 1, 3) := by decide +kernel
theorem dX3_kept_58 : decode cX3_kept 58 = .ok (.goto (-53), 3) := by decide +kernel
theorem dX3_kept_61 : decode cX3_kept 61 = .ok (.iload_n 3, 1) := by decide +kernel
theorem dX3_kept_62 : decode cX3_kept 62 = .ok (.ireturn, 1) := by decide +kernel
theorem dX3_waiting_0 : decode cX3_waiting 0 = .ok (.iconst (-1), 1) := by decide +kernel
theorem dX3_waiting_1 : decode cX3_waiting 1 = .ok (.istore_n 3, 1) := by decide +kernel
theorem dX3_waiting_2 : decode cX3_waiting 2 = .ok (.iconst 0, 1) := by decide +kernel
theorem dX3_waiting_3 : decode cX3_waiting 3 = .ok (.istore 4, 2) := by decide +kernel
theorem dX3_waiting_5 : decode cX3_waiting 5 = .ok (.iload 4, 2) := by decide +kernel
theorem dX3_waiting_7 : decode cX3_waiting 7 = .ok (.aload_n 0, 1) := by decide +kernel
theorem dX3_waiting_8 : decode cX3_waiting 8 = .ok (.getfield 7, 3) := by decide +kernel
theorem dX3_waiting_11 : decode cX3_waiting 11 = .ok (.iconst 1, 1) := by decide +kernel
theorem dX3_waiting_12 : decode cX3_waiting 12 = .ok (.iaload, 1) := by decide +kernel
theorem dX3_waiting_13 : decode cX3_waiting 13 = .ok (.if_icmp .ge 49, 3) := by decide +kernel
theorem dX3_waiting_16 : decode cX3_waiting 16 = .ok (.aload_n 0, 1) := by decide +kernel
theorem dX3_waiting_17 : decode cX3_waiting 17 = .ok (.iload 4, 2) := by decide +kernel
theorem dX3_waiting_19 : decode cX3_waiting 19 = .ok (.iconst 1, 1) := by decide +kernel
theorem dX3_waiting_20 : decode cX3_waiting 20 = .ok (.invokevirtual 45, 3) := by decide +kernel
theorem dX3_waiting_23 : decode cX3_waiting 23 = .ok (.iconst 1, 1) := by decide +kernel
theorem dX3_waiting_24 : decode cX3_waiting 24 = .ok (.if_icmp .ne 30, 3) := by decide +kernel
theorem dX3_waiting_27 : decode cX3_waiting 27 = .ok (.aload_n 0, 1) := by decide +kernel
theorem dX3_waiting_28 : decode cX3_waiting 28 = .ok (.iload 4, 2) := by decide +kernel
theorem dX3_waiting_30 : decode cX3_waiting 30 = .ok (.iconst 4, 1) := by decide +kernel
theorem dX3_waiting_31 : decode cX3_waiting 31 = .ok (.invokevirtual 45, 3) := by decide +kernel
theorem dX3_waiting_34 : decode cX3_waiting 34 = .ok (.iload_n 1, 1) := by decide +kernel
theorem dX3_waiting_35 : decode cX3_waiting 35 = .ok (.if_icmp .ne 19, 3) := by decide +kernel
theorem dX3_waiting_38 : decode cX3_waiting 38 = .ok (.aload_n 0, 1) := by decide +kernel
theorem dX3_waiting_39 : decode cX3_waiting 39 = .ok (.iload 4, 2) := by decide +kernel
theorem dX3_waiting_41 : decode cX3_waiting 41 = .ok (.iconst 3, 1) := by decide +kernel
theorem dX3_waiting_42 : decode cX3_waiting 42 = .ok (.invokevirtual 45, 3) := by decide +kernel
theorem dX3_waiting_45 : decode cX3_waiting 45 = .ok (.iload_n 2, 1) := by decide +kernel
theorem dX3_waiting_46 : decode cX3_waiting 46 = .ok (.if_icmp .ne 8, 3) := by decide +kernel
theorem dX3_waiting_49 : decode cX3_waiting 49 = .ok (.iload 4, 2) := by decide +kernel
theorem dX3_waiting_51 : decode cX3_waiting 51 = .ok (.goto 4, 3) := by decide +kernel
theorem dX3_waiting_54 : decode cX3_waiting 54 = .ok (.iload_n 3, 1) := by decide +kernel
theorem dX3_waiting_55 : decode cX3_waiting 55 = .ok (.istore_n 3, 1) := by decide +kernel
theorem dX3_waiting_56 : decode cX3_waiting 56 = .ok (.iinc 4 1, 3) := by decide +kernel
theorem dX3_waiting_59 : decode cX3_waiting 59 = .ok (.goto (-54), 3) := by decide +kernel
theorem dX3_waiting_62 : decode cX3_waiting 62 = .ok (.iload_n 3, 1) := by decide +kernel
theorem dX3_waiting_63 : decode cX3_waiting 63 = .ok (.ireturn, 1) := by decide +kernel
theorem dX3_isGuarded_0 : decode cX3_isGuarded 0 = .ok (.aload_n 0, 1) := by decide +kernel
theorem dX3_isGuarded_1 : decode cX3_isGuarded 1 = .ok (.getfield 7, 3) := by decide +kernel
theorem dX3_isGuarded_4 : decode cX3_isGuarded 4 = .ok (.iconst 5, 1) := by decide +kernel
theorem dX3_isGuarded_5 : decode cX3_isGuarded 5 = .ok (.iload_n 1, 1) := by decide +kernel
theorem dX3_isGuarded_6 : decode cX3_isGuarded 6 = .ok (.iadd, 1) := by decide +kernel
theorem dX3_isGuarded_7 : decode cX3_isGuarded 7 = .ok (.iaload, 1) := by decide +kernel
theorem dX3_isGuarded_8 : decode cX3_isGuarded 8 = .ok (.istore_n 3, 1) := by decide +kernel
theorem dX3_isGuarded_9 : decode cX3_isGuarded 9 = .ok (.iload_n 3, 1) := by decide +kernel
theorem dX3_isGuarded_10 : decode cX3_isGuarded 10 = .ok (.ifCond .lt 16, 3) := by decide +kernel
theorem dX3_isGuarded_13 : decode cX3_isGuarded 13 = .ok (.aload_n 0, 1) := by decide +kernel
theorem dX3_isGuarded_14 : decode cX3_isGuarded 14 = .ok (.iload_n 3, 1) := by decide +kernel
theorem dX3_isGuarded_15 : decode cX3_isGuarded 15 = .ok (.iload_n 2, 1) := by decide +kernel
theorem dX3_isGuarded_16 : decode cX3_isGuarded 16 = .ok (.invokevirtual 48, 3) := by decide +kernel
theorem dX3_isGuarded_19 : decode cX3_isGuarded 19 = .ok (.ifCond .eq 7, 3) := by decide +kernel
theorem dX3_isGuarded_22 : decode cX3_isGuarded 22 = .ok (.iconst 1, 1) := by decide +kernel
theorem dX3_isGuarded_23 : decode cX3_isGuarded 23 = .ok (.goto 4, 3) := by decide +kernel
theorem dX3_isGuarded_26 : decode cX3_isGuarded 26 = .ok (.iconst 0, 1) := by decide +kernel
theorem dX3_isGuarded_27 : decode cX3_isGuarded 27 = .ok (.ireturn, 1) := by decide +kernel
theorem dX3_isPlace_0 : decode cX3_isPlace 0 = .ok (.aload_n 0, 1) := by decide +kernel
theorem dX3_isPlace_1 : decode cX3_isPlace 1 = .ok (.iload_n 1, 1) := by decide +kernel
theorem dX3_isPlace_2 : decode cX3_isPlace 2 = .ok (.invokevirtual 52, 3) := by decide +kernel
theorem dX3_isPlace_5 : decode cX3_isPlace 5 = .ok (.ifCond .eq 47, 3) := by decide +kernel
theorem dX3_isPlace_8 : decode cX3_isPlace 8 = .ok (.aload_n 0, 1) := by decide +kernel
theorem dX3_isPlace_9 : decode cX3_isPlace 9 = .ok (.iload_n 1, 1) := by decide +kernel
theorem dX3_isPlace_10 : decode cX3_isPlace 10 = .ok (.invokevirtual 56, 3) := by decide +kernel
theorem dX3_isPlace_13 : decode cX3_isPlace 13 = .ok (.ifCond .ne 39, 3) := by decide +kernel
theorem dX3_isPlace_16 : decode cX3_isPlace 16 = .ok (.aload_n 0, 1) := by decide +kernel
theorem dX3_isPlace_17 : decode cX3_isPlace 17 = .ok (.iload_n 1, 1) := by decide +kernel
theorem dX3_isPlace_18 : decode cX3_isPlace 18 = .ok (.iload_n 2, 1) := by decide +kernel
theorem dX3_isPlace_19 : decode cX3_isPlace 19 = .ok (.invokevirtual 48, 3) := by decide +kernel
theorem dX3_isPlace_22 : decode cX3_isPlace 22 = .ok (.ifCond .eq 30, 3) := by decide +kernel
theorem dX3_isPlace_25 : decode cX3_isPlace 25 = .ok (.aload_n 0, 1) := by decide +kernel
theorem dX3_isPlace_26 : decode cX3_isPlace 26 = .ok (.iload_n 1, 1) := by decide +kernel
theorem dX3_isPlace_27 : decode cX3_isPlace 27 = .ok (.iload_n 2, 1) := by decide +kernel
theorem dX3_isPlace_28 : decode cX3_isPlace 28 = .ok (.invokevirtual 59, 3) := by decide +kernel
theorem dX3_isPlace_31 : decode cX3_isPlace 31 = .ok (.ifCond .ge 21, 3) := by decide +kernel
theorem dX3_isPlace_34 : decode cX3_isPlace 34 = .ok (.aload_n 0, 1) := by decide +kernel
theorem dX3_isPlace_35 : decode cX3_isPlace 35 = .ok (.aload_n 0, 1) := by decide +kernel
theorem dX3_isPlace_36 : decode cX3_isPlace 36 = .ok (.iload_n 1, 1) := by decide +kernel
theorem dX3_isPlace_37 : decode cX3_isPlace 37 = .ok (.iconst 0, 1) := by decide +kernel
theorem dX3_isPlace_38 : decode cX3_isPlace 38 = .ok (.invokevirtual 36, 3) := by decide +kernel
theorem dX3_isPlace_41 : decode cX3_isPlace 41 = .ok (.iload_n 2, 1) := by decide +kernel
theorem dX3_isPlace_42 : decode cX3_isPlace 42 = .ok (.invokevirtual 62, 3) := by decide +kernel
theorem dX3_isPlace_45 : decode cX3_isPlace 45 = .ok (.ifCond .ge 7, 3) := by decide +kernel
theorem dX3_isPlace_48 : decode cX3_isPlace 48 = .ok (.iconst 1, 1) := by decide +kernel
theorem dX3_isPlace_49 : decode cX3_isPlace 49 = .ok (.goto 4, 3) := by decide +kernel
theorem dX3_isPlace_52 : decode cX3_isPlace 52 = .ok (.iconst 0, 1) := by decide +kernel
theorem dX3_isPlace_53 : decode cX3_isPlace 53 = .ok (.ireturn, 1) := by decide +kernel
theorem dX3_places_0 : decode cX3_places 0 = .ok (.iconst 0, 1) := by decide +kernel
theorem dX3_places_1 : decode cX3_places 1 = .ok (.istore_n 2, 1) := by decide +kernel
theorem dX3_places_2 : decode cX3_places 2 = .ok (.iconst 0, 1) := by decide +kernel
theorem dX3_places_3 : decode cX3_places 3 = .ok (.istore_n 3, 1) := by decide +kernel
theorem dX3_places_4 : decode cX3_places 4 = .ok (.iload_n 3, 1) := by decide +kernel
theorem dX3_places_5 : decode cX3_places 5 = .ok (.bipush 6, 2) := by decide +kernel
theorem dX3_places_7 : decode cX3_places 7 = .ok (.if_icmp .ge 26, 3) := by decide +kernel
theorem dX3_places_10 : decode cX3_places 10 = .ok (.iload_n 2, 1) := by decide +kernel
theorem dX3_places_11 : decode cX3_places 11 = .ok (.aload_n 0, 1) := by decide +kernel
theorem dX3_places_12 : decode cX3_places 12 = .ok (.iload_n 1, 1) := by decide +kernel
theorem dX3_places_13 : decode cX3_places 13 = .ok (.iload_n 3, 1) := by decide +kernel
theorem dX3_places_14 : decode cX3_places 14 = .ok (.invokevirtual 65, 3) := by decide +kernel
theorem dX3_places_17 : decode cX3_places 17 = .ok (.ifCond .eq 7, 3) := by decide +kernel
theorem dX3_places_20 : decode cX3_places 20 = .ok (.iconst 1, 1) := by decide +kernel
theorem dX3_places_21 : decode cX3_places 21 = .ok (.goto 4, 3) := by decide +kernel
theorem dX3_places_24 : decode cX3_places 24 = .ok (.iconst 0, 1) := by decide +kernel
theorem dX3_places_25 : decode cX3_places 25 = .ok (.iadd, 1) := by decide +kernel
theorem dX3_places_26 : decode cX3_places 26 = .ok (.istore_n 2, 1) := by decide +kernel
theorem dX3_places_27 : decode cX3_places 27 = .ok (.iinc 3 1, 3) := by decide +kernel
theorem dX3_places_30 : decode cX3_places 30 = .ok (.goto (-26), 3) := by decide +kernel
theorem dX3_places_33 : decode cX3_places 33 = .ok (.iload_n 2, 1) := by decide +kernel
theorem dX3_places_34 : decode cX3_places 34 = .ok (.ireturn, 1) := by decide +kernel
theorem dX3_lowest_0 : decode cX3_lowest 0 = .ok (.iconst 0, 1) := by decide +kernel
theorem dX3_lowest_1 : decode cX3_lowest 1 = .ok (.istore_n 2, 1) := by decide +kernel
theorem dX3_lowest_2 : decode cX3_lowest 2 = .ok (.aload_n 0, 1) := by decide +kernel
theorem dX3_lowest_3 : decode cX3_lowest 3 = .ok (.iload_n 1, 1) := by decide +kernel
theorem dX3_lowest_4 : decode cX3_lowest 4 = .ok (.iload_n 2, 1) := by decide +kernel
theorem dX3_lowest_5 : decode cX3_lowest 5 = .ok (.invokevirtual 65, 3) := by decide +kernel
theorem dX3_lowest_8 : decode cX3_lowest 8 = .ok (.ifCond .ne 9, 3) := by decide +kernel
theorem dX3_lowest_11 : decode cX3_lowest 11 = .ok (.iinc 2 1, 3) := by decide +kernel
theorem dX3_lowest_14 : decode cX3_lowest 14 = .ok (.goto (-12), 3) := by decide +kernel
theorem dX3_lowest_17 : decode cX3_lowest 17 = .ok (.iload_n 2, 1) := by decide +kernel
theorem dX3_lowest_18 : decode cX3_lowest 18 = .ok (.ireturn, 1) := by decide +kernel
theorem dX3_target_0 : decode cX3_target 0 = .ok (.iconst (-1), 1) := by decide +kernel
theorem dX3_target_1 : decode cX3_target 1 = .ok (.istore_n 3, 1) := by decide +kernel
theorem dX3_target_2 : decode cX3_target 2 = .ok (.iconst 0, 1) := by decide +kernel
theorem dX3_target_3 : decode cX3_target 3 = .ok (.istore 4, 2) := by decide +kernel
theorem dX3_target_5 : decode cX3_target 5 = .ok (.iload 4, 2) := by decide +kernel
theorem dX3_target_7 : decode cX3_target 7 = .ok (.iconst 2, 1) := by decide +kernel
theorem dX3_target_8 : decode cX3_target 8 = .ok (.if_icmp .ge 118, 3) := by decide +kernel
theorem dX3_target_11 : decode cX3_target 11 = .ok (.iload_n 3, 1) := by decide +kernel
theorem dX3_target_12 : decode cX3_target 12 = .ok (.ifCond .ge 114, 3) := by decide +kernel
theorem dX3_target_15 : decode cX3_target 15 = .ok (.iconst 0, 1) := by decide +kernel
theorem dX3_target_16 : decode cX3_target 16 = .ok (.istore 5, 2) := by decide +kernel
theorem dX3_target_18 : decode cX3_target 18 = .ok (.iload 5, 2) := by decide +kernel
theorem dX3_target_20 : decode cX3_target 20 = .ok (.aload_n 0, 1) := by decide +kernel
theorem dX3_target_21 : decode cX3_target 21 = .ok (.getfield 7, 3) := by decide +kernel
theorem dX3_target_24 : decode cX3_target 24 = .ok (.iconst 0, 1) := by decide +kernel
theorem dX3_target_25 : decode cX3_target 25 = .ok (.iaload, 1) := by decide +kernel
theorem dX3_target_26 : decode cX3_target 26 = .ok (.if_icmp .ge 94, 3) := by decide +kernel
theorem dX3_target_29 : decode cX3_target 29 = .ok (.aload_n 0, 1) := by decide +kernel
theorem dX3_target_30 : decode cX3_target 30 = .ok (.iload 5, 2) := by decide +kernel
theorem dX3_target_32 : decode cX3_target 32 = .ok (.iconst 0, 1) := by decide +kernel
theorem dX3_target_33 : decode cX3_target 33 = .ok (.invokevirtual 36, 3) := by decide +kernel
theorem dX3_target_36 : decode cX3_target 36 = .ok (.iload_n 1, 1) := by decide +kernel
theorem dX3_target_37 : decode cX3_target 37 = .ok (.if_icmp .ne 7, 3) := by decide +kernel
theorem dX3_target_40 : decode cX3_target 40 = .ok (.iconst 1, 1) := by decide +kernel
theorem dX3_target_41 : decode cX3_target 41 = .ok (.goto 4, 3) := by decide +kernel
theorem dX3_target_44 : decode cX3_target 44 = .ok (.iconst 0, 1) := by decide +kernel
theorem dX3_target_45 : decode cX3_target 45 = .ok (.istore 6, 2) := by decide +kernel
theorem dX3_target_47 : decode cX3_target 47 = .ok (.iload 5, 2) := by decide +kernel
theorem dX3_target_49 : decode cX3_target 49 = .ok (.iload_n 2, 1) := by decide +kernel
theorem dX3_target_50 : decode cX3_target 50 = .ok (.if_icmp .eq 31, 3) := by decide +kernel
theorem dX3_target_53 : decode cX3_target 53 = .ok (.iload 6, 2) := by decide +kernel
theorem dX3_target_55 : decode cX3_target 55 = .ok (.iload 4, 2) := by decide +kernel
theorem dX3_target_57 : decode cX3_target 57 = .ok (.ifCond .ne 7, 3) := by decide +kernel
theorem dX3_target_60 : decode cX3_target 60 = .ok (.iconst 1, 1) := by decide +kernel
theorem dX3_target_61 : decode cX3_target 61 = .ok (.goto 4, 3) := by decide +kernel
theorem dX3_target_64 : decode cX3_target 64 = .ok (.iconst 0, 1) := by decide +kernel
theorem dX3_target_65 : decode cX3_target 65 = .ok (.if_icmp .ne 16, 3) := by decide +kernel
theorem dX3_target_68 : decode cX3_target 68 = .ok (.aload_n 0, 1) := by decide +kernel
theorem dX3_target_69 : decode cX3_target 69 = .ok (.iload 5, 2) := by decide +kernel
theorem dX3_target_71 : decode cX3_target 71 = .ok (.invokevirtual 68, 3) := by decide +kernel
theorem dX3_target_74 : decode cX3_target 74 = .ok (.ifCond .le 7, 3) := by decide +kernel
theorem dX3_target_77 : decode cX3_target 77 = .ok (.iconst 1, 1) := by decide +kernel
theorem dX3_target_78 : decode cX3_target 78 = .ok (.goto 4, 3) := by decide +kernel
theorem dX3_target_81 : decode cX3_target 81 = .ok (.iconst 0, 1) := by decide +kernel
theorem dX3_target_82 : decode cX3_target 82 = .ok (.istore 7, 2) := by decide +kernel
theorem dX3_target_84 : decode cX3_target 84 = .ok (.iload 7, 2) := by decide +kernel
theorem dX3_target_86 : decode cX3_target 86 = .ok (.ifCond .eq 26, 3) := by decide +kernel
theorem dX3_target_89 : decode cX3_target 89 = .ok (.iload_n 3, 1) := by decide +kernel
theorem dX3_target_90 : decode cX3_target 90 = .ok (.ifCond .lt 17, 3) := by decide +kernel
theorem dX3_target_93 : decode cX3_target 93 = .ok (.aload_n 0, 1) := by decide +kernel
theorem dX3_target_94 : decode cX3_target 94 = .ok (.iload 5, 2) := by decide +kernel
theorem dX3_target_96 : decode cX3_target 96 = .ok (.invokevirtual 68, 3) := by decide +kernel
theorem dX3_target_99 : decode cX3_target 99 = .ok (.aload_n 0, 1) := by decide +kernel
theorem dX3_target_100 : decode cX3_target 100 = .ok (.iload_n 3, 1) := by decide +kernel
theorem dX3_target_101 : decode cX3_target 101 = .ok (.invokevirtual 68, 3) := by decide +kernel
theorem dX3_target_104 : decode cX3_target 104 = .ok (.if_icmp .le 8, 3) := by decide +kernel
theorem dX3_target_107 : decode cX3_target 107 = .ok (.iload 5, 2) := by decide +kernel
theorem dX3_target_109 : decode cX3_target 109 = .ok (.goto 4, 3) := by decide +kernel
theorem dX3_target_112 : decode cX3_target 112 = .ok (.iload_n 3, 1) := by decide +kernel
theorem dX3_target_113 : decode cX3_target 113 = .ok (.istore_n 3, 1) := by decide +kernel
theorem dX3_target_114 : decode cX3_target 114 = .ok (.iinc 5 1, 3) := by decide +kernel
theorem dX3_target_117 : decode cX3_target 117 = .ok (.goto (-99), 3) := by decide +kernel
theorem dX3_target_120 : decode cX3_target 120 = .ok (.iinc 4 1, 3) := by decide +kernel
theorem dX3_target_123 : decode cX3_target 123 = .ok (.goto (-118), 3) := by decide +kernel
theorem dX3_target_126 : decode cX3_target 126 = .ok (.iload_n 3, 1) := by decide +kernel
theorem dX3_target_127 : decode cX3_target 127 = .ok (.ireturn, 1) := by decide +kernel
theorem dX3_sits_0 : decode cX3_sits 0 = .ok (.aload_n 0, 1) := by decide +kernel
theorem dX3_sits_1 : decode cX3_sits 1 = .ok (.iload_n 1, 1) := by decide +kernel
theorem dX3_sits_2 : decode cX3_sits 2 = .ok (.iconst 1, 1) := by decide +kernel
theorem dX3_sits_3 : decode cX3_sits 3 = .ok (.iconst 0, 1) := by decide +kernel
theorem dX3_sits_4 : decode cX3_sits 4 = .ok (.invokevirtual 72, 3) := by decide +kernel
theorem dX3_sits_7 : decode cX3_sits 7 = .ok (.aload_n 0, 1) := by decide +kernel
theorem dX3_sits_8 : decode cX3_sits 8 = .ok (.iload_n 1, 1) := by decide +kernel
theorem dX3_sits_9 : decode cX3_sits 9 = .ok (.iconst 2, 1) := by decide +kernel
theorem dX3_sits_10 : decode cX3_sits 10 = .ok (.iload_n 2, 1) := by decide +kernel
theorem dX3_sits_11 : decode cX3_sits 11 = .ok (.invokevirtual 72, 3) := by decide +kernel
theorem dX3_sits_14 : decode cX3_sits 14 = .ok (.aload_n 0, 1) := by decide +kernel
theorem dX3_sits_15 : decode cX3_sits 15 = .ok (.iload_n 1, 1) := by decide +kernel
theorem dX3_sits_16 : decode cX3_sits 16 = .ok (.iconst 3, 1) := by decide +kernel
theorem dX3_sits_17 : decode cX3_sits 17 = .ok (.iload_n 3, 1) := by decide +kernel
theorem dX3_sits_18 : decode cX3_sits 18 = .ok (.invokevirtual 72, 3) := by decide +kernel
theorem dX3_sits_21 : decode cX3_sits 21 = .ok (.aload_n 0, 1) := by decide +kernel
theorem dX3_sits_22 : decode cX3_sits 22 = .ok (.iload_n 1, 1) := by decide +kernel
theorem dX3_sits_23 : decode cX3_sits 23 = .ok (.iconst 4, 1) := by decide +kernel
theorem dX3_sits_24 : decode cX3_sits 24 = .ok (.aload_n 0, 1) := by decide +kernel
theorem dX3_sits_25 : decode cX3_sits 25 = .ok (.iload_n 2, 1) := by decide +kernel
theorem dX3_sits_26 : decode cX3_sits 26 = .ok (.iconst 0, 1) := by decide +kernel
theorem dX3_sits_27 : decode cX3_sits 27 = .ok (.invokevirtual 36, 3) := by decide +kernel
theorem dX3_sits_30 : decode cX3_sits 30 = .ok (.invokevirtual 72, 3) := by decide +kernel
theorem dX3_sits_33 : decode cX3_sits 33 = .ok (.return_, 1) := by decide +kernel
theorem dX3_waitsNow_0 : decode cX3_waitsNow 0 = .ok (.aload_n 0, 1) := by decide +kernel
theorem dX3_waitsNow_1 : decode cX3_waitsNow 1 = .ok (.iload_n 1, 1) := by decide +kernel
theorem dX3_waitsNow_2 : decode cX3_waitsNow 2 = .ok (.iconst 1, 1) := by decide +kernel
theorem dX3_waitsNow_3 : decode cX3_waitsNow 3 = .ok (.iconst 1, 1) := by decide +kernel
theorem dX3_waitsNow_4 : decode cX3_waitsNow 4 = .ok (.invokevirtual 72, 3) := by decide +kernel
theorem dX3_waitsNow_7 : decode cX3_waitsNow 7 = .ok (.aload_n 0, 1) := by decide +kernel
theorem dX3_waitsNow_8 : decode cX3_waitsNow 8 = .ok (.iload_n 1, 1) := by decide +kernel
theorem dX3_waitsNow_9 : decode cX3_waitsNow 9 = .ok (.iconst 5, 1) := by decide +kernel
theorem dX3_waitsNow_10 : decode cX3_waitsNow 10 = .ok (.aload_n 0, 1) := by decide +kernel
theorem dX3_waitsNow_11 : decode cX3_waitsNow 11 = .ok (.getfield 7, 3) := by decide +kernel
theorem dX3_waitsNow_14 : decode cX3_waitsNow 14 = .ok (.iconst 4, 1) := by decide +kernel
theorem dX3_waitsNow_15 : decode cX3_waitsNow 15 = .ok (.iaload, 1) := by decide +kernel
theorem dX3_waitsNow_16 : decode cX3_waitsNow 16 = .ok (.invokevirtual 72, 3) := by decide +kernel
theorem dX3_waitsNow_19 : decode cX3_waitsNow 19 = .ok (.aload_n 0, 1) := by decide +kernel
theorem dX3_waitsNow_20 : decode cX3_waitsNow 20 = .ok (.getfield 7, 3) := by decide +kernel
theorem dX3_waitsNow_23 : decode cX3_waitsNow 23 = .ok (.iconst 4, 1) := by decide +kernel
theorem dX3_waitsNow_24 : decode cX3_waitsNow 24 = .ok (.dup2, 1) := by decide +kernel
theorem dX3_waitsNow_25 : decode cX3_waitsNow 25 = .ok (.iaload, 1) := by decide +kernel
theorem dX3_waitsNow_26 : decode cX3_waitsNow 26 = .ok (.iconst 1, 1) := by decide +kernel
theorem dX3_waitsNow_27 : decode cX3_waitsNow 27 = .ok (.iadd, 1) := by decide +kernel
theorem dX3_waitsNow_28 : decode cX3_waitsNow 28 = .ok (.iastore, 1) := by decide +kernel
theorem dX3_waitsNow_29 : decode cX3_waitsNow 29 = .ok (.return_, 1) := by decide +kernel
theorem dX3_lost_0 : decode cX3_lost 0 = .ok (.iconst 0, 1) := by decide +kernel
theorem dX3_lost_1 : decode cX3_lost 1 = .ok (.istore_n 1, 1) := by decide +kernel
theorem dX3_lost_2 : decode cX3_lost 2 = .ok (.iconst 0, 1) := by decide +kernel
theorem dX3_lost_3 : decode cX3_lost 3 = .ok (.istore_n 2, 1) := by decide +kernel
theorem dX3_lost_4 : decode cX3_lost 4 = .ok (.iload_n 2, 1) := by decide +kernel
theorem dX3_lost_5 : decode cX3_lost 5 = .ok (.aload_n 0, 1) := by decide +kernel
theorem dX3_lost_6 : decode cX3_lost 6 = .ok (.getfield 7, 3) := by decide +kernel
theorem dX3_lost_9 : decode cX3_lost 9 = .ok (.iconst 1, 1) := by decide +kernel
theorem dX3_lost_10 : decode cX3_lost 10 = .ok (.iaload, 1) := by decide +kernel
theorem dX3_lost_11 : decode cX3_lost 11 = .ok (.if_icmp .ge 27, 3) := by decide +kernel
theorem dX3_lost_14 : decode cX3_lost 14 = .ok (.iload_n 1, 1) := by decide +kernel
theorem dX3_lost_15 : decode cX3_lost 15 = .ok (.aload_n 0, 1) := by decide +kernel
theorem dX3_lost_16 : decode cX3_lost 16 = .ok (.iload_n 2, 1) := by decide +kernel
theorem dX3_lost_17 : decode cX3_lost 17 = .ok (.iconst 1, 1) := by decide +kernel
theorem dX3_lost_18 : decode cX3_lost 18 = .ok (.invokevirtual 45, 3) := by decide +kernel
theorem dX3_lost_21 : decode cX3_lost 21 = .ok (.iconst 2, 1) := by decide +kernel
theorem dX3_lost_22 : decode cX3_lost 22 = .ok (.if_icmp .ne 7, 3) := by decide +kernel
theorem dX3_lost_25 : decode cX3_lost 25 = .ok (.iconst 1, 1) := by decide +kernel
theorem dX3_lost_26 : decode cX3_lost 26 = .ok (.goto 4, 3) := by decide +kernel
theorem dX3_lost_29 : decode cX3_lost 29 = .ok (.iconst 0, 1) := by decide +kernel
theorem dX3_lost_30 : decode cX3_lost 30 = .ok (.iadd, 1) := by decide +kernel
theorem dX3_lost_31 : decode cX3_lost 31 = .ok (.istore_n 1, 1) := by decide +kernel
theorem dX3_lost_32 : decode cX3_lost 32 = .ok (.iinc 2 1, 3) := by decide +kernel
theorem dX3_lost_35 : decode cX3_lost 35 = .ok (.goto (-31), 3) := by decide +kernel
theorem dX3_lost_38 : decode cX3_lost 38 = .ok (.iload_n 1, 1) := by decide +kernel
theorem dX3_lost_39 : decode cX3_lost 39 = .ok (.ireturn, 1) := by decide +kernel
theorem dX3_falls_0 : decode cX3_falls 0 = .ok (.aload_n 0, 1) := by decide +kernel
theorem dX3_falls_1 : decode cX3_falls 1 = .ok (.iload_n 1, 1) := by decide +kernel
theorem dX3_falls_2 : decode cX3_falls 2 = .ok (.iconst 4, 1) := by decide +kernel
theorem dX3_falls_3 : decode cX3_falls 3 = .ok (.invokevirtual 45, 3) := by decide +kernel
theorem dX3_falls_6 : decode cX3_falls 6 = .ok (.istore_n 3, 1) := by decide +kernel
theorem dX3_falls_7 : decode cX3_falls 7 = .ok (.aload_n 0, 1) := by decide +kernel
theorem dX3_falls_8 : decode cX3_falls 8 = .ok (.iload_n 1, 1) := by decide +kernel
theorem dX3_falls_9 : decode cX3_falls 9 = .ok (.iconst 3, 1) := by decide +kernel
theorem dX3_falls_10 : decode cX3_falls 10 = .ok (.invokevirtual 45, 3) := by decide +kernel
theorem dX3_falls_13 : decode cX3_falls 13 = .ok (.istore 4, 2) := by decide +kernel
theorem dX3_falls_15 : decode cX3_falls 15 = .ok (.aload_n 0, 1) := by decide +kernel
theorem dX3_falls_16 : decode cX3_falls 16 = .ok (.iload_n 3, 1) := by decide +kernel
theorem dX3_falls_17 : decode cX3_falls 17 = .ok (.iload 4, 2) := by decide +kernel
theorem dX3_falls_19 : decode cX3_falls 19 = .ok (.invokevirtual 62, 3) := by decide +kernel
theorem dX3_falls_22 : decode cX3_falls 22 = .ok (.istore 5, 2) := by decide +kernel
theorem dX3_falls_24 : decode cX3_falls 24 = .ok (.aload_n 0, 1) := by decide +kernel
theorem dX3_falls_25 : decode cX3_falls 25 = .ok (.iload_n 3, 1) := by decide +kernel
theorem dX3_falls_26 : decode cX3_falls 26 = .ok (.iload 4, 2) := by decide +kernel
theorem dX3_falls_28 : decode cX3_falls 28 = .ok (.invokevirtual 76, 3) := by decide +kernel
theorem dX3_falls_31 : decode cX3_falls 31 = .ok (.ifCond .ne 13, 3) := by decide +kernel
theorem dX3_falls_34 : decode cX3_falls 34 = .ok (.aload_n 0, 1) := by decide +kernel
theorem dX3_falls_35 : decode cX3_falls 35 = .ok (.iload_n 1, 1) := by decide +kernel
theorem dX3_falls_36 : decode cX3_falls 36 = .ok (.iconst 1, 1) := by decide +kernel
theorem dX3_falls_37 : decode cX3_falls 37 = .ok (.iconst 2, 1) := by decide +kernel
theorem dX3_falls_38 : decode cX3_falls 38 = .ok (.invokevirtual 72, 3) := by decide +kernel
theorem dX3_falls_41 : decode cX3_falls 41 = .ok (.goto 35, 3) := by decide +kernel
theorem dX3_falls_44 : decode cX3_falls 44 = .ok (.iload 5, 2) := by decide +kernel
theorem dX3_falls_46 : decode cX3_falls 46 = .ok (.ifCond .lt 21, 3) := by decide +kernel
theorem dX3_falls_49 : decode cX3_falls 49 = .ok (.aload_n 0, 1) := by decide +kernel
theorem dX3_falls_50 : decode cX3_falls 50 = .ok (.iload_n 1, 1) := by decide +kernel
theorem dX3_falls_51 : decode cX3_falls 51 = .ok (.iconst 1, 1) := by decide +kernel
theorem dX3_falls_52 : decode cX3_falls 52 = .ok (.iconst 2, 1) := by decide +kernel
theorem dX3_falls_53 : decode cX3_falls 53 = .ok (.invokevirtual 72, 3) := by decide +kernel
theorem dX3_falls_56 : decode cX3_falls 56 = .ok (.aload_n 0, 1) := by decide +kernel
theorem dX3_falls_57 : decode cX3_falls 57 = .ok (.iload 5, 2) := by decide +kernel
theorem dX3_falls_59 : decode cX3_falls 59 = .ok (.iconst 1, 1) := by decide +kernel
theorem dX3_falls_60 : decode cX3_falls 60 = .ok (.iconst 2, 1) := by decide +kernel
theorem dX3_falls_61 : decode cX3_falls 61 = .ok (.invokevirtual 72, 3) := by decide +kernel
theorem dX3_falls_64 : decode cX3_falls 64 = .ok (.goto 12, 3) := by decide +kernel
theorem dX3_falls_67 : decode cX3_falls 67 = .ok (.iload_n 2, 1) := by decide +kernel
theorem dX3_falls_68 : decode cX3_falls 68 = .ok (.ifCond .ne 8, 3) := by decide +kernel
theorem dX3_falls_71 : decode cX3_falls 71 = .ok (.aload_n 0, 1) := by decide +kernel
theorem dX3_falls_72 : decode cX3_falls 72 = .ok (.iload_n 1, 1) := by decide +kernel
theorem dX3_falls_73 : decode cX3_falls 73 = .ok (.invokevirtual 79, 3) := by decide +kernel
theorem dX3_falls_76 : decode cX3_falls 76 = .ok (.return_, 1) := by decide +kernel
theorem dX3_chip_0 : decode cX3_chip 0 = .ok (.iload_n 1, 1) := by decide +kernel
theorem dX3_chip_1 : decode cX3_chip 1 = .ok (.iconst 0, 1) := by decide +kernel
theorem dX3_chip_2 : decode cX3_chip 2 = .ok (.iconst 2, 1) := by decide +kernel
theorem dX3_chip_3 : decode cX3_chip 3 = .ok (.invokestatic 32, 3) := by decide +kernel
theorem dX3_chip_6 : decode cX3_chip 6 = .ok (.ifCond .eq 12, 3) := by decide +kernel
theorem dX3_chip_9 : decode cX3_chip 9 = .ok (.iload_n 2, 1) := by decide +kernel
theorem dX3_chip_10 : decode cX3_chip 10 = .ok (.iconst 0, 1) := by decide +kernel
theorem dX3_chip_11 : decode cX3_chip 11 = .ok (.iconst 2, 1) := by decide +kernel
theorem dX3_chip_12 : decode cX3_chip 12 = .ok (.invokestatic 32, 3) := by decide +kernel
theorem dX3_chip_15 : decode cX3_chip 15 = .ok (.ifCond .ne 6, 3) := by decide +kernel
theorem dX3_chip_18 : decode cX3_chip 18 = .ok (.ldc 40, 2) := by decide +kernel
theorem dX3_chip_20 : decode cX3_chip 20 = .ok (.ireturn, 1) := by decide +kernel
theorem dX3_chip_21 : decode cX3_chip 21 = .ok (.aload_n 0, 1) := by decide +kernel
theorem dX3_chip_22 : decode cX3_chip 22 = .ok (.getfield 7, 3) := by decide +kernel
theorem dX3_chip_25 : decode cX3_chip 25 = .ok (.iconst 0, 1) := by decide +kernel
theorem dX3_chip_26 : decode cX3_chip 26 = .ok (.iaload, 1) := by decide +kernel
theorem dX3_chip_27 : decode cX3_chip 27 = .ok (.bipush 8, 2) := by decide +kernel
theorem dX3_chip_29 : decode cX3_chip 29 = .ok (.if_icmp .ne 6, 3) := by decide +kernel
theorem dX3_chip_32 : decode cX3_chip 32 = .ok (.ldc 83, 2) := by decide +kernel
theorem dX3_chip_34 : decode cX3_chip 34 = .ok (.ireturn, 1) := by decide +kernel
theorem dX3_chip_35 : decode cX3_chip 35 = .ok (.aload_n 0, 1) := by decide +kernel
theorem dX3_chip_36 : decode cX3_chip 36 = .ok (.invokevirtual 84, 3) := by decide +kernel
theorem dX3_chip_39 : decode cX3_chip 39 = .ok (.bipush 8, 2) := by decide +kernel
theorem dX3_chip_41 : decode cX3_chip 41 = .ok (.iconst 4, 1) := by decide +kernel
theorem dX3_chip_42 : decode cX3_chip 42 = .ok (.aload_n 0, 1) := by decide +kernel
theorem dX3_chip_43 : decode cX3_chip 43 = .ok (.getfield 7, 3) := by decide +kernel
theorem dX3_chip_46 : decode cX3_chip 46 = .ok (.iconst 0, 1) := by decide +kernel
theorem dX3_chip_47 : decode cX3_chip 47 = .ok (.iaload, 1) := by decide +kernel
theorem dX3_chip_48 : decode cX3_chip 48 = .ok (.imul, 1) := by decide +kernel
theorem dX3_chip_49 : decode cX3_chip 49 = .ok (.iadd, 1) := by decide +kernel
theorem dX3_chip_50 : decode cX3_chip 50 = .ok (.istore_n 3, 1) := by decide +kernel
theorem dX3_chip_51 : decode cX3_chip 51 = .ok (.aload_n 0, 1) := by decide +kernel
theorem dX3_chip_52 : decode cX3_chip 52 = .ok (.getfield 7, 3) := by decide +kernel
theorem dX3_chip_55 : decode cX3_chip 55 = .ok (.iload_n 3, 1) := by decide +kernel
theorem dX3_chip_56 : decode cX3_chip 56 = .ok (.iload_n 1, 1) := by decide +kernel
theorem dX3_chip_57 : decode cX3_chip 57 = .ok (.iastore, 1) := by decide +kernel
theorem dX3_chip_58 : decode cX3_chip 58 = .ok (.aload_n 0, 1) := by decide +kernel
theorem dX3_chip_59 : decode cX3_chip 59 = .ok (.getfield 7, 3) := by decide +kernel
theorem dX3_chip_62 : decode cX3_chip 62 = .ok (.iload_n 3, 1) := by decide +kernel
theorem dX3_chip_63 : decode cX3_chip 63 = .ok (.iconst 1, 1) := by decide +kernel
theorem dX3_chip_64 : decode cX3_chip 64 = .ok (.iadd, 1) := by decide +kernel
theorem dX3_chip_65 : decode cX3_chip 65 = .ok (.iload_n 2, 1) := by decide +kernel
theorem dX3_chip_66 : decode cX3_chip 66 = .ok (.iastore, 1) := by decide +kernel
theorem dX3_chip_67 : decode cX3_chip 67 = .ok (.aload_n 0, 1) := by decide +kernel
theorem dX3_chip_68 : decode cX3_chip 68 = .ok (.getfield 7, 3) := by decide +kernel
theorem dX3_chip_71 : decode cX3_chip 71 = .ok (.iload_n 3, 1) := by decide +kernel
theorem dX3_chip_72 : decode cX3_chip 72 = .ok (.iconst 2, 1) := by decide +kernel
theorem dX3_chip_73 : decode cX3_chip 73 = .ok (.iadd, 1) := by decide +kernel
theorem dX3_chip_74 : decode cX3_chip 74 = .ok (.iconst 1, 1) := by decide +kernel
theorem dX3_chip_75 : decode cX3_chip 75 = .ok (.iastore, 1) := by decide +kernel
theorem dX3_chip_76 : decode cX3_chip 76 = .ok (.aload_n 0, 1) := by decide +kernel
theorem dX3_chip_77 : decode cX3_chip 77 = .ok (.getfield 7, 3) := by decide +kernel
theorem dX3_chip_80 : decode cX3_chip 80 = .ok (.iload_n 3, 1) := by decide +kernel
theorem dX3_chip_81 : decode cX3_chip 81 = .ok (.iconst 3, 1) := by decide +kernel
theorem dX3_chip_82 : decode cX3_chip 82 = .ok (.iadd, 1) := by decide +kernel
theorem dX3_chip_83 : decode cX3_chip 83 = .ok (.iconst 0, 1) := by decide +kernel
theorem dX3_chip_84 : decode cX3_chip 84 = .ok (.iastore, 1) := by decide +kernel
theorem dX3_chip_85 : decode cX3_chip 85 = .ok (.aload_n 0, 1) := by decide +kernel
theorem dX3_chip_86 : decode cX3_chip 86 = .ok (.getfield 7, 3) := by decide +kernel
theorem dX3_chip_89 : decode cX3_chip 89 = .ok (.iconst 0, 1) := by decide +kernel
theorem dX3_chip_90 : decode cX3_chip 90 = .ok (.dup2, 1) := by decide +kernel
theorem dX3_chip_91 : decode cX3_chip 91 = .ok (.iaload, 1) := by decide +kernel
theorem dX3_chip_92 : decode cX3_chip 92 = .ok (.iconst 1, 1) := by decide +kernel
theorem dX3_chip_93 : decode cX3_chip 93 = .ok (.iadd, 1) := by decide +kernel
theorem dX3_chip_94 : decode cX3_chip 94 = .ok (.iastore, 1) := by decide +kernel
theorem dX3_chip_95 : decode cX3_chip 95 = .ok (.aload_n 0, 1) := by decide +kernel
theorem dX3_chip_96 : decode cX3_chip 96 = .ok (.aload_n 0, 1) := by decide +kernel
theorem dX3_chip_97 : decode cX3_chip 97 = .ok (.getfield 7, 3) := by decide +kernel
theorem dX3_chip_100 : decode cX3_chip 100 = .ok (.iconst 0, 1) := by decide +kernel
theorem dX3_chip_101 : decode cX3_chip 101 = .ok (.iaload, 1) := by decide +kernel
theorem dX3_chip_102 : decode cX3_chip 102 = .ok (.iconst 1, 1) := by decide +kernel
theorem dX3_chip_103 : decode cX3_chip 103 = .ok (.isub, 1) := by decide +kernel
theorem dX3_chip_104 : decode cX3_chip 104 = .ok (.invokevirtual 87, 3) := by decide +kernel
theorem dX3_chip_107 : decode cX3_chip 107 = .ok (.ireturn, 1) := by decide +kernel
theorem dX3_words_0 : decode cX3_words 0 = .ok (.iconst 0, 1) := by decide +kernel
theorem dX3_words_1 : decode cX3_words 1 = .ok (.istore_n 2, 1) := by decide +kernel
theorem dX3_words_2 : decode cX3_words 2 = .ok (.iconst 0, 1) := by decide +kernel
theorem dX3_words_3 : decode cX3_words 3 = .ok (.istore_n 3, 1) := by decide +kernel
theorem dX3_words_4 : decode cX3_words 4 = .ok (.iload_n 3, 1) := by decide +kernel
theorem dX3_words_5 : decode cX3_words 5 = .ok (.bipush 6, 2) := by decide +kernel
theorem dX3_words_7 : decode cX3_words 7 = .ok (.if_icmp .ge 26, 3) := by decide +kernel
theorem dX3_words_10 : decode cX3_words 10 = .ok (.iload_n 2, 1) := by decide +kernel
theorem dX3_words_11 : decode cX3_words 11 = .ok (.aload_n 0, 1) := by decide +kernel
theorem dX3_words_12 : decode cX3_words 12 = .ok (.iload_n 1, 1) := by decide +kernel
theorem dX3_words_13 : decode cX3_words 13 = .ok (.iload_n 3, 1) := by decide +kernel
theorem dX3_words_14 : decode cX3_words 14 = .ok (.invokevirtual 59, 3) := by decide +kernel
theorem dX3_words_17 : decode cX3_words 17 = .ok (.ifCond .ge 7, 3) := by decide +kernel
theorem dX3_words_20 : decode cX3_words 20 = .ok (.iconst 0, 1) := by decide +kernel
theorem dX3_words_21 : decode cX3_words 21 = .ok (.goto 4, 3) := by decide +kernel
theorem dX3_words_24 : decode cX3_words 24 = .ok (.iconst 1, 1) := by decide +kernel
theorem dX3_words_25 : decode cX3_words 25 = .ok (.iadd, 1) := by decide +kernel
theorem dX3_words_26 : decode cX3_words 26 = .ok (.istore_n 2, 1) := by decide +kernel
theorem dX3_words_27 : decode cX3_words 27 = .ok (.iinc 3 1, 3) := by decide +kernel
theorem dX3_words_30 : decode cX3_words 30 = .ok (.goto (-26), 3) := by decide +kernel
theorem dX3_words_33 : decode cX3_words 33 = .ok (.iload_n 2, 1) := by decide +kernel
theorem dX3_words_34 : decode cX3_words 34 = .ok (.ireturn, 1) := by decide +kernel
theorem dX3_guarded_0 : decode cX3_guarded 0 = .ok (.iconst 0, 1) := by decide +kernel
theorem dX3_guarded_1 : decode cX3_guarded 1 = .ok (.istore_n 2, 1) := by decide +kernel
theorem dX3_guarded_2 : decode cX3_guarded 2 = .ok (.iconst 0, 1) := by decide +kernel
theorem dX3_guarded_3 : decode cX3_guarded 3 = .ok (.istore_n 3, 1) := by decide +kernel
theorem dX3_guarded_4 : decode cX3_guarded 4 = .ok (.iload_n 3, 1) := by decide +kernel
theorem dX3_guarded_5 : decode cX3_guarded 5 = .ok (.bipush 6, 2) := by decide +kernel
theorem dX3_guarded_7 : decode cX3_guarded 7 = .ok (.if_icmp .ge 28, 3) := by decide +kernel
theorem dX3_guarded_10 : decode cX3_guarded 10 = .ok (.iload_n 2, 1) := by decide +kernel
theorem dX3_guarded_11 : decode cX3_guarded 11 = .ok (.aload_n 0, 1) := by decide +kernel
theorem dX3_guarded_12 : decode cX3_guarded 12 = .ok (.iload_n 1, 1) := by decide +kernel
theorem dX3_guarded_13 : decode cX3_guarded 13 = .ok (.iload_n 3, 1) := by decide +kernel
theorem dX3_guarded_14 : decode cX3_guarded 14 = .ok (.invokevirtual 76, 3) := by decide +kernel
theorem dX3_guarded_17 : decode cX3_guarded 17 = .ok (.ifCond .eq 9, 3) := by decide +kernel
theorem dX3_guarded_20 : decode cX3_guarded 20 = .ok (.iconst 1, 1) := by decide +kernel
theorem dX3_guarded_21 : decode cX3_guarded 21 = .ok (.iload_n 3, 1) := by decide +kernel
theorem dX3_guarded_22 : decode cX3_guarded 22 = .ok (.ishl, 1) := by decide +kernel
theorem dX3_guarded_23 : decode cX3_guarded 23 = .ok (.goto 4, 3) := by decide +kernel
theorem dX3_guarded_26 : decode cX3_guarded 26 = .ok (.iconst 0, 1) := by decide +kernel
theorem dX3_guarded_27 : decode cX3_guarded 27 = .ok (.ior, 1) := by decide +kernel
theorem dX3_guarded_28 : decode cX3_guarded 28 = .ok (.istore_n 2, 1) := by decide +kernel
theorem dX3_guarded_29 : decode cX3_guarded 29 = .ok (.iinc 3 1, 3) := by decide +kernel
theorem dX3_guarded_32 : decode cX3_guarded 32 = .ok (.goto (-28), 3) := by decide +kernel
theorem dX3_guarded_35 : decode cX3_guarded 35 = .ok (.iload_n 2, 1) := by decide +kernel
theorem dX3_guarded_36 : decode cX3_guarded 36 = .ok (.ireturn, 1) := by decide +kernel
theorem dX3_elects_0 : decode cX3_elects 0 = .ok (.aload_n 0, 1) := by decide +kernel
theorem dX3_elects_1 : decode cX3_elects 1 = .ok (.iload_n 1, 1) := by decide +kernel
theorem dX3_elects_2 : decode cX3_elects 2 = .ok (.invokevirtual 90, 3) := by decide +kernel
theorem dX3_elects_5 : decode cX3_elects 5 = .ok (.ifCond .ne 6, 3) := by decide +kernel
theorem dX3_elects_8 : decode cX3_elects 8 = .ok (.ldc 40, 2) := by decide +kernel
theorem dX3_elects_10 : decode cX3_elects 10 = .ok (.ireturn, 1) := by decide +kernel
theorem dX3_elects_11 : decode cX3_elects 11 = .ok (.aload_n 0, 1) := by decide +kernel
theorem dX3_elects_12 : decode cX3_elects 12 = .ok (.iload_n 1, 1) := by decide +kernel
theorem dX3_elects_13 : decode cX3_elects 13 = .ok (.invokevirtual 52, 3) := by decide +kernel
theorem dX3_elects_16 : decode cX3_elects 16 = .ok (.ifCond .eq 27, 3) := by decide +kernel
theorem dX3_elects_19 : decode cX3_elects 19 = .ok (.aload_n 0, 1) := by decide +kernel
theorem dX3_elects_20 : decode cX3_elects 20 = .ok (.getfield 7, 3) := by decide +kernel
theorem dX3_elects_23 : decode cX3_elects 23 = .ok (.iconst 5, 1) := by decide +kernel
theorem dX3_elects_24 : decode cX3_elects 24 = .ok (.aload_n 0, 1) := by decide +kernel
theorem dX3_elects_25 : decode cX3_elects 25 = .ok (.iload_n 1, 1) := by decide +kernel
theorem dX3_elects_26 : decode cX3_elects 26 = .ok (.iconst 0, 1) := by decide +kernel
theorem dX3_elects_27 : decode cX3_elects 27 = .ok (.invokevirtual 36, 3) := by decide +kernel
theorem dX3_elects_30 : decode cX3_elects 30 = .ok (.iadd, 1) := by decide +kernel
theorem dX3_elects_31 : decode cX3_elects 31 = .ok (.iaload, 1) := by decide +kernel
theorem dX3_elects_32 : decode cX3_elects 32 = .ok (.ifCond .ge 11, 3) := by decide +kernel
theorem dX3_elects_35 : decode cX3_elects 35 = .ok (.aload_n 0, 1) := by decide +kernel
theorem dX3_elects_36 : decode cX3_elects 36 = .ok (.iload_n 1, 1) := by decide +kernel
theorem dX3_elects_37 : decode cX3_elects 37 = .ok (.invokevirtual 93, 3) := by decide +kernel
theorem dX3_elects_40 : decode cX3_elects 40 = .ok (.ifCond .le 6, 3) := by decide +kernel
theorem dX3_elects_43 : decode cX3_elects 43 = .ok (.ldc 96, 2) := by decide +kernel
theorem dX3_elects_45 : decode cX3_elects 45 = .ok (.ireturn, 1) := by decide +kernel
theorem dX3_elects_46 : decode cX3_elects 46 = .ok (.aload_n 0, 1) := by decide +kernel
theorem dX3_elects_47 : decode cX3_elects 47 = .ok (.getfield 7, 3) := by decide +kernel
theorem dX3_elects_50 : decode cX3_elects 50 = .ok (.iconst 5, 1) := by decide +kernel
theorem dX3_elects_51 : decode cX3_elects 51 = .ok (.aload_n 0, 1) := by decide +kernel
theorem dX3_elects_52 : decode cX3_elects 52 = .ok (.iload_n 1, 1) := by decide +kernel
theorem dX3_elects_53 : decode cX3_elects 53 = .ok (.iconst 0, 1) := by decide +kernel
theorem dX3_elects_54 : decode cX3_elects 54 = .ok (.invokevirtual 36, 3) := by decide +kernel
theorem dX3_elects_57 : decode cX3_elects 57 = .ok (.iadd, 1) := by decide +kernel
theorem dX3_elects_58 : decode cX3_elects 58 = .ok (.iload_n 1, 1) := by decide +kernel
theorem dX3_elects_59 : decode cX3_elects 59 = .ok (.iastore, 1) := by decide +kernel
theorem dX3_elects_60 : decode cX3_elects 60 = .ok (.aload_n 0, 1) := by decide +kernel
theorem dX3_elects_61 : decode cX3_elects 61 = .ok (.aload_n 0, 1) := by decide +kernel
theorem dX3_elects_62 : decode cX3_elects 62 = .ok (.iload_n 1, 1) := by decide +kernel
theorem dX3_elects_63 : decode cX3_elects 63 = .ok (.iconst 0, 1) := by decide +kernel
theorem dX3_elects_64 : decode cX3_elects 64 = .ok (.invokevirtual 36, 3) := by decide +kernel
theorem dX3_elects_67 : decode cX3_elects 67 = .ok (.invokevirtual 97, 3) := by decide +kernel
theorem dX3_elects_70 : decode cX3_elects 70 = .ok (.invokestatic 100, 3) := by decide +kernel
theorem dX3_elects_73 : decode cX3_elects 73 = .ok (.ireturn, 1) := by decide +kernel
theorem dX3_elect_0 : decode cX3_elect 0 = .ok (.aload_n 0, 1) := by decide +kernel
theorem dX3_elect_1 : decode cX3_elect 1 = .ok (.invokevirtual 84, 3) := by decide +kernel
theorem dX3_elect_4 : decode cX3_elect 4 = .ok (.aload_n 0, 1) := by decide +kernel
theorem dX3_elect_5 : decode cX3_elect 5 = .ok (.aload_n 0, 1) := by decide +kernel
theorem dX3_elect_6 : decode cX3_elect 6 = .ok (.iload_n 1, 1) := by decide +kernel
theorem dX3_elect_7 : decode cX3_elect 7 = .ok (.invokevirtual 103, 3) := by decide +kernel
theorem dX3_elect_10 : decode cX3_elect 10 = .ok (.invokevirtual 87, 3) := by decide +kernel
theorem dX3_elect_13 : decode cX3_elect 13 = .ok (.ireturn, 1) := by decide +kernel
theorem dX3_kills_0 : decode cX3_kills 0 = .ok (.aload_n 0, 1) := by decide +kernel
theorem dX3_kills_1 : decode cX3_kills 1 = .ok (.iload_n 1, 1) := by decide +kernel
theorem dX3_kills_2 : decode cX3_kills 2 = .ok (.invokevirtual 90, 3) := by decide +kernel
theorem dX3_kills_5 : decode cX3_kills 5 = .ok (.ifCond .ne 6, 3) := by decide +kernel
theorem dX3_kills_8 : decode cX3_kills 8 = .ok (.ldc 40, 2) := by decide +kernel
theorem dX3_kills_10 : decode cX3_kills 10 = .ok (.ireturn, 1) := by decide +kernel
theorem dX3_kills_11 : decode cX3_kills 11 = .ok (.aload_n 0, 1) := by decide +kernel
theorem dX3_kills_12 : decode cX3_kills 12 = .ok (.iload_n 1, 1) := by decide +kernel
theorem dX3_kills_13 : decode cX3_kills 13 = .ok (.invokevirtual 52, 3) := by decide +kernel
theorem dX3_kills_16 : decode cX3_kills 16 = .ok (.ifCond .ne 6, 3) := by decide +kernel
theorem dX3_kills_19 : decode cX3_kills 19 = .ok (.ldc 96, 2) := by decide +kernel
theorem dX3_kills_21 : decode cX3_kills 21 = .ok (.ireturn, 1) := by decide +kernel
theorem dX3_kills_22 : decode cX3_kills 22 = .ok (.aload_n 0, 1) := by decide +kernel
theorem dX3_kills_23 : decode cX3_kills 23 = .ok (.invokevirtual 106, 3) := by decide +kernel
theorem dX3_kills_26 : decode cX3_kills 26 = .ok (.istore_n 2, 1) := by decide +kernel
theorem dX3_kills_27 : decode cX3_kills 27 = .ok (.aload_n 0, 1) := by decide +kernel
theorem dX3_kills_28 : decode cX3_kills 28 = .ok (.iload_n 1, 1) := by decide +kernel
theorem dX3_kills_29 : decode cX3_kills 29 = .ok (.iconst 0, 1) := by decide +kernel
theorem dX3_kills_30 : decode cX3_kills 30 = .ok (.invokevirtual 36, 3) := by decide +kernel
theorem dX3_kills_33 : decode cX3_kills 33 = .ok (.istore_n 3, 1) := by decide +kernel
theorem dX3_kills_34 : decode cX3_kills 34 = .ok (.aload_n 0, 1) := by decide +kernel
theorem dX3_kills_35 : decode cX3_kills 35 = .ok (.iload_n 1, 1) := by decide +kernel
theorem dX3_kills_36 : decode cX3_kills 36 = .ok (.invokevirtual 56, 3) := by decide +kernel
theorem dX3_kills_39 : decode cX3_kills 39 = .ok (.istore 4, 2) := by decide +kernel
theorem dX3_kills_41 : decode cX3_kills 41 = .ok (.aload_n 0, 1) := by decide +kernel
theorem dX3_kills_42 : decode cX3_kills 42 = .ok (.getfield 7, 3) := by decide +kernel
theorem dX3_kills_45 : decode cX3_kills 45 = .ok (.bipush 8, 2) := by decide +kernel
theorem dX3_kills_47 : decode cX3_kills 47 = .ok (.iconst 4, 1) := by decide +kernel
theorem dX3_kills_48 : decode cX3_kills 48 = .ok (.iload_n 1, 1) := by decide +kernel
theorem dX3_kills_49 : decode cX3_kills 49 = .ok (.imul, 1) := by decide +kernel
theorem dX3_kills_50 : decode cX3_kills 50 = .ok (.iadd, 1) := by decide +kernel
theorem dX3_kills_51 : decode cX3_kills 51 = .ok (.iconst 2, 1) := by decide +kernel
theorem dX3_kills_52 : decode cX3_kills 52 = .ok (.iadd, 1) := by decide +kernel
theorem dX3_kills_53 : decode cX3_kills 53 = .ok (.iconst 0, 1) := by decide +kernel
theorem dX3_kills_54 : decode cX3_kills 54 = .ok (.iastore, 1) := by decide +kernel
theorem dX3_kills_55 : decode cX3_kills 55 = .ok (.iconst 0, 1) := by decide +kernel
theorem dX3_kills_56 : decode cX3_kills 56 = .ok (.istore 5, 2) := by decide +kernel
theorem dX3_kills_58 : decode cX3_kills 58 = .ok (.iload 5, 2) := by decide +kernel
theorem dX3_kills_60 : decode cX3_kills 60 = .ok (.bipush 6, 2) := by decide +kernel
theorem dX3_kills_62 : decode cX3_kills 62 = .ok (.if_icmp .ge 58, 3) := by decide +kernel
theorem dX3_kills_65 : decode cX3_kills 65 = .ok (.aload_n 0, 1) := by decide +kernel
theorem dX3_kills_66 : decode cX3_kills 66 = .ok (.iload_n 1, 1) := by decide +kernel
theorem dX3_kills_67 : decode cX3_kills 67 = .ok (.iload 5, 2) := by decide +kernel
theorem dX3_kills_69 : decode cX3_kills 69 = .ok (.invokevirtual 59, 3) := by decide +kernel
theorem dX3_kills_72 : decode cX3_kills 72 = .ok (.istore 6, 2) := by decide +kernel
theorem dX3_kills_74 : decode cX3_kills 74 = .ok (.iload 6, 2) := by decide +kernel
theorem dX3_kills_76 : decode cX3_kills 76 = .ok (.ifCond .lt 10, 3) := by decide +kernel
theorem dX3_kills_79 : decode cX3_kills 79 = .ok (.aload_n 0, 1) := by decide +kernel
theorem dX3_kills_80 : decode cX3_kills 80 = .ok (.iload 6, 2) := by decide +kernel
theorem dX3_kills_82 : decode cX3_kills 82 = .ok (.iconst 0, 1) := by decide +kernel
theorem dX3_kills_83 : decode cX3_kills 83 = .ok (.invokevirtual 110, 3) := by decide +kernel
theorem dX3_kills_86 : decode cX3_kills 86 = .ok (.iload 4, 2) := by decide +kernel
theorem dX3_kills_88 : decode cX3_kills 88 = .ok (.ifCond .eq 26, 3) := by decide +kernel
theorem dX3_kills_91 : decode cX3_kills 91 = .ok (.aload_n 0, 1) := by decide +kernel
theorem dX3_kills_92 : decode cX3_kills 92 = .ok (.iload_n 3, 1) := by decide +kernel
theorem dX3_kills_93 : decode cX3_kills 93 = .ok (.iload 5, 2) := by decide +kernel
theorem dX3_kills_95 : decode cX3_kills 95 = .ok (.invokevirtual 62, 3) := by decide +kernel
theorem dX3_kills_98 : decode cX3_kills 98 = .ok (.ifCond .lt 16, 3) := by decide +kernel
theorem dX3_kills_101 : decode cX3_kills 101 = .ok (.aload_n 0, 1) := by decide +kernel
theorem dX3_kills_102 : decode cX3_kills 102 = .ok (.aload_n 0, 1) := by decide +kernel
theorem dX3_kills_103 : decode cX3_kills 103 = .ok (.iload_n 3, 1) := by decide +kernel
theorem dX3_kills_104 : decode cX3_kills 104 = .ok (.iload 5, 2) := by decide +kernel
theorem dX3_kills_106 : decode cX3_kills 106 = .ok (.invokevirtual 62, 3) := by decide +kernel
theorem dX3_kills_109 : decode cX3_kills 109 = .ok (.iconst 1, 1) := by decide +kernel
theorem dX3_kills_110 : decode cX3_kills 110 = .ok (.iconst 2, 1) := by decide +kernel
theorem dX3_kills_111 : decode cX3_kills 111 = .ok (.invokevirtual 72, 3) := by decide +kernel
theorem dX3_kills_114 : decode cX3_kills 114 = .ok (.iinc 5 1, 3) := by decide +kernel
theorem dX3_kills_117 : decode cX3_kills 117 = .ok (.goto (-59), 3) := by decide +kernel
theorem dX3_kills_120 : decode cX3_kills 120 = .ok (.aload_n 0, 1) := by decide +kernel
theorem dX3_kills_121 : decode cX3_kills 121 = .ok (.getfield 7, 3) := by decide +kernel
theorem dX3_kills_124 : decode cX3_kills 124 = .ok (.iconst 5, 1) := by decide +kernel
theorem dX3_kills_125 : decode cX3_kills 125 = .ok (.iload_n 3, 1) := by decide +kernel
theorem dX3_kills_126 : decode cX3_kills 126 = .ok (.iadd, 1) := by decide +kernel
theorem dX3_kills_127 : decode cX3_kills 127 = .ok (.iload 4, 2) := by decide +kernel
theorem dX3_kills_129 : decode cX3_kills 129 = .ok (.ifCond .eq 7, 3) := by decide +kernel
theorem dX3_kills_132 : decode cX3_kills 132 = .ok (.iconst (-1), 1) := by decide +kernel
theorem dX3_kills_133 : decode cX3_kills 133 = .ok (.goto 11, 3) := by decide +kernel
theorem dX3_kills_136 : decode cX3_kills 136 = .ok (.aload_n 0, 1) := by decide +kernel
theorem dX3_kills_137 : decode cX3_kills 137 = .ok (.getfield 7, 3) := by decide +kernel
theorem dX3_kills_140 : decode cX3_kills 140 = .ok (.iconst 5, 1) := by decide +kernel
theorem dX3_kills_141 : decode cX3_kills 141 = .ok (.iload_n 3, 1) := by decide +kernel
theorem dX3_kills_142 : decode cX3_kills 142 = .ok (.iadd, 1) := by decide +kernel
theorem dX3_kills_143 : decode cX3_kills 143 = .ok (.iaload, 1) := by decide +kernel
theorem dX3_kills_144 : decode cX3_kills 144 = .ok (.iastore, 1) := by decide +kernel
theorem dX3_kills_145 : decode cX3_kills 145 = .ok (.aload_n 0, 1) := by decide +kernel
theorem dX3_kills_146 : decode cX3_kills 146 = .ok (.invokevirtual 106, 3) := by decide +kernel
theorem dX3_kills_149 : decode cX3_kills 149 = .ok (.iload_n 2, 1) := by decide +kernel
theorem dX3_kills_150 : decode cX3_kills 150 = .ok (.isub, 1) := by decide +kernel
theorem dX3_kills_151 : decode cX3_kills 151 = .ok (.ireturn, 1) := by decide +kernel
theorem dX3_kill_0 : decode cX3_kill 0 = .ok (.aload_n 0, 1) := by decide +kernel
theorem dX3_kill_1 : decode cX3_kill 1 = .ok (.invokevirtual 84, 3) := by decide +kernel
theorem dX3_kill_4 : decode cX3_kill 4 = .ok (.aload_n 0, 1) := by decide +kernel
theorem dX3_kill_5 : decode cX3_kill 5 = .ok (.aload_n 0, 1) := by decide +kernel
theorem dX3_kill_6 : decode cX3_kill 6 = .ok (.iload_n 1, 1) := by decide +kernel
theorem dX3_kill_7 : decode cX3_kill 7 = .ok (.invokevirtual 114, 3) := by decide +kernel
theorem dX3_kill_10 : decode cX3_kill 10 = .ok (.invokevirtual 87, 3) := by decide +kernel
theorem dX3_kill_13 : decode cX3_kill 13 = .ok (.ireturn, 1) := by decide +kernel
theorem dX3_breaksOne_0 : decode cX3_breaksOne 0 = .ok (.aload_n 0, 1) := by decide +kernel
theorem dX3_breaksOne_1 : decode cX3_breaksOne 1 = .ok (.iload_n 1, 1) := by decide +kernel
theorem dX3_breaksOne_2 : decode cX3_breaksOne 2 = .ok (.invokevirtual 90, 3) := by decide +kernel
theorem dX3_breaksOne_5 : decode cX3_breaksOne 5 = .ok (.ifCond .eq 12, 3) := by decide +kernel
theorem dX3_breaksOne_8 : decode cX3_breaksOne 8 = .ok (.iload_n 2, 1) := by decide +kernel
theorem dX3_breaksOne_9 : decode cX3_breaksOne 9 = .ok (.iconst 0, 1) := by decide +kernel
theorem dX3_breaksOne_10 : decode cX3_breaksOne 10 = .ok (.iconst 5, 1) := by decide +kernel
theorem dX3_breaksOne_11 : decode cX3_breaksOne 11 = .ok (.invokestatic 32, 3) := by decide +kernel
theorem dX3_breaksOne_14 : decode cX3_breaksOne 14 = .ok (.ifCond .ne 6, 3) := by decide +kernel
theorem dX3_breaksOne_17 : decode cX3_breaksOne 17 = .ok (.ldc 40, 2) := by decide +kernel
theorem dX3_breaksOne_19 : decode cX3_breaksOne 19 = .ok (.ireturn, 1) := by decide +kernel
theorem dX3_breaksOne_20 : decode cX3_breaksOne 20 = .ok (.aload_n 0, 1) := by decide +kernel
theorem dX3_breaksOne_21 : decode cX3_breaksOne 21 = .ok (.iload_n 1, 1) := by decide +kernel
theorem dX3_breaksOne_22 : decode cX3_breaksOne 22 = .ok (.invokevirtual 52, 3) := by decide +kernel
theorem dX3_breaksOne_25 : decode cX3_breaksOne 25 = .ok (.ifCond .eq 12, 3) := by decide +kernel
theorem dX3_breaksOne_28 : decode cX3_breaksOne 28 = .ok (.aload_n 0, 1) := by decide +kernel
theorem dX3_breaksOne_29 : decode cX3_breaksOne 29 = .ok (.iload_n 1, 1) := by decide +kernel
theorem dX3_breaksOne_30 : decode cX3_breaksOne 30 = .ok (.iload_n 2, 1) := by decide +kernel
theorem dX3_breaksOne_31 : decode cX3_breaksOne 31 = .ok (.invokevirtual 48, 3) := by decide +kernel
theorem dX3_breaksOne_34 : decode cX3_breaksOne 34 = .ok (.ifCond .ne 6, 3) := by decide +kernel
theorem dX3_breaksOne_37 : decode cX3_breaksOne 37 = .ok (.ldc 96, 2) := by decide +kernel
theorem dX3_breaksOne_39 : decode cX3_breaksOne 39 = .ok (.ireturn, 1) := by decide +kernel
theorem dX3_breaksOne_40 : decode cX3_breaksOne 40 = .ok (.aload_n 0, 1) := by decide +kernel
theorem dX3_breaksOne_41 : decode cX3_breaksOne 41 = .ok (.invokevirtual 106, 3) := by decide +kernel
theorem dX3_breaksOne_44 : decode cX3_breaksOne 44 = .ok (.istore_n 3, 1) := by decide +kernel
theorem dX3_breaksOne_45 : decode cX3_breaksOne 45 = .ok (.aload_n 0, 1) := by decide +kernel
theorem dX3_breaksOne_46 : decode cX3_breaksOne 46 = .ok (.iload_n 1, 1) := by decide +kernel
theorem dX3_breaksOne_47 : decode cX3_breaksOne 47 = .ok (.iload_n 2, 1) := by decide +kernel
theorem dX3_breaksOne_48 : decode cX3_breaksOne 48 = .ok (.invokevirtual 59, 3) := by decide +kernel
theorem dX3_breaksOne_51 : decode cX3_breaksOne 51 = .ok (.istore 4, 2) := by decide +kernel
theorem dX3_breaksOne_53 : decode cX3_breaksOne 53 = .ok (.aload_n 0, 1) := by decide +kernel
theorem dX3_breaksOne_54 : decode cX3_breaksOne 54 = .ok (.iload_n 1, 1) := by decide +kernel
theorem dX3_breaksOne_55 : decode cX3_breaksOne 55 = .ok (.iconst 1, 1) := by decide +kernel
theorem dX3_breaksOne_56 : decode cX3_breaksOne 56 = .ok (.invokevirtual 36, 3) := by decide +kernel
theorem dX3_breaksOne_59 : decode cX3_breaksOne 59 = .ok (.ifCond .le 7, 3) := by decide +kernel
theorem dX3_breaksOne_62 : decode cX3_breaksOne 62 = .ok (.iconst 1, 1) := by decide +kernel
theorem dX3_breaksOne_63 : decode cX3_breaksOne 63 = .ok (.goto 4, 3) := by decide +kernel
theorem dX3_breaksOne_66 : decode cX3_breaksOne 66 = .ok (.iconst 0, 1) := by decide +kernel
theorem dX3_breaksOne_67 : decode cX3_breaksOne 67 = .ok (.istore 5, 2) := by decide +kernel
theorem dX3_breaksOne_69 : decode cX3_breaksOne 69 = .ok (.aload_n 0, 1) := by decide +kernel
theorem dX3_breaksOne_70 : decode cX3_breaksOne 70 = .ok (.iload_n 1, 1) := by decide +kernel
theorem dX3_breaksOne_71 : decode cX3_breaksOne 71 = .ok (.invokevirtual 56, 3) := by decide +kernel
theorem dX3_breaksOne_74 : decode cX3_breaksOne 74 = .ok (.ifCond .eq 32, 3) := by decide +kernel
theorem dX3_breaksOne_77 : decode cX3_breaksOne 77 = .ok (.aload_n 0, 1) := by decide +kernel
theorem dX3_breaksOne_78 : decode cX3_breaksOne 78 = .ok (.aload_n 0, 1) := by decide +kernel
theorem dX3_breaksOne_79 : decode cX3_breaksOne 79 = .ok (.iload_n 1, 1) := by decide +kernel
theorem dX3_breaksOne_80 : decode cX3_breaksOne 80 = .ok (.iconst 0, 1) := by decide +kernel
theorem dX3_breaksOne_81 : decode cX3_breaksOne 81 = .ok (.invokevirtual 36, 3) := by decide +kernel
theorem dX3_breaksOne_84 : decode cX3_breaksOne 84 = .ok (.iload_n 2, 1) := by decide +kernel
theorem dX3_breaksOne_85 : decode cX3_breaksOne 85 = .ok (.invokevirtual 62, 3) := by decide +kernel
theorem dX3_breaksOne_88 : decode cX3_breaksOne 88 = .ok (.istore 6, 2) := by decide +kernel
theorem dX3_breaksOne_90 : decode cX3_breaksOne 90 = .ok (.iload 6, 2) := by decide +kernel
theorem dX3_breaksOne_92 : decode cX3_breaksOne 92 = .ok (.ifCond .lt 11, 3) := by decide +kernel
theorem dX3_breaksOne_95 : decode cX3_breaksOne 95 = .ok (.aload_n 0, 1) := by decide +kernel
theorem dX3_breaksOne_96 : decode cX3_breaksOne 96 = .ok (.iload 6, 2) := by decide +kernel
theorem dX3_breaksOne_98 : decode cX3_breaksOne 98 = .ok (.iconst 1, 1) := by decide +kernel
theorem dX3_breaksOne_99 : decode cX3_breaksOne 99 = .ok (.iconst 2, 1) := by decide +kernel
theorem dX3_breaksOne_100 : decode cX3_breaksOne 100 = .ok (.invokevirtual 72, 3) := by decide +kernel
theorem dX3_breaksOne_103 : decode cX3_breaksOne 103 = .ok (.goto 16, 3) := by decide +kernel
theorem dX3_breaksOne_106 : decode cX3_breaksOne 106 = .ok (.iload 4, 2) := by decide +kernel
theorem dX3_breaksOne_108 : decode cX3_breaksOne 108 = .ok (.ifCond .lt 11, 3) := by decide +kernel
theorem dX3_breaksOne_111 : decode cX3_breaksOne 111 = .ok (.aload_n 0, 1) := by decide +kernel
theorem dX3_breaksOne_112 : decode cX3_breaksOne 112 = .ok (.iload 4, 2) := by decide +kernel
theorem dX3_breaksOne_114 : decode cX3_breaksOne 114 = .ok (.iload 5, 2) := by decide +kernel
theorem dX3_breaksOne_116 : decode cX3_breaksOne 116 = .ok (.invokevirtual 110, 3) := by decide +kernel
theorem dX3_breaksOne_119 : decode cX3_breaksOne 119 = .ok (.aload_n 0, 1) := by decide +kernel
theorem dX3_breaksOne_120 : decode cX3_breaksOne 120 = .ok (.getfield 7, 3) := by decide +kernel
theorem dX3_breaksOne_123 : decode cX3_breaksOne 123 = .ok (.bipush 8, 2) := by decide +kernel
theorem dX3_breaksOne_125 : decode cX3_breaksOne 125 = .ok (.iconst 4, 1) := by decide +kernel
theorem dX3_breaksOne_126 : decode cX3_breaksOne 126 = .ok (.iload_n 1, 1) := by decide +kernel
theorem dX3_breaksOne_127 : decode cX3_breaksOne 127 = .ok (.imul, 1) := by decide +kernel
theorem dX3_breaksOne_128 : decode cX3_breaksOne 128 = .ok (.iadd, 1) := by decide +kernel
theorem dX3_breaksOne_129 : decode cX3_breaksOne 129 = .ok (.iconst 1, 1) := by decide +kernel
theorem dX3_breaksOne_130 : decode cX3_breaksOne 130 = .ok (.iadd, 1) := by decide +kernel
theorem dX3_breaksOne_131 : decode cX3_breaksOne 131 = .ok (.dup2, 1) := by decide +kernel
theorem dX3_breaksOne_132 : decode cX3_breaksOne 132 = .ok (.iaload, 1) := by decide +kernel
theorem dX3_breaksOne_133 : decode cX3_breaksOne 133 = .ok (.iload 5, 2) := by decide +kernel
theorem dX3_breaksOne_135 : decode cX3_breaksOne 135 = .ok (.ifCond .eq 7, 3) := by decide +kernel
theorem dX3_breaksOne_138 : decode cX3_breaksOne 138 = .ok (.iconst 1, 1) := by decide +kernel
theorem dX3_breaksOne_139 : decode cX3_breaksOne 139 = .ok (.goto 4, 3) := by decide +kernel
theorem dX3_breaksOne_142 : decode cX3_breaksOne 142 = .ok (.iconst 0, 1) := by decide +kernel
theorem dX3_breaksOne_143 : decode cX3_breaksOne 143 = .ok (.isub, 1) := by decide +kernel
theorem dX3_breaksOne_144 : decode cX3_breaksOne 144 = .ok (.iastore, 1) := by decide +kernel
theorem dX3_breaksOne_145 : decode cX3_breaksOne 145 = .ok (.aload_n 0, 1) := by decide +kernel
theorem dX3_breaksOne_146 : decode cX3_breaksOne 146 = .ok (.getfield 7, 3) := by decide +kernel
theorem dX3_breaksOne_149 : decode cX3_breaksOne 149 = .ok (.bipush 8, 2) := by decide +kernel
theorem dX3_breaksOne_151 : decode cX3_breaksOne 151 = .ok (.iconst 4, 1) := by decide +kernel
theorem dX3_breaksOne_152 : decode cX3_breaksOne 152 = .ok (.iload_n 1, 1) := by decide +kernel
theorem dX3_breaksOne_153 : decode cX3_breaksOne 153 = .ok (.imul, 1) := by decide +kernel
theorem dX3_breaksOne_154 : decode cX3_breaksOne 154 = .ok (.iadd, 1) := by decide +kernel
theorem dX3_breaksOne_155 : decode cX3_breaksOne 155 = .ok (.iconst 3, 1) := by decide +kernel
theorem dX3_breaksOne_156 : decode cX3_breaksOne 156 = .ok (.iadd, 1) := by decide +kernel
theorem dX3_breaksOne_157 : decode cX3_breaksOne 157 = .ok (.dup2, 1) := by decide +kernel
theorem dX3_breaksOne_158 : decode cX3_breaksOne 158 = .ok (.iaload, 1) := by decide +kernel
theorem dX3_breaksOne_159 : decode cX3_breaksOne 159 = .ok (.iload 5, 2) := by decide +kernel
theorem dX3_breaksOne_161 : decode cX3_breaksOne 161 = .ok (.ifCond .eq 7, 3) := by decide +kernel
theorem dX3_breaksOne_164 : decode cX3_breaksOne 164 = .ok (.iconst 0, 1) := by decide +kernel
theorem dX3_breaksOne_165 : decode cX3_breaksOne 165 = .ok (.goto 6, 3) := by decide +kernel
theorem dX3_breaksOne_168 : decode cX3_breaksOne 168 = .ok (.iconst 1, 1) := by decide +kernel
theorem dX3_breaksOne_169 : decode cX3_breaksOne 169 = .ok (.iload_n 2, 1) := by decide +kernel
theorem dX3_breaksOne_170 : decode cX3_breaksOne 170 = .ok (.ishl, 1) := by decide +kernel
theorem dX3_breaksOne_171 : decode cX3_breaksOne 171 = .ok (.ior, 1) := by decide +kernel
theorem dX3_breaksOne_172 : decode cX3_breaksOne 172 = .ok (.iastore, 1) := by decide +kernel
theorem dX3_breaksOne_173 : decode cX3_breaksOne 173 = .ok (.aload_n 0, 1) := by decide +kernel
theorem dX3_breaksOne_174 : decode cX3_breaksOne 174 = .ok (.invokevirtual 106, 3) := by decide +kernel
theorem dX3_breaksOne_177 : decode cX3_breaksOne 177 = .ok (.iload_n 3, 1) := by decide +kernel
theorem dX3_breaksOne_178 : decode cX3_breaksOne 178 = .ok (.isub, 1) := by decide +kernel
theorem dX3_breaksOne_179 : decode cX3_breaksOne 179 = .ok (.ireturn, 1) := by decide +kernel
theorem dX3_breaks_0 : decode cX3_breaks 0 = .ok (.aload_n 0, 1) := by decide +kernel
theorem dX3_breaks_1 : decode cX3_breaks 1 = .ok (.invokevirtual 84, 3) := by decide +kernel
theorem dX3_breaks_4 : decode cX3_breaks 4 = .ok (.aload_n 0, 1) := by decide +kernel
theorem dX3_breaks_5 : decode cX3_breaks 5 = .ok (.aload_n 0, 1) := by decide +kernel
theorem dX3_breaks_6 : decode cX3_breaks 6 = .ok (.iload_n 1, 1) := by decide +kernel
theorem dX3_breaks_7 : decode cX3_breaks 7 = .ok (.iload_n 2, 1) := by decide +kernel
theorem dX3_breaks_8 : decode cX3_breaks 8 = .ok (.invokevirtual 117, 3) := by decide +kernel
theorem dX3_breaks_11 : decode cX3_breaks 11 = .ok (.invokevirtual 87, 3) := by decide +kernel
theorem dX3_breaks_14 : decode cX3_breaks 14 = .ok (.ireturn, 1) := by decide +kernel
theorem dX3_chipOf_0 : decode cX3_chipOf 0 = .ok (.aload_n 0, 1) := by decide +kernel
theorem dX3_chipOf_1 : decode cX3_chipOf 1 = .ok (.iload_n 1, 1) := by decide +kernel
theorem dX3_chipOf_2 : decode cX3_chipOf 2 = .ok (.invokevirtual 90, 3) := by decide +kernel
theorem dX3_chipOf_5 : decode cX3_chipOf 5 = .ok (.ifCond .eq 13, 3) := by decide +kernel
theorem dX3_chipOf_8 : decode cX3_chipOf 8 = .ok (.iload_n 2, 1) := by decide +kernel
theorem dX3_chipOf_9 : decode cX3_chipOf 9 = .ok (.iconst 0, 1) := by decide +kernel
theorem dX3_chipOf_10 : decode cX3_chipOf 10 = .ok (.bipush 6, 2) := by decide +kernel
theorem dX3_chipOf_12 : decode cX3_chipOf 12 = .ok (.invokestatic 32, 3) := by decide +kernel
theorem dX3_chipOf_15 : decode cX3_chipOf 15 = .ok (.ifCond .ne 6, 3) := by decide +kernel
theorem dX3_chipOf_18 : decode cX3_chipOf 18 = .ok (.ldc 40, 2) := by decide +kernel
theorem dX3_chipOf_20 : decode cX3_chipOf 20 = .ok (.ireturn, 1) := by decide +kernel
theorem dX3_chipOf_21 : decode cX3_chipOf 21 = .ok (.iload_n 2, 1) := by decide +kernel
theorem dX3_chipOf_22 : decode cX3_chipOf 22 = .ok (.tableswitch 85 0 5 #[38, 45, 52, 66, 72, 78], 38) := by decide +kernel
theorem dX3_chipOf_60 : decode cX3_chipOf 60 = .ok (.aload_n 0, 1) := by decide +kernel
theorem dX3_chipOf_61 : decode cX3_chipOf 61 = .ok (.iload_n 1, 1) := by decide +kernel
theorem dX3_chipOf_62 : decode cX3_chipOf 62 = .ok (.iconst 0, 1) := by decide +kernel
theorem dX3_chipOf_63 : decode cX3_chipOf 63 = .ok (.invokevirtual 36, 3) := by decide +kernel
theorem dX3_chipOf_66 : decode cX3_chipOf 66 = .ok (.ireturn, 1) := by decide +kernel
theorem dX3_chipOf_67 : decode cX3_chipOf 67 = .ok (.aload_n 0, 1) := by decide +kernel
theorem dX3_chipOf_68 : decode cX3_chipOf 68 = .ok (.iload_n 1, 1) := by decide +kernel
theorem dX3_chipOf_69 : decode cX3_chipOf 69 = .ok (.iconst 2, 1) := by decide +kernel
theorem dX3_chipOf_70 : decode cX3_chipOf 70 = .ok (.invokevirtual 36, 3) := by decide +kernel
theorem dX3_chipOf_73 : decode cX3_chipOf 73 = .ok (.ireturn, 1) := by decide +kernel
theorem dX3_chipOf_74 : decode cX3_chipOf 74 = .ok (.aload_n 0, 1) := by decide +kernel
theorem dX3_chipOf_75 : decode cX3_chipOf 75 = .ok (.iload_n 1, 1) := by decide +kernel
theorem dX3_chipOf_76 : decode cX3_chipOf 76 = .ok (.invokevirtual 56, 3) := by decide +kernel
theorem dX3_chipOf_79 : decode cX3_chipOf 79 = .ok (.ifCond .eq 7, 3) := by decide +kernel
theorem dX3_chipOf_82 : decode cX3_chipOf 82 = .ok (.iconst 1, 1) := by decide +kernel
theorem dX3_chipOf_83 : decode cX3_chipOf 83 = .ok (.goto 4, 3) := by decide +kernel
theorem dX3_chipOf_86 : decode cX3_chipOf 86 = .ok (.iconst 0, 1) := by decide +kernel
theorem dX3_chipOf_87 : decode cX3_chipOf 87 = .ok (.ireturn, 1) := by decide +kernel
theorem dX3_chipOf_88 : decode cX3_chipOf 88 = .ok (.aload_n 0, 1) := by decide +kernel
theorem dX3_chipOf_89 : decode cX3_chipOf 89 = .ok (.iload_n 1, 1) := by decide +kernel
theorem dX3_chipOf_90 : decode cX3_chipOf 90 = .ok (.invokevirtual 93, 3) := by decide +kernel
theorem dX3_chipOf_93 : decode cX3_chipOf 93 = .ok (.ireturn, 1) := by decide +kernel
theorem dX3_chipOf_94 : decode cX3_chipOf 94 = .ok (.aload_n 0, 1) := by decide +kernel
theorem dX3_chipOf_95 : decode cX3_chipOf 95 = .ok (.iload_n 1, 1) := by decide +kernel
theorem dX3_chipOf_96 : decode cX3_chipOf 96 = .ok (.invokevirtual 68, 3) := by decide +kernel
theorem dX3_chipOf_99 : decode cX3_chipOf 99 = .ok (.ireturn, 1) := by decide +kernel
theorem dX3_chipOf_100 : decode cX3_chipOf 100 = .ok (.aload_n 0, 1) := by decide +kernel
theorem dX3_chipOf_101 : decode cX3_chipOf 101 = .ok (.iload_n 1, 1) := by decide +kernel
theorem dX3_chipOf_102 : decode cX3_chipOf 102 = .ok (.iconst 3, 1) := by decide +kernel
theorem dX3_chipOf_103 : decode cX3_chipOf 103 = .ok (.invokevirtual 36, 3) := by decide +kernel
theorem dX3_chipOf_106 : decode cX3_chipOf 106 = .ok (.ireturn, 1) := by decide +kernel
theorem dX3_chipOf_107 : decode cX3_chipOf 107 = .ok (.aload_n 0, 1) := by decide +kernel
theorem dX3_chipOf_108 : decode cX3_chipOf 108 = .ok (.iload_n 1, 1) := by decide +kernel
theorem dX3_chipOf_109 : decode cX3_chipOf 109 = .ok (.iconst 1, 1) := by decide +kernel
theorem dX3_chipOf_110 : decode cX3_chipOf 110 = .ok (.invokevirtual 36, 3) := by decide +kernel
theorem dX3_chipOf_113 : decode cX3_chipOf 113 = .ok (.ireturn, 1) := by decide +kernel
theorem dX3_sum_0 : decode cX3_sum 0 = .ok (.iconst 0, 1) := by decide +kernel
theorem dX3_sum_1 : decode cX3_sum 1 = .ok (.istore_n 3, 1) := by decide +kernel
theorem dX3_sum_2 : decode cX3_sum 2 = .ok (.iconst 0, 1) := by decide +kernel
theorem dX3_sum_3 : decode cX3_sum 3 = .ok (.istore 4, 2) := by decide +kernel
theorem dX3_sum_5 : decode cX3_sum 5 = .ok (.iload 4, 2) := by decide +kernel
theorem dX3_sum_7 : decode cX3_sum 7 = .ok (.aload_n 0, 1) := by decide +kernel
theorem dX3_sum_8 : decode cX3_sum 8 = .ok (.getfield 7, 3) := by decide +kernel
theorem dX3_sum_11 : decode cX3_sum 11 = .ok (.iconst 1, 1) := by decide +kernel
theorem dX3_sum_12 : decode cX3_sum 12 = .ok (.iaload, 1) := by decide +kernel
theorem dX3_sum_13 : decode cX3_sum 13 = .ok (.if_icmp .ge 56, 3) := by decide +kernel
theorem dX3_sum_16 : decode cX3_sum 16 = .ok (.iload_n 3, 1) := by decide +kernel
theorem dX3_sum_17 : decode cX3_sum 17 = .ok (.aload_n 0, 1) := by decide +kernel
theorem dX3_sum_18 : decode cX3_sum 18 = .ok (.iload 4, 2) := by decide +kernel
theorem dX3_sum_20 : decode cX3_sum 20 = .ok (.iconst 1, 1) := by decide +kernel
theorem dX3_sum_21 : decode cX3_sum 21 = .ok (.invokevirtual 45, 3) := by decide +kernel
theorem dX3_sum_24 : decode cX3_sum 24 = .ok (.iconst 2, 1) := by decide +kernel
theorem dX3_sum_25 : decode cX3_sum 25 = .ok (.if_icmp .eq 35, 3) := by decide +kernel
theorem dX3_sum_28 : decode cX3_sum 28 = .ok (.aload_n 0, 1) := by decide +kernel
theorem dX3_sum_29 : decode cX3_sum 29 = .ok (.iload 4, 2) := by decide +kernel
theorem dX3_sum_31 : decode cX3_sum 31 = .ok (.iconst 4, 1) := by decide +kernel
theorem dX3_sum_32 : decode cX3_sum 32 = .ok (.invokevirtual 45, 3) := by decide +kernel
theorem dX3_sum_35 : decode cX3_sum 35 = .ok (.iload_n 1, 1) := by decide +kernel
theorem dX3_sum_36 : decode cX3_sum 36 = .ok (.if_icmp .ne 24, 3) := by decide +kernel
theorem dX3_sum_39 : decode cX3_sum 39 = .ok (.aload_n 0, 1) := by decide +kernel
theorem dX3_sum_40 : decode cX3_sum 40 = .ok (.iload 4, 2) := by decide +kernel
theorem dX3_sum_42 : decode cX3_sum 42 = .ok (.iconst 3, 1) := by decide +kernel
theorem dX3_sum_43 : decode cX3_sum 43 = .ok (.invokevirtual 45, 3) := by decide +kernel
theorem dX3_sum_46 : decode cX3_sum 46 = .ok (.iload_n 2, 1) := by decide +kernel
theorem dX3_sum_47 : decode cX3_sum 47 = .ok (.if_icmp .ne 13, 3) := by decide +kernel
theorem dX3_sum_50 : decode cX3_sum 50 = .ok (.aload_n 0, 1) := by decide +kernel
theorem dX3_sum_51 : decode cX3_sum 51 = .ok (.iload 4, 2) := by decide +kernel
theorem dX3_sum_53 : decode cX3_sum 53 = .ok (.iconst 0, 1) := by decide +kernel
theorem dX3_sum_54 : decode cX3_sum 54 = .ok (.invokevirtual 45, 3) := by decide +kernel
theorem dX3_sum_57 : decode cX3_sum 57 = .ok (.goto 4, 3) := by decide +kernel
theorem dX3_sum_60 : decode cX3_sum 60 = .ok (.iconst 0, 1) := by decide +kernel
theorem dX3_sum_61 : decode cX3_sum 61 = .ok (.ixor, 1) := by decide +kernel
theorem dX3_sum_62 : decode cX3_sum 62 = .ok (.istore_n 3, 1) := by decide +kernel
theorem dX3_sum_63 : decode cX3_sum 63 = .ok (.iinc 4 1, 3) := by decide +kernel
theorem dX3_sum_66 : decode cX3_sum 66 = .ok (.goto (-61), 3) := by decide +kernel
theorem dX3_sum_69 : decode cX3_sum 69 = .ok (.iload_n 3, 1) := by decide +kernel
theorem dX3_sum_70 : decode cX3_sum 70 = .ok (.ireturn, 1) := by decide +kernel
theorem dX3_rowOf_0 : decode cX3_rowOf 0 = .ok (.aload_n 0, 1) := by decide +kernel
theorem dX3_rowOf_1 : decode cX3_rowOf 1 = .ok (.iload_n 1, 1) := by decide +kernel
theorem dX3_rowOf_2 : decode cX3_rowOf 2 = .ok (.invokevirtual 90, 3) := by decide +kernel
theorem dX3_rowOf_5 : decode cX3_rowOf 5 = .ok (.ifCond .eq 12, 3) := by decide +kernel
theorem dX3_rowOf_8 : decode cX3_rowOf 8 = .ok (.iload_n 2, 1) := by decide +kernel
theorem dX3_rowOf_9 : decode cX3_rowOf 9 = .ok (.iconst 0, 1) := by decide +kernel
theorem dX3_rowOf_10 : decode cX3_rowOf 10 = .ok (.iconst 5, 1) := by decide +kernel
theorem dX3_rowOf_11 : decode cX3_rowOf 11 = .ok (.invokestatic 32, 3) := by decide +kernel
theorem dX3_rowOf_14 : decode cX3_rowOf 14 = .ok (.ifCond .ne 6, 3) := by decide +kernel
theorem dX3_rowOf_17 : decode cX3_rowOf 17 = .ok (.ldc 40, 2) := by decide +kernel
theorem dX3_rowOf_19 : decode cX3_rowOf 19 = .ok (.ireturn, 1) := by decide +kernel
theorem dX3_rowOf_20 : decode cX3_rowOf 20 = .ok (.aload_n 0, 1) := by decide +kernel
theorem dX3_rowOf_21 : decode cX3_rowOf 21 = .ok (.iload_n 1, 1) := by decide +kernel
theorem dX3_rowOf_22 : decode cX3_rowOf 22 = .ok (.invokevirtual 52, 3) := by decide +kernel
theorem dX3_rowOf_25 : decode cX3_rowOf 25 = .ok (.ifCond .eq 12, 3) := by decide +kernel
theorem dX3_rowOf_28 : decode cX3_rowOf 28 = .ok (.aload_n 0, 1) := by decide +kernel
theorem dX3_rowOf_29 : decode cX3_rowOf 29 = .ok (.iload_n 1, 1) := by decide +kernel
theorem dX3_rowOf_30 : decode cX3_rowOf 30 = .ok (.iload_n 2, 1) := by decide +kernel
theorem dX3_rowOf_31 : decode cX3_rowOf 31 = .ok (.invokevirtual 48, 3) := by decide +kernel
theorem dX3_rowOf_34 : decode cX3_rowOf 34 = .ok (.ifCond .ne 6, 3) := by decide +kernel
theorem dX3_rowOf_37 : decode cX3_rowOf 37 = .ok (.ldc 96, 2) := by decide +kernel
theorem dX3_rowOf_39 : decode cX3_rowOf 39 = .ok (.ireturn, 1) := by decide +kernel
theorem dX3_rowOf_40 : decode cX3_rowOf 40 = .ok (.aload_n 0, 1) := by decide +kernel
theorem dX3_rowOf_41 : decode cX3_rowOf 41 = .ok (.iload_n 1, 1) := by decide +kernel
theorem dX3_rowOf_42 : decode cX3_rowOf 42 = .ok (.invokevirtual 56, 3) := by decide +kernel
theorem dX3_rowOf_45 : decode cX3_rowOf 45 = .ok (.ifCond .eq 15, 3) := by decide +kernel
theorem dX3_rowOf_48 : decode cX3_rowOf 48 = .ok (.aload_n 0, 1) := by decide +kernel
theorem dX3_rowOf_49 : decode cX3_rowOf 49 = .ok (.aload_n 0, 1) := by decide +kernel
theorem dX3_rowOf_50 : decode cX3_rowOf 50 = .ok (.iload_n 1, 1) := by decide +kernel
theorem dX3_rowOf_51 : decode cX3_rowOf 51 = .ok (.iconst 0, 1) := by decide +kernel
theorem dX3_rowOf_52 : decode cX3_rowOf 52 = .ok (.invokevirtual 36, 3) := by decide +kernel
theorem dX3_rowOf_55 : decode cX3_rowOf 55 = .ok (.iload_n 2, 1) := by decide +kernel
theorem dX3_rowOf_56 : decode cX3_rowOf 56 = .ok (.invokevirtual 120, 3) := by decide +kernel
theorem dX3_rowOf_59 : decode cX3_rowOf 59 = .ok (.ireturn, 1) := by decide +kernel
theorem dX3_rowOf_60 : decode cX3_rowOf 60 = .ok (.aload_n 0, 1) := by decide +kernel
theorem dX3_rowOf_61 : decode cX3_rowOf 61 = .ok (.iload_n 1, 1) := by decide +kernel
theorem dX3_rowOf_62 : decode cX3_rowOf 62 = .ok (.iload_n 2, 1) := by decide +kernel
theorem dX3_rowOf_63 : decode cX3_rowOf 63 = .ok (.invokevirtual 59, 3) := by decide +kernel
theorem dX3_rowOf_66 : decode cX3_rowOf 66 = .ok (.ifCond .ge 8, 3) := by decide +kernel
theorem dX3_rowOf_69 : decode cX3_rowOf 69 = .ok (.ldc 123, 2) := by decide +kernel
theorem dX3_rowOf_71 : decode cX3_rowOf 71 = .ok (.goto 9, 3) := by decide +kernel
theorem dX3_rowOf_74 : decode cX3_rowOf 74 = .ok (.aload_n 0, 1) := by decide +kernel
theorem dX3_rowOf_75 : decode cX3_rowOf 75 = .ok (.iload_n 1, 1) := by decide +kernel
theorem dX3_rowOf_76 : decode cX3_rowOf 76 = .ok (.iload_n 2, 1) := by decide +kernel
theorem dX3_rowOf_77 : decode cX3_rowOf 77 = .ok (.invokevirtual 59, 3) := by decide +kernel
theorem dX3_rowOf_80 : decode cX3_rowOf 80 = .ok (.ireturn, 1) := by decide +kernel
theorem dX3_putsOne_0 : decode cX3_putsOne 0 = .ok (.aload_n 0, 1) := by decide +kernel
theorem dX3_putsOne_1 : decode cX3_putsOne 1 = .ok (.iload_n 1, 1) := by decide +kernel
theorem dX3_putsOne_2 : decode cX3_putsOne 2 = .ok (.invokevirtual 90, 3) := by decide +kernel
theorem dX3_putsOne_5 : decode cX3_putsOne 5 = .ok (.ifCond .eq 14, 3) := by decide +kernel
theorem dX3_putsOne_8 : decode cX3_putsOne 8 = .ok (.iload_n 2, 1) := by decide +kernel
theorem dX3_putsOne_9 : decode cX3_putsOne 9 = .ok (.iconst 0, 1) := by decide +kernel
theorem dX3_putsOne_10 : decode cX3_putsOne 10 = .ok (.sipush 255, 3) := by decide +kernel
theorem dX3_putsOne_13 : decode cX3_putsOne 13 = .ok (.invokestatic 32, 3) := by decide +kernel
theorem dX3_putsOne_16 : decode cX3_putsOne 16 = .ok (.ifCond .ne 6, 3) := by decide +kernel
theorem dX3_putsOne_19 : decode cX3_putsOne 19 = .ok (.ldc 40, 2) := by decide +kernel
theorem dX3_putsOne_21 : decode cX3_putsOne 21 = .ok (.ireturn, 1) := by decide +kernel
theorem dX3_putsOne_22 : decode cX3_putsOne 22 = .ok (.aload_n 0, 1) := by decide +kernel
theorem dX3_putsOne_23 : decode cX3_putsOne 23 = .ok (.iload_n 1, 1) := by decide +kernel
theorem dX3_putsOne_24 : decode cX3_putsOne 24 = .ok (.invokevirtual 68, 3) := by decide +kernel
theorem dX3_putsOne_27 : decode cX3_putsOne 27 = .ok (.ifCond .ne 6, 3) := by decide +kernel
theorem dX3_putsOne_30 : decode cX3_putsOne 30 = .ok (.ldc 96, 2) := by decide +kernel
theorem dX3_putsOne_32 : decode cX3_putsOne 32 = .ok (.ireturn, 1) := by decide +kernel
theorem dX3_putsOne_33 : decode cX3_putsOne 33 = .ok (.aload_n 0, 1) := by decide +kernel
theorem dX3_putsOne_34 : decode cX3_putsOne 34 = .ok (.getfield 7, 3) := by decide +kernel
theorem dX3_putsOne_37 : decode cX3_putsOne 37 = .ok (.iconst 1, 1) := by decide +kernel
theorem dX3_putsOne_38 : decode cX3_putsOne 38 = .ok (.iaload, 1) := by decide +kernel
theorem dX3_putsOne_39 : decode cX3_putsOne 39 = .ok (.bipush 24, 2) := by decide +kernel
theorem dX3_putsOne_41 : decode cX3_putsOne 41 = .ok (.if_icmp .ne 6, 3) := by decide +kernel
theorem dX3_putsOne_44 : decode cX3_putsOne 44 = .ok (.ldc 83, 2) := by decide +kernel
theorem dX3_putsOne_46 : decode cX3_putsOne 46 = .ok (.ireturn, 1) := by decide +kernel
theorem dX3_putsOne_47 : decode cX3_putsOne 47 = .ok (.aload_n 0, 1) := by decide +kernel
theorem dX3_putsOne_48 : decode cX3_putsOne 48 = .ok (.iload_n 1, 1) := by decide +kernel
theorem dX3_putsOne_49 : decode cX3_putsOne 49 = .ok (.invokevirtual 124, 3) := by decide +kernel
theorem dX3_putsOne_52 : decode cX3_putsOne 52 = .ok (.istore_n 3, 1) := by decide +kernel
theorem dX3_putsOne_53 : decode cX3_putsOne 53 = .ok (.aload_n 0, 1) := by decide +kernel
theorem dX3_putsOne_54 : decode cX3_putsOne 54 = .ok (.getfield 7, 3) := by decide +kernel
theorem dX3_putsOne_57 : decode cX3_putsOne 57 = .ok (.iconst 1, 1) := by decide +kernel
theorem dX3_putsOne_58 : decode cX3_putsOne 58 = .ok (.iaload, 1) := by decide +kernel
theorem dX3_putsOne_59 : decode cX3_putsOne 59 = .ok (.istore 4, 2) := by decide +kernel
theorem dX3_putsOne_61 : decode cX3_putsOne 61 = .ok (.aload_n 0, 1) := by decide +kernel
theorem dX3_putsOne_62 : decode cX3_putsOne 62 = .ok (.getfield 7, 3) := by decide +kernel
theorem dX3_putsOne_65 : decode cX3_putsOne 65 = .ok (.iconst 1, 1) := by decide +kernel
theorem dX3_putsOne_66 : decode cX3_putsOne 66 = .ok (.dup2, 1) := by decide +kernel
theorem dX3_putsOne_67 : decode cX3_putsOne 67 = .ok (.iaload, 1) := by decide +kernel
theorem dX3_putsOne_68 : decode cX3_putsOne 68 = .ok (.iconst 1, 1) := by decide +kernel
theorem dX3_putsOne_69 : decode cX3_putsOne 69 = .ok (.iadd, 1) := by decide +kernel
theorem dX3_putsOne_70 : decode cX3_putsOne 70 = .ok (.iastore, 1) := by decide +kernel
theorem dX3_putsOne_71 : decode cX3_putsOne 71 = .ok (.aload_n 0, 1) := by decide +kernel
theorem dX3_putsOne_72 : decode cX3_putsOne 72 = .ok (.iload 4, 2) := by decide +kernel
theorem dX3_putsOne_74 : decode cX3_putsOne 74 = .ok (.iconst 0, 1) := by decide +kernel
theorem dX3_putsOne_75 : decode cX3_putsOne 75 = .ok (.iload_n 2, 1) := by decide +kernel
theorem dX3_putsOne_76 : decode cX3_putsOne 76 = .ok (.invokevirtual 72, 3) := by decide +kernel
theorem dX3_putsOne_79 : decode cX3_putsOne 79 = .ok (.aload_n 0, 1) := by decide +kernel
theorem dX3_putsOne_80 : decode cX3_putsOne 80 = .ok (.iload 4, 2) := by decide +kernel
theorem dX3_putsOne_82 : decode cX3_putsOne 82 = .ok (.iconst 5, 1) := by decide +kernel
theorem dX3_putsOne_83 : decode cX3_putsOne 83 = .ok (.iconst 0, 1) := by decide +kernel
theorem dX3_putsOne_84 : decode cX3_putsOne 84 = .ok (.invokevirtual 72, 3) := by decide +kernel
theorem dX3_putsOne_87 : decode cX3_putsOne 87 = .ok (.aload_n 0, 1) := by decide +kernel
theorem dX3_putsOne_88 : decode cX3_putsOne 88 = .ok (.iload 4, 2) := by decide +kernel
theorem dX3_putsOne_90 : decode cX3_putsOne 90 = .ok (.bipush 6, 2) := by decide +kernel
theorem dX3_putsOne_92 : decode cX3_putsOne 92 = .ok (.iconst 0, 1) := by decide +kernel
theorem dX3_putsOne_93 : decode cX3_putsOne 93 = .ok (.invokevirtual 72, 3) := by decide +kernel
theorem dX3_putsOne_96 : decode cX3_putsOne 96 = .ok (.aload_n 0, 1) := by decide +kernel
theorem dX3_putsOne_97 : decode cX3_putsOne 97 = .ok (.iload 4, 2) := by decide +kernel
theorem dX3_putsOne_99 : decode cX3_putsOne 99 = .ok (.iload_n 1, 1) := by decide +kernel
theorem dX3_putsOne_100 : decode cX3_putsOne 100 = .ok (.iload_n 3, 1) := by decide +kernel
theorem dX3_putsOne_101 : decode cX3_putsOne 101 = .ok (.invokevirtual 127, 3) := by decide +kernel
theorem dX3_putsOne_104 : decode cX3_putsOne 104 = .ok (.iload 4, 2) := by decide +kernel
theorem dX3_putsOne_106 : decode cX3_putsOne 106 = .ok (.ireturn, 1) := by decide +kernel
theorem dX3_put_0 : decode cX3_put 0 = .ok (.aload_n 0, 1) := by decide +kernel
theorem dX3_put_1 : decode cX3_put 1 = .ok (.invokevirtual 84, 3) := by decide +kernel
theorem dX3_put_4 : decode cX3_put 4 = .ok (.aload_n 0, 1) := by decide +kernel
theorem dX3_put_5 : decode cX3_put 5 = .ok (.aload_n 0, 1) := by decide +kernel
theorem dX3_put_6 : decode cX3_put 6 = .ok (.iload_n 1, 1) := by decide +kernel
theorem dX3_put_7 : decode cX3_put 7 = .ok (.iload_n 2, 1) := by decide +kernel
theorem dX3_put_8 : decode cX3_put 8 = .ok (.invokevirtual 130, 3) := by decide +kernel
theorem dX3_put_11 : decode cX3_put 11 = .ok (.invokevirtual 87, 3) := by decide +kernel
theorem dX3_put_14 : decode cX3_put 14 = .ok (.ireturn, 1) := by decide +kernel
theorem dX3_write_0 : decode cX3_write 0 = .ok (.aload_n 0, 1) := by decide +kernel
theorem dX3_write_1 : decode cX3_write 1 = .ok (.iload_n 1, 1) := by decide +kernel
theorem dX3_write_2 : decode cX3_write 2 = .ok (.invokevirtual 133, 3) := by decide +kernel
theorem dX3_write_5 : decode cX3_write 5 = .ok (.ifCond .eq 14, 3) := by decide +kernel
theorem dX3_write_8 : decode cX3_write 8 = .ok (.iload_n 2, 1) := by decide +kernel
theorem dX3_write_9 : decode cX3_write 9 = .ok (.iconst 0, 1) := by decide +kernel
theorem dX3_write_10 : decode cX3_write 10 = .ok (.sipush 255, 3) := by decide +kernel
theorem dX3_write_13 : decode cX3_write 13 = .ok (.invokestatic 32, 3) := by decide +kernel
theorem dX3_write_16 : decode cX3_write 16 = .ok (.ifCond .ne 6, 3) := by decide +kernel
theorem dX3_write_19 : decode cX3_write 19 = .ok (.ldc 40, 2) := by decide +kernel
theorem dX3_write_21 : decode cX3_write 21 = .ok (.ireturn, 1) := by decide +kernel
theorem dX3_write_22 : decode cX3_write 22 = .ok (.aload_n 0, 1) := by decide +kernel
theorem dX3_write_23 : decode cX3_write 23 = .ok (.iload_n 1, 1) := by decide +kernel
theorem dX3_write_24 : decode cX3_write 24 = .ok (.iconst 1, 1) := by decide +kernel
theorem dX3_write_25 : decode cX3_write 25 = .ok (.invokevirtual 45, 3) := by decide +kernel
theorem dX3_write_28 : decode cX3_write 28 = .ok (.ifCond .eq 6, 3) := by decide +kernel
theorem dX3_write_31 : decode cX3_write 31 = .ok (.ldc 96, 2) := by decide +kernel
theorem dX3_write_33 : decode cX3_write 33 = .ok (.ireturn, 1) := by decide +kernel
theorem dX3_write_34 : decode cX3_write 34 = .ok (.aload_n 0, 1) := by decide +kernel
theorem dX3_write_35 : decode cX3_write 35 = .ok (.invokevirtual 84, 3) := by decide +kernel
theorem dX3_write_38 : decode cX3_write 38 = .ok (.aload_n 0, 1) := by decide +kernel
theorem dX3_write_39 : decode cX3_write 39 = .ok (.iload_n 1, 1) := by decide +kernel
theorem dX3_write_40 : decode cX3_write 40 = .ok (.iconst 0, 1) := by decide +kernel
theorem dX3_write_41 : decode cX3_write 41 = .ok (.invokevirtual 45, 3) := by decide +kernel
theorem dX3_write_44 : decode cX3_write 44 = .ok (.istore_n 3, 1) := by decide +kernel
theorem dX3_write_45 : decode cX3_write 45 = .ok (.aload_n 0, 1) := by decide +kernel
theorem dX3_write_46 : decode cX3_write 46 = .ok (.iload_n 1, 1) := by decide +kernel
theorem dX3_write_47 : decode cX3_write 47 = .ok (.iconst 0, 1) := by decide +kernel
theorem dX3_write_48 : decode cX3_write 48 = .ok (.iload_n 2, 1) := by decide +kernel
theorem dX3_write_49 : decode cX3_write 49 = .ok (.invokevirtual 72, 3) := by decide +kernel
theorem dX3_write_52 : decode cX3_write 52 = .ok (.aload_n 0, 1) := by decide +kernel
theorem dX3_write_53 : decode cX3_write 53 = .ok (.iload_n 3, 1) := by decide +kernel
theorem dX3_write_54 : decode cX3_write 54 = .ok (.invokevirtual 87, 3) := by decide +kernel
theorem dX3_write_57 : decode cX3_write 57 = .ok (.ireturn, 1) := by decide +kernel
theorem dX3_read_0 : decode cX3_read 0 = .ok (.aload_n 0, 1) := by decide +kernel
theorem dX3_read_1 : decode cX3_read 1 = .ok (.iload_n 1, 1) := by decide +kernel
theorem dX3_read_2 : decode cX3_read 2 = .ok (.invokevirtual 133, 3) := by decide +kernel
theorem dX3_read_5 : decode cX3_read 5 = .ok (.ifCond .ne 6, 3) := by decide +kernel
theorem dX3_read_8 : decode cX3_read 8 = .ok (.ldc 40, 2) := by decide +kernel
theorem dX3_read_10 : decode cX3_read 10 = .ok (.ireturn, 1) := by decide +kernel
theorem dX3_read_11 : decode cX3_read 11 = .ok (.aload_n 0, 1) := by decide +kernel
theorem dX3_read_12 : decode cX3_read 12 = .ok (.iload_n 1, 1) := by decide +kernel
theorem dX3_read_13 : decode cX3_read 13 = .ok (.iconst 1, 1) := by decide +kernel
theorem dX3_read_14 : decode cX3_read 14 = .ok (.invokevirtual 45, 3) := by decide +kernel
theorem dX3_read_17 : decode cX3_read 17 = .ok (.iconst 2, 1) := by decide +kernel
theorem dX3_read_18 : decode cX3_read 18 = .ok (.if_icmp .ne 8, 3) := by decide +kernel
theorem dX3_read_21 : decode cX3_read 21 = .ok (.ldc 123, 2) := by decide +kernel
theorem dX3_read_23 : decode cX3_read 23 = .ok (.goto 9, 3) := by decide +kernel
theorem dX3_read_26 : decode cX3_read 26 = .ok (.aload_n 0, 1) := by decide +kernel
theorem dX3_read_27 : decode cX3_read 27 = .ok (.iload_n 1, 1) := by decide +kernel
theorem dX3_read_28 : decode cX3_read 28 = .ok (.iconst 0, 1) := by decide +kernel
theorem dX3_read_29 : decode cX3_read 29 = .ok (.invokevirtual 45, 3) := by decide +kernel
theorem dX3_read_32 : decode cX3_read 32 = .ok (.ireturn, 1) := by decide +kernel
theorem dX3_carry_0 : decode cX3_carry 0 = .ok (.aload_n 0, 1) := by decide +kernel
theorem dX3_carry_1 : decode cX3_carry 1 = .ok (.iload_n 1, 1) := by decide +kernel
theorem dX3_carry_2 : decode cX3_carry 2 = .ok (.invokevirtual 133, 3) := by decide +kernel
theorem dX3_carry_5 : decode cX3_carry 5 = .ok (.ifCond .eq 11, 3) := by decide +kernel
theorem dX3_carry_8 : decode cX3_carry 8 = .ok (.aload_n 0, 1) := by decide +kernel
theorem dX3_carry_9 : decode cX3_carry 9 = .ok (.iload_n 2, 1) := by decide +kernel
theorem dX3_carry_10 : decode cX3_carry 10 = .ok (.invokevirtual 90, 3) := by decide +kernel
theorem dX3_carry_13 : decode cX3_carry 13 = .ok (.ifCond .ne 6, 3) := by decide +kernel
theorem dX3_carry_16 : decode cX3_carry 16 = .ok (.ldc 40, 2) := by decide +kernel
theorem dX3_carry_18 : decode cX3_carry 18 = .ok (.ireturn, 1) := by decide +kernel
theorem dX3_carry_19 : decode cX3_carry 19 = .ok (.aload_n 0, 1) := by decide +kernel
theorem dX3_carry_20 : decode cX3_carry 20 = .ok (.iload_n 1, 1) := by decide +kernel
theorem dX3_carry_21 : decode cX3_carry 21 = .ok (.iconst 1, 1) := by decide +kernel
theorem dX3_carry_22 : decode cX3_carry 22 = .ok (.invokevirtual 45, 3) := by decide +kernel
theorem dX3_carry_25 : decode cX3_carry 25 = .ok (.ifCond .ne 21, 3) := by decide +kernel
theorem dX3_carry_28 : decode cX3_carry 28 = .ok (.aload_n 0, 1) := by decide +kernel
theorem dX3_carry_29 : decode cX3_carry 29 = .ok (.iload_n 1, 1) := by decide +kernel
theorem dX3_carry_30 : decode cX3_carry 30 = .ok (.iconst 2, 1) := by decide +kernel
theorem dX3_carry_31 : decode cX3_carry 31 = .ok (.invokevirtual 45, 3) := by decide +kernel
theorem dX3_carry_34 : decode cX3_carry 34 = .ok (.iload_n 2, 1) := by decide +kernel
theorem dX3_carry_35 : decode cX3_carry 35 = .ok (.if_icmp .eq 11, 3) := by decide +kernel
theorem dX3_carry_38 : decode cX3_carry 38 = .ok (.aload_n 0, 1) := by decide +kernel
theorem dX3_carry_39 : decode cX3_carry 39 = .ok (.iload_n 2, 1) := by decide +kernel
theorem dX3_carry_40 : decode cX3_carry 40 = .ok (.invokevirtual 68, 3) := by decide +kernel
theorem dX3_carry_43 : decode cX3_carry 43 = .ok (.ifCond .ne 6, 3) := by decide +kernel
theorem dX3_carry_46 : decode cX3_carry 46 = .ok (.ldc 96, 2) := by decide +kernel
theorem dX3_carry_48 : decode cX3_carry 48 = .ok (.ireturn, 1) := by decide +kernel
theorem dX3_carry_49 : decode cX3_carry 49 = .ok (.aload_n 0, 1) := by decide +kernel
theorem dX3_carry_50 : decode cX3_carry 50 = .ok (.invokevirtual 84, 3) := by decide +kernel
theorem dX3_carry_53 : decode cX3_carry 53 = .ok (.aload_n 0, 1) := by decide +kernel
theorem dX3_carry_54 : decode cX3_carry 54 = .ok (.iload_n 2, 1) := by decide +kernel
theorem dX3_carry_55 : decode cX3_carry 55 = .ok (.invokevirtual 124, 3) := by decide +kernel
theorem dX3_carry_58 : decode cX3_carry 58 = .ok (.istore_n 3, 1) := by decide +kernel
theorem dX3_carry_59 : decode cX3_carry 59 = .ok (.aload_n 0, 1) := by decide +kernel
theorem dX3_carry_60 : decode cX3_carry 60 = .ok (.iload_n 1, 1) := by decide +kernel
theorem dX3_carry_61 : decode cX3_carry 61 = .ok (.iload_n 2, 1) := by decide +kernel
theorem dX3_carry_62 : decode cX3_carry 62 = .ok (.iload_n 3, 1) := by decide +kernel
theorem dX3_carry_63 : decode cX3_carry 63 = .ok (.invokevirtual 127, 3) := by decide +kernel
theorem dX3_carry_66 : decode cX3_carry 66 = .ok (.aload_n 0, 1) := by decide +kernel
theorem dX3_carry_67 : decode cX3_carry 67 = .ok (.iload_n 3, 1) := by decide +kernel
theorem dX3_carry_68 : decode cX3_carry 68 = .ok (.invokevirtual 87, 3) := by decide +kernel
theorem dX3_carry_71 : decode cX3_carry 71 = .ok (.ireturn, 1) := by decide +kernel
theorem dX3_empties_0 : decode cX3_empties 0 = .ok (.aload_n 0, 1) := by decide +kernel
theorem dX3_empties_1 : decode cX3_empties 1 = .ok (.iload_n 1, 1) := by decide +kernel
theorem dX3_empties_2 : decode cX3_empties 2 = .ok (.invokevirtual 90, 3) := by decide +kernel
theorem dX3_empties_5 : decode cX3_empties 5 = .ok (.ifCond .ne 6, 3) := by decide +kernel
theorem dX3_empties_8 : decode cX3_empties 8 = .ok (.ldc 40, 2) := by decide +kernel
theorem dX3_empties_10 : decode cX3_empties 10 = .ok (.ireturn, 1) := by decide +kernel
theorem dX3_empties_11 : decode cX3_empties 11 = .ok (.aload_n 0, 1) := by decide +kernel
theorem dX3_empties_12 : decode cX3_empties 12 = .ok (.iload_n 1, 1) := by decide +kernel
theorem dX3_empties_13 : decode cX3_empties 13 = .ok (.invokevirtual 52, 3) := by decide +kernel
theorem dX3_empties_16 : decode cX3_empties 16 = .ok (.ifCond .eq 11, 3) := by decide +kernel
theorem dX3_empties_19 : decode cX3_empties 19 = .ok (.aload_n 0, 1) := by decide +kernel
theorem dX3_empties_20 : decode cX3_empties 20 = .ok (.iload_n 1, 1) := by decide +kernel
theorem dX3_empties_21 : decode cX3_empties 21 = .ok (.invokevirtual 56, 3) := by decide +kernel
theorem dX3_empties_24 : decode cX3_empties 24 = .ok (.ifCond .eq 6, 3) := by decide +kernel
theorem dX3_empties_27 : decode cX3_empties 27 = .ok (.ldc 96, 2) := by decide +kernel
theorem dX3_empties_29 : decode cX3_empties 29 = .ok (.ireturn, 1) := by decide +kernel
theorem dX3_empties_30 : decode cX3_empties 30 = .ok (.iconst 0, 1) := by decide +kernel
theorem dX3_empties_31 : decode cX3_empties 31 = .ok (.istore_n 2, 1) := by decide +kernel
theorem dX3_empties_32 : decode cX3_empties 32 = .ok (.iload_n 2, 1) := by decide +kernel
theorem dX3_empties_33 : decode cX3_empties 33 = .ok (.sipush 208, 3) := by decide +kernel
theorem dX3_empties_36 : decode cX3_empties 36 = .ok (.if_icmp .ge 21, 3) := by decide +kernel
theorem dX3_empties_39 : decode cX3_empties 39 = .ok (.aload_n 0, 1) := by decide +kernel
theorem dX3_empties_40 : decode cX3_empties 40 = .ok (.getfield 22, 3) := by decide +kernel
theorem dX3_empties_43 : decode cX3_empties 43 = .ok (.iload_n 2, 1) := by decide +kernel
theorem dX3_empties_44 : decode cX3_empties 44 = .ok (.aload_n 0, 1) := by decide +kernel
theorem dX3_empties_45 : decode cX3_empties 45 = .ok (.getfield 7, 3) := by decide +kernel
theorem dX3_empties_48 : decode cX3_empties 48 = .ok (.iload_n 2, 1) := by decide +kernel
theorem dX3_empties_49 : decode cX3_empties 49 = .ok (.iaload, 1) := by decide +kernel
theorem dX3_empties_50 : decode cX3_empties 50 = .ok (.iastore, 1) := by decide +kernel
theorem dX3_empties_51 : decode cX3_empties 51 = .ok (.iinc 2 1, 3) := by decide +kernel
theorem dX3_empties_54 : decode cX3_empties 54 = .ok (.goto (-22), 3) := by decide +kernel
theorem dX3_empties_57 : decode cX3_empties 57 = .ok (.iconst 0, 1) := by decide +kernel
theorem dX3_empties_58 : decode cX3_empties 58 = .ok (.istore_n 2, 1) := by decide +kernel
theorem dX3_empties_59 : decode cX3_empties 59 = .ok (.iconst 1, 1) := by decide +kernel
theorem dX3_empties_60 : decode cX3_empties 60 = .ok (.istore_n 3, 1) := by decide +kernel
theorem dX3_empties_61 : decode cX3_empties 61 = .ok (.iconst 0, 1) := by decide +kernel
theorem dX3_empties_62 : decode cX3_empties 62 = .ok (.istore 4, 2) := by decide +kernel
theorem dX3_empties_64 : decode cX3_empties 64 = .ok (.iload 4, 2) := by decide +kernel
theorem dX3_empties_66 : decode cX3_empties 66 = .ok (.bipush 6, 2) := by decide +kernel
theorem dX3_empties_68 : decode cX3_empties 68 = .ok (.if_icmp .ge 82, 3) := by decide +kernel
theorem dX3_empties_71 : decode cX3_empties 71 = .ok (.iload_n 3, 1) := by decide +kernel
theorem dX3_empties_72 : decode cX3_empties 72 = .ok (.ifCond .eq 78, 3) := by decide +kernel
theorem dX3_empties_75 : decode cX3_empties 75 = .ok (.aload_n 0, 1) := by decide +kernel
theorem dX3_empties_76 : decode cX3_empties 76 = .ok (.iload_n 1, 1) := by decide +kernel
theorem dX3_empties_77 : decode cX3_empties 77 = .ok (.iload 4, 2) := by decide +kernel
theorem dX3_empties_79 : decode cX3_empties 79 = .ok (.invokevirtual 59, 3) := by decide +kernel
theorem dX3_empties_82 : decode cX3_empties 82 = .ok (.istore 5, 2) := by decide +kernel
theorem dX3_empties_84 : decode cX3_empties 84 = .ok (.iload 5, 2) := by decide +kernel
theorem dX3_empties_86 : decode cX3_empties 86 = .ok (.ifCond .ge 7, 3) := by decide +kernel
theorem dX3_empties_89 : decode cX3_empties 89 = .ok (.iconst (-1), 1) := by decide +kernel
theorem dX3_empties_90 : decode cX3_empties 90 = .ok (.goto 14, 3) := by decide +kernel
theorem dX3_empties_93 : decode cX3_empties 93 = .ok (.aload_n 0, 1) := by decide +kernel
theorem dX3_empties_94 : decode cX3_empties 94 = .ok (.aload_n 0, 1) := by decide +kernel
theorem dX3_empties_95 : decode cX3_empties 95 = .ok (.iload_n 1, 1) := by decide +kernel
theorem dX3_empties_96 : decode cX3_empties 96 = .ok (.iconst 0, 1) := by decide +kernel
theorem dX3_empties_97 : decode cX3_empties 97 = .ok (.invokevirtual 36, 3) := by decide +kernel
theorem dX3_empties_100 : decode cX3_empties 100 = .ok (.iload_n 1, 1) := by decide +kernel
theorem dX3_empties_101 : decode cX3_empties 101 = .ok (.invokevirtual 136, 3) := by decide +kernel
theorem dX3_empties_104 : decode cX3_empties 104 = .ok (.istore 6, 2) := by decide +kernel
theorem dX3_empties_106 : decode cX3_empties 106 = .ok (.iload 5, 2) := by decide +kernel
theorem dX3_empties_108 : decode cX3_empties 108 = .ok (.ifCond .lt 8, 3) := by decide +kernel
theorem dX3_empties_111 : decode cX3_empties 111 = .ok (.iload 6, 2) := by decide +kernel
theorem dX3_empties_113 : decode cX3_empties 113 = .ok (.ifCond .lt 7, 3) := by decide +kernel
theorem dX3_empties_116 : decode cX3_empties 116 = .ok (.iconst 1, 1) := by decide +kernel
theorem dX3_empties_117 : decode cX3_empties 117 = .ok (.goto 4, 3) := by decide +kernel
theorem dX3_empties_120 : decode cX3_empties 120 = .ok (.iconst 0, 1) := by decide +kernel
theorem dX3_empties_121 : decode cX3_empties 121 = .ok (.istore_n 3, 1) := by decide +kernel
theorem dX3_empties_122 : decode cX3_empties 122 = .ok (.iload 6, 2) := by decide +kernel
theorem dX3_empties_124 : decode cX3_empties 124 = .ok (.ifCond .lt 20, 3) := by decide +kernel
theorem dX3_empties_127 : decode cX3_empties 127 = .ok (.aload_n 0, 1) := by decide +kernel
theorem dX3_empties_128 : decode cX3_empties 128 = .ok (.iload 5, 2) := by decide +kernel
theorem dX3_empties_130 : decode cX3_empties 130 = .ok (.iload 6, 2) := by decide +kernel
theorem dX3_empties_132 : decode cX3_empties 132 = .ok (.aload_n 0, 1) := by decide +kernel
theorem dX3_empties_133 : decode cX3_empties 133 = .ok (.iload 6, 2) := by decide +kernel
theorem dX3_empties_135 : decode cX3_empties 135 = .ok (.invokevirtual 124, 3) := by decide +kernel
theorem dX3_empties_138 : decode cX3_empties 138 = .ok (.invokevirtual 127, 3) := by decide +kernel
theorem dX3_empties_141 : decode cX3_empties 141 = .ok (.iinc 2 1, 3) := by decide +kernel
theorem dX3_empties_144 : decode cX3_empties 144 = .ok (.iinc 4 1, 3) := by decide +kernel
theorem dX3_empties_147 : decode cX3_empties 147 = .ok (.goto (-83), 3) := by decide +kernel
theorem dX3_empties_150 : decode cX3_empties 150 = .ok (.iconst 0, 1) := by decide +kernel
theorem dX3_empties_151 : decode cX3_empties 151 = .ok (.istore 4, 2) := by decide +kernel
theorem dX3_empties_153 : decode cX3_empties 153 = .ok (.iload 4, 2) := by decide +kernel
theorem dX3_empties_155 : decode cX3_empties 155 = .ok (.sipush 208, 3) := by decide +kernel
theorem dX3_empties_158 : decode cX3_empties 158 = .ok (.if_icmp .ge 27, 3) := by decide +kernel
theorem dX3_empties_161 : decode cX3_empties 161 = .ok (.iload_n 3, 1) := by decide +kernel
theorem dX3_empties_162 : decode cX3_empties 162 = .ok (.ifCond .ne 23, 3) := by decide +kernel
theorem dX3_empties_165 : decode cX3_empties 165 = .ok (.aload_n 0, 1) := by decide +kernel
theorem dX3_empties_166 : decode cX3_empties 166 = .ok (.getfield 7, 3) := by decide +kernel
theorem dX3_empties_169 : decode cX3_empties 169 = .ok (.iload 4, 2) := by decide +kernel
theorem dX3_empties_171 : decode cX3_empties 171 = .ok (.aload_n 0, 1) := by decide +kernel
theorem dX3_empties_172 : decode cX3_empties 172 = .ok (.getfield 22, 3) := by decide +kernel
theorem dX3_empties_175 : decode cX3_empties 175 = .ok (.iload 4, 2) := by decide +kernel
theorem dX3_empties_177 : decode cX3_empties 177 = .ok (.iaload, 1) := by decide +kernel
theorem dX3_empties_178 : decode cX3_empties 178 = .ok (.iastore, 1) := by decide +kernel
theorem dX3_empties_179 : decode cX3_empties 179 = .ok (.iinc 4 1, 3) := by decide +kernel
theorem dX3_empties_182 : decode cX3_empties 182 = .ok (.goto (-29), 3) := by decide +kernel
theorem dX3_empties_185 : decode cX3_empties 185 = .ok (.iload_n 3, 1) := by decide +kernel
theorem dX3_empties_186 : decode cX3_empties 186 = .ok (.ifCond .eq 7, 3) := by decide +kernel
theorem dX3_empties_189 : decode cX3_empties 189 = .ok (.iload_n 2, 1) := by decide +kernel
theorem dX3_empties_190 : decode cX3_empties 190 = .ok (.goto 5, 3) := by decide +kernel
theorem dX3_empties_193 : decode cX3_empties 193 = .ok (.ldc 96, 2) := by decide +kernel
theorem dX3_empties_195 : decode cX3_empties 195 = .ok (.ireturn, 1) := by decide +kernel
theorem dX3_empty_0 : decode cX3_empty 0 = .ok (.aload_n 0, 1) := by decide +kernel
theorem dX3_empty_1 : decode cX3_empty 1 = .ok (.invokevirtual 84, 3) := by decide +kernel
theorem dX3_empty_4 : decode cX3_empty 4 = .ok (.aload_n 0, 1) := by decide +kernel
theorem dX3_empty_5 : decode cX3_empty 5 = .ok (.aload_n 0, 1) := by decide +kernel
theorem dX3_empty_6 : decode cX3_empty 6 = .ok (.iload_n 1, 1) := by decide +kernel
theorem dX3_empty_7 : decode cX3_empty 7 = .ok (.invokevirtual 139, 3) := by decide +kernel
theorem dX3_empty_10 : decode cX3_empty 10 = .ok (.invokevirtual 87, 3) := by decide +kernel
theorem dX3_empty_13 : decode cX3_empty 13 = .ok (.ireturn, 1) := by decide +kernel
theorem dX3_ahead_0 : decode cX3_ahead 0 = .ok (.iconst 0, 1) := by decide +kernel
theorem dX3_ahead_1 : decode cX3_ahead 1 = .ok (.istore_n 2, 1) := by decide +kernel
theorem dX3_ahead_2 : decode cX3_ahead 2 = .ok (.iconst 0, 1) := by decide +kernel
theorem dX3_ahead_3 : decode cX3_ahead 3 = .ok (.istore_n 3, 1) := by decide +kernel
theorem dX3_ahead_4 : decode cX3_ahead 4 = .ok (.iload_n 3, 1) := by decide +kernel
theorem dX3_ahead_5 : decode cX3_ahead 5 = .ok (.aload_n 0, 1) := by decide +kernel
theorem dX3_ahead_6 : decode cX3_ahead 6 = .ok (.getfield 7, 3) := by decide +kernel
theorem dX3_ahead_9 : decode cX3_ahead 9 = .ok (.iconst 1, 1) := by decide +kernel
theorem dX3_ahead_10 : decode cX3_ahead 10 = .ok (.iaload, 1) := by decide +kernel
theorem dX3_ahead_11 : decode cX3_ahead 11 = .ok (.if_icmp .ge 57, 3) := by decide +kernel
theorem dX3_ahead_14 : decode cX3_ahead 14 = .ok (.iload_n 2, 1) := by decide +kernel
theorem dX3_ahead_15 : decode cX3_ahead 15 = .ok (.aload_n 0, 1) := by decide +kernel
theorem dX3_ahead_16 : decode cX3_ahead 16 = .ok (.iload_n 3, 1) := by decide +kernel
theorem dX3_ahead_17 : decode cX3_ahead 17 = .ok (.iconst 1, 1) := by decide +kernel
theorem dX3_ahead_18 : decode cX3_ahead 18 = .ok (.invokevirtual 45, 3) := by decide +kernel
theorem dX3_ahead_21 : decode cX3_ahead 21 = .ok (.iconst 1, 1) := by decide +kernel
theorem dX3_ahead_22 : decode cX3_ahead 22 = .ok (.if_icmp .ne 37, 3) := by decide +kernel
theorem dX3_ahead_25 : decode cX3_ahead 25 = .ok (.aload_n 0, 1) := by decide +kernel
theorem dX3_ahead_26 : decode cX3_ahead 26 = .ok (.iload_n 3, 1) := by decide +kernel
theorem dX3_ahead_27 : decode cX3_ahead 27 = .ok (.iconst 4, 1) := by decide +kernel
theorem dX3_ahead_28 : decode cX3_ahead 28 = .ok (.invokevirtual 45, 3) := by decide +kernel
theorem dX3_ahead_31 : decode cX3_ahead 31 = .ok (.aload_n 0, 1) := by decide +kernel
theorem dX3_ahead_32 : decode cX3_ahead 32 = .ok (.iload_n 1, 1) := by decide +kernel
theorem dX3_ahead_33 : decode cX3_ahead 33 = .ok (.iconst 4, 1) := by decide +kernel
theorem dX3_ahead_34 : decode cX3_ahead 34 = .ok (.invokevirtual 45, 3) := by decide +kernel
theorem dX3_ahead_37 : decode cX3_ahead 37 = .ok (.if_icmp .ne 22, 3) := by decide +kernel
theorem dX3_ahead_40 : decode cX3_ahead 40 = .ok (.aload_n 0, 1) := by decide +kernel
theorem dX3_ahead_41 : decode cX3_ahead 41 = .ok (.iload_n 3, 1) := by decide +kernel
theorem dX3_ahead_42 : decode cX3_ahead 42 = .ok (.iconst 5, 1) := by decide +kernel
theorem dX3_ahead_43 : decode cX3_ahead 43 = .ok (.invokevirtual 45, 3) := by decide +kernel
theorem dX3_ahead_46 : decode cX3_ahead 46 = .ok (.aload_n 0, 1) := by decide +kernel
theorem dX3_ahead_47 : decode cX3_ahead 47 = .ok (.iload_n 1, 1) := by decide +kernel
theorem dX3_ahead_48 : decode cX3_ahead 48 = .ok (.iconst 5, 1) := by decide +kernel
theorem dX3_ahead_49 : decode cX3_ahead 49 = .ok (.invokevirtual 45, 3) := by decide +kernel
theorem dX3_ahead_52 : decode cX3_ahead 52 = .ok (.if_icmp .ge 7, 3) := by decide +kernel
theorem dX3_ahead_55 : decode cX3_ahead 55 = .ok (.iconst 1, 1) := by decide +kernel
theorem dX3_ahead_56 : decode cX3_ahead 56 = .ok (.goto 4, 3) := by decide +kernel
theorem dX3_ahead_59 : decode cX3_ahead 59 = .ok (.iconst 0, 1) := by decide +kernel
theorem dX3_ahead_60 : decode cX3_ahead 60 = .ok (.iadd, 1) := by decide +kernel
theorem dX3_ahead_61 : decode cX3_ahead 61 = .ok (.istore_n 2, 1) := by decide +kernel
theorem dX3_ahead_62 : decode cX3_ahead 62 = .ok (.iinc 3 1, 3) := by decide +kernel
theorem dX3_ahead_65 : decode cX3_ahead 65 = .ok (.goto (-61), 3) := by decide +kernel
theorem dX3_ahead_68 : decode cX3_ahead 68 = .ok (.iload_n 2, 1) := by decide +kernel
theorem dX3_ahead_69 : decode cX3_ahead 69 = .ok (.ireturn, 1) := by decide +kernel
theorem dX3_wordOf_0 : decode cX3_wordOf 0 = .ok (.aload_n 0, 1) := by decide +kernel
theorem dX3_wordOf_1 : decode cX3_wordOf 1 = .ok (.iload_n 1, 1) := by decide +kernel
theorem dX3_wordOf_2 : decode cX3_wordOf 2 = .ok (.invokevirtual 133, 3) := by decide +kernel
theorem dX3_wordOf_5 : decode cX3_wordOf 5 = .ok (.ifCond .eq 12, 3) := by decide +kernel
theorem dX3_wordOf_8 : decode cX3_wordOf 8 = .ok (.iload_n 2, 1) := by decide +kernel
theorem dX3_wordOf_9 : decode cX3_wordOf 9 = .ok (.iconst 0, 1) := by decide +kernel
theorem dX3_wordOf_10 : decode cX3_wordOf 10 = .ok (.iconst 5, 1) := by decide +kernel
theorem dX3_wordOf_11 : decode cX3_wordOf 11 = .ok (.invokestatic 32, 3) := by decide +kernel
theorem dX3_wordOf_14 : decode cX3_wordOf 14 = .ok (.ifCond .ne 6, 3) := by decide +kernel
theorem dX3_wordOf_17 : decode cX3_wordOf 17 = .ok (.ldc 40, 2) := by decide +kernel
theorem dX3_wordOf_19 : decode cX3_wordOf 19 = .ok (.ireturn, 1) := by decide +kernel
theorem dX3_wordOf_20 : decode cX3_wordOf 20 = .ok (.aload_n 0, 1) := by decide +kernel
theorem dX3_wordOf_21 : decode cX3_wordOf 21 = .ok (.iload_n 1, 1) := by decide +kernel
theorem dX3_wordOf_22 : decode cX3_wordOf 22 = .ok (.iconst 1, 1) := by decide +kernel
theorem dX3_wordOf_23 : decode cX3_wordOf 23 = .ok (.invokevirtual 45, 3) := by decide +kernel
theorem dX3_wordOf_26 : decode cX3_wordOf 26 = .ok (.istore_n 3, 1) := by decide +kernel
theorem dX3_wordOf_27 : decode cX3_wordOf 27 = .ok (.iload_n 2, 1) := by decide +kernel
theorem dX3_wordOf_28 : decode cX3_wordOf 28 = .ok (.tableswitch 89 0 4 #[36, 38, 54, 54, 73], 36) := by decide +kernel
theorem dX3_wordOf_64 : decode cX3_wordOf 64 = .ok (.iload_n 3, 1) := by decide +kernel
theorem dX3_wordOf_65 : decode cX3_wordOf 65 = .ok (.ireturn, 1) := by decide +kernel
theorem dX3_wordOf_66 : decode cX3_wordOf 66 = .ok (.iload_n 3, 1) := by decide +kernel
theorem dX3_wordOf_67 : decode cX3_wordOf 67 = .ok (.ifCond .ne 12, 3) := by decide +kernel
theorem dX3_wordOf_70 : decode cX3_wordOf 70 = .ok (.aload_n 0, 1) := by decide +kernel
theorem dX3_wordOf_71 : decode cX3_wordOf 71 = .ok (.iload_n 1, 1) := by decide +kernel
theorem dX3_wordOf_72 : decode cX3_wordOf 72 = .ok (.iconst 2, 1) := by decide +kernel
theorem dX3_wordOf_73 : decode cX3_wordOf 73 = .ok (.invokevirtual 45, 3) := by decide +kernel
theorem dX3_wordOf_76 : decode cX3_wordOf 76 = .ok (.goto 5, 3) := by decide +kernel
theorem dX3_wordOf_79 : decode cX3_wordOf 79 = .ok (.ldc 123, 2) := by decide +kernel
theorem dX3_wordOf_81 : decode cX3_wordOf 81 = .ok (.ireturn, 1) := by decide +kernel
theorem dX3_wordOf_82 : decode cX3_wordOf 82 = .ok (.iload_n 3, 1) := by decide +kernel
theorem dX3_wordOf_83 : decode cX3_wordOf 83 = .ok (.iconst 2, 1) := by decide +kernel
theorem dX3_wordOf_84 : decode cX3_wordOf 84 = .ok (.if_icmp .ne 8, 3) := by decide +kernel
theorem dX3_wordOf_87 : decode cX3_wordOf 87 = .ok (.ldc 123, 2) := by decide +kernel
theorem dX3_wordOf_89 : decode cX3_wordOf 89 = .ok (.goto 11, 3) := by decide +kernel
theorem dX3_wordOf_92 : decode cX3_wordOf 92 = .ok (.aload_n 0, 1) := by decide +kernel
theorem dX3_wordOf_93 : decode cX3_wordOf 93 = .ok (.iload_n 1, 1) := by decide +kernel
theorem dX3_wordOf_94 : decode cX3_wordOf 94 = .ok (.iload_n 2, 1) := by decide +kernel
theorem dX3_wordOf_95 : decode cX3_wordOf 95 = .ok (.iconst 1, 1) := by decide +kernel
theorem dX3_wordOf_96 : decode cX3_wordOf 96 = .ok (.iadd, 1) := by decide +kernel
theorem dX3_wordOf_97 : decode cX3_wordOf 97 = .ok (.invokevirtual 45, 3) := by decide +kernel
theorem dX3_wordOf_100 : decode cX3_wordOf 100 = .ok (.ireturn, 1) := by decide +kernel
theorem dX3_wordOf_101 : decode cX3_wordOf 101 = .ok (.iload_n 3, 1) := by decide +kernel
theorem dX3_wordOf_102 : decode cX3_wordOf 102 = .ok (.iconst 1, 1) := by decide +kernel
theorem dX3_wordOf_103 : decode cX3_wordOf 103 = .ok (.if_icmp .ne 11, 3) := by decide +kernel
theorem dX3_wordOf_106 : decode cX3_wordOf 106 = .ok (.aload_n 0, 1) := by decide +kernel
theorem dX3_wordOf_107 : decode cX3_wordOf 107 = .ok (.iload_n 1, 1) := by decide +kernel
theorem dX3_wordOf_108 : decode cX3_wordOf 108 = .ok (.invokevirtual 142, 3) := by decide +kernel
theorem dX3_wordOf_111 : decode cX3_wordOf 111 = .ok (.goto 5, 3) := by decide +kernel
theorem dX3_wordOf_114 : decode cX3_wordOf 114 = .ok (.ldc 123, 2) := by decide +kernel
theorem dX3_wordOf_116 : decode cX3_wordOf 116 = .ok (.ireturn, 1) := by decide +kernel
theorem dX3_wordOf_117 : decode cX3_wordOf 117 = .ok (.aload_n 0, 1) := by decide +kernel
theorem dX3_wordOf_118 : decode cX3_wordOf 118 = .ok (.iload_n 1, 1) := by decide +kernel
theorem dX3_wordOf_119 : decode cX3_wordOf 119 = .ok (.bipush 6, 2) := by decide +kernel
theorem dX3_wordOf_121 : decode cX3_wordOf 121 = .ok (.invokevirtual 45, 3) := by decide +kernel
theorem dX3_wordOf_124 : decode cX3_wordOf 124 = .ok (.ireturn, 1) := by decide +kernel
theorem dX3_firstOf_0 : decode cX3_firstOf 0 = .ok (.iconst (-1), 1) := by decide +kernel
theorem dX3_firstOf_1 : decode cX3_firstOf 1 = .ok (.istore_n 2, 1) := by decide +kernel
theorem dX3_firstOf_2 : decode cX3_firstOf 2 = .ok (.iconst 0, 1) := by decide +kernel
theorem dX3_firstOf_3 : decode cX3_firstOf 3 = .ok (.istore_n 3, 1) := by decide +kernel
theorem dX3_firstOf_4 : decode cX3_firstOf 4 = .ok (.iload_n 3, 1) := by decide +kernel
theorem dX3_firstOf_5 : decode cX3_firstOf 5 = .ok (.aload_n 0, 1) := by decide +kernel
theorem dX3_firstOf_6 : decode cX3_firstOf 6 = .ok (.getfield 7, 3) := by decide +kernel
theorem dX3_firstOf_9 : decode cX3_firstOf 9 = .ok (.iconst 1, 1) := by decide +kernel
theorem dX3_firstOf_10 : decode cX3_firstOf 10 = .ok (.iaload, 1) := by decide +kernel
theorem dX3_firstOf_11 : decode cX3_firstOf 11 = .ok (.if_icmp .ge 66, 3) := by decide +kernel
theorem dX3_firstOf_14 : decode cX3_firstOf 14 = .ok (.aload_n 0, 1) := by decide +kernel
theorem dX3_firstOf_15 : decode cX3_firstOf 15 = .ok (.iload_n 3, 1) := by decide +kernel
theorem dX3_firstOf_16 : decode cX3_firstOf 16 = .ok (.iconst 1, 1) := by decide +kernel
theorem dX3_firstOf_17 : decode cX3_firstOf 17 = .ok (.invokevirtual 45, 3) := by decide +kernel
theorem dX3_firstOf_20 : decode cX3_firstOf 20 = .ok (.iconst 1, 1) := by decide +kernel
theorem dX3_firstOf_21 : decode cX3_firstOf 21 = .ok (.if_icmp .ne 36, 3) := by decide +kernel
theorem dX3_firstOf_24 : decode cX3_firstOf 24 = .ok (.aload_n 0, 1) := by decide +kernel
theorem dX3_firstOf_25 : decode cX3_firstOf 25 = .ok (.iload_n 3, 1) := by decide +kernel
theorem dX3_firstOf_26 : decode cX3_firstOf 26 = .ok (.iconst 4, 1) := by decide +kernel
theorem dX3_firstOf_27 : decode cX3_firstOf 27 = .ok (.invokevirtual 45, 3) := by decide +kernel
theorem dX3_firstOf_30 : decode cX3_firstOf 30 = .ok (.iload_n 1, 1) := by decide +kernel
theorem dX3_firstOf_31 : decode cX3_firstOf 31 = .ok (.if_icmp .ne 26, 3) := by decide +kernel
theorem dX3_firstOf_34 : decode cX3_firstOf 34 = .ok (.iload_n 2, 1) := by decide +kernel
theorem dX3_firstOf_35 : decode cX3_firstOf 35 = .ok (.ifCond .lt 18, 3) := by decide +kernel
theorem dX3_firstOf_38 : decode cX3_firstOf 38 = .ok (.aload_n 0, 1) := by decide +kernel
theorem dX3_firstOf_39 : decode cX3_firstOf 39 = .ok (.iload_n 3, 1) := by decide +kernel
theorem dX3_firstOf_40 : decode cX3_firstOf 40 = .ok (.iconst 5, 1) := by decide +kernel
theorem dX3_firstOf_41 : decode cX3_firstOf 41 = .ok (.invokevirtual 45, 3) := by decide +kernel
theorem dX3_firstOf_44 : decode cX3_firstOf 44 = .ok (.aload_n 0, 1) := by decide +kernel
theorem dX3_firstOf_45 : decode cX3_firstOf 45 = .ok (.iload_n 2, 1) := by decide +kernel
theorem dX3_firstOf_46 : decode cX3_firstOf 46 = .ok (.iconst 5, 1) := by decide +kernel
theorem dX3_firstOf_47 : decode cX3_firstOf 47 = .ok (.invokevirtual 45, 3) := by decide +kernel
theorem dX3_firstOf_50 : decode cX3_firstOf 50 = .ok (.if_icmp .ge 7, 3) := by decide +kernel
theorem dX3_firstOf_53 : decode cX3_firstOf 53 = .ok (.iconst 1, 1) := by decide +kernel
theorem dX3_firstOf_54 : decode cX3_firstOf 54 = .ok (.goto 4, 3) := by decide +kernel
theorem dX3_firstOf_57 : decode cX3_firstOf 57 = .ok (.iconst 0, 1) := by decide +kernel
theorem dX3_firstOf_58 : decode cX3_firstOf 58 = .ok (.istore 4, 2) := by decide +kernel
theorem dX3_firstOf_60 : decode cX3_firstOf 60 = .ok (.iload 4, 2) := by decide +kernel
theorem dX3_firstOf_62 : decode cX3_firstOf 62 = .ok (.ifCond .eq 7, 3) := by decide +kernel
theorem dX3_firstOf_65 : decode cX3_firstOf 65 = .ok (.iload_n 3, 1) := by decide +kernel
theorem dX3_firstOf_66 : decode cX3_firstOf 66 = .ok (.goto 4, 3) := by decide +kernel
theorem dX3_firstOf_69 : decode cX3_firstOf 69 = .ok (.iload_n 2, 1) := by decide +kernel
theorem dX3_firstOf_70 : decode cX3_firstOf 70 = .ok (.istore_n 2, 1) := by decide +kernel
theorem dX3_firstOf_71 : decode cX3_firstOf 71 = .ok (.iinc 3 1, 3) := by decide +kernel
theorem dX3_firstOf_74 : decode cX3_firstOf 74 = .ok (.goto (-70), 3) := by decide +kernel
theorem dX3_firstOf_77 : decode cX3_firstOf 77 = .ok (.iload_n 2, 1) := by decide +kernel
theorem dX3_firstOf_78 : decode cX3_firstOf 78 = .ok (.ireturn, 1) := by decide +kernel
theorem dX3_many_0 : decode cX3_many 0 = .ok (.iconst 0, 1) := by decide +kernel
theorem dX3_many_1 : decode cX3_many 1 = .ok (.istore 4, 2) := by decide +kernel
theorem dX3_many_3 : decode cX3_many 3 = .ok (.iconst 0, 1) := by decide +kernel
theorem dX3_many_4 : decode cX3_many 4 = .ok (.istore 5, 2) := by decide +kernel
theorem dX3_many_6 : decode cX3_many 6 = .ok (.iload 5, 2) := by decide +kernel
theorem dX3_many_8 : decode cX3_many 8 = .ok (.aload_n 0, 1) := by decide +kernel
theorem dX3_many_9 : decode cX3_many 9 = .ok (.getfield 7, 3) := by decide +kernel
theorem dX3_many_12 : decode cX3_many 12 = .ok (.iconst 1, 1) := by decide +kernel
theorem dX3_many_13 : decode cX3_many 13 = .ok (.iaload, 1) := by decide +kernel
theorem dX3_many_14 : decode cX3_many 14 = .ok (.if_icmp .ge 82, 3) := by decide +kernel
theorem dX3_many_17 : decode cX3_many 17 = .ok (.aload_n 0, 1) := by decide +kernel
theorem dX3_many_18 : decode cX3_many 18 = .ok (.iload 5, 2) := by decide +kernel
theorem dX3_many_20 : decode cX3_many 20 = .ok (.iconst 1, 1) := by decide +kernel
theorem dX3_many_21 : decode cX3_many 21 = .ok (.invokevirtual 45, 3) := by decide +kernel
theorem dX3_many_24 : decode cX3_many 24 = .ok (.iload_n 2, 1) := by decide +kernel
theorem dX3_many_25 : decode cX3_many 25 = .ok (.if_icmp .ne 22, 3) := by decide +kernel
theorem dX3_many_28 : decode cX3_many 28 = .ok (.iload_n 1, 1) := by decide +kernel
theorem dX3_many_29 : decode cX3_many 29 = .ok (.ifCond .lt 14, 3) := by decide +kernel
theorem dX3_many_32 : decode cX3_many 32 = .ok (.aload_n 0, 1) := by decide +kernel
theorem dX3_many_33 : decode cX3_many 33 = .ok (.iload 5, 2) := by decide +kernel
theorem dX3_many_35 : decode cX3_many 35 = .ok (.iconst 4, 1) := by decide +kernel
theorem dX3_many_36 : decode cX3_many 36 = .ok (.invokevirtual 45, 3) := by decide +kernel
theorem dX3_many_39 : decode cX3_many 39 = .ok (.iload_n 1, 1) := by decide +kernel
theorem dX3_many_40 : decode cX3_many 40 = .ok (.if_icmp .ne 7, 3) := by decide +kernel
theorem dX3_many_43 : decode cX3_many 43 = .ok (.iconst 1, 1) := by decide +kernel
theorem dX3_many_44 : decode cX3_many 44 = .ok (.goto 4, 3) := by decide +kernel
theorem dX3_many_47 : decode cX3_many 47 = .ok (.iconst 0, 1) := by decide +kernel
theorem dX3_many_48 : decode cX3_many 48 = .ok (.istore 6, 2) := by decide +kernel
theorem dX3_many_50 : decode cX3_many 50 = .ok (.iload 4, 2) := by decide +kernel
theorem dX3_many_52 : decode cX3_many 52 = .ok (.iload 6, 2) := by decide +kernel
theorem dX3_many_54 : decode cX3_many 54 = .ok (.ifCond .eq 32, 3) := by decide +kernel
theorem dX3_many_57 : decode cX3_many 57 = .ok (.iload_n 3, 1) := by decide +kernel
theorem dX3_many_58 : decode cX3_many 58 = .ok (.ifCond .eq 24, 3) := by decide +kernel
theorem dX3_many_61 : decode cX3_many 61 = .ok (.aload_n 0, 1) := by decide +kernel
theorem dX3_many_62 : decode cX3_many 62 = .ok (.aload_n 0, 1) := by decide +kernel
theorem dX3_many_63 : decode cX3_many 63 = .ok (.iload 5, 2) := by decide +kernel
theorem dX3_many_65 : decode cX3_many 65 = .ok (.iconst 4, 1) := by decide +kernel
theorem dX3_many_66 : decode cX3_many 66 = .ok (.invokevirtual 45, 3) := by decide +kernel
theorem dX3_many_69 : decode cX3_many 69 = .ok (.aload_n 0, 1) := by decide +kernel
theorem dX3_many_70 : decode cX3_many 70 = .ok (.iload 5, 2) := by decide +kernel
theorem dX3_many_72 : decode cX3_many 72 = .ok (.iconst 3, 1) := by decide +kernel
theorem dX3_many_73 : decode cX3_many 73 = .ok (.invokevirtual 45, 3) := by decide +kernel
theorem dX3_many_76 : decode cX3_many 76 = .ok (.invokevirtual 76, 3) := by decide +kernel
theorem dX3_many_79 : decode cX3_many 79 = .ok (.ifCond .ne 7, 3) := by decide +kernel
theorem dX3_many_82 : decode cX3_many 82 = .ok (.iconst 1, 1) := by decide +kernel
theorem dX3_many_83 : decode cX3_many 83 = .ok (.goto 4, 3) := by decide +kernel
theorem dX3_many_86 : decode cX3_many 86 = .ok (.iconst 0, 1) := by decide +kernel
theorem dX3_many_87 : decode cX3_many 87 = .ok (.iadd, 1) := by decide +kernel
theorem dX3_many_88 : decode cX3_many 88 = .ok (.istore 4, 2) := by decide +kernel
theorem dX3_many_90 : decode cX3_many 90 = .ok (.iinc 5 1, 3) := by decide +kernel
theorem dX3_many_93 : decode cX3_many 93 = .ok (.goto (-87), 3) := by decide +kernel
theorem dX3_many_96 : decode cX3_many 96 = .ok (.iload 4, 2) := by decide +kernel
theorem dX3_many_98 : decode cX3_many 98 = .ok (.ireturn, 1) := by decide +kernel
theorem dX3_familyOf_0 : decode cX3_familyOf 0 = .ok (.iload_n 1, 1) := by decide +kernel
theorem dX3_familyOf_1 : decode cX3_familyOf 1 = .ok (.iconst 0, 1) := by decide +kernel
theorem dX3_familyOf_2 : decode cX3_familyOf 2 = .ok (.iconst 2, 1) := by decide +kernel
theorem dX3_familyOf_3 : decode cX3_familyOf 3 = .ok (.invokestatic 32, 3) := by decide +kernel
theorem dX3_familyOf_6 : decode cX3_familyOf 6 = .ok (.ifCond .eq 13, 3) := by decide +kernel
theorem dX3_familyOf_9 : decode cX3_familyOf 9 = .ok (.iload_n 2, 1) := by decide +kernel
theorem dX3_familyOf_10 : decode cX3_familyOf 10 = .ok (.iconst 0, 1) := by decide +kernel
theorem dX3_familyOf_11 : decode cX3_familyOf 11 = .ok (.bipush 6, 2) := by decide +kernel
theorem dX3_familyOf_13 : decode cX3_familyOf 13 = .ok (.invokestatic 32, 3) := by decide +kernel
theorem dX3_familyOf_16 : decode cX3_familyOf 16 = .ok (.ifCond .ne 6, 3) := by decide +kernel
theorem dX3_familyOf_19 : decode cX3_familyOf 19 = .ok (.ldc 40, 2) := by decide +kernel
theorem dX3_familyOf_21 : decode cX3_familyOf 21 = .ok (.ireturn, 1) := by decide +kernel
theorem dX3_familyOf_22 : decode cX3_familyOf 22 = .ok (.iconst 0, 1) := by decide +kernel
theorem dX3_familyOf_23 : decode cX3_familyOf 23 = .ok (.istore_n 3, 1) := by decide +kernel
theorem dX3_familyOf_24 : decode cX3_familyOf 24 = .ok (.iconst 0, 1) := by decide +kernel
theorem dX3_familyOf_25 : decode cX3_familyOf 25 = .ok (.istore 4, 2) := by decide +kernel
theorem dX3_familyOf_27 : decode cX3_familyOf 27 = .ok (.iload 4, 2) := by decide +kernel
theorem dX3_familyOf_29 : decode cX3_familyOf 29 = .ok (.aload_n 0, 1) := by decide +kernel
theorem dX3_familyOf_30 : decode cX3_familyOf 30 = .ok (.getfield 7, 3) := by decide +kernel
theorem dX3_familyOf_33 : decode cX3_familyOf 33 = .ok (.iconst 0, 1) := by decide +kernel
theorem dX3_familyOf_34 : decode cX3_familyOf 34 = .ok (.iaload, 1) := by decide +kernel
theorem dX3_familyOf_35 : decode cX3_familyOf 35 = .ok (.if_icmp .ge 40, 3) := by decide +kernel
theorem dX3_familyOf_38 : decode cX3_familyOf 38 = .ok (.iload_n 3, 1) := by decide +kernel
theorem dX3_familyOf_39 : decode cX3_familyOf 39 = .ok (.aload_n 0, 1) := by decide +kernel
theorem dX3_familyOf_40 : decode cX3_familyOf 40 = .ok (.iload 4, 2) := by decide +kernel
theorem dX3_familyOf_42 : decode cX3_familyOf 42 = .ok (.iconst 0, 1) := by decide +kernel
theorem dX3_familyOf_43 : decode cX3_familyOf 43 = .ok (.invokevirtual 36, 3) := by decide +kernel
theorem dX3_familyOf_46 : decode cX3_familyOf 46 = .ok (.iload_n 1, 1) := by decide +kernel
theorem dX3_familyOf_47 : decode cX3_familyOf 47 = .ok (.if_icmp .ne 19, 3) := by decide +kernel
theorem dX3_familyOf_50 : decode cX3_familyOf 50 = .ok (.aload_n 0, 1) := by decide +kernel
theorem dX3_familyOf_51 : decode cX3_familyOf 51 = .ok (.iload 4, 2) := by decide +kernel
theorem dX3_familyOf_53 : decode cX3_familyOf 53 = .ok (.invokevirtual 52, 3) := by decide +kernel
theorem dX3_familyOf_56 : decode cX3_familyOf 56 = .ok (.ifCond .eq 10, 3) := by decide +kernel
theorem dX3_familyOf_59 : decode cX3_familyOf 59 = .ok (.iconst 1, 1) := by decide +kernel
theorem dX3_familyOf_60 : decode cX3_familyOf 60 = .ok (.iload 4, 2) := by decide +kernel
theorem dX3_familyOf_62 : decode cX3_familyOf 62 = .ok (.ishl, 1) := by decide +kernel
theorem dX3_familyOf_63 : decode cX3_familyOf 63 = .ok (.goto 4, 3) := by decide +kernel
theorem dX3_familyOf_66 : decode cX3_familyOf 66 = .ok (.iconst 0, 1) := by decide +kernel
theorem dX3_familyOf_67 : decode cX3_familyOf 67 = .ok (.ior, 1) := by decide +kernel
theorem dX3_familyOf_68 : decode cX3_familyOf 68 = .ok (.istore_n 3, 1) := by decide +kernel
theorem dX3_familyOf_69 : decode cX3_familyOf 69 = .ok (.iinc 4 1, 3) := by decide +kernel
theorem dX3_familyOf_72 : decode cX3_familyOf 72 = .ok (.goto (-45), 3) := by decide +kernel
theorem dX3_familyOf_75 : decode cX3_familyOf 75 = .ok (.iload_n 2, 1) := by decide +kernel
theorem dX3_familyOf_76 : decode cX3_familyOf 76 = .ok (.tableswitch 97 0 5 #[40, 65, 67, 75, 83, 89], 40) := by decide +kernel
theorem dX3_familyOf_116 : decode cX3_familyOf 116 = .ok (.aload_n 0, 1) := by decide +kernel
theorem dX3_familyOf_117 : decode cX3_familyOf 117 = .ok (.getfield 7, 3) := by decide +kernel
theorem dX3_familyOf_120 : decode cX3_familyOf 120 = .ok (.iconst 5, 1) := by decide +kernel
theorem dX3_familyOf_121 : decode cX3_familyOf 121 = .ok (.iload_n 1, 1) := by decide +kernel
theorem dX3_familyOf_122 : decode cX3_familyOf 122 = .ok (.iadd, 1) := by decide +kernel
theorem dX3_familyOf_123 : decode cX3_familyOf 123 = .ok (.iaload, 1) := by decide +kernel
theorem dX3_familyOf_124 : decode cX3_familyOf 124 = .ok (.ifCond .ge 8, 3) := by decide +kernel
theorem dX3_familyOf_127 : decode cX3_familyOf 127 = .ok (.ldc 123, 2) := by decide +kernel
theorem dX3_familyOf_129 : decode cX3_familyOf 129 = .ok (.goto 11, 3) := by decide +kernel
theorem dX3_familyOf_132 : decode cX3_familyOf 132 = .ok (.aload_n 0, 1) := by decide +kernel
theorem dX3_familyOf_133 : decode cX3_familyOf 133 = .ok (.getfield 7, 3) := by decide +kernel
theorem dX3_familyOf_136 : decode cX3_familyOf 136 = .ok (.iconst 5, 1) := by decide +kernel
theorem dX3_familyOf_137 : decode cX3_familyOf 137 = .ok (.iload_n 1, 1) := by decide +kernel
theorem dX3_familyOf_138 : decode cX3_familyOf 138 = .ok (.iadd, 1) := by decide +kernel
theorem dX3_familyOf_139 : decode cX3_familyOf 139 = .ok (.iaload, 1) := by decide +kernel
theorem dX3_familyOf_140 : decode cX3_familyOf 140 = .ok (.ireturn, 1) := by decide +kernel
theorem dX3_familyOf_141 : decode cX3_familyOf 141 = .ok (.iload_n 3, 1) := by decide +kernel
theorem dX3_familyOf_142 : decode cX3_familyOf 142 = .ok (.ireturn, 1) := by decide +kernel
theorem dX3_familyOf_143 : decode cX3_familyOf 143 = .ok (.aload_n 0, 1) := by decide +kernel
theorem dX3_familyOf_144 : decode cX3_familyOf 144 = .ok (.iload_n 1, 1) := by decide +kernel
theorem dX3_familyOf_145 : decode cX3_familyOf 145 = .ok (.iconst 1, 1) := by decide +kernel
theorem dX3_familyOf_146 : decode cX3_familyOf 146 = .ok (.iconst 0, 1) := by decide +kernel
theorem dX3_familyOf_147 : decode cX3_familyOf 147 = .ok (.invokevirtual 145, 3) := by decide +kernel
theorem dX3_familyOf_150 : decode cX3_familyOf 150 = .ok (.ireturn, 1) := by decide +kernel
theorem dX3_familyOf_151 : decode cX3_familyOf 151 = .ok (.aload_n 0, 1) := by decide +kernel
theorem dX3_familyOf_152 : decode cX3_familyOf 152 = .ok (.iload_n 1, 1) := by decide +kernel
theorem dX3_familyOf_153 : decode cX3_familyOf 153 = .ok (.iconst 0, 1) := by decide +kernel
theorem dX3_familyOf_154 : decode cX3_familyOf 154 = .ok (.iconst 0, 1) := by decide +kernel
theorem dX3_familyOf_155 : decode cX3_familyOf 155 = .ok (.invokevirtual 145, 3) := by decide +kernel
theorem dX3_familyOf_158 : decode cX3_familyOf 158 = .ok (.ireturn, 1) := by decide +kernel
theorem dX3_familyOf_159 : decode cX3_familyOf 159 = .ok (.aload_n 0, 1) := by decide +kernel
theorem dX3_familyOf_160 : decode cX3_familyOf 160 = .ok (.iload_n 1, 1) := by decide +kernel
theorem dX3_familyOf_161 : decode cX3_familyOf 161 = .ok (.invokevirtual 97, 3) := by decide +kernel
theorem dX3_familyOf_164 : decode cX3_familyOf 164 = .ok (.ireturn, 1) := by decide +kernel
theorem dX3_familyOf_165 : decode cX3_familyOf 165 = .ok (.aload_n 0, 1) := by decide +kernel
theorem dX3_familyOf_166 : decode cX3_familyOf 166 = .ok (.iload_n 1, 1) := by decide +kernel
theorem dX3_familyOf_167 : decode cX3_familyOf 167 = .ok (.iconst 0, 1) := by decide +kernel
theorem dX3_familyOf_168 : decode cX3_familyOf 168 = .ok (.iconst 1, 1) := by decide +kernel
theorem dX3_familyOf_169 : decode cX3_familyOf 169 = .ok (.invokevirtual 145, 3) := by decide +kernel
theorem dX3_familyOf_172 : decode cX3_familyOf 172 = .ok (.ireturn, 1) := by decide +kernel
theorem dX3_familyOf_173 : decode cX3_familyOf 173 = .ok (.aload_n 0, 1) := by decide +kernel
theorem dX3_familyOf_174 : decode cX3_familyOf 174 = .ok (.iload_n 1, 1) := by decide +kernel
theorem dX3_familyOf_175 : decode cX3_familyOf 175 = .ok (.invokevirtual 149, 3) := by decide +kernel
theorem dX3_familyOf_178 : decode cX3_familyOf 178 = .ok (.ifCond .ge 8, 3) := by decide +kernel
theorem dX3_familyOf_181 : decode cX3_familyOf 181 = .ok (.ldc 123, 2) := by decide +kernel
theorem dX3_familyOf_183 : decode cX3_familyOf 183 = .ok (.goto 8, 3) := by decide +kernel
theorem dX3_familyOf_186 : decode cX3_familyOf 186 = .ok (.aload_n 0, 1) := by decide +kernel
theorem dX3_familyOf_187 : decode cX3_familyOf 187 = .ok (.iload_n 1, 1) := by decide +kernel
theorem dX3_familyOf_188 : decode cX3_familyOf 188 = .ok (.invokevirtual 149, 3) := by decide +kernel
theorem dX3_familyOf_191 : decode cX3_familyOf 191 = .ok (.ireturn, 1) := by decide +kernel
theorem dX3_raises_0 : decode cX3_raises 0 = .ok (.aload_n 0, 1) := by decide +kernel
theorem dX3_raises_1 : decode cX3_raises 1 = .ok (.iload_n 1, 1) := by decide +kernel
theorem dX3_raises_2 : decode cX3_raises 2 = .ok (.invokevirtual 149, 3) := by decide +kernel
theorem dX3_raises_5 : decode cX3_raises 5 = .ok (.istore_n 2, 1) := by decide +kernel
theorem dX3_raises_6 : decode cX3_raises 6 = .ok (.iload_n 2, 1) := by decide +kernel
theorem dX3_raises_7 : decode cX3_raises 7 = .ok (.ifCond .ge 5, 3) := by decide +kernel
theorem dX3_raises_10 : decode cX3_raises 10 = .ok (.iconst 0, 1) := by decide +kernel
theorem dX3_raises_11 : decode cX3_raises 11 = .ok (.ireturn, 1) := by decide +kernel
theorem dX3_raises_12 : decode cX3_raises 12 = .ok (.aload_n 0, 1) := by decide +kernel
theorem dX3_raises_13 : decode cX3_raises 13 = .ok (.iload_n 2, 1) := by decide +kernel
theorem dX3_raises_14 : decode cX3_raises 14 = .ok (.iconst 1, 1) := by decide +kernel
theorem dX3_raises_15 : decode cX3_raises 15 = .ok (.iconst 2, 1) := by decide +kernel
theorem dX3_raises_16 : decode cX3_raises 16 = .ok (.invokevirtual 72, 3) := by decide +kernel
theorem dX3_raises_19 : decode cX3_raises 19 = .ok (.aload_n 0, 1) := by decide +kernel
theorem dX3_raises_20 : decode cX3_raises 20 = .ok (.iload_n 1, 1) := by decide +kernel
theorem dX3_raises_21 : decode cX3_raises 21 = .ok (.iconst (-1), 1) := by decide +kernel
theorem dX3_raises_22 : decode cX3_raises 22 = .ok (.invokevirtual 136, 3) := by decide +kernel
theorem dX3_raises_25 : decode cX3_raises 25 = .ok (.istore_n 3, 1) := by decide +kernel
theorem dX3_raises_26 : decode cX3_raises 26 = .ok (.iload_n 3, 1) := by decide +kernel
theorem dX3_raises_27 : decode cX3_raises 27 = .ok (.ifCond .ge 12, 3) := by decide +kernel
theorem dX3_raises_30 : decode cX3_raises 30 = .ok (.aload_n 0, 1) := by decide +kernel
theorem dX3_raises_31 : decode cX3_raises 31 = .ok (.iload_n 2, 1) := by decide +kernel
theorem dX3_raises_32 : decode cX3_raises 32 = .ok (.iconst 1, 1) := by decide +kernel
theorem dX3_raises_33 : decode cX3_raises 33 = .ok (.iconst 1, 1) := by decide +kernel
theorem dX3_raises_34 : decode cX3_raises 34 = .ok (.invokevirtual 72, 3) := by decide +kernel
theorem dX3_raises_37 : decode cX3_raises 37 = .ok (.iconst 0, 1) := by decide +kernel
theorem dX3_raises_38 : decode cX3_raises 38 = .ok (.ireturn, 1) := by decide +kernel
theorem dX3_raises_39 : decode cX3_raises 39 = .ok (.aload_n 0, 1) := by decide +kernel
theorem dX3_raises_40 : decode cX3_raises 40 = .ok (.iload_n 2, 1) := by decide +kernel
theorem dX3_raises_41 : decode cX3_raises 41 = .ok (.iload_n 3, 1) := by decide +kernel
theorem dX3_raises_42 : decode cX3_raises 42 = .ok (.aload_n 0, 1) := by decide +kernel
theorem dX3_raises_43 : decode cX3_raises 43 = .ok (.iload_n 3, 1) := by decide +kernel
theorem dX3_raises_44 : decode cX3_raises 44 = .ok (.invokevirtual 124, 3) := by decide +kernel
theorem dX3_raises_47 : decode cX3_raises 47 = .ok (.invokevirtual 127, 3) := by decide +kernel
theorem dX3_raises_50 : decode cX3_raises 50 = .ok (.aload_n 0, 1) := by decide +kernel
theorem dX3_raises_51 : decode cX3_raises 51 = .ok (.iload_n 2, 1) := by decide +kernel
theorem dX3_raises_52 : decode cX3_raises 52 = .ok (.bipush 6, 2) := by decide +kernel
theorem dX3_raises_54 : decode cX3_raises 54 = .ok (.aload_n 0, 1) := by decide +kernel
theorem dX3_raises_55 : decode cX3_raises 55 = .ok (.iload_n 2, 1) := by decide +kernel
theorem dX3_raises_56 : decode cX3_raises 56 = .ok (.bipush 6, 2) := by decide +kernel
theorem dX3_raises_58 : decode cX3_raises 58 = .ok (.invokevirtual 45, 3) := by decide +kernel
theorem dX3_raises_61 : decode cX3_raises 61 = .ok (.iconst 1, 1) := by decide +kernel
theorem dX3_raises_62 : decode cX3_raises 62 = .ok (.iadd, 1) := by decide +kernel
theorem dX3_raises_63 : decode cX3_raises 63 = .ok (.invokevirtual 72, 3) := by decide +kernel
theorem dX3_raises_66 : decode cX3_raises 66 = .ok (.aload_n 0, 1) := by decide +kernel
theorem dX3_raises_67 : decode cX3_raises 67 = .ok (.getfield 7, 3) := by decide +kernel
theorem dX3_raises_70 : decode cX3_raises 70 = .ok (.iconst 3, 1) := by decide +kernel
theorem dX3_raises_71 : decode cX3_raises 71 = .ok (.dup2, 1) := by decide +kernel
theorem dX3_raises_72 : decode cX3_raises 72 = .ok (.iaload, 1) := by decide +kernel
theorem dX3_raises_73 : decode cX3_raises 73 = .ok (.iconst 1, 1) := by decide +kernel
theorem dX3_raises_74 : decode cX3_raises 74 = .ok (.iadd, 1) := by decide +kernel
theorem dX3_raises_75 : decode cX3_raises 75 = .ok (.iastore, 1) := by decide +kernel
theorem dX3_raises_76 : decode cX3_raises 76 = .ok (.iconst 1, 1) := by decide +kernel
theorem dX3_raises_77 : decode cX3_raises 77 = .ok (.ireturn, 1) := by decide +kernel
theorem dX3_tickOne_0 : decode cX3_tickOne 0 = .ok (.iconst 0, 1) := by decide +kernel
theorem dX3_tickOne_1 : decode cX3_tickOne 1 = .ok (.istore_n 1, 1) := by decide +kernel
theorem dX3_tickOne_2 : decode cX3_tickOne 2 = .ok (.iconst 0, 1) := by decide +kernel
theorem dX3_tickOne_3 : decode cX3_tickOne 3 = .ok (.istore_n 2, 1) := by decide +kernel
theorem dX3_tickOne_4 : decode cX3_tickOne 4 = .ok (.iload_n 2, 1) := by decide +kernel
theorem dX3_tickOne_5 : decode cX3_tickOne 5 = .ok (.iconst 3, 1) := by decide +kernel
theorem dX3_tickOne_6 : decode cX3_tickOne 6 = .ok (.if_icmp .ge 25, 3) := by decide +kernel
theorem dX3_tickOne_9 : decode cX3_tickOne 9 = .ok (.iload_n 1, 1) := by decide +kernel
theorem dX3_tickOne_10 : decode cX3_tickOne 10 = .ok (.aload_n 0, 1) := by decide +kernel
theorem dX3_tickOne_11 : decode cX3_tickOne 11 = .ok (.iload_n 2, 1) := by decide +kernel
theorem dX3_tickOne_12 : decode cX3_tickOne 12 = .ok (.invokevirtual 152, 3) := by decide +kernel
theorem dX3_tickOne_15 : decode cX3_tickOne 15 = .ok (.ifCond .eq 7, 3) := by decide +kernel
theorem dX3_tickOne_18 : decode cX3_tickOne 18 = .ok (.iconst 1, 1) := by decide +kernel
theorem dX3_tickOne_19 : decode cX3_tickOne 19 = .ok (.goto 4, 3) := by decide +kernel
theorem dX3_tickOne_22 : decode cX3_tickOne 22 = .ok (.iconst 0, 1) := by decide +kernel
theorem dX3_tickOne_23 : decode cX3_tickOne 23 = .ok (.iadd, 1) := by decide +kernel
theorem dX3_tickOne_24 : decode cX3_tickOne 24 = .ok (.istore_n 1, 1) := by decide +kernel
theorem dX3_tickOne_25 : decode cX3_tickOne 25 = .ok (.iinc 2 1, 3) := by decide +kernel
theorem dX3_tickOne_28 : decode cX3_tickOne 28 = .ok (.goto (-24), 3) := by decide +kernel
theorem dX3_tickOne_31 : decode cX3_tickOne 31 = .ok (.aload_n 0, 1) := by decide +kernel
theorem dX3_tickOne_32 : decode cX3_tickOne 32 = .ok (.getfield 7, 3) := by decide +kernel
theorem dX3_tickOne_35 : decode cX3_tickOne 35 = .ok (.iconst 2, 1) := by decide +kernel
theorem dX3_tickOne_36 : decode cX3_tickOne 36 = .ok (.dup2, 1) := by decide +kernel
theorem dX3_tickOne_37 : decode cX3_tickOne 37 = .ok (.iaload, 1) := by decide +kernel
theorem dX3_tickOne_38 : decode cX3_tickOne 38 = .ok (.iconst 1, 1) := by decide +kernel
theorem dX3_tickOne_39 : decode cX3_tickOne 39 = .ok (.iadd, 1) := by decide +kernel
theorem dX3_tickOne_40 : decode cX3_tickOne 40 = .ok (.iastore, 1) := by decide +kernel
theorem dX3_tickOne_41 : decode cX3_tickOne 41 = .ok (.iload_n 1, 1) := by decide +kernel
theorem dX3_tickOne_42 : decode cX3_tickOne 42 = .ok (.ireturn, 1) := by decide +kernel
theorem dX3_ticks_0 : decode cX3_ticks 0 = .ok (.iload_n 1, 1) := by decide +kernel
theorem dX3_ticks_1 : decode cX3_ticks 1 = .ok (.iconst 1, 1) := by decide +kernel
theorem dX3_ticks_2 : decode cX3_ticks 2 = .ok (.bipush 100, 2) := by decide +kernel
theorem dX3_ticks_4 : decode cX3_ticks 4 = .ok (.invokestatic 32, 3) := by decide +kernel
theorem dX3_ticks_7 : decode cX3_ticks 7 = .ok (.ifCond .ne 6, 3) := by decide +kernel
theorem dX3_ticks_10 : decode cX3_ticks 10 = .ok (.ldc 40, 2) := by decide +kernel
theorem dX3_ticks_12 : decode cX3_ticks 12 = .ok (.ireturn, 1) := by decide +kernel
theorem dX3_ticks_13 : decode cX3_ticks 13 = .ok (.aload_n 0, 1) := by decide +kernel
theorem dX3_ticks_14 : decode cX3_ticks 14 = .ok (.getfield 7, 3) := by decide +kernel
theorem dX3_ticks_17 : decode cX3_ticks 17 = .ok (.iconst 2, 1) := by decide +kernel
theorem dX3_ticks_18 : decode cX3_ticks 18 = .ok (.iaload, 1) := by decide +kernel
theorem dX3_ticks_19 : decode cX3_ticks 19 = .ok (.iload_n 1, 1) := by decide +kernel
theorem dX3_ticks_20 : decode cX3_ticks 20 = .ok (.iadd, 1) := by decide +kernel
theorem dX3_ticks_21 : decode cX3_ticks 21 = .ok (.ldc 155, 2) := by decide +kernel
theorem dX3_ticks_23 : decode cX3_ticks 23 = .ok (.if_icmp .le 6, 3) := by decide +kernel
theorem dX3_ticks_26 : decode cX3_ticks 26 = .ok (.ldc 83, 2) := by decide +kernel
theorem dX3_ticks_28 : decode cX3_ticks 28 = .ok (.ireturn, 1) := by decide +kernel
theorem dX3_ticks_29 : decode cX3_ticks 29 = .ok (.iconst 0, 1) := by decide +kernel
theorem dX3_ticks_30 : decode cX3_ticks 30 = .ok (.istore_n 2, 1) := by decide +kernel
theorem dX3_ticks_31 : decode cX3_ticks 31 = .ok (.iconst 0, 1) := by decide +kernel
theorem dX3_ticks_32 : decode cX3_ticks 32 = .ok (.istore_n 3, 1) := by decide +kernel
theorem dX3_ticks_33 : decode cX3_ticks 33 = .ok (.iload_n 3, 1) := by decide +kernel
theorem dX3_ticks_34 : decode cX3_ticks 34 = .ok (.iload_n 1, 1) := by decide +kernel
theorem dX3_ticks_35 : decode cX3_ticks 35 = .ok (.if_icmp .ge 16, 3) := by decide +kernel
theorem dX3_ticks_38 : decode cX3_ticks 38 = .ok (.iload_n 2, 1) := by decide +kernel
theorem dX3_ticks_39 : decode cX3_ticks 39 = .ok (.aload_n 0, 1) := by decide +kernel
theorem dX3_ticks_40 : decode cX3_ticks 40 = .ok (.invokevirtual 156, 3) := by decide +kernel
theorem dX3_ticks_43 : decode cX3_ticks 43 = .ok (.iadd, 1) := by decide +kernel
theorem dX3_ticks_44 : decode cX3_ticks 44 = .ok (.istore_n 2, 1) := by decide +kernel
theorem dX3_ticks_45 : decode cX3_ticks 45 = .ok (.iinc 3 1, 3) := by decide +kernel
theorem dX3_ticks_48 : decode cX3_ticks 48 = .ok (.goto (-15), 3) := by decide +kernel
theorem dX3_ticks_51 : decode cX3_ticks 51 = .ok (.iload_n 2, 1) := by decide +kernel
theorem dX3_ticks_52 : decode cX3_ticks 52 = .ok (.ireturn, 1) := by decide +kernel
theorem dX3_tick_0 : decode cX3_tick 0 = .ok (.aload_n 0, 1) := by decide +kernel
theorem dX3_tick_1 : decode cX3_tick 1 = .ok (.invokevirtual 84, 3) := by decide +kernel
theorem dX3_tick_4 : decode cX3_tick 4 = .ok (.aload_n 0, 1) := by decide +kernel
theorem dX3_tick_5 : decode cX3_tick 5 = .ok (.aload_n 0, 1) := by decide +kernel
theorem dX3_tick_6 : decode cX3_tick 6 = .ok (.iload_n 1, 1) := by decide +kernel
theorem dX3_tick_7 : decode cX3_tick 7 = .ok (.invokevirtual 159, 3) := by decide +kernel
theorem dX3_tick_10 : decode cX3_tick 10 = .ok (.invokevirtual 87, 3) := by decide +kernel
theorem dX3_tick_13 : decode cX3_tick 13 = .ok (.ireturn, 1) := by decide +kernel
theorem dX3_lossOf_0 : decode cX3_lossOf 0 = .ok (.aload_n 0, 1) := by decide +kernel
theorem dX3_lossOf_1 : decode cX3_lossOf 1 = .ok (.invokevirtual 162, 3) := by decide +kernel
theorem dX3_lossOf_4 : decode cX3_lossOf 4 = .ok (.aload_n 0, 1) := by decide +kernel
theorem dX3_lossOf_5 : decode cX3_lossOf 5 = .ok (.iload_n 1, 1) := by decide +kernel
theorem dX3_lossOf_6 : decode cX3_lossOf 6 = .ok (.invokevirtual 114, 3) := by decide +kernel
theorem dX3_lossOf_9 : decode cX3_lossOf 9 = .ok (.istore_n 3, 1) := by decide +kernel
theorem dX3_lossOf_10 : decode cX3_lossOf 10 = .ok (.iload_n 3, 1) := by decide +kernel
theorem dX3_lossOf_11 : decode cX3_lossOf 11 = .ok (.iload_n 2, 1) := by decide +kernel
theorem dX3_lossOf_12 : decode cX3_lossOf 12 = .ok (.ifCond .ge 7, 3) := by decide +kernel
theorem dX3_lossOf_15 : decode cX3_lossOf 15 = .ok (.iconst 0, 1) := by decide +kernel
theorem dX3_lossOf_16 : decode cX3_lossOf 16 = .ok (.goto 8, 3) := by decide +kernel
theorem dX3_lossOf_19 : decode cX3_lossOf 19 = .ok (.aload_n 0, 1) := by decide +kernel
theorem dX3_lossOf_20 : decode cX3_lossOf 20 = .ok (.iload_n 2, 1) := by decide +kernel
theorem dX3_lossOf_21 : decode cX3_lossOf 21 = .ok (.invokevirtual 114, 3) := by decide +kernel
theorem dX3_lossOf_24 : decode cX3_lossOf 24 = .ok (.iadd, 1) := by decide +kernel
theorem dX3_lossOf_25 : decode cX3_lossOf 25 = .ok (.istore_n 3, 1) := by decide +kernel
theorem dX3_lossOf_26 : decode cX3_lossOf 26 = .ok (.aload_n 0, 1) := by decide +kernel
theorem dX3_lossOf_27 : decode cX3_lossOf 27 = .ok (.invokevirtual 165, 3) := by decide +kernel
theorem dX3_lossOf_30 : decode cX3_lossOf 30 = .ok (.iload_n 3, 1) := by decide +kernel
theorem dX3_lossOf_31 : decode cX3_lossOf 31 = .ok (.ireturn, 1) := by decide +kernel
theorem dX3_loss_0 : decode cX3_loss 0 = .ok (.aload_n 0, 1) := by decide +kernel
theorem dX3_loss_1 : decode cX3_loss 1 = .ok (.iload_n 1, 1) := by decide +kernel
theorem dX3_loss_2 : decode cX3_loss 2 = .ok (.invokevirtual 90, 3) := by decide +kernel
theorem dX3_loss_5 : decode cX3_loss 5 = .ok (.ifCond .eq 21, 3) := by decide +kernel
theorem dX3_loss_8 : decode cX3_loss 8 = .ok (.iload_n 2, 1) := by decide +kernel
theorem dX3_loss_9 : decode cX3_loss 9 = .ok (.iconst (-1), 1) := by decide +kernel
theorem dX3_loss_10 : decode cX3_loss 10 = .ok (.if_icmp .eq 11, 3) := by decide +kernel
theorem dX3_loss_13 : decode cX3_loss 13 = .ok (.aload_n 0, 1) := by decide +kernel
theorem dX3_loss_14 : decode cX3_loss 14 = .ok (.iload_n 2, 1) := by decide +kernel
theorem dX3_loss_15 : decode cX3_loss 15 = .ok (.invokevirtual 90, 3) := by decide +kernel
theorem dX3_loss_18 : decode cX3_loss 18 = .ok (.ifCond .eq 8, 3) := by decide +kernel
theorem dX3_loss_21 : decode cX3_loss 21 = .ok (.iload_n 1, 1) := by decide +kernel
theorem dX3_loss_22 : decode cX3_loss 22 = .ok (.iload_n 2, 1) := by decide +kernel
theorem dX3_loss_23 : decode cX3_loss 23 = .ok (.if_icmp .ne 6, 3) := by decide +kernel
theorem dX3_loss_26 : decode cX3_loss 26 = .ok (.ldc 40, 2) := by decide +kernel
theorem dX3_loss_28 : decode cX3_loss 28 = .ok (.ireturn, 1) := by decide +kernel
theorem dX3_loss_29 : decode cX3_loss 29 = .ok (.aload_n 0, 1) := by decide +kernel
theorem dX3_loss_30 : decode cX3_loss 30 = .ok (.iload_n 1, 1) := by decide +kernel
theorem dX3_loss_31 : decode cX3_loss 31 = .ok (.invokevirtual 52, 3) := by decide +kernel
theorem dX3_loss_34 : decode cX3_loss 34 = .ok (.ifCond .eq 24, 3) := by decide +kernel
theorem dX3_loss_37 : decode cX3_loss 37 = .ok (.iload_n 2, 1) := by decide +kernel
theorem dX3_loss_38 : decode cX3_loss 38 = .ok (.ifCond .lt 11, 3) := by decide +kernel
theorem dX3_loss_41 : decode cX3_loss 41 = .ok (.aload_n 0, 1) := by decide +kernel
theorem dX3_loss_42 : decode cX3_loss 42 = .ok (.iload_n 2, 1) := by decide +kernel
theorem dX3_loss_43 : decode cX3_loss 43 = .ok (.invokevirtual 52, 3) := by decide +kernel
theorem dX3_loss_46 : decode cX3_loss 46 = .ok (.ifCond .eq 12, 3) := by decide +kernel
theorem dX3_loss_49 : decode cX3_loss 49 = .ok (.aload_n 0, 1) := by decide +kernel
theorem dX3_loss_50 : decode cX3_loss 50 = .ok (.iload_n 1, 1) := by decide +kernel
theorem dX3_loss_51 : decode cX3_loss 51 = .ok (.iload_n 2, 1) := by decide +kernel
theorem dX3_loss_52 : decode cX3_loss 52 = .ok (.invokevirtual 168, 3) := by decide +kernel
theorem dX3_loss_55 : decode cX3_loss 55 = .ok (.goto 5, 3) := by decide +kernel
theorem dX3_loss_58 : decode cX3_loss 58 = .ok (.ldc 96, 2) := by decide +kernel
theorem dX3_loss_60 : decode cX3_loss 60 = .ok (.ireturn, 1) := by decide +kernel
theorem dX3_safe_0 : decode cX3_safe 0 = .ok (.iconst 0, 1) := by decide +kernel
theorem dX3_safe_1 : decode cX3_safe 1 = .ok (.istore_n 1, 1) := by decide +kernel
theorem dX3_safe_2 : decode cX3_safe 2 = .ok (.iconst 0, 1) := by decide +kernel
theorem dX3_safe_3 : decode cX3_safe 3 = .ok (.istore_n 2, 1) := by decide +kernel
theorem dX3_safe_4 : decode cX3_safe 4 = .ok (.iload_n 2, 1) := by decide +kernel
theorem dX3_safe_5 : decode cX3_safe 5 = .ok (.aload_n 0, 1) := by decide +kernel
theorem dX3_safe_6 : decode cX3_safe 6 = .ok (.getfield 7, 3) := by decide +kernel
theorem dX3_safe_9 : decode cX3_safe 9 = .ok (.iconst 0, 1) := by decide +kernel
theorem dX3_safe_10 : decode cX3_safe 10 = .ok (.iaload, 1) := by decide +kernel
theorem dX3_safe_11 : decode cX3_safe 11 = .ok (.if_icmp .ge 36, 3) := by decide +kernel
theorem dX3_safe_14 : decode cX3_safe 14 = .ok (.iload_n 1, 1) := by decide +kernel
theorem dX3_safe_15 : decode cX3_safe 15 = .ok (.aload_n 0, 1) := by decide +kernel
theorem dX3_safe_16 : decode cX3_safe 16 = .ok (.iload_n 2, 1) := by decide +kernel
theorem dX3_safe_17 : decode cX3_safe 17 = .ok (.invokevirtual 52, 3) := by decide +kernel
theorem dX3_safe_20 : decode cX3_safe 20 = .ok (.ifCond .eq 18, 3) := by decide +kernel
theorem dX3_safe_23 : decode cX3_safe 23 = .ok (.aload_n 0, 1) := by decide +kernel
theorem dX3_safe_24 : decode cX3_safe 24 = .ok (.iload_n 2, 1) := by decide +kernel
theorem dX3_safe_25 : decode cX3_safe 25 = .ok (.iconst (-1), 1) := by decide +kernel
theorem dX3_safe_26 : decode cX3_safe 26 = .ok (.invokevirtual 168, 3) := by decide +kernel
theorem dX3_safe_29 : decode cX3_safe 29 = .ok (.ifCond .ne 9, 3) := by decide +kernel
theorem dX3_safe_32 : decode cX3_safe 32 = .ok (.iconst 1, 1) := by decide +kernel
theorem dX3_safe_33 : decode cX3_safe 33 = .ok (.iload_n 2, 1) := by decide +kernel
theorem dX3_safe_34 : decode cX3_safe 34 = .ok (.ishl, 1) := by decide +kernel
theorem dX3_safe_35 : decode cX3_safe 35 = .ok (.goto 4, 3) := by decide +kernel
theorem dX3_safe_38 : decode cX3_safe 38 = .ok (.iconst 0, 1) := by decide +kernel
theorem dX3_safe_39 : decode cX3_safe 39 = .ok (.ior, 1) := by decide +kernel
theorem dX3_safe_40 : decode cX3_safe 40 = .ok (.istore_n 1, 1) := by decide +kernel
theorem dX3_safe_41 : decode cX3_safe 41 = .ok (.iinc 2 1, 3) := by decide +kernel
theorem dX3_safe_44 : decode cX3_safe 44 = .ok (.goto (-40), 3) := by decide +kernel
theorem dX3_safe_47 : decode cX3_safe 47 = .ok (.iload_n 1, 1) := by decide +kernel
theorem dX3_safe_48 : decode cX3_safe 48 = .ok (.ireturn, 1) := by decide +kernel
theorem dX3_worstTwo_0 : decode cX3_worstTwo 0 = .ok (.iload_n 1, 1) := by decide +kernel
theorem dX3_worstTwo_1 : decode cX3_worstTwo 1 = .ok (.iconst 0, 1) := by decide +kernel
theorem dX3_worstTwo_2 : decode cX3_worstTwo 2 = .ok (.iconst 1, 1) := by decide +kernel
theorem dX3_worstTwo_3 : decode cX3_worstTwo 3 = .ok (.invokestatic 32, 3) := by decide +kernel
theorem dX3_worstTwo_6 : decode cX3_worstTwo 6 = .ok (.ifCond .ne 6, 3) := by decide +kernel
theorem dX3_worstTwo_9 : decode cX3_worstTwo 9 = .ok (.ldc 40, 2) := by decide +kernel
theorem dX3_worstTwo_11 : decode cX3_worstTwo 11 = .ok (.ireturn, 1) := by decide +kernel
theorem dX3_worstTwo_12 : decode cX3_worstTwo 12 = .ok (.ldc 123, 2) := by decide +kernel
theorem dX3_worstTwo_14 : decode cX3_worstTwo 14 = .ok (.istore_n 2, 1) := by decide +kernel
theorem dX3_worstTwo_15 : decode cX3_worstTwo 15 = .ok (.iconst (-1), 1) := by decide +kernel
theorem dX3_worstTwo_16 : decode cX3_worstTwo 16 = .ok (.istore_n 3, 1) := by decide +kernel
theorem dX3_worstTwo_17 : decode cX3_worstTwo 17 = .ok (.iconst 0, 1) := by decide +kernel
theorem dX3_worstTwo_18 : decode cX3_worstTwo 18 = .ok (.istore 4, 2) := by decide +kernel
theorem dX3_worstTwo_20 : decode cX3_worstTwo 20 = .ok (.iload 4, 2) := by decide +kernel
theorem dX3_worstTwo_22 : decode cX3_worstTwo 22 = .ok (.aload_n 0, 1) := by decide +kernel
theorem dX3_worstTwo_23 : decode cX3_worstTwo 23 = .ok (.getfield 7, 3) := by decide +kernel
theorem dX3_worstTwo_26 : decode cX3_worstTwo 26 = .ok (.iconst 0, 1) := by decide +kernel
theorem dX3_worstTwo_27 : decode cX3_worstTwo 27 = .ok (.iaload, 1) := by decide +kernel
theorem dX3_worstTwo_28 : decode cX3_worstTwo 28 = .ok (.if_icmp .ge 100, 3) := by decide +kernel
theorem dX3_worstTwo_31 : decode cX3_worstTwo 31 = .ok (.iconst 0, 1) := by decide +kernel
theorem dX3_worstTwo_32 : decode cX3_worstTwo 32 = .ok (.istore 5, 2) := by decide +kernel
theorem dX3_worstTwo_34 : decode cX3_worstTwo 34 = .ok (.iload 5, 2) := by decide +kernel
theorem dX3_worstTwo_36 : decode cX3_worstTwo 36 = .ok (.aload_n 0, 1) := by decide +kernel
theorem dX3_worstTwo_37 : decode cX3_worstTwo 37 = .ok (.getfield 7, 3) := by decide +kernel
theorem dX3_worstTwo_40 : decode cX3_worstTwo 40 = .ok (.iconst 0, 1) := by decide +kernel
theorem dX3_worstTwo_41 : decode cX3_worstTwo 41 = .ok (.iaload, 1) := by decide +kernel
theorem dX3_worstTwo_42 : decode cX3_worstTwo 42 = .ok (.if_icmp .ge 80, 3) := by decide +kernel
theorem dX3_worstTwo_45 : decode cX3_worstTwo 45 = .ok (.iload 4, 2) := by decide +kernel
theorem dX3_worstTwo_47 : decode cX3_worstTwo 47 = .ok (.iload 5, 2) := by decide +kernel
theorem dX3_worstTwo_49 : decode cX3_worstTwo 49 = .ok (.if_icmp .eq 32, 3) := by decide +kernel
theorem dX3_worstTwo_52 : decode cX3_worstTwo 52 = .ok (.aload_n 0, 1) := by decide +kernel
theorem dX3_worstTwo_53 : decode cX3_worstTwo 53 = .ok (.iload 4, 2) := by decide +kernel
theorem dX3_worstTwo_55 : decode cX3_worstTwo 55 = .ok (.invokevirtual 52, 3) := by decide +kernel
theorem dX3_worstTwo_58 : decode cX3_worstTwo 58 = .ok (.ifCond .eq 23, 3) := by decide +kernel
theorem dX3_worstTwo_61 : decode cX3_worstTwo 61 = .ok (.aload_n 0, 1) := by decide +kernel
theorem dX3_worstTwo_62 : decode cX3_worstTwo 62 = .ok (.iload 5, 2) := by decide +kernel
theorem dX3_worstTwo_64 : decode cX3_worstTwo 64 = .ok (.invokevirtual 52, 3) := by decide +kernel
theorem dX3_worstTwo_67 : decode cX3_worstTwo 67 = .ok (.ifCond .eq 14, 3) := by decide +kernel
theorem dX3_worstTwo_70 : decode cX3_worstTwo 70 = .ok (.aload_n 0, 1) := by decide +kernel
theorem dX3_worstTwo_71 : decode cX3_worstTwo 71 = .ok (.iload 4, 2) := by decide +kernel
theorem dX3_worstTwo_73 : decode cX3_worstTwo 73 = .ok (.iload 5, 2) := by decide +kernel
theorem dX3_worstTwo_75 : decode cX3_worstTwo 75 = .ok (.invokevirtual 168, 3) := by decide +kernel
theorem dX3_worstTwo_78 : decode cX3_worstTwo 78 = .ok (.goto 4, 3) := by decide +kernel
theorem dX3_worstTwo_81 : decode cX3_worstTwo 81 = .ok (.iconst (-1), 1) := by decide +kernel
theorem dX3_worstTwo_82 : decode cX3_worstTwo 82 = .ok (.istore 6, 2) := by decide +kernel
theorem dX3_worstTwo_84 : decode cX3_worstTwo 84 = .ok (.iload 6, 2) := by decide +kernel
theorem dX3_worstTwo_86 : decode cX3_worstTwo 86 = .ok (.iload_n 3, 1) := by decide +kernel
theorem dX3_worstTwo_87 : decode cX3_worstTwo 87 = .ok (.if_icmp .le 14, 3) := by decide +kernel
theorem dX3_worstTwo_90 : decode cX3_worstTwo 90 = .ok (.bipush 10, 2) := by decide +kernel
theorem dX3_worstTwo_92 : decode cX3_worstTwo 92 = .ok (.iload 4, 2) := by decide +kernel
theorem dX3_worstTwo_94 : decode cX3_worstTwo 94 = .ok (.imul, 1) := by decide +kernel
theorem dX3_worstTwo_95 : decode cX3_worstTwo 95 = .ok (.iload 5, 2) := by decide +kernel
theorem dX3_worstTwo_97 : decode cX3_worstTwo 97 = .ok (.iadd, 1) := by decide +kernel
theorem dX3_worstTwo_98 : decode cX3_worstTwo 98 = .ok (.goto 4, 3) := by decide +kernel
theorem dX3_worstTwo_101 : decode cX3_worstTwo 101 = .ok (.iload_n 2, 1) := by decide +kernel
theorem dX3_worstTwo_102 : decode cX3_worstTwo 102 = .ok (.istore_n 2, 1) := by decide +kernel
theorem dX3_worstTwo_103 : decode cX3_worstTwo 103 = .ok (.iload 6, 2) := by decide +kernel
theorem dX3_worstTwo_105 : decode cX3_worstTwo 105 = .ok (.iload_n 3, 1) := by decide +kernel
theorem dX3_worstTwo_106 : decode cX3_worstTwo 106 = .ok (.if_icmp .le 8, 3) := by decide +kernel
theorem dX3_worstTwo_109 : decode cX3_worstTwo 109 = .ok (.iload 6, 2) := by decide +kernel
theorem dX3_worstTwo_111 : decode cX3_worstTwo 111 = .ok (.goto 4, 3) := by decide +kernel
theorem dX3_worstTwo_114 : decode cX3_worstTwo 114 = .ok (.iload_n 3, 1) := by decide +kernel
theorem dX3_worstTwo_115 : decode cX3_worstTwo 115 = .ok (.istore_n 3, 1) := by decide +kernel
theorem dX3_worstTwo_116 : decode cX3_worstTwo 116 = .ok (.iinc 5 1, 3) := by decide +kernel
theorem dX3_worstTwo_119 : decode cX3_worstTwo 119 = .ok (.goto (-85), 3) := by decide +kernel
theorem dX3_worstTwo_122 : decode cX3_worstTwo 122 = .ok (.iinc 4 1, 3) := by decide +kernel
theorem dX3_worstTwo_125 : decode cX3_worstTwo 125 = .ok (.goto (-105), 3) := by decide +kernel
theorem dX3_worstTwo_128 : decode cX3_worstTwo 128 = .ok (.iload_n 1, 1) := by decide +kernel
theorem dX3_worstTwo_129 : decode cX3_worstTwo 129 = .ok (.ifCond .eq 7, 3) := by decide +kernel
theorem dX3_worstTwo_132 : decode cX3_worstTwo 132 = .ok (.iload_n 3, 1) := by decide +kernel
theorem dX3_worstTwo_133 : decode cX3_worstTwo 133 = .ok (.ifCond .ge 7, 3) := by decide +kernel
theorem dX3_worstTwo_136 : decode cX3_worstTwo 136 = .ok (.iload_n 2, 1) := by decide +kernel
theorem dX3_worstTwo_137 : decode cX3_worstTwo 137 = .ok (.goto 4, 3) := by decide +kernel
theorem dX3_worstTwo_140 : decode cX3_worstTwo 140 = .ok (.iload_n 3, 1) := by decide +kernel
theorem dX3_worstTwo_141 : decode cX3_worstTwo 141 = .ok (.ireturn, 1) := by decide +kernel
theorem dX3_calm_0 : decode cX3_calm 0 = .ok (.aload_n 0, 1) := by decide +kernel
theorem dX3_calm_1 : decode cX3_calm 1 = .ok (.invokevirtual 162, 3) := by decide +kernel
theorem dX3_calm_4 : decode cX3_calm 4 = .ok (.iconst 0, 1) := by decide +kernel
theorem dX3_calm_5 : decode cX3_calm 5 = .ok (.istore_n 1, 1) := by decide +kernel
theorem dX3_calm_6 : decode cX3_calm 6 = .ok (.iconst 1, 1) := by decide +kernel
theorem dX3_calm_7 : decode cX3_calm 7 = .ok (.istore_n 2, 1) := by decide +kernel
theorem dX3_calm_8 : decode cX3_calm 8 = .ok (.iload_n 2, 1) := by decide +kernel
theorem dX3_calm_9 : decode cX3_calm 9 = .ok (.ifCond .eq 32, 3) := by decide +kernel
theorem dX3_calm_12 : decode cX3_calm 12 = .ok (.aload_n 0, 1) := by decide +kernel
theorem dX3_calm_13 : decode cX3_calm 13 = .ok (.iconst (-1), 1) := by decide +kernel
theorem dX3_calm_14 : decode cX3_calm 14 = .ok (.iconst 1, 1) := by decide +kernel
theorem dX3_calm_15 : decode cX3_calm 15 = .ok (.iconst 0, 1) := by decide +kernel
theorem dX3_calm_16 : decode cX3_calm 16 = .ok (.invokevirtual 145, 3) := by decide +kernel
theorem dX3_calm_19 : decode cX3_calm 19 = .ok (.ifCond .le 22, 3) := by decide +kernel
theorem dX3_calm_22 : decode cX3_calm 22 = .ok (.aload_n 0, 1) := by decide +kernel
theorem dX3_calm_23 : decode cX3_calm 23 = .ok (.invokevirtual 156, 3) := by decide +kernel
theorem dX3_calm_26 : decode cX3_calm 26 = .ok (.ifCond .le 7, 3) := by decide +kernel
theorem dX3_calm_29 : decode cX3_calm 29 = .ok (.iconst 1, 1) := by decide +kernel
theorem dX3_calm_30 : decode cX3_calm 30 = .ok (.goto 4, 3) := by decide +kernel
theorem dX3_calm_33 : decode cX3_calm 33 = .ok (.iconst 0, 1) := by decide +kernel
theorem dX3_calm_34 : decode cX3_calm 34 = .ok (.istore_n 2, 1) := by decide +kernel
theorem dX3_calm_35 : decode cX3_calm 35 = .ok (.iinc 1 1, 3) := by decide +kernel
theorem dX3_calm_38 : decode cX3_calm 38 = .ok (.goto (-30), 3) := by decide +kernel
theorem dX3_calm_41 : decode cX3_calm 41 = .ok (.aload_n 0, 1) := by decide +kernel
theorem dX3_calm_42 : decode cX3_calm 42 = .ok (.invokevirtual 165, 3) := by decide +kernel
theorem dX3_calm_45 : decode cX3_calm 45 = .ok (.iload_n 2, 1) := by decide +kernel
theorem dX3_calm_46 : decode cX3_calm 46 = .ok (.ifCond .eq 7, 3) := by decide +kernel
theorem dX3_calm_49 : decode cX3_calm 49 = .ok (.iload_n 1, 1) := by decide +kernel
theorem dX3_calm_50 : decode cX3_calm 50 = .ok (.goto 5, 3) := by decide +kernel
theorem dX3_calm_53 : decode cX3_calm 53 = .ok (.ldc 123, 2) := by decide +kernel
theorem dX3_calm_55 : decode cX3_calm 55 = .ok (.ireturn, 1) := by decide +kernel
theorem dX3_heir_0 : decode cX3_heir 0 = .ok (.iload_n 1, 1) := by decide +kernel
theorem dX3_heir_1 : decode cX3_heir 1 = .ok (.iconst 0, 1) := by decide +kernel
theorem dX3_heir_2 : decode cX3_heir 2 = .ok (.iconst 2, 1) := by decide +kernel
theorem dX3_heir_3 : decode cX3_heir 3 = .ok (.invokestatic 32, 3) := by decide +kernel
theorem dX3_heir_6 : decode cX3_heir 6 = .ok (.ifCond .ne 6, 3) := by decide +kernel
theorem dX3_heir_9 : decode cX3_heir 9 = .ok (.ldc 40, 2) := by decide +kernel
theorem dX3_heir_11 : decode cX3_heir 11 = .ok (.ireturn, 1) := by decide +kernel
theorem dX3_heir_12 : decode cX3_heir 12 = .ok (.aload_n 0, 1) := by decide +kernel
theorem dX3_heir_13 : decode cX3_heir 13 = .ok (.getfield 7, 3) := by decide +kernel
theorem dX3_heir_16 : decode cX3_heir 16 = .ok (.iconst 5, 1) := by decide +kernel
theorem dX3_heir_17 : decode cX3_heir 17 = .ok (.iload_n 1, 1) := by decide +kernel
theorem dX3_heir_18 : decode cX3_heir 18 = .ok (.iadd, 1) := by decide +kernel
theorem dX3_heir_19 : decode cX3_heir 19 = .ok (.iaload, 1) := by decide +kernel
theorem dX3_heir_20 : decode cX3_heir 20 = .ok (.ifCond .lt 6, 3) := by decide +kernel
theorem dX3_heir_23 : decode cX3_heir 23 = .ok (.ldc 96, 2) := by decide +kernel
theorem dX3_heir_25 : decode cX3_heir 25 = .ok (.ireturn, 1) := by decide +kernel
theorem dX3_heir_26 : decode cX3_heir 26 = .ok (.ldc 123, 2) := by decide +kernel
theorem dX3_heir_28 : decode cX3_heir 28 = .ok (.istore_n 2, 1) := by decide +kernel
theorem dX3_heir_29 : decode cX3_heir 29 = .ok (.iconst 0, 1) := by decide +kernel
theorem dX3_heir_30 : decode cX3_heir 30 = .ok (.istore_n 3, 1) := by decide +kernel
theorem dX3_heir_31 : decode cX3_heir 31 = .ok (.iload_n 3, 1) := by decide +kernel
theorem dX3_heir_32 : decode cX3_heir 32 = .ok (.aload_n 0, 1) := by decide +kernel
theorem dX3_heir_33 : decode cX3_heir 33 = .ok (.getfield 7, 3) := by decide +kernel
theorem dX3_heir_36 : decode cX3_heir 36 = .ok (.iconst 0, 1) := by decide +kernel
theorem dX3_heir_37 : decode cX3_heir 37 = .ok (.iaload, 1) := by decide +kernel
theorem dX3_heir_38 : decode cX3_heir 38 = .ok (.if_icmp .ge 78, 3) := by decide +kernel
theorem dX3_heir_41 : decode cX3_heir 41 = .ok (.aload_n 0, 1) := by decide +kernel
theorem dX3_heir_42 : decode cX3_heir 42 = .ok (.iload_n 3, 1) := by decide +kernel
theorem dX3_heir_43 : decode cX3_heir 43 = .ok (.invokevirtual 52, 3) := by decide +kernel
theorem dX3_heir_46 : decode cX3_heir 46 = .ok (.ifCond .eq 64, 3) := by decide +kernel
theorem dX3_heir_49 : decode cX3_heir 49 = .ok (.aload_n 0, 1) := by decide +kernel
theorem dX3_heir_50 : decode cX3_heir 50 = .ok (.iload_n 3, 1) := by decide +kernel
theorem dX3_heir_51 : decode cX3_heir 51 = .ok (.iconst 0, 1) := by decide +kernel
theorem dX3_heir_52 : decode cX3_heir 52 = .ok (.invokevirtual 36, 3) := by decide +kernel
theorem dX3_heir_55 : decode cX3_heir 55 = .ok (.iload_n 1, 1) := by decide +kernel
theorem dX3_heir_56 : decode cX3_heir 56 = .ok (.if_icmp .ne 54, 3) := by decide +kernel
theorem dX3_heir_59 : decode cX3_heir 59 = .ok (.iload_n 2, 1) := by decide +kernel
theorem dX3_heir_60 : decode cX3_heir 60 = .ok (.ifCond .lt 16, 3) := by decide +kernel
theorem dX3_heir_63 : decode cX3_heir 63 = .ok (.aload_n 0, 1) := by decide +kernel
theorem dX3_heir_64 : decode cX3_heir 64 = .ok (.iload_n 3, 1) := by decide +kernel
theorem dX3_heir_65 : decode cX3_heir 65 = .ok (.invokevirtual 93, 3) := by decide +kernel
theorem dX3_heir_68 : decode cX3_heir 68 = .ok (.aload_n 0, 1) := by decide +kernel
theorem dX3_heir_69 : decode cX3_heir 69 = .ok (.iload_n 2, 1) := by decide +kernel
theorem dX3_heir_70 : decode cX3_heir 70 = .ok (.invokevirtual 93, 3) := by decide +kernel
theorem dX3_heir_73 : decode cX3_heir 73 = .ok (.if_icmp .ge 37, 3) := by decide +kernel
theorem dX3_heir_76 : decode cX3_heir 76 = .ok (.aload_n 0, 1) := by decide +kernel
theorem dX3_heir_77 : decode cX3_heir 77 = .ok (.invokevirtual 162, 3) := by decide +kernel
theorem dX3_heir_80 : decode cX3_heir 80 = .ok (.aload_n 0, 1) := by decide +kernel
theorem dX3_heir_81 : decode cX3_heir 81 = .ok (.iload_n 3, 1) := by decide +kernel
theorem dX3_heir_82 : decode cX3_heir 82 = .ok (.invokevirtual 139, 3) := by decide +kernel
theorem dX3_heir_85 : decode cX3_heir 85 = .ok (.ifCond .lt 7, 3) := by decide +kernel
theorem dX3_heir_88 : decode cX3_heir 88 = .ok (.iconst 1, 1) := by decide +kernel
theorem dX3_heir_89 : decode cX3_heir 89 = .ok (.goto 4, 3) := by decide +kernel
theorem dX3_heir_92 : decode cX3_heir 92 = .ok (.iconst 0, 1) := by decide +kernel
theorem dX3_heir_93 : decode cX3_heir 93 = .ok (.istore 4, 2) := by decide +kernel
theorem dX3_heir_95 : decode cX3_heir 95 = .ok (.aload_n 0, 1) := by decide +kernel
theorem dX3_heir_96 : decode cX3_heir 96 = .ok (.invokevirtual 165, 3) := by decide +kernel
theorem dX3_heir_99 : decode cX3_heir 99 = .ok (.iload 4, 2) := by decide +kernel
theorem dX3_heir_101 : decode cX3_heir 101 = .ok (.ifCond .eq 7, 3) := by decide +kernel
theorem dX3_heir_104 : decode cX3_heir 104 = .ok (.iload_n 3, 1) := by decide +kernel
theorem dX3_heir_105 : decode cX3_heir 105 = .ok (.goto 4, 3) := by decide +kernel
theorem dX3_heir_108 : decode cX3_heir 108 = .ok (.iload_n 2, 1) := by decide +kernel
theorem dX3_heir_109 : decode cX3_heir 109 = .ok (.istore_n 2, 1) := by decide +kernel
theorem dX3_heir_110 : decode cX3_heir 110 = .ok (.iinc 3 1, 3) := by decide +kernel
theorem dX3_heir_113 : decode cX3_heir 113 = .ok (.goto (-82), 3) := by decide +kernel
theorem dX3_heir_116 : decode cX3_heir 116 = .ok (.iload_n 2, 1) := by decide +kernel
theorem dX3_heir_117 : decode cX3_heir 117 = .ok (.ireturn, 1) := by decide +kernel
theorem dX3_count_0 : decode cX3_count 0 = .ok (.iconst 0, 1) := by decide +kernel
theorem dX3_count_1 : decode cX3_count 1 = .ok (.istore_n 2, 1) := by decide +kernel
theorem dX3_count_2 : decode cX3_count 2 = .ok (.iconst 0, 1) := by decide +kernel
theorem dX3_count_3 : decode cX3_count 3 = .ok (.istore_n 3, 1) := by decide +kernel
theorem dX3_count_4 : decode cX3_count 4 = .ok (.iconst 0, 1) := by decide +kernel
theorem dX3_count_5 : decode cX3_count 5 = .ok (.istore 4, 2) := by decide +kernel
theorem dX3_count_7 : decode cX3_count 7 = .ok (.iload 4, 2) := by decide +kernel
theorem dX3_count_9 : decode cX3_count 9 = .ok (.aload_n 0, 1) := by decide +kernel
theorem dX3_count_10 : decode cX3_count 10 = .ok (.getfield 7, 3) := by decide +kernel
theorem dX3_count_13 : decode cX3_count 13 = .ok (.iconst 0, 1) := by decide +kernel
theorem dX3_count_14 : decode cX3_count 14 = .ok (.iaload, 1) := by decide +kernel
theorem dX3_count_15 : decode cX3_count 15 = .ok (.if_icmp .ge 28, 3) := by decide +kernel
theorem dX3_count_18 : decode cX3_count 18 = .ok (.iload_n 2, 1) := by decide +kernel
theorem dX3_count_19 : decode cX3_count 19 = .ok (.aload_n 0, 1) := by decide +kernel
theorem dX3_count_20 : decode cX3_count 20 = .ok (.iload 4, 2) := by decide +kernel
theorem dX3_count_22 : decode cX3_count 22 = .ok (.iconst 2, 1) := by decide +kernel
theorem dX3_count_23 : decode cX3_count 23 = .ok (.invokevirtual 36, 3) := by decide +kernel
theorem dX3_count_26 : decode cX3_count 26 = .ok (.iadd, 1) := by decide +kernel
theorem dX3_count_27 : decode cX3_count 27 = .ok (.istore_n 2, 1) := by decide +kernel
theorem dX3_count_28 : decode cX3_count 28 = .ok (.iload_n 3, 1) := by decide +kernel
theorem dX3_count_29 : decode cX3_count 29 = .ok (.aload_n 0, 1) := by decide +kernel
theorem dX3_count_30 : decode cX3_count 30 = .ok (.iload 4, 2) := by decide +kernel
theorem dX3_count_32 : decode cX3_count 32 = .ok (.invokevirtual 68, 3) := by decide +kernel
theorem dX3_count_35 : decode cX3_count 35 = .ok (.iadd, 1) := by decide +kernel
theorem dX3_count_36 : decode cX3_count 36 = .ok (.istore_n 3, 1) := by decide +kernel
theorem dX3_count_37 : decode cX3_count 37 = .ok (.iinc 4 1, 3) := by decide +kernel
theorem dX3_count_40 : decode cX3_count 40 = .ok (.goto (-33), 3) := by decide +kernel
theorem dX3_count_43 : decode cX3_count 43 = .ok (.iconst 0, 1) := by decide +kernel
theorem dX3_count_44 : decode cX3_count 44 = .ok (.istore 4, 2) := by decide +kernel
theorem dX3_count_46 : decode cX3_count 46 = .ok (.iconst 0, 1) := by decide +kernel
theorem dX3_count_47 : decode cX3_count 47 = .ok (.istore 5, 2) := by decide +kernel
theorem dX3_count_49 : decode cX3_count 49 = .ok (.iload 5, 2) := by decide +kernel
theorem dX3_count_51 : decode cX3_count 51 = .ok (.iconst 3, 1) := by decide +kernel
theorem dX3_count_52 : decode cX3_count 52 = .ok (.if_icmp .ge 31, 3) := by decide +kernel
theorem dX3_count_55 : decode cX3_count 55 = .ok (.iload 4, 2) := by decide +kernel
theorem dX3_count_57 : decode cX3_count 57 = .ok (.aload_n 0, 1) := by decide +kernel
theorem dX3_count_58 : decode cX3_count 58 = .ok (.getfield 7, 3) := by decide +kernel
theorem dX3_count_61 : decode cX3_count 61 = .ok (.iconst 5, 1) := by decide +kernel
theorem dX3_count_62 : decode cX3_count 62 = .ok (.iload 5, 2) := by decide +kernel
theorem dX3_count_64 : decode cX3_count 64 = .ok (.iadd, 1) := by decide +kernel
theorem dX3_count_65 : decode cX3_count 65 = .ok (.iaload, 1) := by decide +kernel
theorem dX3_count_66 : decode cX3_count 66 = .ok (.ifCond .ge 7, 3) := by decide +kernel
theorem dX3_count_69 : decode cX3_count 69 = .ok (.iconst 0, 1) := by decide +kernel
theorem dX3_count_70 : decode cX3_count 70 = .ok (.goto 4, 3) := by decide +kernel
theorem dX3_count_73 : decode cX3_count 73 = .ok (.iconst 1, 1) := by decide +kernel
theorem dX3_count_74 : decode cX3_count 74 = .ok (.iadd, 1) := by decide +kernel
theorem dX3_count_75 : decode cX3_count 75 = .ok (.istore 4, 2) := by decide +kernel
theorem dX3_count_77 : decode cX3_count 77 = .ok (.iinc 5 1, 3) := by decide +kernel
theorem dX3_count_80 : decode cX3_count 80 = .ok (.goto (-31), 3) := by decide +kernel
theorem dX3_count_83 : decode cX3_count 83 = .ok (.iload_n 1, 1) := by decide +kernel
theorem dX3_count_84 : decode cX3_count 84 = .ok (.tableswitch 119 0 11 #[64, 71, 73, 80, 80, 80, 90, 97, 104, 107, 109, 114], 64) := by decide +kernel
theorem dX3_count_148 : decode cX3_count 148 = .ok (.aload_n 0, 1) := by decide +kernel
theorem dX3_count_149 : decode cX3_count 149 = .ok (.getfield 7, 3) := by decide +kernel
theorem dX3_count_152 : decode cX3_count 152 = .ok (.iconst 0, 1) := by decide +kernel
theorem dX3_count_153 : decode cX3_count 153 = .ok (.iaload, 1) := by decide +kernel
theorem dX3_count_154 : decode cX3_count 154 = .ok (.ireturn, 1) := by decide +kernel
theorem dX3_count_155 : decode cX3_count 155 = .ok (.iload_n 2, 1) := by decide +kernel
theorem dX3_count_156 : decode cX3_count 156 = .ok (.ireturn, 1) := by decide +kernel
theorem dX3_count_157 : decode cX3_count 157 = .ok (.aload_n 0, 1) := by decide +kernel
theorem dX3_count_158 : decode cX3_count 158 = .ok (.getfield 7, 3) := by decide +kernel
theorem dX3_count_161 : decode cX3_count 161 = .ok (.iconst 1, 1) := by decide +kernel
theorem dX3_count_162 : decode cX3_count 162 = .ok (.iaload, 1) := by decide +kernel
theorem dX3_count_163 : decode cX3_count 163 = .ok (.ireturn, 1) := by decide +kernel
theorem dX3_count_164 : decode cX3_count 164 = .ok (.aload_n 0, 1) := by decide +kernel
theorem dX3_count_165 : decode cX3_count 165 = .ok (.iconst (-1), 1) := by decide +kernel
theorem dX3_count_166 : decode cX3_count 166 = .ok (.iload_n 1, 1) := by decide +kernel
theorem dX3_count_167 : decode cX3_count 167 = .ok (.iconst 3, 1) := by decide +kernel
theorem dX3_count_168 : decode cX3_count 168 = .ok (.isub, 1) := by decide +kernel
theorem dX3_count_169 : decode cX3_count 169 = .ok (.iconst 0, 1) := by decide +kernel
theorem dX3_count_170 : decode cX3_count 170 = .ok (.invokevirtual 145, 3) := by decide +kernel
theorem dX3_count_173 : decode cX3_count 173 = .ok (.ireturn, 1) := by decide +kernel
theorem dX3_count_174 : decode cX3_count 174 = .ok (.aload_n 0, 1) := by decide +kernel
theorem dX3_count_175 : decode cX3_count 175 = .ok (.getfield 7, 3) := by decide +kernel
theorem dX3_count_178 : decode cX3_count 178 = .ok (.iconst 2, 1) := by decide +kernel
theorem dX3_count_179 : decode cX3_count 179 = .ok (.iaload, 1) := by decide +kernel
theorem dX3_count_180 : decode cX3_count 180 = .ok (.ireturn, 1) := by decide +kernel
theorem dX3_count_181 : decode cX3_count 181 = .ok (.aload_n 0, 1) := by decide +kernel
theorem dX3_count_182 : decode cX3_count 182 = .ok (.getfield 7, 3) := by decide +kernel
theorem dX3_count_185 : decode cX3_count 185 = .ok (.iconst 3, 1) := by decide +kernel
theorem dX3_count_186 : decode cX3_count 186 = .ok (.iaload, 1) := by decide +kernel
theorem dX3_count_187 : decode cX3_count 187 = .ok (.ireturn, 1) := by decide +kernel
theorem dX3_count_188 : decode cX3_count 188 = .ok (.iload 4, 2) := by decide +kernel
theorem dX3_count_190 : decode cX3_count 190 = .ok (.ireturn, 1) := by decide +kernel
theorem dX3_count_191 : decode cX3_count 191 = .ok (.iload_n 3, 1) := by decide +kernel
theorem dX3_count_192 : decode cX3_count 192 = .ok (.ireturn, 1) := by decide +kernel
theorem dX3_count_193 : decode cX3_count 193 = .ok (.aload_n 0, 1) := by decide +kernel
theorem dX3_count_194 : decode cX3_count 194 = .ok (.getfield 41, 3) := by decide +kernel
theorem dX3_count_197 : decode cX3_count 197 = .ok (.ireturn, 1) := by decide +kernel
theorem dX3_count_198 : decode cX3_count 198 = .ok (.aload_n 0, 1) := by decide +kernel
theorem dX3_count_199 : decode cX3_count 199 = .ok (.getfield 171, 3) := by decide +kernel
theorem dX3_count_202 : decode cX3_count 202 = .ok (.ireturn, 1) := by decide +kernel
theorem dX3_count_203 : decode cX3_count 203 = .ok (.ldc 40, 2) := by decide +kernel
theorem dX3_count_205 : decode cX3_count 205 = .ok (.ireturn, 1) := by decide +kernel
theorem dX3_undo_0 : decode cX3_undo 0 = .ok (.aload_n 0, 1) := by decide +kernel
theorem dX3_undo_1 : decode cX3_undo 1 = .ok (.getfield 41, 3) := by decide +kernel
theorem dX3_undo_4 : decode cX3_undo 4 = .ok (.ifCond .ne 6, 3) := by decide +kernel
theorem dX3_undo_7 : decode cX3_undo 7 = .ok (.ldc 96, 2) := by decide +kernel
theorem dX3_undo_9 : decode cX3_undo 9 = .ok (.ireturn, 1) := by decide +kernel
theorem dX3_undo_10 : decode cX3_undo 10 = .ok (.aload_n 0, 1) := by decide +kernel
theorem dX3_undo_11 : decode cX3_undo 11 = .ok (.dup, 1) := by decide +kernel
theorem dX3_undo_12 : decode cX3_undo 12 = .ok (.getfield 41, 3) := by decide +kernel
theorem dX3_undo_15 : decode cX3_undo 15 = .ok (.iconst 1, 1) := by decide +kernel
theorem dX3_undo_16 : decode cX3_undo 16 = .ok (.isub, 1) := by decide +kernel
theorem dX3_undo_17 : decode cX3_undo 17 = .ok (.putfield 41, 3) := by decide +kernel
theorem dX3_undo_20 : decode cX3_undo 20 = .ok (.iconst 0, 1) := by decide +kernel
theorem dX3_undo_21 : decode cX3_undo 21 = .ok (.istore_n 1, 1) := by decide +kernel
theorem dX3_undo_22 : decode cX3_undo 22 = .ok (.iload_n 1, 1) := by decide +kernel
theorem dX3_undo_23 : decode cX3_undo 23 = .ok (.sipush 208, 3) := by decide +kernel
theorem dX3_undo_26 : decode cX3_undo 26 = .ok (.if_icmp .ge 30, 3) := by decide +kernel
theorem dX3_undo_29 : decode cX3_undo 29 = .ok (.aload_n 0, 1) := by decide +kernel
theorem dX3_undo_30 : decode cX3_undo 30 = .ok (.getfield 7, 3) := by decide +kernel
theorem dX3_undo_33 : decode cX3_undo 33 = .ok (.iload_n 1, 1) := by decide +kernel
theorem dX3_undo_34 : decode cX3_undo 34 = .ok (.aload_n 0, 1) := by decide +kernel
theorem dX3_undo_35 : decode cX3_undo 35 = .ok (.getfield 13, 3) := by decide +kernel
theorem dX3_undo_38 : decode cX3_undo 38 = .ok (.sipush 208, 3) := by decide +kernel
theorem dX3_undo_41 : decode cX3_undo 41 = .ok (.aload_n 0, 1) := by decide +kernel
theorem dX3_undo_42 : decode cX3_undo 42 = .ok (.getfield 41, 3) := by decide +kernel
theorem dX3_undo_45 : decode cX3_undo 45 = .ok (.imul, 1) := by decide +kernel
theorem dX3_undo_46 : decode cX3_undo 46 = .ok (.iload_n 1, 1) := by decide +kernel
theorem dX3_undo_47 : decode cX3_undo 47 = .ok (.iadd, 1) := by decide +kernel
theorem dX3_undo_48 : decode cX3_undo 48 = .ok (.iaload, 1) := by decide +kernel
theorem dX3_undo_49 : decode cX3_undo 49 = .ok (.iastore, 1) := by decide +kernel
theorem dX3_undo_50 : decode cX3_undo 50 = .ok (.iinc 1 1, 3) := by decide +kernel
theorem dX3_undo_53 : decode cX3_undo 53 = .ok (.goto (-31), 3) := by decide +kernel
theorem dX3_undo_56 : decode cX3_undo 56 = .ok (.aload_n 0, 1) := by decide +kernel
theorem dX3_undo_57 : decode cX3_undo 57 = .ok (.getfield 41, 3) := by decide +kernel
theorem dX3_undo_60 : decode cX3_undo 60 = .ok (.ireturn, 1) := by decide +kernel
theorem dX3_type_0 : decode cX3_type 0 = .ok (.iload_n 1, 1) := by decide +kernel
theorem dX3_type_1 : decode cX3_type 1 = .ok (.bipush 32, 2) := by decide +kernel
theorem dX3_type_3 : decode cX3_type 3 = .ok (.bipush 126, 2) := by decide +kernel
theorem dX3_type_5 : decode cX3_type 5 = .ok (.invokestatic 32, 3) := by decide +kernel
theorem dX3_type_8 : decode cX3_type 8 = .ok (.ifCond .ne 6, 3) := by decide +kernel
theorem dX3_type_11 : decode cX3_type 11 = .ok (.ldc 40, 2) := by decide +kernel
theorem dX3_type_13 : decode cX3_type 13 = .ok (.ireturn, 1) := by decide +kernel
theorem dX3_type_14 : decode cX3_type 14 = .ok (.aload_n 0, 1) := by decide +kernel
theorem dX3_type_15 : decode cX3_type 15 = .ok (.getfield 171, 3) := by decide +kernel
theorem dX3_type_18 : decode cX3_type 18 = .ok (.bipush 60, 2) := by decide +kernel
theorem dX3_type_20 : decode cX3_type 20 = .ok (.if_icmp .ne 6, 3) := by decide +kernel
theorem dX3_type_23 : decode cX3_type 23 = .ok (.ldc 83, 2) := by decide +kernel
theorem dX3_type_25 : decode cX3_type 25 = .ok (.ireturn, 1) := by decide +kernel
theorem dX3_type_26 : decode cX3_type 26 = .ok (.aload_n 0, 1) := by decide +kernel
theorem dX3_type_27 : decode cX3_type 27 = .ok (.getfield 25, 3) := by decide +kernel
theorem dX3_type_30 : decode cX3_type 30 = .ok (.aload_n 0, 1) := by decide +kernel
theorem dX3_type_31 : decode cX3_type 31 = .ok (.getfield 171, 3) := by decide +kernel
theorem dX3_type_34 : decode cX3_type 34 = .ok (.iload_n 1, 1) := by decide +kernel
theorem dX3_type_35 : decode cX3_type 35 = .ok (.i2c, 1) := by decide +kernel
theorem dX3_type_36 : decode cX3_type 36 = .ok (.castore, 1) := by decide +kernel
theorem dX3_type_37 : decode cX3_type 37 = .ok (.aload_n 0, 1) := by decide +kernel
theorem dX3_type_38 : decode cX3_type 38 = .ok (.dup, 1) := by decide +kernel
theorem dX3_type_39 : decode cX3_type 39 = .ok (.getfield 171, 3) := by decide +kernel
theorem dX3_type_42 : decode cX3_type 42 = .ok (.iconst 1, 1) := by decide +kernel
theorem dX3_type_43 : decode cX3_type 43 = .ok (.iadd, 1) := by decide +kernel
theorem dX3_type_44 : decode cX3_type 44 = .ok (.putfield 171, 3) := by decide +kernel
theorem dX3_type_47 : decode cX3_type 47 = .ok (.aload_n 0, 1) := by decide +kernel
theorem dX3_type_48 : decode cX3_type 48 = .ok (.getfield 171, 3) := by decide +kernel
theorem dX3_type_51 : decode cX3_type 51 = .ok (.ireturn, 1) := by decide +kernel
theorem dX3_clearText_0 : decode cX3_clearText 0 = .ok (.aload_n 0, 1) := by decide +kernel
theorem dX3_clearText_1 : decode cX3_clearText 1 = .ok (.getfield 171, 3) := by decide +kernel
theorem dX3_clearText_4 : decode cX3_clearText 4 = .ok (.istore_n 1, 1) := by decide +kernel
theorem dX3_clearText_5 : decode cX3_clearText 5 = .ok (.aload_n 0, 1) := by decide +kernel
theorem dX3_clearText_6 : decode cX3_clearText 6 = .ok (.iconst 0, 1) := by decide +kernel
theorem dX3_clearText_7 : decode cX3_clearText 7 = .ok (.putfield 171, 3) := by decide +kernel
theorem dX3_clearText_10 : decode cX3_clearText 10 = .ok (.iload_n 1, 1) := by decide +kernel
theorem dX3_clearText_11 : decode cX3_clearText 11 = .ok (.ireturn, 1) := by decide +kernel
theorem dX3_has_0 : decode cX3_has 0 = .ok (.aload_n 0, 1) := by decide +kernel
theorem dX3_has_1 : decode cX3_has 1 = .ok (.getfield 174, 3) := by decide +kernel
theorem dX3_has_4 : decode cX3_has 4 = .ok (.aload_n 0, 1) := by decide +kernel
theorem dX3_has_5 : decode cX3_has 5 = .ok (.getfield 171, 3) := by decide +kernel
theorem dX3_has_8 : decode cX3_has 8 = .ok (.if_icmp .ge 20, 3) := by decide +kernel
theorem dX3_has_11 : decode cX3_has 11 = .ok (.aload_n 0, 1) := by decide +kernel
theorem dX3_has_12 : decode cX3_has 12 = .ok (.getfield 25, 3) := by decide +kernel
theorem dX3_has_15 : decode cX3_has 15 = .ok (.aload_n 0, 1) := by decide +kernel
theorem dX3_has_16 : decode cX3_has 16 = .ok (.getfield 174, 3) := by decide +kernel
theorem dX3_has_19 : decode cX3_has 19 = .ok (.caload, 1) := by decide +kernel
theorem dX3_has_20 : decode cX3_has 20 = .ok (.iload_n 1, 1) := by decide +kernel
theorem dX3_has_21 : decode cX3_has 21 = .ok (.if_icmp .ne 7, 3) := by decide +kernel
theorem dX3_has_24 : decode cX3_has 24 = .ok (.iconst 1, 1) := by decide +kernel
theorem dX3_has_25 : decode cX3_has 25 = .ok (.goto 4, 3) := by decide +kernel
theorem dX3_has_28 : decode cX3_has 28 = .ok (.iconst 0, 1) := by decide +kernel
theorem dX3_has_29 : decode cX3_has 29 = .ok (.istore_n 2, 1) := by decide +kernel
theorem dX3_has_30 : decode cX3_has 30 = .ok (.aload_n 0, 1) := by decide +kernel
theorem dX3_has_31 : decode cX3_has 31 = .ok (.dup, 1) := by decide +kernel
theorem dX3_has_32 : decode cX3_has 32 = .ok (.getfield 174, 3) := by decide +kernel
theorem dX3_has_35 : decode cX3_has 35 = .ok (.iload_n 2, 1) := by decide +kernel
theorem dX3_has_36 : decode cX3_has 36 = .ok (.ifCond .eq 7, 3) := by decide +kernel
theorem dX3_has_39 : decode cX3_has 39 = .ok (.iconst 1, 1) := by decide +kernel
theorem dX3_has_40 : decode cX3_has 40 = .ok (.goto 4, 3) := by decide +kernel
theorem dX3_has_43 : decode cX3_has 43 = .ok (.iconst 0, 1) := by decide +kernel
theorem dX3_has_44 : decode cX3_has 44 = .ok (.iadd, 1) := by decide +kernel
theorem dX3_has_45 : decode cX3_has 45 = .ok (.putfield 174, 3) := by decide +kernel
theorem dX3_has_48 : decode cX3_has 48 = .ok (.iload_n 2, 1) := by decide +kernel
theorem dX3_has_49 : decode cX3_has 49 = .ok (.ireturn, 1) := by decide +kernel
theorem dX3_number_0 : decode cX3_number 0 = .ok (.aload_n 0, 1) := by decide +kernel
theorem dX3_number_1 : decode cX3_number 1 = .ok (.getfield 174, 3) := by decide +kernel
theorem dX3_number_4 : decode cX3_number 4 = .ok (.istore_n 2, 1) := by decide +kernel
theorem dX3_number_5 : decode cX3_number 5 = .ok (.aload_n 0, 1) := by decide +kernel
theorem dX3_number_6 : decode cX3_number 6 = .ok (.getfield 29, 3) := by decide +kernel
theorem dX3_number_9 : decode cX3_number 9 = .ok (.iload_n 1, 1) := by decide +kernel
theorem dX3_number_10 : decode cX3_number 10 = .ok (.iconst 0, 1) := by decide +kernel
theorem dX3_number_11 : decode cX3_number 11 = .ok (.iastore, 1) := by decide +kernel
theorem dX3_number_12 : decode cX3_number 12 = .ok (.aload_n 0, 1) := by decide +kernel
theorem dX3_number_13 : decode cX3_number 13 = .ok (.getfield 174, 3) := by decide +kernel
theorem dX3_number_16 : decode cX3_number 16 = .ok (.aload_n 0, 1) := by decide +kernel
theorem dX3_number_17 : decode cX3_number 17 = .ok (.getfield 171, 3) := by decide +kernel
theorem dX3_number_20 : decode cX3_number 20 = .ok (.if_icmp .ge 73, 3) := by decide +kernel
theorem dX3_number_23 : decode cX3_number 23 = .ok (.aload_n 0, 1) := by decide +kernel
theorem dX3_number_24 : decode cX3_number 24 = .ok (.getfield 174, 3) := by decide +kernel
theorem dX3_number_27 : decode cX3_number 27 = .ok (.iload_n 2, 1) := by decide +kernel
theorem dX3_number_28 : decode cX3_number 28 = .ok (.iconst 3, 1) := by decide +kernel
theorem dX3_number_29 : decode cX3_number 29 = .ok (.iadd, 1) := by decide +kernel
theorem dX3_number_30 : decode cX3_number 30 = .ok (.if_icmp .ge 63, 3) := by decide +kernel
theorem dX3_number_33 : decode cX3_number 33 = .ok (.aload_n 0, 1) := by decide +kernel
theorem dX3_number_34 : decode cX3_number 34 = .ok (.getfield 25, 3) := by decide +kernel
theorem dX3_number_37 : decode cX3_number 37 = .ok (.aload_n 0, 1) := by decide +kernel
theorem dX3_number_38 : decode cX3_number 38 = .ok (.getfield 174, 3) := by decide +kernel
theorem dX3_number_41 : decode cX3_number 41 = .ok (.caload, 1) := by decide +kernel
theorem dX3_number_42 : decode cX3_number 42 = .ok (.bipush 48, 2) := by decide +kernel
theorem dX3_number_44 : decode cX3_number 44 = .ok (.bipush 57, 2) := by decide +kernel
theorem dX3_number_46 : decode cX3_number 46 = .ok (.invokestatic 32, 3) := by decide +kernel
theorem dX3_number_49 : decode cX3_number 49 = .ok (.ifCond .eq 44, 3) := by decide +kernel
theorem dX3_number_52 : decode cX3_number 52 = .ok (.aload_n 0, 1) := by decide +kernel
theorem dX3_number_53 : decode cX3_number 53 = .ok (.getfield 29, 3) := by decide +kernel
theorem dX3_number_56 : decode cX3_number 56 = .ok (.iload_n 1, 1) := by decide +kernel
theorem dX3_number_57 : decode cX3_number 57 = .ok (.bipush 10, 2) := by decide +kernel
theorem dX3_number_59 : decode cX3_number 59 = .ok (.aload_n 0, 1) := by decide +kernel
theorem dX3_number_60 : decode cX3_number 60 = .ok (.getfield 29, 3) := by decide +kernel
theorem dX3_number_63 : decode cX3_number 63 = .ok (.iload_n 1, 1) := by decide +kernel
theorem dX3_number_64 : decode cX3_number 64 = .ok (.iaload, 1) := by decide +kernel
theorem dX3_number_65 : decode cX3_number 65 = .ok (.imul, 1) := by decide +kernel
theorem dX3_number_66 : decode cX3_number 66 = .ok (.aload_n 0, 1) := by decide +kernel
theorem dX3_number_67 : decode cX3_number 67 = .ok (.getfield 25, 3) := by decide +kernel
theorem dX3_number_70 : decode cX3_number 70 = .ok (.aload_n 0, 1) := by decide +kernel
theorem dX3_number_71 : decode cX3_number 71 = .ok (.getfield 174, 3) := by decide +kernel
theorem dX3_number_74 : decode cX3_number 74 = .ok (.caload, 1) := by decide +kernel
theorem dX3_number_75 : decode cX3_number 75 = .ok (.iadd, 1) := by decide +kernel
theorem dX3_number_76 : decode cX3_number 76 = .ok (.bipush 48, 2) := by decide +kernel
theorem dX3_number_78 : decode cX3_number 78 = .ok (.isub, 1) := by decide +kernel
theorem dX3_number_79 : decode cX3_number 79 = .ok (.iastore, 1) := by decide +kernel
theorem dX3_number_80 : decode cX3_number 80 = .ok (.aload_n 0, 1) := by decide +kernel
theorem dX3_number_81 : decode cX3_number 81 = .ok (.dup, 1) := by decide +kernel
theorem dX3_number_82 : decode cX3_number 82 = .ok (.getfield 174, 3) := by decide +kernel
theorem dX3_number_85 : decode cX3_number 85 = .ok (.iconst 1, 1) := by decide +kernel
theorem dX3_number_86 : decode cX3_number 86 = .ok (.iadd, 1) := by decide +kernel
theorem dX3_number_87 : decode cX3_number 87 = .ok (.putfield 174, 3) := by decide +kernel
theorem dX3_number_90 : decode cX3_number 90 = .ok (.goto (-78), 3) := by decide +kernel
theorem dX3_number_93 : decode cX3_number 93 = .ok (.aload_n 0, 1) := by decide +kernel
theorem dX3_number_94 : decode cX3_number 94 = .ok (.getfield 174, 3) := by decide +kernel
theorem dX3_number_97 : decode cX3_number 97 = .ok (.iload_n 2, 1) := by decide +kernel
theorem dX3_number_98 : decode cX3_number 98 = .ok (.if_icmp .le 7, 3) := by decide +kernel
theorem dX3_number_101 : decode cX3_number 101 = .ok (.iconst 1, 1) := by decide +kernel
theorem dX3_number_102 : decode cX3_number 102 = .ok (.goto 4, 3) := by decide +kernel
theorem dX3_number_105 : decode cX3_number 105 = .ok (.iconst 0, 1) := by decide +kernel
theorem dX3_number_106 : decode cX3_number 106 = .ok (.ireturn, 1) := by decide +kernel
theorem dX3_readsForm_0 : decode cX3_readsForm 0 = .ok (.iload_n 1, 1) := by decide +kernel
theorem dX3_readsForm_1 : decode cX3_readsForm 1 = .ok (.bipush 112, 2) := by decide +kernel
theorem dX3_readsForm_3 : decode cX3_readsForm 3 = .ok (.if_icmp .eq 9, 3) := by decide +kernel
theorem dX3_readsForm_6 : decode cX3_readsForm 6 = .ok (.iload_n 1, 1) := by decide +kernel
theorem dX3_readsForm_7 : decode cX3_readsForm 7 = .ok (.bipush 98, 2) := by decide +kernel
theorem dX3_readsForm_9 : decode cX3_readsForm 9 = .ok (.if_icmp .ne 7, 3) := by decide +kernel
theorem dX3_readsForm_12 : decode cX3_readsForm 12 = .ok (.iconst 1, 1) := by decide +kernel
theorem dX3_readsForm_13 : decode cX3_readsForm 13 = .ok (.goto 4, 3) := by decide +kernel
theorem dX3_readsForm_16 : decode cX3_readsForm 16 = .ok (.iconst 0, 1) := by decide +kernel
theorem dX3_readsForm_17 : decode cX3_readsForm 17 = .ok (.istore_n 2, 1) := by decide +kernel
theorem dX3_readsForm_18 : decode cX3_readsForm 18 = .ok (.iload_n 2, 1) := by decide +kernel
theorem dX3_readsForm_19 : decode cX3_readsForm 19 = .ok (.ifCond .ne 27, 3) := by decide +kernel
theorem dX3_readsForm_22 : decode cX3_readsForm 22 = .ok (.iload_n 1, 1) := by decide +kernel
theorem dX3_readsForm_23 : decode cX3_readsForm 23 = .ok (.bipush 107, 2) := by decide +kernel
theorem dX3_readsForm_25 : decode cX3_readsForm 25 = .ok (.if_icmp .eq 21, 3) := by decide +kernel
theorem dX3_readsForm_28 : decode cX3_readsForm 28 = .ok (.iload_n 1, 1) := by decide +kernel
theorem dX3_readsForm_29 : decode cX3_readsForm 29 = .ok (.bipush 116, 2) := by decide +kernel
theorem dX3_readsForm_31 : decode cX3_readsForm 31 = .ok (.if_icmp .eq 15, 3) := by decide +kernel
theorem dX3_readsForm_34 : decode cX3_readsForm 34 = .ok (.iload_n 1, 1) := by decide +kernel
theorem dX3_readsForm_35 : decode cX3_readsForm 35 = .ok (.bipush 101, 2) := by decide +kernel
theorem dX3_readsForm_37 : decode cX3_readsForm 37 = .ok (.if_icmp .eq 9, 3) := by decide +kernel
theorem dX3_readsForm_40 : decode cX3_readsForm 40 = .ok (.iload_n 1, 1) := by decide +kernel
theorem dX3_readsForm_41 : decode cX3_readsForm 41 = .ok (.bipush 118, 2) := by decide +kernel
theorem dX3_readsForm_43 : decode cX3_readsForm 43 = .ok (.if_icmp .ne 15, 3) := by decide +kernel
theorem dX3_readsForm_46 : decode cX3_readsForm 46 = .ok (.aload_n 0, 1) := by decide +kernel
theorem dX3_readsForm_47 : decode cX3_readsForm 47 = .ok (.iconst 0, 1) := by decide +kernel
theorem dX3_readsForm_48 : decode cX3_readsForm 48 = .ok (.invokevirtual 177, 3) := by decide +kernel
theorem dX3_readsForm_51 : decode cX3_readsForm 51 = .ok (.ifCond .eq 7, 3) := by decide +kernel
theorem dX3_readsForm_54 : decode cX3_readsForm 54 = .ok (.iconst 1, 1) := by decide +kernel
theorem dX3_readsForm_55 : decode cX3_readsForm 55 = .ok (.goto 4, 3) := by decide +kernel
theorem dX3_readsForm_58 : decode cX3_readsForm 58 = .ok (.iconst 0, 1) := by decide +kernel
theorem dX3_readsForm_59 : decode cX3_readsForm 59 = .ok (.istore_n 3, 1) := by decide +kernel
theorem dX3_readsForm_60 : decode cX3_readsForm 60 = .ok (.iload_n 3, 1) := by decide +kernel
theorem dX3_readsForm_61 : decode cX3_readsForm 61 = .ok (.ifCond .eq 37, 3) := by decide +kernel
theorem dX3_readsForm_64 : decode cX3_readsForm 64 = .ok (.iload_n 2, 1) := by decide +kernel
theorem dX3_readsForm_65 : decode cX3_readsForm 65 = .ok (.ifCond .eq 20, 3) := by decide +kernel
theorem dX3_readsForm_68 : decode cX3_readsForm 68 = .ok (.aload_n 0, 1) := by decide +kernel
theorem dX3_readsForm_69 : decode cX3_readsForm 69 = .ok (.bipush 44, 2) := by decide +kernel
theorem dX3_readsForm_71 : decode cX3_readsForm 71 = .ok (.invokevirtual 180, 3) := by decide +kernel
theorem dX3_readsForm_74 : decode cX3_readsForm 74 = .ok (.ifCond .eq 24, 3) := by decide +kernel
theorem dX3_readsForm_77 : decode cX3_readsForm 77 = .ok (.aload_n 0, 1) := by decide +kernel
theorem dX3_readsForm_78 : decode cX3_readsForm 78 = .ok (.iconst 1, 1) := by decide +kernel
theorem dX3_readsForm_79 : decode cX3_readsForm 79 = .ok (.invokevirtual 177, 3) := by decide +kernel
theorem dX3_readsForm_82 : decode cX3_readsForm 82 = .ok (.ifCond .eq 16, 3) := by decide +kernel
theorem dX3_readsForm_85 : decode cX3_readsForm 85 = .ok (.aload_n 0, 1) := by decide +kernel
theorem dX3_readsForm_86 : decode cX3_readsForm 86 = .ok (.bipush 59, 2) := by decide +kernel
theorem dX3_readsForm_88 : decode cX3_readsForm 88 = .ok (.invokevirtual 180, 3) := by decide +kernel
theorem dX3_readsForm_91 : decode cX3_readsForm 91 = .ok (.ifCond .eq 7, 3) := by decide +kernel
theorem dX3_readsForm_94 : decode cX3_readsForm 94 = .ok (.iconst 1, 1) := by decide +kernel
theorem dX3_readsForm_95 : decode cX3_readsForm 95 = .ok (.goto 4, 3) := by decide +kernel
theorem dX3_readsForm_98 : decode cX3_readsForm 98 = .ok (.iconst 0, 1) := by decide +kernel
theorem dX3_readsForm_99 : decode cX3_readsForm 99 = .ok (.ireturn, 1) := by decide +kernel
theorem dX3_does_0 : decode cX3_does 0 = .ok (.iload_n 1, 1) := by decide +kernel
theorem dX3_does_1 : decode cX3_does 1 = .ok (.lookupswitch 112 #[(101, 73), (107, 51), (112, 95), (116, 62), (118, 84)], 51) := by decide +kernel
theorem dX3_does_52 : decode cX3_does 52 = .ok (.aload_n 0, 1) := by decide +kernel
theorem dX3_does_53 : decode cX3_does 53 = .ok (.aload_n 0, 1) := by decide +kernel
theorem dX3_does_54 : decode cX3_does 54 = .ok (.getfield 29, 3) := by decide +kernel
theorem dX3_does_57 : decode cX3_does 57 = .ok (.iconst 0, 1) := by decide +kernel
theorem dX3_does_58 : decode cX3_does 58 = .ok (.iaload, 1) := by decide +kernel
theorem dX3_does_59 : decode cX3_does 59 = .ok (.invokevirtual 114, 3) := by decide +kernel
theorem dX3_does_62 : decode cX3_does 62 = .ok (.ireturn, 1) := by decide +kernel
theorem dX3_does_63 : decode cX3_does 63 = .ok (.aload_n 0, 1) := by decide +kernel
theorem dX3_does_64 : decode cX3_does 64 = .ok (.aload_n 0, 1) := by decide +kernel
theorem dX3_does_65 : decode cX3_does 65 = .ok (.getfield 29, 3) := by decide +kernel
theorem dX3_does_68 : decode cX3_does 68 = .ok (.iconst 0, 1) := by decide +kernel
theorem dX3_does_69 : decode cX3_does 69 = .ok (.iaload, 1) := by decide +kernel
theorem dX3_does_70 : decode cX3_does 70 = .ok (.invokevirtual 159, 3) := by decide +kernel
theorem dX3_does_73 : decode cX3_does 73 = .ok (.ireturn, 1) := by decide +kernel
theorem dX3_does_74 : decode cX3_does 74 = .ok (.aload_n 0, 1) := by decide +kernel
theorem dX3_does_75 : decode cX3_does 75 = .ok (.aload_n 0, 1) := by decide +kernel
theorem dX3_does_76 : decode cX3_does 76 = .ok (.getfield 29, 3) := by decide +kernel
theorem dX3_does_79 : decode cX3_does 79 = .ok (.iconst 0, 1) := by decide +kernel
theorem dX3_does_80 : decode cX3_does 80 = .ok (.iaload, 1) := by decide +kernel
theorem dX3_does_81 : decode cX3_does 81 = .ok (.invokevirtual 103, 3) := by decide +kernel
theorem dX3_does_84 : decode cX3_does 84 = .ok (.ireturn, 1) := by decide +kernel
theorem dX3_does_85 : decode cX3_does 85 = .ok (.aload_n 0, 1) := by decide +kernel
theorem dX3_does_86 : decode cX3_does 86 = .ok (.aload_n 0, 1) := by decide +kernel
theorem dX3_does_87 : decode cX3_does 87 = .ok (.getfield 29, 3) := by decide +kernel
theorem dX3_does_90 : decode cX3_does 90 = .ok (.iconst 0, 1) := by decide +kernel
theorem dX3_does_91 : decode cX3_does 91 = .ok (.iaload, 1) := by decide +kernel
theorem dX3_does_92 : decode cX3_does 92 = .ok (.invokevirtual 139, 3) := by decide +kernel
theorem dX3_does_95 : decode cX3_does 95 = .ok (.ireturn, 1) := by decide +kernel
theorem dX3_does_96 : decode cX3_does 96 = .ok (.aload_n 0, 1) := by decide +kernel
theorem dX3_does_97 : decode cX3_does 97 = .ok (.aload_n 0, 1) := by decide +kernel
theorem dX3_does_98 : decode cX3_does 98 = .ok (.getfield 29, 3) := by decide +kernel
theorem dX3_does_101 : decode cX3_does 101 = .ok (.iconst 0, 1) := by decide +kernel
theorem dX3_does_102 : decode cX3_does 102 = .ok (.iaload, 1) := by decide +kernel
theorem dX3_does_103 : decode cX3_does 103 = .ok (.aload_n 0, 1) := by decide +kernel
theorem dX3_does_104 : decode cX3_does 104 = .ok (.getfield 29, 3) := by decide +kernel
theorem dX3_does_107 : decode cX3_does 107 = .ok (.iconst 1, 1) := by decide +kernel
theorem dX3_does_108 : decode cX3_does 108 = .ok (.iaload, 1) := by decide +kernel
theorem dX3_does_109 : decode cX3_does 109 = .ok (.invokevirtual 130, 3) := by decide +kernel
theorem dX3_does_112 : decode cX3_does 112 = .ok (.ireturn, 1) := by decide +kernel
theorem dX3_does_113 : decode cX3_does 113 = .ok (.aload_n 0, 1) := by decide +kernel
theorem dX3_does_114 : decode cX3_does 114 = .ok (.aload_n 0, 1) := by decide +kernel
theorem dX3_does_115 : decode cX3_does 115 = .ok (.getfield 29, 3) := by decide +kernel
theorem dX3_does_118 : decode cX3_does 118 = .ok (.iconst 0, 1) := by decide +kernel
theorem dX3_does_119 : decode cX3_does 119 = .ok (.iaload, 1) := by decide +kernel
theorem dX3_does_120 : decode cX3_does 120 = .ok (.aload_n 0, 1) := by decide +kernel
theorem dX3_does_121 : decode cX3_does 121 = .ok (.getfield 29, 3) := by decide +kernel
theorem dX3_does_124 : decode cX3_does 124 = .ok (.iconst 1, 1) := by decide +kernel
theorem dX3_does_125 : decode cX3_does 125 = .ok (.iaload, 1) := by decide +kernel
theorem dX3_does_126 : decode cX3_does 126 = .ok (.invokevirtual 117, 3) := by decide +kernel
theorem dX3_does_129 : decode cX3_does 129 = .ok (.ireturn, 1) := by decide +kernel
theorem dX3_doesNext_0 : decode cX3_doesNext 0 = .ok (.aload_n 0, 1) := by decide +kernel
theorem dX3_doesNext_1 : decode cX3_doesNext 1 = .ok (.getfield 25, 3) := by decide +kernel
theorem dX3_doesNext_4 : decode cX3_doesNext 4 = .ok (.aload_n 0, 1) := by decide +kernel
theorem dX3_doesNext_5 : decode cX3_doesNext 5 = .ok (.getfield 174, 3) := by decide +kernel
theorem dX3_doesNext_8 : decode cX3_doesNext 8 = .ok (.caload, 1) := by decide +kernel
theorem dX3_doesNext_9 : decode cX3_doesNext 9 = .ok (.istore_n 1, 1) := by decide +kernel
theorem dX3_doesNext_10 : decode cX3_doesNext 10 = .ok (.aload_n 0, 1) := by decide +kernel
theorem dX3_doesNext_11 : decode cX3_doesNext 11 = .ok (.dup, 1) := by decide +kernel
theorem dX3_doesNext_12 : decode cX3_doesNext 12 = .ok (.getfield 174, 3) := by decide +kernel
theorem dX3_doesNext_15 : decode cX3_doesNext 15 = .ok (.iconst 1, 1) := by decide +kernel
theorem dX3_doesNext_16 : decode cX3_doesNext 16 = .ok (.iadd, 1) := by decide +kernel
theorem dX3_doesNext_17 : decode cX3_doesNext 17 = .ok (.putfield 174, 3) := by decide +kernel
theorem dX3_doesNext_20 : decode cX3_doesNext 20 = .ok (.aload_n 0, 1) := by decide +kernel
theorem dX3_doesNext_21 : decode cX3_doesNext 21 = .ok (.iload_n 1, 1) := by decide +kernel
theorem dX3_doesNext_22 : decode cX3_doesNext 22 = .ok (.invokevirtual 184, 3) := by decide +kernel
theorem dX3_doesNext_25 : decode cX3_doesNext 25 = .ok (.ifCond .ne 5, 3) := by decide +kernel
theorem dX3_doesNext_28 : decode cX3_doesNext 28 = .ok (.iconst 1, 1) := by decide +kernel
theorem dX3_doesNext_29 : decode cX3_doesNext 29 = .ok (.ireturn, 1) := by decide +kernel
theorem dX3_doesNext_30 : decode cX3_doesNext 30 = .ok (.iload_n 1, 1) := by decide +kernel
theorem dX3_doesNext_31 : decode cX3_doesNext 31 = .ok (.bipush 116, 2) := by decide +kernel
theorem dX3_doesNext_33 : decode cX3_doesNext 33 = .ok (.if_icmp .eq 20, 3) := by decide +kernel
theorem dX3_doesNext_36 : decode cX3_doesNext 36 = .ok (.aload_n 0, 1) := by decide +kernel
theorem dX3_doesNext_37 : decode cX3_doesNext 37 = .ok (.aload_n 0, 1) := by decide +kernel
theorem dX3_doesNext_38 : decode cX3_doesNext 38 = .ok (.getfield 29, 3) := by decide +kernel
theorem dX3_doesNext_41 : decode cX3_doesNext 41 = .ok (.iconst 0, 1) := by decide +kernel
theorem dX3_doesNext_42 : decode cX3_doesNext 42 = .ok (.iaload, 1) := by decide +kernel
theorem dX3_doesNext_43 : decode cX3_doesNext 43 = .ok (.invokevirtual 90, 3) := by decide +kernel
theorem dX3_doesNext_46 : decode cX3_doesNext 46 = .ok (.ifCond .ne 7, 3) := by decide +kernel
theorem dX3_doesNext_49 : decode cX3_doesNext 49 = .ok (.iconst 2, 1) := by decide +kernel
theorem dX3_doesNext_50 : decode cX3_doesNext 50 = .ok (.goto 18, 3) := by decide +kernel
theorem dX3_doesNext_53 : decode cX3_doesNext 53 = .ok (.aload_n 0, 1) := by decide +kernel
theorem dX3_doesNext_54 : decode cX3_doesNext 54 = .ok (.iload_n 1, 1) := by decide +kernel
theorem dX3_doesNext_55 : decode cX3_doesNext 55 = .ok (.invokevirtual 187, 3) := by decide +kernel
theorem dX3_doesNext_58 : decode cX3_doesNext 58 = .ok (.ldc 40, 2) := by decide +kernel
theorem dX3_doesNext_60 : decode cX3_doesNext 60 = .ok (.if_icmp .gt 7, 3) := by decide +kernel
theorem dX3_doesNext_63 : decode cX3_doesNext 63 = .ok (.iconst 3, 1) := by decide +kernel
theorem dX3_doesNext_64 : decode cX3_doesNext 64 = .ok (.goto 4, 3) := by decide +kernel
theorem dX3_doesNext_67 : decode cX3_doesNext 67 = .ok (.iconst 0, 1) := by decide +kernel
theorem dX3_doesNext_68 : decode cX3_doesNext 68 = .ok (.ireturn, 1) := by decide +kernel
theorem dX3_faulty_0 : decode cX3_faulty 0 = .ok (.aload_n 0, 1) := by decide +kernel
theorem dX3_faulty_1 : decode cX3_faulty 1 = .ok (.invokevirtual 162, 3) := by decide +kernel
theorem dX3_faulty_4 : decode cX3_faulty 4 = .ok (.ldc 123, 2) := by decide +kernel
theorem dX3_faulty_6 : decode cX3_faulty 6 = .ok (.istore_n 1, 1) := by decide +kernel
theorem dX3_faulty_7 : decode cX3_faulty 7 = .ok (.aload_n 0, 1) := by decide +kernel
theorem dX3_faulty_8 : decode cX3_faulty 8 = .ok (.iconst 0, 1) := by decide +kernel
theorem dX3_faulty_9 : decode cX3_faulty 9 = .ok (.putfield 174, 3) := by decide +kernel
theorem dX3_faulty_12 : decode cX3_faulty 12 = .ok (.aload_n 0, 1) := by decide +kernel
theorem dX3_faulty_13 : decode cX3_faulty 13 = .ok (.getfield 174, 3) := by decide +kernel
theorem dX3_faulty_16 : decode cX3_faulty 16 = .ok (.aload_n 0, 1) := by decide +kernel
theorem dX3_faulty_17 : decode cX3_faulty 17 = .ok (.getfield 171, 3) := by decide +kernel
theorem dX3_faulty_20 : decode cX3_faulty 20 = .ok (.if_icmp .ge 38, 3) := by decide +kernel
theorem dX3_faulty_23 : decode cX3_faulty 23 = .ok (.iload_n 1, 1) := by decide +kernel
theorem dX3_faulty_24 : decode cX3_faulty 24 = .ok (.ldc 123, 2) := by decide +kernel
theorem dX3_faulty_26 : decode cX3_faulty 26 = .ok (.if_icmp .ne 32, 3) := by decide +kernel
theorem dX3_faulty_29 : decode cX3_faulty 29 = .ok (.aload_n 0, 1) := by decide +kernel
theorem dX3_faulty_30 : decode cX3_faulty 30 = .ok (.getfield 174, 3) := by decide +kernel
theorem dX3_faulty_33 : decode cX3_faulty 33 = .ok (.istore_n 2, 1) := by decide +kernel
theorem dX3_faulty_34 : decode cX3_faulty 34 = .ok (.aload_n 0, 1) := by decide +kernel
theorem dX3_faulty_35 : decode cX3_faulty 35 = .ok (.aload_n 0, 1) := by decide +kernel
theorem dX3_faulty_36 : decode cX3_faulty 36 = .ok (.invokevirtual 191, 3) := by decide +kernel
theorem dX3_faulty_39 : decode cX3_faulty 39 = .ok (.putfield 194, 3) := by decide +kernel
theorem dX3_faulty_42 : decode cX3_faulty 42 = .ok (.aload_n 0, 1) := by decide +kernel
theorem dX3_faulty_43 : decode cX3_faulty 43 = .ok (.getfield 194, 3) := by decide +kernel
theorem dX3_faulty_46 : decode cX3_faulty 46 = .ok (.ifCond .le 7, 3) := by decide +kernel
theorem dX3_faulty_49 : decode cX3_faulty 49 = .ok (.iload_n 2, 1) := by decide +kernel
theorem dX3_faulty_50 : decode cX3_faulty 50 = .ok (.goto 4, 3) := by decide +kernel
theorem dX3_faulty_53 : decode cX3_faulty 53 = .ok (.iload_n 1, 1) := by decide +kernel
theorem dX3_faulty_54 : decode cX3_faulty 54 = .ok (.istore_n 1, 1) := by decide +kernel
theorem dX3_faulty_55 : decode cX3_faulty 55 = .ok (.goto (-43), 3) := by decide +kernel
theorem dX3_faulty_58 : decode cX3_faulty 58 = .ok (.aload_n 0, 1) := by decide +kernel
theorem dX3_faulty_59 : decode cX3_faulty 59 = .ok (.invokevirtual 165, 3) := by decide +kernel
theorem dX3_faulty_62 : decode cX3_faulty 62 = .ok (.iload_n 1, 1) := by decide +kernel
theorem dX3_faulty_63 : decode cX3_faulty 63 = .ok (.ireturn, 1) := by decide +kernel
theorem dX3_fault_0 : decode cX3_fault 0 = .ok (.iload_n 1, 1) := by decide +kernel
theorem dX3_fault_1 : decode cX3_fault 1 = .ok (.iconst 0, 1) := by decide +kernel
theorem dX3_fault_2 : decode cX3_fault 2 = .ok (.iconst 1, 1) := by decide +kernel
theorem dX3_fault_3 : decode cX3_fault 3 = .ok (.invokestatic 32, 3) := by decide +kernel
theorem dX3_fault_6 : decode cX3_fault 6 = .ok (.ifCond .ne 6, 3) := by decide +kernel
theorem dX3_fault_9 : decode cX3_fault 9 = .ok (.ldc 40, 2) := by decide +kernel
theorem dX3_fault_11 : decode cX3_fault 11 = .ok (.ireturn, 1) := by decide +kernel
theorem dX3_fault_12 : decode cX3_fault 12 = .ok (.aload_n 0, 1) := by decide +kernel
theorem dX3_fault_13 : decode cX3_fault 13 = .ok (.invokevirtual 197, 3) := by decide +kernel
theorem dX3_fault_16 : decode cX3_fault 16 = .ok (.istore_n 2, 1) := by decide +kernel
theorem dX3_fault_17 : decode cX3_fault 17 = .ok (.iload_n 2, 1) := by decide +kernel
theorem dX3_fault_18 : decode cX3_fault 18 = .ok (.ldc 123, 2) := by decide +kernel
theorem dX3_fault_20 : decode cX3_fault 20 = .ok (.if_icmp .eq 7, 3) := by decide +kernel
theorem dX3_fault_23 : decode cX3_fault 23 = .ok (.iload_n 1, 1) := by decide +kernel
theorem dX3_fault_24 : decode cX3_fault 24 = .ok (.ifCond .ne 7, 3) := by decide +kernel
theorem dX3_fault_27 : decode cX3_fault 27 = .ok (.iload_n 2, 1) := by decide +kernel
theorem dX3_fault_28 : decode cX3_fault 28 = .ok (.goto 7, 3) := by decide +kernel
theorem dX3_fault_31 : decode cX3_fault 31 = .ok (.aload_n 0, 1) := by decide +kernel
theorem dX3_fault_32 : decode cX3_fault 32 = .ok (.getfield 194, 3) := by decide +kernel
theorem dX3_fault_35 : decode cX3_fault 35 = .ok (.ireturn, 1) := by decide +kernel
theorem dX3_play_0 : decode cX3_play 0 = .ok (.aload_n 0, 1) := by decide +kernel
theorem dX3_play_1 : decode cX3_play 1 = .ok (.invokevirtual 197, 3) := by decide +kernel
theorem dX3_play_4 : decode cX3_play 4 = .ok (.ldc 123, 2) := by decide +kernel
theorem dX3_play_6 : decode cX3_play 6 = .ok (.if_icmp .eq 6, 3) := by decide +kernel
theorem dX3_play_9 : decode cX3_play 9 = .ok (.ldc 96, 2) := by decide +kernel
theorem dX3_play_11 : decode cX3_play 11 = .ok (.ireturn, 1) := by decide +kernel
theorem dX3_play_12 : decode cX3_play 12 = .ok (.aload_n 0, 1) := by decide +kernel
theorem dX3_play_13 : decode cX3_play 13 = .ok (.invokevirtual 84, 3) := by decide +kernel
theorem dX3_play_16 : decode cX3_play 16 = .ok (.iconst 0, 1) := by decide +kernel
theorem dX3_play_17 : decode cX3_play 17 = .ok (.istore_n 1, 1) := by decide +kernel
theorem dX3_play_18 : decode cX3_play 18 = .ok (.aload_n 0, 1) := by decide +kernel
theorem dX3_play_19 : decode cX3_play 19 = .ok (.iconst 0, 1) := by decide +kernel
theorem dX3_play_20 : decode cX3_play 20 = .ok (.putfield 174, 3) := by decide +kernel
theorem dX3_play_23 : decode cX3_play 23 = .ok (.aload_n 0, 1) := by decide +kernel
theorem dX3_play_24 : decode cX3_play 24 = .ok (.getfield 174, 3) := by decide +kernel
theorem dX3_play_27 : decode cX3_play 27 = .ok (.aload_n 0, 1) := by decide +kernel
theorem dX3_play_28 : decode cX3_play 28 = .ok (.getfield 171, 3) := by decide +kernel
theorem dX3_play_31 : decode cX3_play 31 = .ok (.if_icmp .ge 21, 3) := by decide +kernel
theorem dX3_play_34 : decode cX3_play 34 = .ok (.iload_n 1, 1) := by decide +kernel
theorem dX3_play_35 : decode cX3_play 35 = .ok (.aload_n 0, 1) := by decide +kernel
theorem dX3_play_36 : decode cX3_play 36 = .ok (.invokevirtual 191, 3) := by decide +kernel
theorem dX3_play_39 : decode cX3_play 39 = .ok (.ifCond .ne 7, 3) := by decide +kernel
theorem dX3_play_42 : decode cX3_play 42 = .ok (.iconst 1, 1) := by decide +kernel
theorem dX3_play_43 : decode cX3_play 43 = .ok (.goto 4, 3) := by decide +kernel
theorem dX3_play_46 : decode cX3_play 46 = .ok (.iconst 0, 1) := by decide +kernel
theorem dX3_play_47 : decode cX3_play 47 = .ok (.iadd, 1) := by decide +kernel
theorem dX3_play_48 : decode cX3_play 48 = .ok (.istore_n 1, 1) := by decide +kernel
theorem dX3_play_49 : decode cX3_play 49 = .ok (.goto (-26), 3) := by decide +kernel
theorem dX3_play_52 : decode cX3_play 52 = .ok (.aload_n 0, 1) := by decide +kernel
theorem dX3_play_53 : decode cX3_play 53 = .ok (.iload_n 1, 1) := by decide +kernel
theorem dX3_play_54 : decode cX3_play 54 = .ok (.invokevirtual 87, 3) := by decide +kernel
theorem dX3_play_57 : decode cX3_play 57 = .ok (.ireturn, 1) := by decide +kernel
end
section
/-! ===== a small machine over whole numbers: values, cells, the judgements ===== -/
abbrev am_V : Type := Int ⊕ (Nat × Nat)
abbrev am_M : Type := Nat → Nat → Int
abbrev am_H : Type := (Nat → am_M) × (Nat → Nat)
abbrev am_Y : Type := MethodName × ByteArray × Nat × Option FieldType
def am_GW : List Cond := lw_tbl.filter goodWord
def am_NW : List Cond := [.methodLinkNest "GodChips$Memory" 92 yX2_isFamily "GodChips", .methodLinkNest "GodChips$Memory" 121 yX2_isRow "GodChips", .methodLinkNest "GodChips$Memory" 128 yX2_isValue "GodChips", .methodLinkNest "GodChips" 18 yX1_init "GodChips"]
def am_w (y : am_Y) : List Cond := .code y.1 y.2.1 y.2.2.1 y.2.2.2 :: am_GW
def am_rm (d : Nat) : Room := { frames := d, cells := 0, slots := 0, locals := 33 * d }
def am_cv (ad : Nat → Nat → Nat) : am_V → Value
  | .inl x => .int (Int32.ofInt x)
  | .inr q => .ref (ad q.1 q.2)
def am_R (x : Int) : Prop := -2147483648 ≤ x ∧ x ≤ 2147483647
/-- the cells: units 0 to 5 are states of the class, 6 the class's other cells, 7 the reference's -/
def am_cs : List (Nat × Nat) := (List.range 84).map (fun k => (k / 14, k % 14)) ++ ((List.range 4).map (fun k => (6, k)) ++ (List.range 8).map (fun k => (7, k)))
def am_ix (u j : Nat) : Nat := if u < 6 then 14 * u + j else if u = 6 then 84 + j else 88 + j
/-- 0 an object, 1 ints, 2 chars, 3 references -/
def am_kd (u j : Nat) : Nat := if j = 0 then 0 else if u = 6 then (if j = 1 then 3 else if j = 2 then 0 else 2) else if u = 7 then (if j = 6 then 2 else 1) else 1
def am_ci (u j : Nat) : Nat := if u < 6 then 0 else if u = 6 then (if j = 0 then 2 else 1) else 3
def am_nf (u j : Nat) : Nat := if u < 6 then 18 else if u = 6 then (if j = 0 then 5 else 8) else 11
def am_lenM (j : Nat) : Nat := [0, 8, 8, 8, 48, 3, 18, 18, 3, 24, 24, 24, 24, 24].getD j 0
def am_lenX (j : Nat) : Nat := [0, 208, 832, 208, 208, 208, 60, 2].getD j 0
def am_len (u j : Nat) : Nat := if u < 6 then am_lenM j else if u = 6 then (if j = 1 then 4 else 60) else am_lenX j
def am_fM (w : Nat → Int) (u k : Nat) : am_V := match k with
  | 0 => .inl (w 0)
  | 1 => .inl (w 1)
  | 2 => .inl (w 2)
  | 3 => .inl (w 3)
  | 4 => .inl (w 4)
  | k + 5 => .inr (u, k + 1)
def am_fG (w : Nat → Int) (g : Nat → Nat) (u k : Nat) : am_V := match k with
  | 0 => .inr (u, 1)
  | 1 => .inr (u, 2)
  | 2 => .inr (g 0, 0)
  | 3 => .inr (g 1, 0)
  | _ => .inl (w 4)
def am_fO (w : Nat → Int) (u k : Nat) : am_V := match k with
  | 0 => .inr (u, 3)
  | k + 1 => .inl (w (k + 1))
def am_fX (w : Nat → Int) (u k : Nat) : am_V := match k with
  | 0 => .inr (u, 1)
  | 1 => .inr (u, 2)
  | 2 => .inr (u, 3)
  | 3 => .inr (u, 4)
  | 4 => .inr (u, 5)
  | 5 => .inl (w 5)
  | 6 => .inr (u, 6)
  | 7 => .inl (w 7)
  | 8 => .inl (w 8)
  | 9 => .inl (w 9)
  | _ => .inr (u, 7)
def am_f (h : am_H) (u j k : Nat) : am_V := if u < 6 then am_fM (h.1 u j) u k else if u = 6 then (if j = 0 then am_fG (h.1 u j) h.2 u k else am_fO (h.1 u j) u k) else am_fX (h.1 u j) u k
def am_obj (ad : Nat → Nat → Nat) (h : am_H) (u j : Nat) : List Value := (List.range (am_nf u j)).map (fun k => am_cv ad (am_f h u j k))
def am_cell (K : ClassId × ClassId × ClassId) (ad : Nat → Nat → Nat) (h : am_H) (q : Nat × Nat) : va_E := match am_kd q.1 q.2 with
  | 0 => .inr (am_ci q.1 q.2, am_obj ad h q.1 q.2)
  | 1 => .inl (K.1, am_len q.1 q.2, .inl (fun k => Int32.ofInt (h.1 q.1 q.2 k)))
  | 2 => .inl (K.2.1, am_len q.1 q.2, .inl (fun k => Int32.ofInt (h.1 q.1 q.2 k)))
  | _ => .inl (K.2.2, am_len q.1 q.2, .inr (.inr (.inr (.inr (fun k => some (ad (h.2 (2 + k)) 0))))))
def am_ws (K : ClassId × ClassId × ClassId) (ad : Nat → Nat → Nat) (h : am_H) : va_W := am_cs.map (fun q => (ad q.1 q.2, am_cell K ad h q))
def am_ty (K : ClassId × ClassId × ClassId) : List (ClassId × FieldType) := [(K.1, .int), (K.2.1, .char), (K.2.2, .object RX0)]
def am_ad (ad : Nat → Nat → Nat) : Prop := ∀ q ∈ am_cs, ∀ q' ∈ am_cs, ad q.1 q.2 = ad q'.1 q'.2 → q = q'
def am_A (ad : Nat → Nat → Nat) : Nat → Prop := fun a => ∃ q ∈ am_cs, ad q.1 q.2 = a
def am_VH (h : am_H) : Prop := (∀ u j k, am_R (h.1 u j k)) ∧ ∀ n, h.2 n < 6
def am_Pre (D : va_G) (K : ClassId × ClassId × ClassId) (ad : Nat → Nat → Nat) (h : am_H) (U : State) : Prop := va_P D vwCl (am_ws K ad h) U.heap ∧ va_K D vwCl (am_ty K) U ∧ (∀ w ∈ am_NW, va_Nw w U) ∧ am_VH h ∧ am_ad ad
def am_Q (D : va_G) (K : ClassId × ClassId × ClassId) (ad : Nat → Nat → Nat) (h1 : am_H) (r : Option am_V) : Array Value → State → Outcome → State → Prop := fun _ st o t => o = .returned (r.map (am_cv ad)) ∧ va_P D vwCl (am_ws K ad h1) t.heap ∧ am_VH h1 ∧ va_F (am_A ad) st t
/-- a method's contract: called so over this heap, it returns this and leaves that heap -/
def Ct (d : Nat) (y : am_Y) (as : List am_V) (r : Option am_V) (h h1 : am_H) : Prop := ∀ (l : Launch) (D : va_G) (K : ClassId × ClassId × ClassId) (ad : Nat → Nat → Nat), Met l y.1 (am_w y) (am_rm d) (va_Pc (as.map (am_cv ad)) (am_Pre D K ad h)) (am_Q D K ad h1 r) 0 0 (am_A ad)
def am_St (p : Program) (s : State) (m : MethodId) (args : Array Value) (meth : Method) (c : Code) (y : am_Y) (D : va_G) (K : ClassId × ClassId × ClassId) (ad : Nat → Nat → Nat) : Prop :=
  p.tables.exec = Jvm.exec ∧ c.code = y.2.1 ∧ c.maxLocals = y.2.2.1 ∧ meth.sig.returnType = y.2.2.2 ∧ meth.locks = false ∧ s.vm.findClass y.1.cls = some m.cls ∧ (∀ w ∈ am_w y, w.before args s = true) ∧ va_K D vwCl (am_ty K) s ∧ (∀ w ∈ am_NW, va_Nw w s) ∧ am_ad ad
def am_lv (ad : Nat → Nat → Nat) (n : Nat) (ls : List (Option am_V)) (lsr : Array Slot) : Prop := lsr.size = n ∧ lv_wf lsr ∧ ∀ (i : Nat) (v : am_V), ls[i]? = some (some v) → lsr[i]? = some (Slot.val (am_cv ad v))
/-- the machine at this place comes to the method's end with that answer and that heap -/
def Sx (d : Nat) (y : am_Y) (h1 : am_H) (r : Option am_V) (pc : Nat) (ls : List (Option am_V)) (st : List am_V) (h : am_H) : Prop :=
  ∀ (p : Program) (l : Launch) (e : Env) (s : State) (m : MethodId) (args : Array Value) (below : List Frame) (meth : Method) (c : Code) (D : va_G) (K : ClassId × ClassId × ClassId) (ad : Nat → Nat → Nat) (H : Heap) (locs : List Loc) (lsr : Array Slot),
    am_St p s m args meth c y D K ad → va_S (am_A ad) s.heap H locs → va_P D vwCl (am_ws K ad h) H → am_VH h → am_lv ad y.2.2.1 ls lsr →
    W p l e (am_rm d) s m args below meth c H locs 0 0 (MQ below (am_Q D K ad h1 r) args s 0 0 (am_A ad)) (F0 m pc lsr (st.map (am_cv ad)))
theorem am_cs_ix : ∀ q ∈ am_cs, am_cs[am_ix q.1 q.2]? = some q := by decide +kernel
theorem am_ix_cs : ∀ k, k < 96 → ∀ q, am_cs[k]? = some q → am_ix q.1 q.2 = k := by
  have h : ∀ k, k < 96 → (am_cs[k]?.map (fun q => am_ix q.1 q.2)) = some k := by decide +kernel
  intro k hk q hq
  have h2 := h k hk
  rw [hq] at h2
  exact Option.some.inj h2
theorem am_cs_len : am_cs.length = 96 := by decide +kernel
theorem am_inM : ∀ u, u < 6 → ∀ j, j < 14 → (u, j) ∈ am_cs := by decide +kernel
theorem am_inG : ∀ j, j < 4 → (6, j) ∈ am_cs := by decide +kernel
theorem am_inX : ∀ j, j < 8 → (7, j) ∈ am_cs := by decide +kernel
theorem am_ws_at {K : ClassId × ClassId × ClassId} {ad : Nat → Nat → Nat} {h : am_H} {q : Nat × Nat} (hq : q ∈ am_cs) : (am_ws K ad h)[am_ix q.1 q.2]? = some (ad q.1 q.2, am_cell K ad h q) := by
  unfold am_ws
  rw [List.getElem?_map, am_cs_ix q hq]
  rfl
theorem am_ws_set {K : ClassId × ClassId × ClassId} {ad : Nat → Nat → Nat} {h h' : am_H} {q : Nat × Nat} {e : va_E} (hq : q ∈ am_cs) (he : am_cell K ad h' q = e) (ho : ∀ q' ∈ am_cs, q' ≠ q → am_cell K ad h' q' = am_cell K ad h q') :
    (am_ws K ad h).set (am_ix q.1 q.2) (ad q.1 q.2, e) = am_ws K ad h' := by
  subst he
  apply List.ext_getElem?
  intro k
  by_cases hk : k = am_ix q.1 q.2
  · subst hk
    rw [am_ws_at hq, List.getElem?_set_self]
    exact (List.getElem?_eq_some_iff.mp (am_ws_at (K := K) (ad := ad) (h := h) hq)).1
  · rw [List.getElem?_set_ne (Ne.symm hk)]
    unfold am_ws
    rw [List.getElem?_map, List.getElem?_map]
    cases hz : am_cs[k]? with
    | none => rfl
    | some q' =>
      have hm : q' ∈ am_cs := List.mem_of_getElem? hz
      have hkl : k < 96 := by rw [← am_cs_len]; exact (List.getElem?_eq_some_iff.mp hz).1
      have hne : q' ≠ q := by
        intro hqq
        subst hqq
        exact hk (am_ix_cs k hkl _ hz).symm
      simp only [Option.map_some]
      rw [ho q' hm hne]
theorem am_D {K : ClassId × ClassId × ClassId} {ad : Nat → Nat → Nat} {h : am_H} (hA : am_ad ad) : va_D (am_A ad) (am_ws K ad h) := by
  have key : ∀ (k : Nat) (p : Nat × va_E), (am_ws K ad h)[k]? = some p → ∃ q ∈ am_cs, am_cs[k]? = some q ∧ p.1 = ad q.1 q.2 := by
    intro k p hp
    unfold am_ws at hp
    rw [List.getElem?_map] at hp
    cases hz : am_cs[k]? with
    | none => rw [hz] at hp; cases hp
    | some q =>
      rw [hz] at hp
      cases hp
      exact ⟨q, List.mem_of_getElem? hz, rfl, rfl⟩
  refine ⟨fun i j a b hi hj hab => ?_, fun k p hp => ?_⟩
  · obtain ⟨q, m1, z1, e1⟩ := key i a hi
    obtain ⟨q', m2, z2, e2⟩ := key j b hj
    have hqq := hA q m1 q' m2 (by rw [← e1, ← e2]; exact hab)
    subst hqq
    have l1 : i < 96 := by rw [← am_cs_len]; exact (List.getElem?_eq_some_iff.mp z1).1
    have l2 : j < 96 := by rw [← am_cs_len]; exact (List.getElem?_eq_some_iff.mp z2).1
    exact (am_ix_cs i l1 _ z1).symm.trans (am_ix_cs j l2 _ z2)
  · obtain ⟨q, m1, -, e1⟩ := key k p hp
    exact ⟨q, m1, e1.symm⟩
theorem am_toInt {x : Int} (h : am_R x) : (Int32.ofInt x).toInt = x := Int32.toInt_ofInt_of_le (by have := h.1; omega) (by have := h.2; omega)
theorem am_eq {x y : Int} (hx : am_R x) (hy : am_R y) : Int32.ofInt x = Int32.ofInt y ↔ x = y := by
  constructor
  · intro h
    have := congrArg Int32.toInt h
    rwa [am_toInt hx, am_toInt hy] at this
  · intro h
    rw [h]
theorem am_lt {x y : Int} (hx : am_R x) (hy : am_R y) : Int32.ofInt x < Int32.ofInt y ↔ x < y := by
  rw [Int32.lt_iff_toInt_lt, am_toInt hx, am_toInt hy]
theorem am_le {x y : Int} (hx : am_R x) (hy : am_R y) : Int32.ofInt x ≤ Int32.ofInt y ↔ x ≤ y := by
  rw [Int32.le_iff_toInt_le, am_toInt hx, am_toInt hy]
theorem am_clamp {x : Int} (hx : am_R x) : (Int32.ofInt x).toNatClampNeg = x.toNat := by
  show (Int32.ofInt x).toInt.toNat = x.toNat
  rw [am_toInt hx]
theorem am_idx {x : Int} {n : Nat} (h0 : 0 ≤ x) (h1 : x < n) (hn : n ≤ 1000000) : vp_in (Int32.ofInt x) n ∧ (Int32.ofInt x).toNatClampNeg = x.toNat := by
  have hR : am_R x := ⟨by omega, by omega⟩
  refine ⟨?_, am_clamp hR⟩
  rintro (h | h)
  · rw [show (0 : Int32) = Int32.ofInt 0 from rfl, am_lt hR ⟨by decide, by decide⟩] at h
    omega
  · rw [am_clamp hR] at h
    omega
end
section
/-! ===== what the rows stand on ===== -/
def am_and (x z : Int) : Int := (Int32.ofInt x &&& Int32.ofInt z).toInt
def am_or (x z : Int) : Int := (Int32.ofInt x ||| Int32.ofInt z).toInt
def am_xor (x z : Int) : Int := (Int32.ofInt x ^^^ Int32.ofInt z).toInt
def am_shl (x z : Int) : Int := (Int32.ofInt x <<< (Int32.ofInt z &&& 31)).toInt
def am_shr (x z : Int) : Int := (Int32.ofInt x >>> (Int32.ofInt z &&& 31)).toInt
def am_ushr (x z : Int) : Int := (((Int32.ofInt x).toUInt32 >>> ((Int32.ofInt z).toUInt32 &&& Int32.toUInt32 31)).toInt32).toInt
theorem am_cat (ad : Nat → Nat → Nat) (v : am_V) : (am_cv ad v).category = 1 := by
  cases v <;> rfl
theorem am_i2c {x : Int} (h0 : 0 ≤ x) (h9 : x ≤ 65535) : ((Int32.ofInt x).toUInt32 % 65536).toInt32 = Int32.ofInt x := by
  obtain ⟨n, rfl⟩ := Int.eq_ofNat_of_zero_le h0
  have hn : n ≤ 65535 := by omega
  apply Int32.toInt_inj.mp
  have h1 : (Int32.ofInt (n : Int)).toUInt32 = UInt32.ofNat n := by
    apply UInt32.toNat_inj.mp
    simp [Int32.ofInt, UInt32.toNat_ofNat]
  rw [h1]
  have h2 : UInt32.ofNat n % 65536 = UInt32.ofNat n := by
    apply UInt32.toNat_inj.mp
    rw [UInt32.toNat_mod, UInt32.toNat_ofNat]
    show n % 2 ^ 32 % 65536 = n % 2 ^ 32
    omega
  rw [h2, ← h1]
  rfl
theorem am_b_eq {x z : Int} (hx : am_R x) (hz : am_R z) (q : Int32.ofInt x = Int32.ofInt z) : x = z := (am_eq hx hz).mp q
theorem am_n_eq {x z : Int} (hx : am_R x) (hz : am_R z) (q : ¬ Int32.ofInt x = Int32.ofInt z) : ¬ x = z := fun w => q ((am_eq hx hz).mpr w)
theorem am_b_ne {x z : Int} (hx : am_R x) (hz : am_R z) (q : ¬ Int32.ofInt x = Int32.ofInt z) : ¬ x = z := fun w => q ((am_eq hx hz).mpr w)
theorem am_n_ne {x z : Int} (hx : am_R x) (hz : am_R z) (q : Int32.ofInt x = Int32.ofInt z) : x = z := (am_eq hx hz).mp q
theorem am_b_lt {x z : Int} (hx : am_R x) (hz : am_R z) (q : Int32.ofInt x < Int32.ofInt z) : x < z := (am_lt hx hz).mp q
theorem am_n_lt {x z : Int} (hx : am_R x) (hz : am_R z) (q : ¬ Int32.ofInt x < Int32.ofInt z) : z ≤ x := by rw [am_lt hx hz] at q; omega
theorem am_b_ge {x z : Int} (hx : am_R x) (hz : am_R z) (q : Int32.ofInt z ≤ Int32.ofInt x) : z ≤ x := (am_le hz hx).mp q
theorem am_n_ge {x z : Int} (hx : am_R x) (hz : am_R z) (q : ¬ Int32.ofInt z ≤ Int32.ofInt x) : x < z := by rw [am_le hz hx] at q; omega
theorem am_b_gt {x z : Int} (hx : am_R x) (hz : am_R z) (q : Int32.ofInt z < Int32.ofInt x) : z < x := (am_lt hz hx).mp q
theorem am_n_gt {x z : Int} (hx : am_R x) (hz : am_R z) (q : ¬ Int32.ofInt z < Int32.ofInt x) : x ≤ z := by rw [am_lt hz hx] at q; omega
theorem am_b_le {x z : Int} (hx : am_R x) (hz : am_R z) (q : Int32.ofInt x ≤ Int32.ofInt z) : x ≤ z := (am_le hx hz).mp q
theorem am_n_le {x z : Int} (hx : am_R x) (hz : am_R z) (q : ¬ Int32.ofInt x ≤ Int32.ofInt z) : z < x := by rw [am_le hx hz] at q; omega
def am_pairs (ad : Nat → Nat → Nat) (ls : List (Option am_V)) : List (Nat × Value) := (List.range ls.length).filterMap (fun i => match ls[i]? with
  | some (some v) => some (i, am_cv ad v)
  | _ => none)
theorem am_pairs_mem {ad : Nat → Nat → Nat} {ls : List (Option am_V)} {i : Nat} {v : am_V} (h : ls[i]? = some (some v)) : (i, am_cv ad v) ∈ am_pairs ad ls := by
  refine List.mem_filterMap.mpr ⟨i, List.mem_range.mpr (List.getElem?_eq_some_iff.mp h).1, ?_⟩
  rw [h]
theorem am_pairs_of {ad : Nat → Nat → Nat} {ls : List (Option am_V)} {q : Nat × Value} (h : q ∈ am_pairs ad ls) : ∃ v, ls[q.1]? = some (some v) ∧ q.2 = am_cv ad v := by
  obtain ⟨i, -, hi⟩ := List.mem_filterMap.mp h
  cases hz : ls[i]? with
  | none => rw [hz] at hi; cases hi
  | some o =>
    cases o with
    | none => rw [hz] at hi; cases hi
    | some v =>
      rw [hz] at hi
      cases hi
      exact ⟨v, hz, rfl⟩
theorem am_lv_has {ad : Nat → Nat → Nat} {n : Nat} {ls : List (Option am_V)} {lsr : Array Slot} (h : am_lv ad n ls lsr) : lv_has lsr n (am_pairs ad ls) := by
  refine ⟨h.1, h.2.1, fun q hq => ?_⟩
  obtain ⟨v, h1, h2⟩ := am_pairs_of hq
  rw [h2]
  exact h.2.2 _ _ h1
theorem am_lv_has1 {ad : Nat → Nat → Nat} {n : Nat} {ls : List (Option am_V)} {lsr : Array Slot} {i : Nat} {x : Int} (h : am_lv ad n ls lsr) (hg : ls[i]? = some (some (.inl x))) : lv_has lsr n ((i, .int (Int32.ofInt x)) :: am_pairs ad ls) := by
  refine ⟨h.1, h.2.1, fun q hq => ?_⟩
  rcases List.mem_cons.mp hq with rfl | hq
  · exact h.2.2 _ _ hg
  · exact (am_lv_has h).2.2 q hq
theorem am_keep {i j : Nat} {v : am_V} {ad : Nat → Nat → Nat} (hne : j ≠ i) : (!((j, am_cv ad v).1 == i) && !((j, am_cv ad v).1 + 1 == i && (j, am_cv ad v).2.category == 2)) = true := by
  have h2 : ((am_cv ad v).category == 2) = false := by rw [am_cat]; rfl
  simp [h2, hne]
theorem am_lv_set {ad : Nat → Nat → Nat} {n : Nat} {ls : List (Option am_V)} {lsr lsr' : Array Slot} {i : Nat} {v : am_V} (h : am_lv ad n ls lsr) (h' : lv_has lsr' n ((i, am_cv ad v) :: (am_pairs ad ls).filter (fun q => !(q.1 == i) && !(q.1 + 1 == i && q.2.category == 2)))) : am_lv ad n (ls.set i (some v)) lsr' := by
  refine ⟨h'.1, h'.2.1, fun j w hj => ?_⟩
  by_cases hji : j = i
  · subst hji
    have hlen : j < ls.length := by have := (List.getElem?_eq_some_iff.mp hj).1; simpa using this
    rw [List.getElem?_set_self hlen] at hj
    have hvw : v = w := Option.some.inj (Option.some.inj hj)
    subst hvw
    exact h'.2.2 (j, am_cv ad v) List.mem_cons_self
  · rw [List.getElem?_set_ne (Ne.symm hji)] at hj
    exact h'.2.2 (j, am_cv ad w) (List.mem_cons_of_mem _ (List.mem_filter.mpr ⟨am_pairs_mem hj, am_keep hji⟩))
theorem am_lv_set1 {ad : Nat → Nat → Nat} {n : Nat} {ls : List (Option am_V)} {lsr lsr' : Array Slot} {i : Nat} {x : Int} {v : am_V} (h : am_lv ad n ls lsr) (h' : lv_has lsr' n ((i, am_cv ad v) :: ((i, .int (Int32.ofInt x)) :: am_pairs ad ls).filter (fun q => !(q.1 == i) && !(q.1 + 1 == i && q.2.category == 2)))) : am_lv ad n (ls.set i (some v)) lsr' := by
  refine am_lv_set h ⟨h'.1, h'.2.1, fun q hq => h'.2.2 q ?_⟩
  rcases List.mem_cons.mp hq with rfl | hq
  · exact List.mem_cons_self
  · refine List.mem_cons_of_mem _ ?_
    obtain ⟨a, b⟩ := List.mem_filter.mp hq
    exact List.mem_filter.mpr ⟨List.mem_cons_of_mem _ a, b⟩
/-! ===== the rows of the small machine ===== -/
section SX
variable {d : Nat} {y : am_Y} {h1 : am_H} {r : Option am_V} {pc : Nat} {ls : List (Option am_V)} {st : List am_V} {h : am_H}
theorem sx_iconst {n : Int} (hd : decode y.2.1 pc = .ok (.iconst n, 1)) (k : Sx d y h1 r (pc + 1) ls (.inl n :: st) h) : Sx d y h1 r pc ls st h := by
  intro p l e s m args below meth c D K ad H locs lsr hS hV hP hH hl
  obtain ⟨hx, hb, hml, hr, hlk, hown, hts, hK, hN, hA⟩ := id hS
  have z := k p l e s m args below meth c D K ad H locs lsr hS hV hP hH hl
  exact lv_iconst hx hb hd rfl z
theorem sx_bipush {n : Int} (hd : decode y.2.1 pc = .ok (.bipush n, 2)) (hv : (Int8.ofInt n).toInt32 = Int32.ofInt n) (k : Sx d y h1 r (pc + 2) ls (.inl n :: st) h) : Sx d y h1 r pc ls st h := by
  intro p l e s m args below meth c D K ad H locs lsr hS hV hP hH hl
  obtain ⟨hx, hb, hml, hr, hlk, hown, hts, hK, hN, hA⟩ := id hS
  have z := k p l e s m args below meth c D K ad H locs lsr hS hV hP hH hl
  exact lv_bipush hx hb hd hv z
theorem sx_sipush {n : Int} (hd : decode y.2.1 pc = .ok (.sipush n, 3)) (hv : (Int16.ofInt n).toInt32 = Int32.ofInt n) (k : Sx d y h1 r (pc + 3) ls (.inl n :: st) h) : Sx d y h1 r pc ls st h := by
  intro p l e s m args below meth c D K ad H locs lsr hS hV hP hH hl
  obtain ⟨hx, hb, hml, hr, hlk, hown, hts, hK, hN, hA⟩ := id hS
  have z := k p l e s m args below meth c D K ad H locs lsr hS hV hP hH hl
  exact lv_sipush hx hb hd hv z
theorem sx_ldc {n : Int} {ix : Nat} (hd : decode y.2.1 pc = .ok (.ldc ix, 2)) (hc : Cond.constant y.1.cls ix (Int32.ofInt n) ∈ am_GW) (k : Sx d y h1 r (pc + 2) ls (.inl n :: st) h) : Sx d y h1 r pc ls st h := by
  intro p l e s m args below meth c D K ad H locs lsr hS hV hP hH hl
  obtain ⟨hx, hb, hml, hr, hlk, hown, hts, hK, hN, hA⟩ := id hS
  have z := k p l e s m args below meth c D K ad H locs lsr hS hV hP hH hl
  exact lv_ldc hx hb hown (hts _ (List.mem_cons_of_mem _ hc)) hd z
theorem sx_iload_n {x : Int} {kk : Fin 4} (hd : decode y.2.1 pc = .ok (.iload_n kk, 1)) (hg : ls[(kk : Nat)]? = some (some (.inl x))) (k : Sx d y h1 r (pc + 1) ls (.inl x :: st) h) : Sx d y h1 r pc ls st h := by
  intro p l e s m args below meth c D K ad H locs lsr hS hV hP hH hl
  obtain ⟨hx, hb, hml, hr, hlk, hown, hts, hK, hN, hA⟩ := id hS
  have z := k p l e s m args below meth c D K ad H locs lsr hS hV hP hH hl
  exact lv_iload_n hx hb hd rfl (hl.2.2 _ _ hg) z
theorem sx_iload {x : Int} {i : Nat} (hd : decode y.2.1 pc = .ok (.iload i, 2)) (hg : ls[i]? = some (some (.inl x))) (k : Sx d y h1 r (pc + 2) ls (.inl x :: st) h) : Sx d y h1 r pc ls st h := by
  intro p l e s m args below meth c D K ad H locs lsr hS hV hP hH hl
  obtain ⟨hx, hb, hml, hr, hlk, hown, hts, hK, hN, hA⟩ := id hS
  have z := k p l e s m args below meth c D K ad H locs lsr hS hV hP hH hl
  exact lv_iload hx hb hd (hl.2.2 _ _ hg) z
theorem sx_istore_n {x : Int} {kk : Fin 4} (hd : decode y.2.1 pc = .ok (.istore_n kk, 1)) (hn : (kk : Nat) < y.2.2.1) (k : Sx d y h1 r (pc + 1) (ls.set (kk : Nat) (some (.inl x))) st h) : Sx d y h1 r pc ls (.inl x :: st) h := by
  intro p l e s m args below meth c D K ad H locs lsr hS hV hP hH hl
  obtain ⟨hx, hb, hml, hr, hlk, hown, hts, hK, hN, hA⟩ := id hS
  refine lv_istore_n hx hb hd rfl (am_lv_has hl) hn rfl (fun ls' hl' => ?_)
  exact k p l e s m args below meth c D K ad H locs ls' hS hV hP hH (am_lv_set (v := (.inl x)) hl hl')
theorem sx_istore {x : Int} {i : Nat} (hd : decode y.2.1 pc = .ok (.istore i, 2)) (hn : i < y.2.2.1) (k : Sx d y h1 r (pc + 2) (ls.set i (some (.inl x))) st h) : Sx d y h1 r pc ls (.inl x :: st) h := by
  intro p l e s m args below meth c D K ad H locs lsr hS hV hP hH hl
  obtain ⟨hx, hb, hml, hr, hlk, hown, hts, hK, hN, hA⟩ := id hS
  refine lv_istore hx hb hd (am_lv_has hl) hn rfl (fun ls' hl' => ?_)
  exact k p l e s m args below meth c D K ad H locs ls' hS hV hP hH (am_lv_set (v := (.inl x)) hl hl')
theorem sx_aload_n {x : Nat × Nat} {kk : Fin 4} (hd : decode y.2.1 pc = .ok (.aload_n kk, 1)) (hg : ls[(kk : Nat)]? = some (some (.inr x))) (k : Sx d y h1 r (pc + 1) ls (.inr x :: st) h) : Sx d y h1 r pc ls st h := by
  intro p l e s m args below meth c D K ad H locs lsr hS hV hP hH hl
  obtain ⟨hx, hb, hml, hr, hlk, hown, hts, hK, hN, hA⟩ := id hS
  have z := k p l e s m args below meth c D K ad H locs lsr hS hV hP hH hl
  exact lv_aload_n hx hb hd rfl (hl.2.2 _ _ hg) z
theorem sx_aload {x : Nat × Nat} {i : Nat} (hd : decode y.2.1 pc = .ok (.aload i, 2)) (hg : ls[i]? = some (some (.inr x))) (k : Sx d y h1 r (pc + 2) ls (.inr x :: st) h) : Sx d y h1 r pc ls st h := by
  intro p l e s m args below meth c D K ad H locs lsr hS hV hP hH hl
  obtain ⟨hx, hb, hml, hr, hlk, hown, hts, hK, hN, hA⟩ := id hS
  have z := k p l e s m args below meth c D K ad H locs lsr hS hV hP hH hl
  exact lv_aload hx hb hd (hl.2.2 _ _ hg) z
theorem sx_astore_n {x : Nat × Nat} {kk : Fin 4} (hd : decode y.2.1 pc = .ok (.astore_n kk, 1)) (hn : (kk : Nat) < y.2.2.1) (k : Sx d y h1 r (pc + 1) (ls.set (kk : Nat) (some (.inr x))) st h) : Sx d y h1 r pc ls (.inr x :: st) h := by
  intro p l e s m args below meth c D K ad H locs lsr hS hV hP hH hl
  obtain ⟨hx, hb, hml, hr, hlk, hown, hts, hK, hN, hA⟩ := id hS
  refine lv_astore_n hx hb hd rfl (am_lv_has hl) hn rfl (fun ls' hl' => ?_)
  exact k p l e s m args below meth c D K ad H locs ls' hS hV hP hH (am_lv_set (v := (.inr x)) hl hl')
theorem sx_astore {x : Nat × Nat} {i : Nat} (hd : decode y.2.1 pc = .ok (.astore i, 2)) (hn : i < y.2.2.1) (k : Sx d y h1 r (pc + 2) (ls.set i (some (.inr x))) st h) : Sx d y h1 r pc ls (.inr x :: st) h := by
  intro p l e s m args below meth c D K ad H locs lsr hS hV hP hH hl
  obtain ⟨hx, hb, hml, hr, hlk, hown, hts, hK, hN, hA⟩ := id hS
  refine lv_astore hx hb hd (am_lv_has hl) hn rfl (fun ls' hl' => ?_)
  exact k p l e s m args below meth c D K ad H locs ls' hS hV hP hH (am_lv_set (v := (.inr x)) hl hl')
theorem sx_iinc {x : Int} {i : Nat} {n : Int} (hd : decode y.2.1 pc = .ok (.iinc i n, 3)) (hg : ls[i]? = some (some (.inl x))) (hn : i < y.2.2.1) (k : Sx d y h1 r (pc + 3) (ls.set i (some (.inl (x + n)))) st h) : Sx d y h1 r pc ls st h := by
  intro p l e s m args below meth c D K ad H locs lsr hS hV hP hH hl
  obtain ⟨hx, hb, hml, hr, hlk, hown, hts, hK, hN, hA⟩ := id hS
  refine lv_iinc (k := 0) hx hb hd (am_lv_has1 hl hg) rfl (Int32.ofInt_add x n).symm hn rfl (fun ls' hl' => ?_)
  exact k p l e s m args below meth c D K ad H locs ls' hS hV hP hH (am_lv_set1 (v := .inl (x + n)) hl hl')
theorem sx_iadd {x z : Int} (hd : decode y.2.1 pc = .ok (.iadd, 1)) (k : Sx d y h1 r (pc + 1) ls (.inl (x + z) :: st) h) : Sx d y h1 r pc ls (.inl z :: .inl x :: st) h := by
  intro p l e s m args below meth c D K ad H locs lsr hS hV hP hH hl
  obtain ⟨hx, hb, hml, hr, hlk, hown, hts, hK, hN, hA⟩ := id hS
  have zz := k p l e s m args below meth c D K ad H locs lsr hS hV hP hH hl
  simp only [List.map_cons, am_cv, Int32.ofInt_add] at zz
  exact lv_iadd hx hb hd zz
theorem sx_isub {x z : Int} (hd : decode y.2.1 pc = .ok (.isub, 1)) (k : Sx d y h1 r (pc + 1) ls (.inl (x - z) :: st) h) : Sx d y h1 r pc ls (.inl z :: .inl x :: st) h := by
  intro p l e s m args below meth c D K ad H locs lsr hS hV hP hH hl
  obtain ⟨hx, hb, hml, hr, hlk, hown, hts, hK, hN, hA⟩ := id hS
  have zz := k p l e s m args below meth c D K ad H locs lsr hS hV hP hH hl
  simp only [List.map_cons, am_cv, Int32.ofInt_sub] at zz
  exact lv_isub hx hb hd zz
theorem sx_imul {x z : Int} (hd : decode y.2.1 pc = .ok (.imul, 1)) (k : Sx d y h1 r (pc + 1) ls (.inl (x * z) :: st) h) : Sx d y h1 r pc ls (.inl z :: .inl x :: st) h := by
  intro p l e s m args below meth c D K ad H locs lsr hS hV hP hH hl
  obtain ⟨hx, hb, hml, hr, hlk, hown, hts, hK, hN, hA⟩ := id hS
  have zz := k p l e s m args below meth c D K ad H locs lsr hS hV hP hH hl
  simp only [List.map_cons, am_cv, Int32.ofInt_mul] at zz
  exact lv_imul hx hb hd zz
theorem sx_iand {x z : Int} (hd : decode y.2.1 pc = .ok (.iand, 1)) (k : Sx d y h1 r (pc + 1) ls (.inl (am_and x z) :: st) h) : Sx d y h1 r pc ls (.inl z :: .inl x :: st) h := by
  intro p l e s m args below meth c D K ad H locs lsr hS hV hP hH hl
  obtain ⟨hx, hb, hml, hr, hlk, hown, hts, hK, hN, hA⟩ := id hS
  have zz := k p l e s m args below meth c D K ad H locs lsr hS hV hP hH hl
  simp only [List.map_cons, am_cv, am_and, Int32.ofInt_toInt] at zz
  exact lv_iand hx hb hd zz
theorem sx_ior {x z : Int} (hd : decode y.2.1 pc = .ok (.ior, 1)) (k : Sx d y h1 r (pc + 1) ls (.inl (am_or x z) :: st) h) : Sx d y h1 r pc ls (.inl z :: .inl x :: st) h := by
  intro p l e s m args below meth c D K ad H locs lsr hS hV hP hH hl
  obtain ⟨hx, hb, hml, hr, hlk, hown, hts, hK, hN, hA⟩ := id hS
  have zz := k p l e s m args below meth c D K ad H locs lsr hS hV hP hH hl
  simp only [List.map_cons, am_cv, am_or, Int32.ofInt_toInt] at zz
  exact lv_ior hx hb hd zz
theorem sx_ixor {x z : Int} (hd : decode y.2.1 pc = .ok (.ixor, 1)) (k : Sx d y h1 r (pc + 1) ls (.inl (am_xor x z) :: st) h) : Sx d y h1 r pc ls (.inl z :: .inl x :: st) h := by
  intro p l e s m args below meth c D K ad H locs lsr hS hV hP hH hl
  obtain ⟨hx, hb, hml, hr, hlk, hown, hts, hK, hN, hA⟩ := id hS
  have zz := k p l e s m args below meth c D K ad H locs lsr hS hV hP hH hl
  simp only [List.map_cons, am_cv, am_xor, Int32.ofInt_toInt] at zz
  exact lv_ixor hx hb hd zz
theorem sx_ishl {x z : Int} (hd : decode y.2.1 pc = .ok (.ishl, 1)) (k : Sx d y h1 r (pc + 1) ls (.inl (am_shl x z) :: st) h) : Sx d y h1 r pc ls (.inl z :: .inl x :: st) h := by
  intro p l e s m args below meth c D K ad H locs lsr hS hV hP hH hl
  obtain ⟨hx, hb, hml, hr, hlk, hown, hts, hK, hN, hA⟩ := id hS
  have zz := k p l e s m args below meth c D K ad H locs lsr hS hV hP hH hl
  simp only [List.map_cons, am_cv, am_shl, Int32.ofInt_toInt] at zz
  exact lv_ishl hx hb hd zz
theorem sx_ishr {x z : Int} (hd : decode y.2.1 pc = .ok (.ishr, 1)) (k : Sx d y h1 r (pc + 1) ls (.inl (am_shr x z) :: st) h) : Sx d y h1 r pc ls (.inl z :: .inl x :: st) h := by
  intro p l e s m args below meth c D K ad H locs lsr hS hV hP hH hl
  obtain ⟨hx, hb, hml, hr, hlk, hown, hts, hK, hN, hA⟩ := id hS
  have zz := k p l e s m args below meth c D K ad H locs lsr hS hV hP hH hl
  simp only [List.map_cons, am_cv, am_shr, Int32.ofInt_toInt] at zz
  exact lv_ishr hx hb hd zz
theorem sx_iushr {x z : Int} (hd : decode y.2.1 pc = .ok (.iushr, 1)) (k : Sx d y h1 r (pc + 1) ls (.inl (am_ushr x z) :: st) h) : Sx d y h1 r pc ls (.inl z :: .inl x :: st) h := by
  intro p l e s m args below meth c D K ad H locs lsr hS hV hP hH hl
  obtain ⟨hx, hb, hml, hr, hlk, hown, hts, hK, hN, hA⟩ := id hS
  have zz := k p l e s m args below meth c D K ad H locs lsr hS hV hP hH hl
  simp only [List.map_cons, am_cv, am_ushr, Int32.ofInt_toInt] at zz
  exact lv_iushr hx hb hd rfl zz
theorem sx_i2c {x : Int} (hd : decode y.2.1 pc = .ok (.i2c, 1)) (h0 : 0 ≤ x) (h9 : x ≤ 65535) (k : Sx d y h1 r (pc + 1) ls (.inl x :: st) h) : Sx d y h1 r pc ls (.inl x :: st) h := by
  intro p l e s m args below meth c D K ad H locs lsr hS hV hP hH hl
  obtain ⟨hx, hb, hml, hr, hlk, hown, hts, hK, hN, hA⟩ := id hS
  have zz := k p l e s m args below meth c D K ad H locs lsr hS hV hP hH hl
  exact lv_i2c hx hb hd (am_i2c h0 h9) zz
theorem sx_dup {v : am_V} (hd : decode y.2.1 pc = .ok (.dup, 1)) (k : Sx d y h1 r (pc + 1) ls (v :: v :: st) h) : Sx d y h1 r pc ls (v :: st) h := by
  intro p l e s m args below meth c D K ad H locs lsr hS hV hP hH hl
  obtain ⟨hx, hb, hml, hr, hlk, hown, hts, hK, hN, hA⟩ := id hS
  have z := k p l e s m args below meth c D K ad H locs lsr hS hV hP hH hl
  exact lv_dup hx hb hd (am_cat _ _) z
theorem sx_dup2 {v w : am_V} (hd : decode y.2.1 pc = .ok (.dup2, 1)) (k : Sx d y h1 r (pc + 1) ls (v :: w :: v :: w :: st) h) : Sx d y h1 r pc ls (v :: w :: st) h := by
  intro p l e s m args below meth c D K ad H locs lsr hS hV hP hH hl
  obtain ⟨hx, hb, hml, hr, hlk, hown, hts, hK, hN, hA⟩ := id hS
  have z := k p l e s m args below meth c D K ad H locs lsr hS hV hP hH hl
  exact lv_dup2_11 hx hb hd (am_cat _ _) (am_cat _ _) z
theorem sx_pop {v : am_V} (hd : decode y.2.1 pc = .ok (.pop, 1)) (k : Sx d y h1 r (pc + 1) ls st h) : Sx d y h1 r pc ls (v :: st) h := by
  intro p l e s m args below meth c D K ad H locs lsr hS hV hP hH hl
  obtain ⟨hx, hb, hml, hr, hlk, hown, hts, hK, hN, hA⟩ := id hS
  have z := k p l e s m args below meth c D K ad H locs lsr hS hV hP hH hl
  exact lv_pop hx hb hd (am_cat _ _) z
theorem sx_goto {off : Int} {tgt : Nat} (hd : decode y.2.1 pc = .ok (.goto off, 3)) (ht : (pc : Int) + off = (tgt : Int)) (k : Sx d y h1 r tgt ls st h) : Sx d y h1 r pc ls st h := by
  intro p l e s m args below meth c D K ad H locs lsr hS hV hP hH hl
  obtain ⟨hx, hb, hml, hr, hlk, hown, hts, hK, hN, hA⟩ := id hS
  have z := k p l e s m args below meth c D K ad H locs lsr hS hV hP hH hl
  exact lv_goto hx hb hd ht z
theorem sx_icmp_eq {x z : Int} {off : Int} {tgt : Nat} (hd : decode y.2.1 pc = .ok (.if_icmp .eq off, 3)) (ht : (pc : Int) + off = (tgt : Int)) (hx0 : am_R x) (hz0 : am_R z) (kt : x = z → Sx d y h1 r tgt ls st h) (kf : ¬ x = z → Sx d y h1 r (pc + 3) ls st h) : Sx d y h1 r pc ls (.inl z :: .inl x :: st) h := by
  intro p l e s m args below meth c D K ad H locs lsr hS hV hP hH hl
  obtain ⟨hx, hb, hml, hr, hlk, hown, hts, hK, hN, hA⟩ := id hS
  refine lv_icmp_eq hx hb hd ht (fun q => ?_) (fun q => ?_)
  · exact kt (am_b_eq hx0 hz0 q) p l e s m args below meth c D K ad H locs lsr hS hV hP hH hl
  · exact kf (am_n_eq hx0 hz0 q) p l e s m args below meth c D K ad H locs lsr hS hV hP hH hl
theorem sx_if_eq {x : Int} {off : Int} {tgt : Nat} (hd : decode y.2.1 pc = .ok (.ifCond .eq off, 3)) (ht : (pc : Int) + off = (tgt : Int)) (hx0 : am_R x) (kt : x = 0 → Sx d y h1 r tgt ls st h) (kf : ¬ x = 0 → Sx d y h1 r (pc + 3) ls st h) : Sx d y h1 r pc ls (.inl x :: st) h := by
  intro p l e s m args below meth c D K ad H locs lsr hS hV hP hH hl
  obtain ⟨hx, hb, hml, hr, hlk, hown, hts, hK, hN, hA⟩ := id hS
  have hz0 : am_R 0 := ⟨by decide, by decide⟩
  refine lv_if_eq hx hb hd ht (fun q => ?_) (fun q => ?_)
  · exact kt (am_b_eq hx0 hz0 q) p l e s m args below meth c D K ad H locs lsr hS hV hP hH hl
  · exact kf (am_n_eq hx0 hz0 q) p l e s m args below meth c D K ad H locs lsr hS hV hP hH hl
theorem sx_icmp_ne {x z : Int} {off : Int} {tgt : Nat} (hd : decode y.2.1 pc = .ok (.if_icmp .ne off, 3)) (ht : (pc : Int) + off = (tgt : Int)) (hx0 : am_R x) (hz0 : am_R z) (kt : ¬ x = z → Sx d y h1 r tgt ls st h) (kf : x = z → Sx d y h1 r (pc + 3) ls st h) : Sx d y h1 r pc ls (.inl z :: .inl x :: st) h := by
  intro p l e s m args below meth c D K ad H locs lsr hS hV hP hH hl
  obtain ⟨hx, hb, hml, hr, hlk, hown, hts, hK, hN, hA⟩ := id hS
  refine lv_icmp_ne hx hb hd ht (fun q => ?_) (fun q => ?_)
  · exact kt (am_b_ne hx0 hz0 q) p l e s m args below meth c D K ad H locs lsr hS hV hP hH hl
  · exact kf (am_n_ne hx0 hz0 q) p l e s m args below meth c D K ad H locs lsr hS hV hP hH hl
theorem sx_if_ne {x : Int} {off : Int} {tgt : Nat} (hd : decode y.2.1 pc = .ok (.ifCond .ne off, 3)) (ht : (pc : Int) + off = (tgt : Int)) (hx0 : am_R x) (kt : ¬ x = 0 → Sx d y h1 r tgt ls st h) (kf : x = 0 → Sx d y h1 r (pc + 3) ls st h) : Sx d y h1 r pc ls (.inl x :: st) h := by
  intro p l e s m args below meth c D K ad H locs lsr hS hV hP hH hl
  obtain ⟨hx, hb, hml, hr, hlk, hown, hts, hK, hN, hA⟩ := id hS
  have hz0 : am_R 0 := ⟨by decide, by decide⟩
  refine lv_if_ne hx hb hd ht (fun q => ?_) (fun q => ?_)
  · exact kt (am_b_ne hx0 hz0 q) p l e s m args below meth c D K ad H locs lsr hS hV hP hH hl
  · exact kf (am_n_ne hx0 hz0 q) p l e s m args below meth c D K ad H locs lsr hS hV hP hH hl
theorem sx_icmp_lt {x z : Int} {off : Int} {tgt : Nat} (hd : decode y.2.1 pc = .ok (.if_icmp .lt off, 3)) (ht : (pc : Int) + off = (tgt : Int)) (hx0 : am_R x) (hz0 : am_R z) (kt : x < z → Sx d y h1 r tgt ls st h) (kf : z ≤ x → Sx d y h1 r (pc + 3) ls st h) : Sx d y h1 r pc ls (.inl z :: .inl x :: st) h := by
  intro p l e s m args below meth c D K ad H locs lsr hS hV hP hH hl
  obtain ⟨hx, hb, hml, hr, hlk, hown, hts, hK, hN, hA⟩ := id hS
  refine lv_icmp_lt hx hb hd ht (fun q => ?_) (fun q => ?_)
  · exact kt (am_b_lt hx0 hz0 q) p l e s m args below meth c D K ad H locs lsr hS hV hP hH hl
  · exact kf (am_n_lt hx0 hz0 q) p l e s m args below meth c D K ad H locs lsr hS hV hP hH hl
theorem sx_if_lt {x : Int} {off : Int} {tgt : Nat} (hd : decode y.2.1 pc = .ok (.ifCond .lt off, 3)) (ht : (pc : Int) + off = (tgt : Int)) (hx0 : am_R x) (kt : x < 0 → Sx d y h1 r tgt ls st h) (kf : 0 ≤ x → Sx d y h1 r (pc + 3) ls st h) : Sx d y h1 r pc ls (.inl x :: st) h := by
  intro p l e s m args below meth c D K ad H locs lsr hS hV hP hH hl
  obtain ⟨hx, hb, hml, hr, hlk, hown, hts, hK, hN, hA⟩ := id hS
  have hz0 : am_R 0 := ⟨by decide, by decide⟩
  refine lv_if_lt hx hb hd ht (fun q => ?_) (fun q => ?_)
  · exact kt (am_b_lt hx0 hz0 q) p l e s m args below meth c D K ad H locs lsr hS hV hP hH hl
  · exact kf (am_n_lt hx0 hz0 q) p l e s m args below meth c D K ad H locs lsr hS hV hP hH hl
theorem sx_icmp_ge {x z : Int} {off : Int} {tgt : Nat} (hd : decode y.2.1 pc = .ok (.if_icmp .ge off, 3)) (ht : (pc : Int) + off = (tgt : Int)) (hx0 : am_R x) (hz0 : am_R z) (kt : z ≤ x → Sx d y h1 r tgt ls st h) (kf : x < z → Sx d y h1 r (pc + 3) ls st h) : Sx d y h1 r pc ls (.inl z :: .inl x :: st) h := by
  intro p l e s m args below meth c D K ad H locs lsr hS hV hP hH hl
  obtain ⟨hx, hb, hml, hr, hlk, hown, hts, hK, hN, hA⟩ := id hS
  refine lv_icmp_ge hx hb hd ht (fun q => ?_) (fun q => ?_)
  · exact kt (am_b_ge hx0 hz0 q) p l e s m args below meth c D K ad H locs lsr hS hV hP hH hl
  · exact kf (am_n_ge hx0 hz0 q) p l e s m args below meth c D K ad H locs lsr hS hV hP hH hl
theorem sx_if_ge {x : Int} {off : Int} {tgt : Nat} (hd : decode y.2.1 pc = .ok (.ifCond .ge off, 3)) (ht : (pc : Int) + off = (tgt : Int)) (hx0 : am_R x) (kt : 0 ≤ x → Sx d y h1 r tgt ls st h) (kf : x < 0 → Sx d y h1 r (pc + 3) ls st h) : Sx d y h1 r pc ls (.inl x :: st) h := by
  intro p l e s m args below meth c D K ad H locs lsr hS hV hP hH hl
  obtain ⟨hx, hb, hml, hr, hlk, hown, hts, hK, hN, hA⟩ := id hS
  have hz0 : am_R 0 := ⟨by decide, by decide⟩
  refine lv_if_ge hx hb hd ht (fun q => ?_) (fun q => ?_)
  · exact kt (am_b_ge hx0 hz0 q) p l e s m args below meth c D K ad H locs lsr hS hV hP hH hl
  · exact kf (am_n_ge hx0 hz0 q) p l e s m args below meth c D K ad H locs lsr hS hV hP hH hl
theorem sx_icmp_gt {x z : Int} {off : Int} {tgt : Nat} (hd : decode y.2.1 pc = .ok (.if_icmp .gt off, 3)) (ht : (pc : Int) + off = (tgt : Int)) (hx0 : am_R x) (hz0 : am_R z) (kt : z < x → Sx d y h1 r tgt ls st h) (kf : x ≤ z → Sx d y h1 r (pc + 3) ls st h) : Sx d y h1 r pc ls (.inl z :: .inl x :: st) h := by
  intro p l e s m args below meth c D K ad H locs lsr hS hV hP hH hl
  obtain ⟨hx, hb, hml, hr, hlk, hown, hts, hK, hN, hA⟩ := id hS
  refine lv_icmp_gt hx hb hd ht (fun q => ?_) (fun q => ?_)
  · exact kt (am_b_gt hx0 hz0 q) p l e s m args below meth c D K ad H locs lsr hS hV hP hH hl
  · exact kf (am_n_gt hx0 hz0 q) p l e s m args below meth c D K ad H locs lsr hS hV hP hH hl
theorem sx_if_gt {x : Int} {off : Int} {tgt : Nat} (hd : decode y.2.1 pc = .ok (.ifCond .gt off, 3)) (ht : (pc : Int) + off = (tgt : Int)) (hx0 : am_R x) (kt : 0 < x → Sx d y h1 r tgt ls st h) (kf : x ≤ 0 → Sx d y h1 r (pc + 3) ls st h) : Sx d y h1 r pc ls (.inl x :: st) h := by
  intro p l e s m args below meth c D K ad H locs lsr hS hV hP hH hl
  obtain ⟨hx, hb, hml, hr, hlk, hown, hts, hK, hN, hA⟩ := id hS
  have hz0 : am_R 0 := ⟨by decide, by decide⟩
  refine lv_if_gt hx hb hd ht (fun q => ?_) (fun q => ?_)
  · exact kt (am_b_gt hx0 hz0 q) p l e s m args below meth c D K ad H locs lsr hS hV hP hH hl
  · exact kf (am_n_gt hx0 hz0 q) p l e s m args below meth c D K ad H locs lsr hS hV hP hH hl
theorem sx_icmp_le {x z : Int} {off : Int} {tgt : Nat} (hd : decode y.2.1 pc = .ok (.if_icmp .le off, 3)) (ht : (pc : Int) + off = (tgt : Int)) (hx0 : am_R x) (hz0 : am_R z) (kt : x ≤ z → Sx d y h1 r tgt ls st h) (kf : z < x → Sx d y h1 r (pc + 3) ls st h) : Sx d y h1 r pc ls (.inl z :: .inl x :: st) h := by
  intro p l e s m args below meth c D K ad H locs lsr hS hV hP hH hl
  obtain ⟨hx, hb, hml, hr, hlk, hown, hts, hK, hN, hA⟩ := id hS
  refine lv_icmp_le hx hb hd ht (fun q => ?_) (fun q => ?_)
  · exact kt (am_b_le hx0 hz0 q) p l e s m args below meth c D K ad H locs lsr hS hV hP hH hl
  · exact kf (am_n_le hx0 hz0 q) p l e s m args below meth c D K ad H locs lsr hS hV hP hH hl
theorem sx_if_le {x : Int} {off : Int} {tgt : Nat} (hd : decode y.2.1 pc = .ok (.ifCond .le off, 3)) (ht : (pc : Int) + off = (tgt : Int)) (hx0 : am_R x) (kt : x ≤ 0 → Sx d y h1 r tgt ls st h) (kf : 0 < x → Sx d y h1 r (pc + 3) ls st h) : Sx d y h1 r pc ls (.inl x :: st) h := by
  intro p l e s m args below meth c D K ad H locs lsr hS hV hP hH hl
  obtain ⟨hx, hb, hml, hr, hlk, hown, hts, hK, hN, hA⟩ := id hS
  have hz0 : am_R 0 := ⟨by decide, by decide⟩
  refine lv_if_le hx hb hd ht (fun q => ?_) (fun q => ?_)
  · exact kt (am_b_le hx0 hz0 q) p l e s m args below meth c D K ad H locs lsr hS hV hP hH hl
  · exact kf (am_n_le hx0 hz0 q) p l e s m args below meth c D K ad H locs lsr hS hV hP hH hl
theorem sx_tableOut {dflt lo hi : Int} {offs : Array Int} {len : Nat} {x : Int} {tgt : Nat} (hd : decode y.2.1 pc = .ok (.tableswitch dflt lo hi offs, len)) (hx0 : am_R x) (hq : x < lo ∨ hi < x) (ht : (pc : Int) + dflt = (tgt : Int)) (k : Sx d y h1 r tgt ls st h) : Sx d y h1 r pc ls (.inl x :: st) h := by
  intro p l e s m args below meth c D K ad H locs lsr hS hV hP hH hl
  obtain ⟨hx, hb, -⟩ := id hS
  have z := k p l e s m args below meth c D K ad H locs lsr hS hV hP hH hl
  exact lv_tableOut hx hb hd (by rw [am_toInt hx0]; exact hq) ht z
theorem sx_tableIn {dflt lo hi : Int} {offs : Array Int} {len : Nat} {x off : Int} {tgt : Nat} (hd : decode y.2.1 pc = .ok (.tableswitch dflt lo hi offs, len)) (hx0 : am_R x) (h1' : ¬ x < lo) (h2' : ¬ hi < x) (ho : offs[(x - lo).toNat]? = some off) (ht : (pc : Int) + off = (tgt : Int)) (k : Sx d y h1 r tgt ls st h) : Sx d y h1 r pc ls (.inl x :: st) h := by
  intro p l e s m args below meth c D K ad H locs lsr hS hV hP hH hl
  obtain ⟨hx, hb, -⟩ := id hS
  have z := k p l e s m args below meth c D K ad H locs lsr hS hV hP hH hl
  exact lv_tableIn hx hb hd (by rw [am_toInt hx0]; exact h1') (by rw [am_toInt hx0]; exact h2') (by rw [am_toInt hx0]; exact ho) ht z
theorem sx_lookup {dflt : Int} {ps : Array (Int × Int)} {len : Nat} {x off : Int} {tgt : Nat} (hd : decode y.2.1 pc = .ok (.lookupswitch dflt ps, len)) (hx0 : am_R x) (hp : (ps.toList.zip (ps.toList.drop 1)).all (fun (a, next) => a.1 < next.1) = true) (ho : Op.lookupswitch.offset ps.toList dflt x = off) (ht : (pc : Int) + off = (tgt : Int)) (k : Sx d y h1 r tgt ls st h) : Sx d y h1 r pc ls (.inl x :: st) h := by
  intro p l e s m args below meth c D K ad H locs lsr hS hV hP hH hl
  obtain ⟨hx, hb, -⟩ := id hS
  have z := k p l e s m args below meth c D K ad H locs lsr hS hV hP hH hl
  exact lv_lookup hx hb hd hp (by rw [am_toInt hx0]; exact ho) ht z
end SX
end
section
/-! ===== heaps of the small machine ===== -/
def am_u1 (f : Nat → Int) (k : Nat) (x : Int) : Nat → Int := fun c => if c = k then x else f c
def am_u2 (M : am_M) (j k : Nat) (x : Int) : am_M := fun b => if b = j then am_u1 (M j) k x else M b
def am_u3 (M : am_M) (j : Nat) (f : Nat → Int) : am_M := fun b => if b = j then f else M b
def am_U (h : am_H) (u : Nat) (M : am_M) : am_H := (fun a => if a = u then M else h.1 a, h.2)
def am_S (h : am_H) (n v : Nat) : am_H := (h.1, fun a => if a = n then v else h.2 a)
theorem am_U_at (h : am_H) (u : Nat) (M : am_M) : (am_U h u M).1 u = M := by simp [am_U]
theorem am_U_ne (h : am_H) {u v : Nat} (M : am_M) (hv : v ≠ u) : (am_U h u M).1 v = h.1 v := by simp [am_U, hv]
theorem am_U_U (h : am_H) (u : Nat) (M N : am_M) : am_U (am_U h u M) u N = am_U h u N := by
  unfold am_U
  congr 1
  funext a
  by_cases ha : a = u <;> simp [ha]
theorem am_U_id (h : am_H) (u : Nat) : am_U h u (h.1 u) = h := by
  unfold am_U
  apply Prod.ext
  · funext a
    by_cases ha : a = u
    · simp [ha]
    · simp [ha]
  · rfl
theorem am_U_2 (h : am_H) (u : Nat) (M : am_M) : (am_U h u M).2 = h.2 := rfl
theorem am_u1_at (f : Nat → Int) (k : Nat) (x : Int) : am_u1 f k x k = x := by simp [am_u1]
theorem am_u1_ne (f : Nat → Int) {k c : Nat} (x : Int) (h : c ≠ k) : am_u1 f k x c = f c := by simp [am_u1, h]
theorem am_u2_at (M : am_M) (j k : Nat) (x : Int) : am_u2 M j k x j = am_u1 (M j) k x := by simp [am_u2]
theorem am_u2_ne (M : am_M) {j b : Nat} (k : Nat) (x : Int) (h : b ≠ j) : am_u2 M j k x b = M b := by simp [am_u2, h]
theorem am_VH_U {h : am_H} {u : Nat} {M : am_M} (hV : am_VH h) (hM : ∀ j k, am_R (M j k)) : am_VH (am_U h u M) := by
  refine ⟨fun a j k => ?_, hV.2⟩
  by_cases ha : a = u
  · subst ha
    rw [am_U_at]
    exact hM j k
  · rw [am_U_ne h M ha]
    exact hV.1 a j k
theorem am_VH_u2 {h : am_H} {u j k : Nat} {x : Int} (hV : am_VH h) (hx : am_R x) : am_VH (am_U h u (am_u2 (h.1 u) j k x)) := by
  refine am_VH_U hV (fun b c => ?_)
  unfold am_u2
  by_cases hb : b = j
  · rw [if_pos hb]
    unfold am_u1
    by_cases hc : c = k
    · rw [if_pos hc]; exact hx
    · rw [if_neg hc]; exact hV.1 u j c
  · rw [if_neg hb]; exact hV.1 u b c
theorem am_f_of {h h' : am_H} {u j k : Nat} (h1 : h'.1 u j = h.1 u j) (h2 : h'.2 = h.2) : am_f h' u j k = am_f h u j k := by
  unfold am_f
  rw [h1, h2]
theorem am_cell_of {K : ClassId × ClassId × ClassId} {ad : Nat → Nat → Nat} {h h' : am_H} {q : Nat × Nat} (h1 : h'.1 q.1 q.2 = h.1 q.1 q.2) (h2 : h'.2 = h.2) : am_cell K ad h' q = am_cell K ad h q := by
  unfold am_cell am_obj
  simp only [am_f_of h1 h2, h1, h2]
theorem am_u2_cell {K : ClassId × ClassId × ClassId} {ad : Nat → Nat → Nat} {h : am_H} {u j k : Nat} {x : Int} : ∀ q' ∈ am_cs, q' ≠ (u, j) → am_cell K ad (am_U h u (am_u2 (h.1 u) j k x)) q' = am_cell K ad h q' := by
  intro q' _ hne
  refine am_cell_of ?_ rfl
  by_cases hu : q'.1 = u
  · rw [hu, am_U_at]
    refine congrFun (congrArg _ rfl) _ |>.trans ?_
    have hj : q'.2 ≠ j := fun hj => hne (Prod.ext hu hj)
    rw [am_u2_ne _ _ _ hj]
  · rw [am_U_ne _ _ hu]
def am_fl (own : String) (ix : Nat) (T : u_T) (k : Nat) : Prop := Cond.fieldLink own ix (T k).1 (T k).2.1 (T k).2.2.1 ∈ am_GW
def am_ml (own : String) (ix : Nat) (y : am_Y) : Prop := Cond.methodLink own ix y.1 ∈ am_GW
def am_mv (y : am_Y) (n : Nat) : Prop := (Cond.instanceMethod y.1 ∈ am_GW ∧ Cond.selects y.1.cls y.1 y.1 ∈ am_GW ∧ Cond.initialized y.1.cls ∈ am_GW ∧ Cond.code y.1 y.2.1 y.2.2.1 y.2.2.2 ∈ am_GW) ∧ (y.1.cls ≠ "java/lang/invoke/MethodHandle" ∧ y.1.cls ≠ "java/lang/invoke/VarHandle" ∧ (parseMethodDescriptor y.1.desc).map (fun d => d.parameters.length) = some n) ∧ y.2.2.1 ≤ 14
def am_ms (y : am_Y) (n : Nat) : Prop := (Cond.static y.1 ∈ am_GW ∧ Cond.initialized y.1.cls ∈ am_GW ∧ Cond.code y.1 y.2.1 y.2.2.1 y.2.2.2 ∈ am_GW) ∧ (y.1.cls ≠ "java/lang/invoke/MethodHandle" ∧ y.1.cls ≠ "java/lang/invoke/VarHandle" ∧ (parseMethodDescriptor y.1.desc).map (fun d => d.parameters.length) = some n) ∧ y.2.2.1 ≤ 14
theorem am_GW_good : ∀ w ∈ am_GW, (w.onTables && w.keeps) = true ∨ ∃ ty, w = .arrayClass ty := fun w hw => good_of_word (List.mem_filter.mp hw).2
theorem am_GW_of {w : Cond} (i : Nat) (h : lw_tbl[i]? = some w) (hg : goodWord w = true) : w ∈ am_GW := List.mem_filter.mpr ⟨List.mem_of_getElem? h, hg⟩
theorem am_good {y y' : am_Y} (hc : Cond.code y'.1 y'.2.1 y'.2.2.1 y'.2.2.2 ∈ am_GW) : GoodIn (am_w y) (am_w y') := by
  intro w hw
  rcases List.mem_cons.mp hw with rfl | hw
  · exact ⟨List.mem_cons_of_mem _ hc, am_GW_good _ hc⟩
  · exact ⟨List.mem_cons_of_mem _ hw, am_GW_good _ hw⟩
def am_T (u j : Nat) : u_T := if u < 6 then TX0 else if u = 6 then (if j = 0 then TX2 else TX1) else TX3
def am_C (u j : Nat) : String := if u < 6 then RX0 else if u = 6 then (if j = 0 then RX2 else RX1) else RX3
theorem am_cl : ∀ q ∈ am_cs, am_kd q.1 q.2 = 0 → vwCl[am_ci q.1 q.2]? = some (am_C q.1 q.2, am_T q.1 q.2, am_nf q.1 q.2) := by
  have hM : ∀ u j, u < 6 → vwCl[am_ci u j]? = some (am_C u j, am_T u j, am_nf u j) := by
    intro u j hu
    unfold am_ci am_C am_T am_nf
    rw [if_pos hu, if_pos hu, if_pos hu, if_pos hu]
    rfl
  have hs : ∀ q ∈ am_cs, q.1 < 6 ∨ q.1 = 6 ∨ q.1 = 7 := by decide +kernel
  intro q hq hk
  rcases hs q hq with h | h | h
  · exact hM _ _ h
  · obtain ⟨u, j⟩ := q
    cases h
    have hj : j = 0 ∨ j = 2 := by
      unfold am_kd at hk
      by_cases h0 : j = 0
      · exact Or.inl h0
      · rw [if_neg h0, if_pos rfl] at hk
        by_cases h1 : j = 1
        · rw [if_pos h1] at hk; cases hk
        · rw [if_neg h1] at hk
          by_cases h2 : j = 2
          · exact Or.inr h2
          · rw [if_neg h2] at hk; cases hk
    rcases hj with rfl | rfl <;> rfl
  · obtain ⟨u, j⟩ := q
    cases h
    rfl
end
section
theorem am_inX0 : ∀ w ∈ u_ws RX0 TX0 18, w ∈ am_GW := by decide +kernel
theorem am_inX1 : ∀ w ∈ u_ws RX1 TX1 8, w ∈ am_GW := by decide +kernel
theorem am_inX2 : ∀ w ∈ u_ws RX2 TX2 5, w ∈ am_GW := by decide +kernel
theorem am_inX3 : ∀ w ∈ u_ws RX3 TX3 11, w ∈ am_GW := by decide +kernel
theorem am_in : ∀ q : Nat × Nat, ∀ w ∈ u_ws (am_C q.1 q.2) (am_T q.1 q.2) (am_nf q.1 q.2), w ∈ am_GW := by
  intro q
  unfold am_C am_T am_nf
  by_cases hu : q.1 < 6
  · rw [if_pos hu, if_pos hu, if_pos hu]; exact am_inX0
  · rw [if_neg hu, if_neg hu, if_neg hu]
    by_cases h6 : q.1 = 6
    · rw [if_pos h6, if_pos h6, if_pos h6]
      by_cases hj : q.2 = 0
      · rw [if_pos hj, if_pos hj, if_pos hj]; exact am_inX2
      · rw [if_neg hj, if_neg hj, if_neg hj]; exact am_inX1
    · rw [if_neg h6, if_neg h6, if_neg h6]; exact am_inX3
theorem am_cell0 {K : ClassId × ClassId × ClassId} {ad : Nat → Nat → Nat} {h : am_H} {q : Nat × Nat} (hk : am_kd q.1 q.2 = 0) : am_cell K ad h q = .inr (am_ci q.1 q.2, am_obj ad h q.1 q.2) := by
  unfold am_cell; rw [hk]; rfl
theorem am_cell1 {K : ClassId × ClassId × ClassId} {ad : Nat → Nat → Nat} {h : am_H} {q : Nat × Nat} (hk : am_kd q.1 q.2 = 1) : am_cell K ad h q = .inl (K.1, am_len q.1 q.2, .inl (fun k => Int32.ofInt (h.1 q.1 q.2 k))) := by
  unfold am_cell; rw [hk]; rfl
theorem am_cell2 {K : ClassId × ClassId × ClassId} {ad : Nat → Nat → Nat} {h : am_H} {q : Nat × Nat} (hk : am_kd q.1 q.2 = 2) : am_cell K ad h q = .inl (K.2.1, am_len q.1 q.2, .inl (fun k => Int32.ofInt (h.1 q.1 q.2 k))) := by
  unfold am_cell; rw [hk]; rfl
theorem am_cell3 {K : ClassId × ClassId × ClassId} {ad : Nat → Nat → Nat} {h : am_H} {q : Nat × Nat} (hk : am_kd q.1 q.2 = 3) : am_cell K ad h q = .inl (K.2.2, am_len q.1 q.2, .inr (.inr (.inr (.inr (fun k => some (ad (h.2 (2 + k)) 0)))))) := by
  unfold am_cell; rw [hk]; rfl
theorem am_obj_get {ad : Nat → Nat → Nat} {h : am_H} {u j k : Nat} (hk : k < am_nf u j) : (am_obj ad h u j)[k]? = some (am_cv ad (am_f h u j k)) := by
  unfold am_obj
  rw [List.getElem?_map, List.getElem?_range hk]
  rfl
theorem am_obj_len {ad : Nat → Nat → Nat} {h : am_H} {u j : Nat} : (am_obj ad h u j).length = am_nf u j := by
  unfold am_obj
  rw [List.length_map, List.length_range]
theorem am_obj_set {ad : Nat → Nat → Nat} {h h' : am_H} {u j k : Nat} (ho : ∀ c, c ≠ k → c < am_nf u j → am_f h' u j c = am_f h u j c) : (am_obj ad h u j).set k (am_cv ad (am_f h' u j k)) = am_obj ad h' u j := by
  apply List.ext_getElem?
  intro c
  by_cases hc : c < am_nf u j
  · rw [am_obj_get hc]
    by_cases hck : c = k
    · subst hck
      rw [List.getElem?_set_self (by rw [am_obj_len]; exact hc)]
    · rw [List.getElem?_set_ne (Ne.symm hck), am_obj_get hc, ho c hck hc]
  · rw [List.getElem?_eq_none (by rw [List.length_set, am_obj_len]; omega), List.getElem?_eq_none (by rw [am_obj_len]; omega)]
theorem am_upd (f : Nat → Int) (k : Nat) (x : Int) : upd (fun c => Int32.ofInt (f c)) k (Int32.ofInt x) = fun c => Int32.ofInt (am_u1 f k x c) := by
  funext c
  unfold upd am_u1
  by_cases hc : c = k
  · rw [if_pos hc, if_pos hc]
  · rw [if_neg hc, if_neg hc]
section SH
variable {d : Nat} {y : am_Y} {h1 : am_H} {r : Option am_V} {pc : Nat} {ls : List (Option am_V)} {st : List am_V} {h : am_H}
/-- a field is read -/
theorem sx_get {u j ix k : Nat} {v : am_V} (hd : decode y.2.1 pc = .ok (.getfield ix, 3)) (hq : (u, j) ∈ am_cs) (h0 : am_kd u j = 0) (hl : am_fl y.1.cls ix (am_T u j) k) (hk : k < am_nf u j) (hv : am_f h u j k = v) (kk : Sx d y h1 r (pc + 3) ls (v :: st) h) : Sx d y h1 r pc ls (.inr (u, j) :: st) h := by
  subst hv
  intro p l e s m args below meth c D K ad H locs lsr hS hV hP hH hl2
  obtain ⟨hx, hb, hml, hr, hlk, hown, hts, hK, hN, hA⟩ := id hS
  have z := kk p l e s m args below meth c D K ad H locs lsr hS hV hP hH hl2
  have he := am_ws_at (K := K) (ad := ad) (h := h) hq
  rw [am_cell0 h0] at he
  exact va_get (v := am_cv ad (am_f h u j k)) hx hb hts (fun w hw => List.mem_cons_of_mem _ (am_in (u, j) w hw)) hown hK hP (am_ix u j) he (am_cl (u, j) hq h0) k hk (hts _ (List.mem_cons_of_mem _ hl)) (fun _ h9 => h9) (am_obj_get hk) hd z
/-- a field of ints is written -/
theorem sx_put {u j ix k : Nat} {x : Int} (hd : decode y.2.1 pc = .ok (.putfield ix, 3)) (hq : (u, j) ∈ am_cs) (h0 : am_kd u j = 0) (hl : am_fl y.1.cls ix (am_T u j) k) (hk : k < am_nf u j) (hfin : (am_T u j k).2.2.2 = false) (hty : (am_T u j k).2.2.1 = "I") (hv : ∀ w, am_f (am_U h u (am_u2 (h.1 u) j k w)) u j k = .inl w) (ho : ∀ w c, c ≠ k → c < am_nf u j → am_f (am_U h u (am_u2 (h.1 u) j k w)) u j c = am_f h u j c) (hR : am_R x)
    (kk : Sx d y h1 r (pc + 3) ls st (am_U h u (am_u2 (h.1 u) j k x))) : Sx d y h1 r pc ls (.inl x :: .inr (u, j) :: st) h := by
  intro p l e s m args below meth c D K ad H locs lsr hS hV hP hH hl2
  obtain ⟨hx, hb, hml, hr, hlk, hown, hts, hK, hN, hA⟩ := id hS
  have he := am_ws_at (K := K) (ad := ad) (h := h) hq
  rw [am_cell0 h0] at he
  have hc := am_cl (u, j) hq h0
  have hty0 : ∃ ty0 : Nat → FieldType, (∀ k, k < am_nf u j → parseFieldDescriptor (am_T u j k).2.2.1 = some (ty0 k)) ∧ ∀ a, a < am_nf u j → ∀ b, b < am_nf u j → a ≠ b → (am_T u j a).2.1 ≠ (am_T u j b).2.1 := by
    unfold am_T am_nf
    by_cases hu : u < 6
    · simp only [if_pos hu]; exact ⟨tyX0, tyX0_ok, nmX0⟩
    · simp only [if_neg hu]
      by_cases h6 : u = 6
      · simp only [if_pos h6]
        by_cases hj : j = 0
        · simp only [if_pos hj]; exact ⟨tyX2, tyX2_ok, nmX2⟩
        · simp only [if_neg hj]; exact ⟨tyX1, tyX1_ok, nmX1⟩
      · simp only [if_neg h6]; exact ⟨tyX3, tyX3_ok, nmX3⟩
  obtain ⟨ty0, ht1, ht2⟩ := hty0
  refine va_put (v := .int (Int32.ofInt x)) (ty := .int) hx hb hts (fun w hw => List.mem_cons_of_mem _ (am_in (u, j) w hw)) ty0 ht1 ht2 hown hK hP (am_D hA) hV (am_ix u j) he hc k hk (hts _ (List.mem_cons_of_mem _ hl)) (fun _ h9 => h9) hfin (by rw [hty]; decide +kernel) rfl rfl (by rw [am_obj_len]; exact hk) hd (fun H1 locs1 hP1 hD1 hS1 => ?_)
  have hset : (am_obj ad h u j).set k (.int (Int32.ofInt x)) = am_obj ad (am_U h u (am_u2 (h.1 u) j k x)) u j := by
    rw [← am_obj_set (h' := am_U h u (am_u2 (h.1 u) j k x)) (ho x), hv x]
    rfl
  rw [hset, am_ws_set (q := (u, j)) (h' := am_U h u (am_u2 (h.1 u) j k x)) hq (am_cell0 h0) am_u2_cell] at hP1
  exact kk p l e s m args below meth c D K ad H1 locs1 lsr hS hS1 hP1 (am_VH_u2 hH hR) hl2
theorem sx_ild {u j n : Nat} {i : Int} (hd : decode y.2.1 pc = .ok (.iaload, 1)) (hq : (u, j) ∈ am_cs) (h0 : am_kd u j = 1) (hn : am_len u j = n) (hn9 : n ≤ 1000000) (hi0 : 0 ≤ i) (hi9 : i < n) (kk : am_R (h.1 u j i.toNat) → Sx d y h1 r (pc + 1) ls (.inl (h.1 u j i.toNat) :: st) h) : Sx d y h1 r pc ls (.inl i :: .inr (u, j) :: st) h := by
  subst hn
  intro p l e s m args below meth c D K ad H locs lsr hS hV hP hH hl2
  obtain ⟨hx, hb, hml, hr, hlk, hown, hts, hK, hN, hA⟩ := id hS
  have z := kk (hH.1 _ _ _) p l e s m args below meth c D K ad H locs lsr hS hV hP hH hl2
  have he := am_ws_at (K := K) (ad := ad) (h := h) hq
  rw [am_cell1 h0] at he
  obtain ⟨q1, q2⟩ := am_idx hi0 hi9 hn9
  rw [← q2] at z
  exact va_iald hx hb hK hP (am_ix u j) 0 he rfl q1 hd z
theorem sx_cld {u j n : Nat} {i : Int} (hd : decode y.2.1 pc = .ok (.caload, 1)) (hq : (u, j) ∈ am_cs) (h0 : am_kd u j = 2) (hn : am_len u j = n) (hn9 : n ≤ 1000000) (hi0 : 0 ≤ i) (hi9 : i < n) (kk : am_R (h.1 u j i.toNat) → Sx d y h1 r (pc + 1) ls (.inl (h.1 u j i.toNat) :: st) h) : Sx d y h1 r pc ls (.inl i :: .inr (u, j) :: st) h := by
  subst hn
  intro p l e s m args below meth c D K ad H locs lsr hS hV hP hH hl2
  obtain ⟨hx, hb, hml, hr, hlk, hown, hts, hK, hN, hA⟩ := id hS
  have z := kk (hH.1 _ _ _) p l e s m args below meth c D K ad H locs lsr hS hV hP hH hl2
  have he := am_ws_at (K := K) (ad := ad) (h := h) hq
  rw [am_cell2 h0] at he
  obtain ⟨q1, q2⟩ := am_idx hi0 hi9 hn9
  rw [← q2] at z
  exact va_cald hx hb hK hP (am_ix u j) 1 he rfl q1 hd z
theorem sx_ist {u j n : Nat} {i x : Int} (hd : decode y.2.1 pc = .ok (.iastore, 1)) (hq : (u, j) ∈ am_cs) (h0 : am_kd u j = 1) (hn : am_len u j = n) (hn9 : n ≤ 1000000) (hi0 : 0 ≤ i) (hi9 : i < n) (hR : am_R x) (kk : Sx d y h1 r (pc + 1) ls st (am_U h u (am_u2 (h.1 u) j i.toNat x))) : Sx d y h1 r pc ls (.inl x :: .inl i :: .inr (u, j) :: st) h := by
  subst hn
  intro p l e s m args below meth c D K ad H locs lsr hS hV hP hH hl2
  obtain ⟨hx, hb, hml, hr, hlk, hown, hts, hK, hN, hA⟩ := id hS
  have he := am_ws_at (K := K) (ad := ad) (h := h) hq
  rw [am_cell1 h0] at he
  obtain ⟨q1, q2⟩ := am_idx hi0 hi9 hn9
  refine va_iast hx hb hK hP (am_D hA) hV (am_ix u j) 0 he rfl q1 hd (fun H1 locs1 hP1 hD1 hS1 => ?_)
  rw [q2, am_upd, am_ws_set (q := (u, j)) (h' := am_U h u (am_u2 (h.1 u) j i.toNat x)) hq (by rw [am_cell1 h0]; simp only [am_U_at, am_u2_at]) am_u2_cell] at hP1
  exact kk p l e s m args below meth c D K ad H1 locs1 lsr hS hS1 hP1 (am_VH_u2 hH hR) hl2
theorem sx_cst {u j n : Nat} {i x : Int} (hd : decode y.2.1 pc = .ok (.castore, 1)) (hq : (u, j) ∈ am_cs) (h0 : am_kd u j = 2) (hn : am_len u j = n) (hn9 : n ≤ 1000000) (hi0 : 0 ≤ i) (hi9 : i < n) (hx0 : 0 ≤ x) (hx9 : x ≤ 65535) (kk : Sx d y h1 r (pc + 1) ls st (am_U h u (am_u2 (h.1 u) j i.toNat x))) : Sx d y h1 r pc ls (.inl x :: .inl i :: .inr (u, j) :: st) h := by
  subst hn
  intro p l e s m args below meth c D K ad H locs lsr hS hV hP hH hl2
  obtain ⟨hx, hb, hml, hr, hlk, hown, hts, hK, hN, hA⟩ := id hS
  have he := am_ws_at (K := K) (ad := ad) (h := h) hq
  rw [am_cell2 h0] at he
  obtain ⟨q1, q2⟩ := am_idx hi0 hi9 hn9
  refine va_cast hx hb hK hP (am_D hA) hV (am_ix u j) 1 he rfl q1 hd (fun H1 locs1 hP1 hD1 hS1 => ?_)
  have hnar : vp_nar .char (Int32.ofInt x) = Int32.ofInt x := am_i2c hx0 hx9
  rw [hnar, q2, am_upd, am_ws_set (q := (u, j)) (h' := am_U h u (am_u2 (h.1 u) j i.toNat x)) hq (by rw [am_cell2 h0]; simp only [am_U_at, am_u2_at]) am_u2_cell] at hP1
  exact kk p l e s m args below meth c D K ad H1 locs1 lsr hS hS1 hP1 (am_VH_u2 hH ⟨by omega, by omega⟩) hl2
end SH
end
section
theorem am_VH_S {h : am_H} {n v : Nat} (hV : am_VH h) (hv : v < 6) : am_VH (am_S h n v) := by
  refine ⟨hV.1, fun a => ?_⟩
  show (if a = n then v else h.2 a) < 6
  split
  · exact hv
  · exact hV.2 a
/-- heaps that agree where the cells look -/
def am_wd (u j : Nat) : Nat := if am_kd u j = 0 then (if u < 6 then 5 else am_nf u j) else am_len u j
def am_ag (h h2 : am_H) : Prop := h2.2 = h.2 ∧ ∀ q ∈ am_cs, ∀ k, k < am_wd q.1 q.2 → h2.1 q.1 q.2 k = h.1 q.1 q.2 k
theorem am_ofFn {n : Nat} {f g : Nat → Int32} (h : ∀ k, k < n → f k = g k) (c : ClassId) : vp_cell c (n, .inl f) = vp_cell c (n, .inl g) := by
  rw [vp_cell_i, vp_cell_i]
  unfold arrV
  congr 2
  funext k
  show Value.int (f k.val) = Value.int (g k.val)
  rw [h k.val k.isLt]
theorem am_agP {D : va_G} {K : ClassId × ClassId × ClassId} {ad : Nat → Nat → Nat} {h h2 : am_H} {H : Heap} (ha : am_ag h h2) (hP : va_P D vwCl (am_ws K ad h) H) : va_P D vwCl (am_ws K ad h2) H := by
  intro k p hp
  have hp0 := hp
  unfold am_ws at hp
  rw [List.getElem?_map] at hp
  cases hz : am_cs[k]? with
  | none => rw [hz] at hp; cases hp
  | some q =>
    rw [hz] at hp
    cases hp
    have hm : q ∈ am_cs := List.mem_of_getElem? hz
    have h0 := hP k (ad q.1 q.2, am_cell K ad h q) (by unfold am_ws; rw [List.getElem?_map, hz]; rfl)
    have hw := ha.2 q hm
    have hk4 : am_kd q.1 q.2 = 0 ∨ am_kd q.1 q.2 = 1 ∨ am_kd q.1 q.2 = 2 ∨ am_kd q.1 q.2 = 3 := by
      unfold am_kd
      repeat' split
      all_goals simp
    show va_at D vwCl (ad q.1 q.2, am_cell K ad h2 q) H
    rcases hk4 with hk | hk | hk | hk
    · have e : am_cell K ad h2 q = am_cell K ad h q := by
        rw [am_cell0 hk, am_cell0 hk]
        unfold am_wd at hw
        rw [if_pos hk] at hw
        have e2 : am_obj ad h2 q.1 q.2 = am_obj ad h q.1 q.2 := by
          unfold am_obj
          apply List.map_congr_left
          intro k hk9
          have hk9 := List.mem_range.mp hk9
          congr 1
          unfold am_f
          by_cases hu : q.1 < 6
          · rw [if_pos hu, if_pos hu]
            rw [if_pos hu] at hw
            unfold am_fM
            split <;> first | rfl | rw [hw _ (by decide)]
          · rw [if_neg hu, if_neg hu]
            rw [if_neg hu] at hw
            by_cases h6 : q.1 = 6
            · rw [if_pos h6, if_pos h6]
              by_cases hj : q.2 = 0
              · rw [if_pos hj, if_pos hj, ha.1]
                unfold am_fG
                split <;> first | rfl | (rw [hw 4 (by unfold am_nf; rw [if_neg hu, if_pos h6, if_pos hj]; decide)])
              · rw [if_neg hj, if_neg hj]
                unfold am_fO
                split
                · rfl
                · rw [hw _ hk9]
            · rw [if_neg h6, if_neg h6]
              have hnf : am_nf q.1 q.2 = 11 := by unfold am_nf; rw [if_neg hu, if_neg h6]
              rw [hnf] at hw
              unfold am_fX
              split <;> first | rfl | rw [hw _ (by decide)]
        rw [e2]
      rw [e]
      exact h0
    · rw [am_cell1 hk] at h0 ⊢
      show H[ad q.1 q.2]? = _
      have h0 : H[ad q.1 q.2]? = _ := h0
      rw [h0]
      congr 1
      refine am_ofFn (fun k hk9 => ?_) _
      rw [hw k (by unfold am_wd; rw [if_neg (by rw [hk]; decide)]; exact hk9)]
    · rw [am_cell2 hk] at h0 ⊢
      show H[ad q.1 q.2]? = _
      have h0 : H[ad q.1 q.2]? = _ := h0
      rw [h0]
      congr 1
      refine am_ofFn (fun k hk9 => ?_) _
      rw [hw k (by unfold am_wd; rw [if_neg (by rw [hk]; decide)]; exact hk9)]
    · have e : am_cell K ad h2 q = am_cell K ad h q := by
        rw [am_cell3 hk, am_cell3 hk, ha.1]
      rw [e]
      exact h0
section SC
variable {d : Nat} {y : am_Y} {h1 : am_H} {r : Option am_V} {pc : Nat} {ls : List (Option am_V)} {st : List am_V} {h : am_H}
theorem sx_sim {h2 : am_H} (ha : am_ag h h2) (hv : am_VH h → am_VH h2) (kk : Sx d y h1 r pc ls st h2) : Sx d y h1 r pc ls st h := by
  intro p l e s m args below meth c D K ad H locs lsr hS hV hP hH hl2
  exact kk p l e s m args below meth c D K ad H locs lsr hS hV (am_agP ha hP) (hv hH) hl2
/-- what a heap of the machine keeps to -/
theorem sx_vh (kk : am_VH h → Sx d y h1 r pc ls st h) : Sx d y h1 r pc ls st h := by
  intro p l e s m args below meth c D K ad H locs lsr hS hV hP hH hl2
  exact kk hH p l e s m args below meth c D K ad H locs lsr hS hV hP hH hl2
/-- fewer locals are known -/
theorem sx_ls {ls2 : List (Option am_V)} (hls : ∀ (i : Nat) (v : am_V), ls2[i]? = some (some v) → ls[i]? = some (some v)) (kk : Sx d y h1 r pc ls2 st h) : Sx d y h1 r pc ls st h := by
  intro p l e s m args below meth c D K ad H locs lsr hS hV hP hH hl2
  exact kk p l e s m args below meth c D K ad H locs lsr hS hV hP hH ⟨hl2.1, hl2.2.1, fun i v hi => hl2.2.2 i v (hls i v hi)⟩
theorem sx_iret {x : Int} (hd : decode y.2.1 pc = .ok (.ireturn, 1)) (hr9 : y.2.2.2 = some .int) (e1 : r = some (.inl x)) (e2 : h1 = h) : Sx d y h1 r pc ls [.inl x] h := by
  subst e1; subst e2
  intro p l e s m args below meth c D K ad H locs lsr hS hV hP hH hl2
  obtain ⟨hx, hb, hml, hr, hlk, hown, hts, hK, hN, hA⟩ := id hS
  exact W.iret hx hb (hr.trans hr9) (fun t ht hW => ⟨rfl, by rw [ht]; exact hP, hH, hV.F ht⟩) hV.2.2 hd hlk
theorem sx_zret {x : Int} (hd : decode y.2.1 pc = .ok (.ireturn, 1)) (hr9 : y.2.2.2 = some .boolean) (h01 : x = 0 ∨ x = 1) (e1 : r = some (.inl x)) (e2 : h1 = h) : Sx d y h1 r pc ls [.inl x] h := by
  subst e1; subst e2
  intro p l e s m args below meth c D K ad H locs lsr hS hV hP hH hl2
  obtain ⟨hx, hb, hml, hr, hlk, hown, hts, hK, hN, hA⟩ := id hS
  exact W.zret hx hb (hr.trans hr9) (by rcases h01 with rfl | rfl <;> rfl) (fun t ht hW => ⟨rfl, by rw [ht]; exact hP, hH, hV.F ht⟩) hV.2.2 hd hlk
theorem sx_vret (hd : decode y.2.1 pc = .ok (.return_, 1)) (hr9 : y.2.2.2 = none) (e1 : r = none) (e2 : h1 = h) : Sx d y h1 r pc ls [] h := by
  subst e1; subst e2
  intro p l e s m args below meth c D K ad H locs lsr hS hV hP hH hl2
  obtain ⟨hx, hb, hml, hr, hlk, hown, hts, hK, hN, hA⟩ := id hS
  exact W.vret hx hb (hr.trans hr9) (fun t ht hW => ⟨rfl, by rw [ht]; exact hP, hH, hV.F ht⟩) hV.2.2 hd hlk
theorem sx_aret {q : Nat × Nat} {C : String} (hd : decode y.2.1 pc = .ok (.areturn, 1)) (hr9 : y.2.2.2 = some (.object C)) (e1 : r = some (.inr q)) (e2 : h1 = h) : Sx d y h1 r pc ls [.inr q] h := by
  subst e1; subst e2
  intro p l e s m args below meth c D K ad H locs lsr hS hV hP hH hl2
  obtain ⟨hx, hb, hml, hr, hlk, hown, hts, hK, hN, hA⟩ := id hS
  exact W.aret hx hb (hr.trans hr9) (Or.inl ⟨C, rfl⟩) (Or.inr ⟨_, rfl⟩) (fun t ht hW => ⟨rfl, by rw [ht]; exact hP, hH, hV.F ht⟩) hV.2.2 hd hlk
end SC
theorem am_sl (ad : Nat → Nat → Nat) (as : List am_V) : lg_sl (as.map (am_cv ad)) = as.map (fun v => Slot.val (am_cv ad v)) := by
  induction as with
  | nil => rfl
  | cons a l ih =>
    show (if (am_cv ad a).category = 2 then [Slot.val (am_cv ad a), .second] else [Slot.val (am_cv ad a)]) ++ lg_sl (l.map (am_cv ad)) = _
    rw [if_neg (by rw [am_cat]; decide), ih]
    rfl
theorem Ct_of {d : Nat} {y : am_Y} {as : List am_V} {r : Option am_V} {h h1 : am_H} (hp : plainName y.1.cls = true) (hlen : as.length ≤ y.2.2.1) (kk : Sx d y h1 r 0 (as.map some ++ List.replicate (y.2.2.1 - as.length) none) [] h) : Ct d y as r h h1 := by
  intro l D K ad
  refine Met.ofW (cc := y.2.1) (maxL := y.2.2.1) (ret := y.2.2.2) hp rfl ?_
  intro p e s m args below meth c s₁ B hml hv
  obtain ⟨rfl, hP, hK, hN, hV, hA⟩ := hv
  have hl := lv_entry (as.map (am_cv ad)) (n := y.2.2.1) (by rw [am_sl, List.length_map]; exact hlen)
  rw [lg_entry_eq]
  refine kk p l e s m _ below meth c D K ad s.heap [] _ ⟨B.exec, B.bytes, hml, B.returns, B.notSynchronized, findClass_of_methodNamed B.named, atoms_spec (ws := am_w y) B.pre, hK, hN, hA⟩ va_S.rf hP hV ⟨hl.1, hl.2.1, fun i v hi => ?_⟩
  rw [am_sl]
  by_cases hia : i < as.length
  · rw [List.getElem?_append_left (by simpa using hia), List.getElem?_map] at hi
    have h2 : as[i]? = some v := by
      cases hz : as[i]? with
      | none => rw [hz] at hi; cases hi
      | some w => rw [hz] at hi; exact congrArg some (Option.some.inj (Option.some.inj hi))
    rw [List.getElem?_toArray, List.getElem?_append_left (by simpa using hia), List.getElem?_map, h2]
    rfl
  · rw [List.getElem?_append_right (by simpa using hia)] at hi
    have h3 := List.mem_of_getElem? hi
    have h4 := List.eq_of_mem_replicate h3
    cases h4
end
section
section SI
variable {d : Nat} {y : am_Y} {h1 : am_H} {r : Option am_V} {pc : Nat} {ls : List (Option am_V)} {st : List am_V} {h : am_H}
theorem am_room (ad : Nat → Nat → Nat) (rest : List am_V) : ((rest.map (am_cv ad)).map fun v => v.category).sum = rest.length := by
  induction rest with
  | nil => rfl
  | cons a l ih =>
    simp only [List.map_cons, List.sum_cons, List.length_cons, am_cat, ih]
    omega
/-- behind a call of the machine -/
theorem am_back {p : Program} {l : Launch} {e : Env} {R : Room} {s : State} {m : MethodId} {args : Array Value} {below : List Frame} {meth : Method} {c : Code} {H H0 : Heap} {locs : List Loc} {Q : State → Prop} {pc : Nat} {lsr : Array Slot} {st0 rest : List Value} {D : va_G} {K : ClassId × ClassId × ClassId} {ad : Nat → Nat → Nat} {h' : am_H} {r' : Option am_V} {a : Array Value}
    (hr : va_Run p l e R s m args below meth c H locs 0 0 0 0 (F0 m pc lsr st0) rest (am_Q D K ad h' r' a) (am_A ad)) (hS : va_S (am_A ad) H0 H locs)
    (kk : ∀ (H1 : Heap) (locs1 : List Loc), va_P D vwCl (am_ws K ad h') H1 → am_VH h' → va_S (am_A ad) H0 H1 locs1 → W p l e R s m args below meth c H1 locs1 0 0 Q (F0 m (pc + 3) lsr ((r'.map (am_cv ad)).toList ++ rest))) : W p l e R s m args below meth c H locs 0 0 Q (F0 m pc lsr st0) := by
  intro T hT X
  obtain ⟨v, st₀, t, T', L, h0, X', hL, e1, e2, ⟨hv, hp, hvh, hz, hk⟩, st⟩ := hr T hT X
  cases hv
  rw [h0] at hz hk
  obtain ⟨t2, a1, b1⟩ := kk T'.heap (locs ++ L) (by rw [e1]; exact hp) hvh ⟨Nat.le_trans hS.1 (by rw [e1]; exact hz), fun q h1 h2 => by rw [e1, hk q (Nat.lt_of_lt_of_le h1 hS.1) h2]; exact hS.2.1 q h1 h2, fun q hq => by
      rcases List.mem_append.mp hq with h | h
      · exact hS.2.2 q h
      · exact hL q h⟩ T' rfl X'
  exact ⟨t2, st t2 a1, b1⟩
theorem am_blind {D : va_G} {K : ClassId × ClassId × ClassId} {ad : Nat → Nat → Nat} {h : am_H} {av : List Value} : FrameBlind (va_Pc av (am_Pre D K ad h)) := by
  intro a U g mk q
  obtain ⟨q0, qP, qK, qN, qV, qA⟩ := q
  exact ⟨q0, qP, va_K.moved (u := U) (U := U.calling g mk a) (Vm.Alike.refl U.vm) qK, fun w hw => va_Nw.same (u := U) (U := U.calling g mk a) (by
    have : ∀ w ∈ am_NW, w.onTables = true := by decide +kernel
    exact this w hw) rfl (qN w hw), qV, qA⟩
theorem am_NW_warm {s U : State} (hW : s.WarmedH U.vm) (h : ∀ w ∈ am_NW, va_Nw w s) : ∀ w ∈ am_NW, va_Nw w U := by
  intro w hw
  have h0 := h w hw
  simp only [am_NW, List.mem_cons, List.not_mem_nil, or_false] at hw
  rcases hw with rfl | rfl | rfl | rfl <;> exact va_Nw.warmM hW h0
def am_ob (u j : Nat) (C : String) : Prop := (u, j) ∈ am_cs ∧ am_kd u j = 0 ∧ am_C u j = C
theorem am_obM {u : Nat} (hu : u < 6) : am_ob u 0 RX0 := ⟨am_inM u hu 0 (by decide), rfl, by unfold am_C; rw [if_pos hu]⟩
theorem am_obG : am_ob 6 0 RX2 := ⟨am_inG 0 (by decide), rfl, rfl⟩
theorem am_obO : am_ob 6 2 RX1 := ⟨am_inG 2 (by decide), rfl, rfl⟩
theorem am_obX : am_ob 7 0 RX3 := ⟨am_inX 0 (by decide), rfl, rfl⟩
theorem am_rmok {d d' n : Nat} {y' : am_Y} (hd : d' + 1 ≤ d) (hm : y'.2.2.1 ≤ 14) : (am_rm d').frames + 1 ≤ (am_rm d).frames ∧ 8 + (y'.2.2.1 + 11) + (am_rm d').locals ≤ (am_rm d).locals := by
  refine ⟨hd, ?_⟩
  show 8 + (y'.2.2.1 + 11) + 33 * d' ≤ 33 * d
  omega
theorem sx_callV {y' : am_Y} {u j n ix d' : Nat} {as rest : List am_V} {r' : Option am_V} {h' : am_H} (hd : decode y.2.1 pc = .ok (.invokevirtual ix, 3)) (hl : am_ml y.1.cls ix y') (hm : am_mv y' n) (hc : Ct d' y' (.inr (u, j) :: as) r' h h') (hst : st = as.reverse ++ .inr (u, j) :: rest) (hob : am_ob u j y'.1.cls) (hn : as.length = n) (hdd : d' + 1 ≤ d) (hroom : rest.length ≤ 8)
    (kk : Sx d y h1 r (pc + 3) ls (r'.toList ++ rest) h') : Sx d y h1 r pc ls st h := by
  subst hst
  intro p l e s m args below meth c D K ad H locs lsr hS hV hP hH hl2
  obtain ⟨hx, hb, hml, hr, hlk, hown, hts, hK, hN, hA⟩ := id hS
  obtain ⟨⟨m1, m2, m3, m4⟩, hdd2, hml9⟩ := hm
  have ok : ∀ w ∈ am_GW, w.before args s = true := fun w hw => hts w (List.mem_cons_of_mem _ hw)
  have cb := callB_of (R := am_rm d) (s := s) (args := args) (own := y.1.cls) (index := ix) (y := y'.1) (bytes := y'.2.1) (maxL := y'.2.2.1) (ret := y'.2.2.2) (ws := am_w y') (rm := am_rm d') (mc := 0) (ms := 0) n hts (am_good m4) rfl rfl rfl (ok _ m3) (ok _ hl) hdd2 (am_rmok (n := n) hdd hml9)
  obtain ⟨o1, o2, o3⟩ := hob
  have he := am_ws_at (K := K) (ad := ad) (h := h) o1
  rw [am_cell0 o2] at he
  have hrc := va_recv hK hP (am_cl (u, j) o1 o2) he
  have hrc : ∃ cell : Cell, H[ad u j]? = some cell ∧ cell.vm.isStatics = false ∧ s.vm.findClass y'.1.cls = some cell.cls := by rw [← o3]; exact hrc
  refine am_back (va_runV (As := as.map (am_cv ad)) (rest := rest.map (am_cv ad)) (nL := y.2.2.1) (n := n) (b := ad u j) ⟨hx, hb, hml, hown, hts⟩ (hc l D K ad) ⟨cb, ok _ m1, ok _ m2⟩ ⟨am_blind, hrc, fun U hU hW => ⟨rfl, by rw [hU]; exact hP, va_K.moved hW.alike hK, am_NW_warm hW hN, hH, hA⟩⟩ rfl (by rw [List.length_map]; exact hn) hl2.1 (by simp [am_cv]) (lv_room (by rw [am_room]; exact hroom)) hd ⟨Nat.le_refl _, Nat.le_refl _⟩) hV (fun H1 locs1 hP1 hH1 hS1 => ?_)
  have z := kk p l e s m args below meth c D K ad H1 locs1 lsr hS hS1 hP1 hH1 hl2
  rw [List.map_append] at z
  cases r' <;> exact z
theorem sx_callS {y' : am_Y} {n ix d' : Nat} {as rest : List am_V} {r' : Option am_V} {h' : am_H} (hd : decode y.2.1 pc = .ok (.invokestatic ix, 3)) (hl : am_ml y.1.cls ix y') (hm : am_ms y' n) (hc : Ct d' y' as r' h h') (hst : st = as.reverse ++ rest) (hn : as.length = n) (hdd : d' + 1 ≤ d) (hroom : rest.length ≤ 8)
    (kk : Sx d y h1 r (pc + 3) ls (r'.toList ++ rest) h') : Sx d y h1 r pc ls st h := by
  subst hst
  intro p l e s m args below meth c D K ad H locs lsr hS hV hP hH hl2
  obtain ⟨hx, hb, hml, hr, hlk, hown, hts, hK, hN, hA⟩ := id hS
  obtain ⟨⟨m1, m3, m4⟩, hdd2, hml9⟩ := hm
  have ok : ∀ w ∈ am_GW, w.before args s = true := fun w hw => hts w (List.mem_cons_of_mem _ hw)
  have cb := callB_of (R := am_rm d) (s := s) (args := args) (own := y.1.cls) (index := ix) (y := y'.1) (bytes := y'.2.1) (maxL := y'.2.2.1) (ret := y'.2.2.2) (ws := am_w y') (rm := am_rm d') (mc := 0) (ms := 0) n hts (am_good m4) rfl rfl rfl (ok _ m3) (ok _ hl) hdd2 (am_rmok (n := n) hdd hml9)
  refine am_back (va_runS (As := as.map (am_cv ad)) (rest := rest.map (am_cv ad)) (nL := y.2.2.1) (n := n) ⟨hx, hb, hml, hown, hts⟩ (hc l D K ad) ⟨cb, ok _ m1⟩ ⟨am_blind, fun U hU hW => ⟨rfl, by rw [hU]; exact hP, va_K.moved hW.alike hK, am_NW_warm hW hN, hH, hA⟩⟩ rfl (by rw [List.length_map]; exact hn) hl2.1 (by simp) (lv_room (by rw [am_room]; exact hroom)) hd ⟨Nat.le_refl _, Nat.le_refl _⟩) hV (fun H1 locs1 hP1 hH1 hS1 => ?_)
  have z := kk p l e s m args below meth c D K ad H1 locs1 lsr hS hS1 hP1 hH1 hl2
  rw [List.map_append] at z
  cases r' <;> exact z
theorem sx_callN {y' : am_Y} {n ix d' : Nat} {host : String} {as rest : List am_V} {r' : Option am_V} {h' : am_H} (hd : decode y.2.1 pc = .ok (.invokestatic ix, 3)) (hl : Cond.methodLinkNest y.1.cls ix y'.1 host ∈ am_NW) (hm : am_ms y' n) (hc : Ct d' y' as r' h h') (hst : st = as.reverse ++ rest) (hn : as.length = n) (hdd : d' + 1 ≤ d) (hroom : rest.length ≤ 8)
    (kk : Sx d y h1 r (pc + 3) ls (r'.toList ++ rest) h') : Sx d y h1 r pc ls st h := by
  subst hst
  intro p l e s m args below meth c D K ad H locs lsr hS hV hP hH hl2
  obtain ⟨hx, hb, hml, hr, hlk, hown, hts, hK, hN, hA⟩ := id hS
  obtain ⟨⟨m1, m3, m4⟩, hdd2, hml9⟩ := hm
  have ok : ∀ w ∈ am_GW, w.before args s = true := fun w hw => hts w (List.mem_cons_of_mem _ hw)
  have cb := va_cnB (R := am_rm d) (s := s) (args := args) (own := y.1.cls) (host := host) (index := ix) (y := y'.1) (bytes := y'.2.1) (maxL := y'.2.2.1) (ret := y'.2.2.2) (ws := am_w y') (rm := am_rm d') (mc := 0) (ms := 0) n hts (am_good m4) rfl rfl rfl (hN _ hl) (ok _ m3) hdd2 (am_rmok (n := n) hdd hml9)
  refine am_back (va_runSN (As := as.map (am_cv ad)) (rest := rest.map (am_cv ad)) (nL := y.2.2.1) (n := n) ⟨hx, hb, hml, hown, hts⟩ (hc l D K ad) ⟨cb, ok _ m1, trivial⟩ ⟨am_blind, fun U hU hW => ⟨rfl, by rw [hU]; exact hP, va_K.moved hW.alike hK, am_NW_warm hW hN, hH, hA⟩⟩ rfl (by rw [List.length_map]; exact hn) hl2.1 (by simp) (lv_room (by rw [am_room]; exact hroom)) hd ⟨Nat.le_refl _, Nat.le_refl _⟩) hV (fun H1 locs1 hP1 hH1 hS1 => ?_)
  have z := kk p l e s m args below meth c D K ad H1 locs1 lsr hS hS1 hP1 hH1 hl2
  rw [List.map_append] at z
  cases r' <;> exact z
end SI
end
section
section SJ
variable {d : Nat} {y : am_Y} {h1 : am_H} {r : Option am_V} {pc : Nat} {ls : List (Option am_V)} {st : List am_V} {h : am_H}
/-- history's elements -/
theorem sx_ald {i : Int} (hd : decode y.2.1 pc = .ok (.aaload, 1)) (hi0 : 0 ≤ i) (hi9 : i < 4) (kk : h.2 (2 + i.toNat) < 6 → Sx d y h1 r (pc + 1) ls (.inr (h.2 (2 + i.toNat), 0) :: st) h) : Sx d y h1 r pc ls (.inl i :: .inr (6, 1) :: st) h := by
  intro p l e s m args below meth c D K ad H locs lsr hS hV hP hH hl2
  obtain ⟨hx, hb, hml, hr, hlk, hown, hts, hK, hN, hA⟩ := id hS
  have z := kk (hH.2 _) p l e s m args below meth c D K ad H locs lsr hS hV hP hH hl2
  have he := am_ws_at (K := K) (ad := ad) (h := h) (am_inG 1 (by decide))
  rw [am_cell3 rfl] at he
  obtain ⟨q1, q2⟩ := am_idx (n := 4) hi0 (by omega) (by decide)
  refine va_aldq hx hb hK hP (am_ix 6 1) 2 he rfl q1 hd ?_
  rw [q2]
  exact z
theorem am_S_cell {K : ClassId × ClassId × ClassId} {ad : Nat → Nat → Nat} {h : am_H} {k v : Nat} (j : Nat) (hj : (j = 1 ∧ 2 ≤ k) ∨ (j = 0 ∧ k < 2)) : ∀ q' ∈ am_cs, q' ≠ (6, j) → am_cell K ad (am_S h k v) q' = am_cell K ad h q' := by
  intro q' hm hne
  have hcase : ∀ q ∈ am_cs, q.1 < 6 ∨ q.1 = 7 ∨ q = (6, 0) ∨ q = (6, 1) ∨ q = (6, 2) ∨ q = (6, 3) := by decide +kernel
  have hf : ∀ u b c, u ≠ 6 ∨ b ≠ 0 → am_f (am_S h k v) u b c = am_f h u b c := by
    intro u b c hub
    unfold am_f
    by_cases hu : u < 6
    · rw [if_pos hu, if_pos hu]; rfl
    · rw [if_neg hu, if_neg hu]
      by_cases h6 : u = 6
      · rw [if_pos h6, if_pos h6]
        rcases hub with q | q
        · exact absurd h6 q
        · rw [if_neg q, if_neg q]; rfl
      · rw [if_neg h6, if_neg h6]; rfl
  have hob : ∀ u b, u ≠ 6 ∨ b ≠ 0 → am_obj ad (am_S h k v) u b = am_obj ad h u b := by
    intro u b hub
    unfold am_obj
    exact List.map_congr_left (fun c _ => by rw [hf u b c hub])
  have h67 : ∀ q : Nat × Nat, q.1 ≠ 6 → am_kd q.1 q.2 ≠ 3 → am_cell K ad (am_S h k v) q = am_cell K ad h q := by
    intro q hq hk
    have hk4 : am_kd q.1 q.2 = 0 ∨ am_kd q.1 q.2 = 1 ∨ am_kd q.1 q.2 = 2 ∨ am_kd q.1 q.2 = 3 := by
      unfold am_kd
      repeat' split
      all_goals simp
    rcases hk4 with hk4 | hk4 | hk4 | hk4
    · rw [am_cell0 hk4, am_cell0 hk4, hob _ _ (Or.inl hq)]
    · rw [am_cell1 hk4, am_cell1 hk4]; rfl
    · rw [am_cell2 hk4, am_cell2 hk4]; rfl
    · exact absurd hk4 hk
  have hk3 : ∀ u b, u ≠ 6 → am_kd u b ≠ 3 := by
    intro u b hu
    unfold am_kd
    by_cases hb : b = 0
    · rw [if_pos hb]; decide
    · rw [if_neg hb, if_neg hu]
      repeat' split
      all_goals decide
  rcases hcase q' hm with hc | hc | rfl | rfl | rfl | rfl
  · exact h67 q' (by omega) (hk3 _ _ (by omega))
  · exact h67 q' (by omega) (hk3 _ _ (by omega))
  · rcases hj with ⟨rfl, hk⟩ | ⟨rfl, hk⟩
    · rw [am_cell0 rfl, am_cell0 rfl]
      have e : am_obj ad (am_S h k v) 6 0 = am_obj ad h 6 0 := by
        unfold am_obj
        apply List.map_congr_left
        intro c _
        congr 1
        show am_fG (h.1 6 0) (am_S h k v).2 6 c = am_fG (h.1 6 0) h.2 6 c
        unfold am_fG am_S
        split <;> first | rfl | (simp only; rw [if_neg (by omega)])
      rw [e]
    · exact absurd rfl hne
  · rcases hj with ⟨rfl, hk⟩ | ⟨rfl, hk⟩
    · exact absurd rfl hne
    · rw [am_cell3 rfl, am_cell3 rfl]
      unfold am_S
      simp only
      have e : (fun c => some (ad (if 2 + c = k then v else h.2 (2 + c)) 0)) = (fun c => some (ad (h.2 (2 + c)) 0)) := by
        funext c
        rw [if_neg (by omega)]
      rw [e]
  · rw [am_cell0 rfl, am_cell0 rfl, hob _ _ (Or.inr (by decide))]
  · rw [am_cell2 rfl, am_cell2 rfl]; rfl
theorem sx_ast {i : Int} {v : Nat} (hd : decode y.2.1 pc = .ok (.aastore, 1)) (hi0 : 0 ≤ i) (hi9 : i < 4) (hv : v < 6) (kk : Sx d y h1 r (pc + 1) ls st (am_S h (2 + i.toNat) v)) : Sx d y h1 r pc ls (.inr (v, 0) :: .inl i :: .inr (6, 1) :: st) h := by
  intro p l e s m args below meth c D K ad H locs lsr hS hV hP hH hl2
  obtain ⟨hx, hb, hml, hr, hlk, hown, hts, hK, hN, hA⟩ := id hS
  have he := am_ws_at (K := K) (ad := ad) (h := h) (am_inG 1 (by decide))
  rw [am_cell3 rfl] at he
  have hev := am_ws_at (K := K) (ad := ad) (h := h) (am_inM v hv 0 (by decide))
  rw [am_cell0 rfl] at hev
  have hcl := am_cl (v, 0) (am_inM v hv 0 (by decide)) rfl
  obtain ⟨q1, q2⟩ := am_idx (n := 4) hi0 (by omega) (by decide)
  refine va_astq (r := (am_C v 0, am_T v 0, am_nf v 0)) hx hb hK hP (am_D hA) hV (am_ix 6 1) 2 (am_ix v 0) (am_ci v 0) he (by unfold am_C; rw [if_pos hv]; rfl) hev hcl q1 hd (fun H1 locs1 hP1 hD1 hS1 => ?_)
  have hfun : va_up (fun k => some (ad (h.2 (2 + k)) 0)) i.toNat (some (ad v 0)) = fun k => some (ad ((am_S h (2 + i.toNat) v).2 (2 + k)) 0) := by
    funext c
    unfold va_up am_S
    by_cases hc : c = i.toNat
    · subst hc
      simp
    · rw [if_neg hc]
      simp only
      rw [if_neg (by omega)]
  rw [q2, hfun, am_ws_set (q := (6, 1)) (h' := am_S h (2 + i.toNat) v) (am_inG 1 (by decide)) (am_cell3 rfl) (am_S_cell 1 (Or.inl ⟨rfl, by omega⟩))] at hP1
  exact kk p l e s m args below meth c D K ad H1 locs1 lsr hS hS1 hP1 (am_VH_S hH hv) hl2
/-- present and trial -/
theorem sx_putr {ix k v : Nat} (hd : decode y.2.1 pc = .ok (.putfield ix, 3)) (hl : am_fl y.1.cls ix TX2 (k + 2)) (hk : k < 2) (hv : v < 6) (kk : Sx d y h1 r (pc + 3) ls st (am_S h k v)) : Sx d y h1 r pc ls (.inr (v, 0) :: .inr (6, 0) :: st) h := by
  intro p l e s m args below meth c D K ad H locs lsr hS hV hP hH hl2
  obtain ⟨hx, hb, hml, hr, hlk, hown, hts, hK, hN, hA⟩ := id hS
  have he := am_ws_at (K := K) (ad := ad) (h := h) (am_inG 0 (by decide))
  rw [am_cell0 rfl] at he
  have hc := am_cl (6, 0) (am_inG 0 (by decide)) rfl
  refine va_put (v := .ref (ad v 0)) (ty := .object "GodChips$Memory") hx hb hts (fun w hw => List.mem_cons_of_mem _ (am_in (6, 0) w hw)) tyX2 tyX2_ok nmX2 hown hK hP (am_D hA) hV (am_ix 6 0) he hc (k + 2) (by show k + 2 < 5; omega) (hts _ (List.mem_cons_of_mem _ hl)) (fun _ h9 => h9) ?_ ?_ rfl rfl (by rw [am_obj_len]; show k + 2 < 5; omega) hd (fun H1 locs1 hP1 hD1 hS1 => ?_)
  · rcases (show k = 0 ∨ k = 1 by omega) with rfl | rfl <;> rfl
  · rcases (show k = 0 ∨ k = 1 by omega) with rfl | rfl <;> decide +kernel
  · have hset : (am_obj ad h 6 0).set (k + 2) (.ref (ad v 0)) = am_obj ad (am_S h k v) 6 0 := by
      have h9 : am_cv ad (am_f (am_S h k v) 6 0 (k + 2)) = .ref (ad v 0) := by
        rcases (show k = 0 ∨ k = 1 by omega) with rfl | rfl <;> simp [am_f, am_fG, am_S, am_cv]
      rw [← am_obj_set (h' := am_S h k v) (k := k + 2) (fun c hck hc9 => ?_), h9]
      show am_fG (h.1 6 0) (am_S h k v).2 6 c = am_fG (h.1 6 0) h.2 6 c
      have h91 : ∀ n, n ≠ k → (am_S h k v).2 n = h.2 n := fun n hn => by
        show (if n = k then v else h.2 n) = h.2 n
        rw [if_neg hn]
      unfold am_fG
      split
      · rfl
      · rfl
      · rw [h91 0 (by omega)]
      · rw [h91 1 (by omega)]
      · rfl
    rw [hset, am_ws_set (q := (6, 0)) (h' := am_S h k v) (am_inG 0 (by decide)) (am_cell0 rfl) (am_S_cell 0 (Or.inr ⟨rfl, hk⟩))] at hP1
    exact kk p l e s m args below meth c D K ad H1 locs1 lsr hS hS1 hP1 (am_VH_S hH hv) hl2
end SJ
end
section
abbrev Y2_chip : am_Y := (yX2_chip, cX2_chip, 3, some (.int))
theorem mv2_chip : am_mv Y2_chip 2 := ⟨⟨am_GW_of 211 (by decide +kernel) (by decide +kernel), am_GW_of 212 (by decide +kernel) (by decide +kernel), am_GW_of 60 (by decide +kernel) (by decide +kernel), am_GW_of 213 (by decide +kernel) (by decide +kernel)⟩, by decide +kernel, by decide⟩
abbrev Y2_freshTrial : am_Y := (yX2_freshTrial, cX2_freshTrial, 1, some (.object "GodChips$Memory"))
theorem mv2_freshTrial : am_mv Y2_freshTrial 0 := ⟨⟨am_GW_of 216 (by decide +kernel) (by decide +kernel), am_GW_of 0 (by decide +kernel) (by decide +kernel), am_GW_of 60 (by decide +kernel) (by decide +kernel), am_GW_of 217 (by decide +kernel) (by decide +kernel)⟩, by decide +kernel, by decide⟩
abbrev Y0_copyFrom : am_Y := (yX0_copyFrom, cX0_copyFrom, 2, none)
theorem mv0_copyFrom : am_mv Y0_copyFrom 1 := ⟨⟨am_GW_of 219 (by decide +kernel) (by decide +kernel), am_GW_of 220 (by decide +kernel) (by decide +kernel), am_GW_of 61 (by decide +kernel) (by decide +kernel), am_GW_of 221 (by decide +kernel) (by decide +kernel)⟩, by decide +kernel, by decide⟩
abbrev Y0_addChip : am_Y := (yX0_addChip, cX0_addChip, 4, some (.int))
theorem mv0_addChip : am_mv Y0_addChip 2 := ⟨⟨am_GW_of 226 (by decide +kernel) (by decide +kernel), am_GW_of 227 (by decide +kernel) (by decide +kernel), am_GW_of 61 (by decide +kernel) (by decide +kernel), am_GW_of 228 (by decide +kernel) (by decide +kernel)⟩, by decide +kernel, by decide⟩
abbrev Y2_isFamily : am_Y := (yX2_isFamily, cX2_isFamily, 1, some (.boolean))
theorem ms2_isFamily : am_ms Y2_isFamily 1 := ⟨⟨am_GW_of 230 (by decide +kernel) (by decide +kernel), am_GW_of 60 (by decide +kernel) (by decide +kernel), am_GW_of 231 (by decide +kernel) (by decide +kernel)⟩, by decide +kernel, by decide⟩
abbrev Y2_settle : am_Y := (yX2_settle, cX2_settle, 3, some (.int))
theorem mv2_settle : am_mv Y2_settle 1 := ⟨⟨am_GW_of 236 (by decide +kernel) (by decide +kernel), am_GW_of 1 (by decide +kernel) (by decide +kernel), am_GW_of 60 (by decide +kernel) (by decide +kernel), am_GW_of 237 (by decide +kernel) (by decide +kernel)⟩, by decide +kernel, by decide⟩
abbrev Y2_remember : am_Y := (yX2_remember, cX2_remember, 3, none)
theorem mv2_remember : am_mv Y2_remember 0 := ⟨⟨am_GW_of 240 (by decide +kernel) (by decide +kernel), am_GW_of 2 (by decide +kernel) (by decide +kernel), am_GW_of 60 (by decide +kernel) (by decide +kernel), am_GW_of 241 (by decide +kernel) (by decide +kernel)⟩, by decide +kernel, by decide⟩
abbrev Y2_elect : am_Y := (yX2_elect, cX2_elect, 2, some (.int))
theorem mv2_elect : am_mv Y2_elect 1 := ⟨⟨am_GW_of 243 (by decide +kernel) (by decide +kernel), am_GW_of 244 (by decide +kernel) (by decide +kernel), am_GW_of 60 (by decide +kernel) (by decide +kernel), am_GW_of 245 (by decide +kernel) (by decide +kernel)⟩, by decide +kernel, by decide⟩
abbrev Y0_makeGodfather : am_Y := (yX0_makeGodfather, cX0_makeGodfather, 2, some (.int))
theorem mv0_makeGodfather : am_mv Y0_makeGodfather 1 := ⟨⟨am_GW_of 247 (by decide +kernel) (by decide +kernel), am_GW_of 248 (by decide +kernel) (by decide +kernel), am_GW_of 61 (by decide +kernel) (by decide +kernel), am_GW_of 249 (by decide +kernel) (by decide +kernel)⟩, by decide +kernel, by decide⟩
abbrev Y0_hasChip : am_Y := (yX0_hasChip, cX0_hasChip, 2, some (.boolean))
theorem mv0_hasChip : am_mv Y0_hasChip 1 := ⟨⟨am_GW_of 251 (by decide +kernel) (by decide +kernel), am_GW_of 252 (by decide +kernel) (by decide +kernel), am_GW_of 61 (by decide +kernel) (by decide +kernel), am_GW_of 253 (by decide +kernel) (by decide +kernel)⟩, by decide +kernel, by decide⟩
abbrev Y0_lives : am_Y := (yX0_lives, cX0_lives, 2, some (.boolean))
theorem mv0_lives : am_mv Y0_lives 1 := ⟨⟨am_GW_of 255 (by decide +kernel) (by decide +kernel), am_GW_of 256 (by decide +kernel) (by decide +kernel), am_GW_of 61 (by decide +kernel) (by decide +kernel), am_GW_of 257 (by decide +kernel) (by decide +kernel)⟩, by decide +kernel, by decide⟩
abbrev Y0_keptBy : am_Y := (yX0_keptBy, cX0_keptBy, 4, some (.int))
theorem mv0_keptBy : am_mv Y0_keptBy 1 := ⟨⟨am_GW_of 259 (by decide +kernel) (by decide +kernel), am_GW_of 260 (by decide +kernel) (by decide +kernel), am_GW_of 61 (by decide +kernel) (by decide +kernel), am_GW_of 261 (by decide +kernel) (by decide +kernel)⟩, by decide +kernel, by decide⟩
abbrev Y0_guardedRows : am_Y := (yX0_guardedRows, cX0_guardedRows, 3, some (.int))
theorem mv0_guardedRows : am_mv Y0_guardedRows 1 := ⟨⟨am_GW_of 264 (by decide +kernel) (by decide +kernel), am_GW_of 265 (by decide +kernel) (by decide +kernel), am_GW_of 61 (by decide +kernel) (by decide +kernel), am_GW_of 266 (by decide +kernel) (by decide +kernel)⟩, by decide +kernel, by decide⟩
abbrev Y6_bitCount : am_Y := (yJ6_bitCount_0f7a4, cJ6_bitCount_0f7a4, 1, some (.int))
theorem ms6_bitCount : am_ms Y6_bitCount 1 := ⟨⟨am_GW_of 268 (by decide +kernel) (by decide +kernel), am_GW_of 66 (by decide +kernel) (by decide +kernel), am_GW_of 269 (by decide +kernel) (by decide +kernel)⟩, by decide +kernel, by decide⟩
abbrev Y2_kill : am_Y := (yX2_kill, cX2_kill, 2, some (.int))
theorem mv2_kill : am_mv Y2_kill 1 := ⟨⟨am_GW_of 274 (by decide +kernel) (by decide +kernel), am_GW_of 275 (by decide +kernel) (by decide +kernel), am_GW_of 60 (by decide +kernel) (by decide +kernel), am_GW_of 276 (by decide +kernel) (by decide +kernel)⟩, by decide +kernel, by decide⟩
abbrev Y0_letDie : am_Y := (yX0_letDie, cX0_letDie, 5, some (.int))
theorem mv0_letDie : am_mv Y0_letDie 1 := ⟨⟨am_GW_of 278 (by decide +kernel) (by decide +kernel), am_GW_of 279 (by decide +kernel) (by decide +kernel), am_GW_of 61 (by decide +kernel) (by decide +kernel), am_GW_of 280 (by decide +kernel) (by decide +kernel)⟩, by decide +kernel, by decide⟩
abbrev Y0_isGodfather : am_Y := (yX0_isGodfather, cX0_isGodfather, 2, some (.boolean))
theorem mv0_isGodfather : am_mv Y0_isGodfather 1 := ⟨⟨am_GW_of 282 (by decide +kernel) (by decide +kernel), am_GW_of 283 (by decide +kernel) (by decide +kernel), am_GW_of 61 (by decide +kernel) (by decide +kernel), am_GW_of 284 (by decide +kernel) (by decide +kernel)⟩, by decide +kernel, by decide⟩
abbrev Y0_loseWaiting : am_Y := (yX0_loseWaiting, cX0_loseWaiting, 4, some (.int))
theorem mv0_loseWaiting : am_mv Y0_loseWaiting 2 := ⟨⟨am_GW_of 287 (by decide +kernel) (by decide +kernel), am_GW_of 3 (by decide +kernel) (by decide +kernel), am_GW_of 61 (by decide +kernel) (by decide +kernel), am_GW_of 288 (by decide +kernel) (by decide +kernel)⟩, by decide +kernel, by decide⟩
abbrev Y0_leaveQueue : am_Y := (yX0_leaveQueue, cX0_leaveQueue, 6, none)
theorem mv0_leaveQueue : am_mv Y0_leaveQueue 1 := ⟨⟨am_GW_of 291 (by decide +kernel) (by decide +kernel), am_GW_of 4 (by decide +kernel) (by decide +kernel), am_GW_of 61 (by decide +kernel) (by decide +kernel), am_GW_of 292 (by decide +kernel) (by decide +kernel)⟩, by decide +kernel, by decide⟩
abbrev Y0_loseUnlessSummed : am_Y := (yX0_loseUnlessSummed, cX0_loseUnlessSummed, 5, some (.int))
theorem mv0_loseUnlessSummed : am_mv Y0_loseUnlessSummed 1 := ⟨⟨am_GW_of 295 (by decide +kernel) (by decide +kernel), am_GW_of 5 (by decide +kernel) (by decide +kernel), am_GW_of 61 (by decide +kernel) (by decide +kernel), am_GW_of 296 (by decide +kernel) (by decide +kernel)⟩, by decide +kernel, by decide⟩
abbrev Y0_takeFromChip : am_Y := (yX0_takeFromChip, cX0_takeFromChip, 2, none)
theorem mv0_takeFromChip : am_mv Y0_takeFromChip 1 := ⟨⟨am_GW_of 299 (by decide +kernel) (by decide +kernel), am_GW_of 6 (by decide +kernel) (by decide +kernel), am_GW_of 61 (by decide +kernel) (by decide +kernel), am_GW_of 300 (by decide +kernel) (by decide +kernel)⟩, by decide +kernel, by decide⟩
abbrev Y0_letWait : am_Y := (yX0_letWait, cX0_letWait, 3, none)
theorem mv0_letWait : am_mv Y0_letWait 1 := ⟨⟨am_GW_of 303 (by decide +kernel) (by decide +kernel), am_GW_of 7 (by decide +kernel) (by decide +kernel), am_GW_of 61 (by decide +kernel) (by decide +kernel), am_GW_of 304 (by decide +kernel) (by decide +kernel)⟩, by decide +kernel, by decide⟩
abbrev Y2_breaks : am_Y := (yX2_breaks, cX2_breaks, 3, some (.int))
theorem mv2_breaks : am_mv Y2_breaks 2 := ⟨⟨am_GW_of 306 (by decide +kernel) (by decide +kernel), am_GW_of 307 (by decide +kernel) (by decide +kernel), am_GW_of 60 (by decide +kernel) (by decide +kernel), am_GW_of 308 (by decide +kernel) (by decide +kernel)⟩, by decide +kernel, by decide⟩
abbrev Y0_breakRow : am_Y := (yX0_breakRow, cX0_breakRow, 6, some (.int))
theorem mv0_breakRow : am_mv Y0_breakRow 2 := ⟨⟨am_GW_of 310 (by decide +kernel) (by decide +kernel), am_GW_of 311 (by decide +kernel) (by decide +kernel), am_GW_of 61 (by decide +kernel) (by decide +kernel), am_GW_of 312 (by decide +kernel) (by decide +kernel)⟩, by decide +kernel, by decide⟩
abbrev Y2_isRow : am_Y := (yX2_isRow, cX2_isRow, 1, some (.boolean))
theorem ms2_isRow : am_ms Y2_isRow 1 := ⟨⟨am_GW_of 314 (by decide +kernel) (by decide +kernel), am_GW_of 60 (by decide +kernel) (by decide +kernel), am_GW_of 315 (by decide +kernel) (by decide +kernel)⟩, by decide +kernel, by decide⟩
abbrev Y0_isBroken : am_Y := (yX0_isBroken, cX0_isBroken, 3, some (.boolean))
theorem mv0_isBroken : am_mv Y0_isBroken 2 := ⟨⟨am_GW_of 317 (by decide +kernel) (by decide +kernel), am_GW_of 318 (by decide +kernel) (by decide +kernel), am_GW_of 61 (by decide +kernel) (by decide +kernel), am_GW_of 319 (by decide +kernel) (by decide +kernel)⟩, by decide +kernel, by decide⟩
abbrev Y2_chipOf : am_Y := (yX2_chipOf, cX2_chipOf, 3, some (.int))
theorem mv2_chipOf : am_mv Y2_chipOf 2 := ⟨⟨am_GW_of 321 (by decide +kernel) (by decide +kernel), am_GW_of 322 (by decide +kernel) (by decide +kernel), am_GW_of 60 (by decide +kernel) (by decide +kernel), am_GW_of 323 (by decide +kernel) (by decide +kernel)⟩, by decide +kernel, by decide⟩
abbrev Y0_placeSet : am_Y := (yX0_placeSet, cX0_placeSet, 5, some (.int))
theorem mv0_placeSet : am_mv Y0_placeSet 1 := ⟨⟨am_GW_of 330 (by decide +kernel) (by decide +kernel), am_GW_of 331 (by decide +kernel) (by decide +kernel), am_GW_of 61 (by decide +kernel) (by decide +kernel), am_GW_of 332 (by decide +kernel) (by decide +kernel)⟩, by decide +kernel, by decide⟩
abbrev Y2_rowOf : am_Y := (yX2_rowOf, cX2_rowOf, 4, some (.int))
theorem mv2_rowOf : am_mv Y2_rowOf 2 := ⟨⟨am_GW_of 335 (by decide +kernel) (by decide +kernel), am_GW_of 336 (by decide +kernel) (by decide +kernel), am_GW_of 60 (by decide +kernel) (by decide +kernel), am_GW_of 337 (by decide +kernel) (by decide +kernel)⟩, by decide +kernel, by decide⟩
abbrev Y0_sumOf : am_Y := (yX0_sumOf, cX0_sumOf, 5, some (.int))
theorem mv0_sumOf : am_mv Y0_sumOf 2 := ⟨⟨am_GW_of 342 (by decide +kernel) (by decide +kernel), am_GW_of 343 (by decide +kernel) (by decide +kernel), am_GW_of 61 (by decide +kernel) (by decide +kernel), am_GW_of 344 (by decide +kernel) (by decide +kernel)⟩, by decide +kernel, by decide⟩
abbrev Y2_put : am_Y := (yX2_put, cX2_put, 3, some (.int))
theorem mv2_put : am_mv Y2_put 2 := ⟨⟨am_GW_of 347 (by decide +kernel) (by decide +kernel), am_GW_of 348 (by decide +kernel) (by decide +kernel), am_GW_of 60 (by decide +kernel) (by decide +kernel), am_GW_of 349 (by decide +kernel) (by decide +kernel)⟩, by decide +kernel, by decide⟩
abbrev Y0_putWord : am_Y := (yX0_putWord, cX0_putWord, 4, some (.int))
theorem mv0_putWord : am_mv Y0_putWord 2 := ⟨⟨am_GW_of 351 (by decide +kernel) (by decide +kernel), am_GW_of 352 (by decide +kernel) (by decide +kernel), am_GW_of 61 (by decide +kernel) (by decide +kernel), am_GW_of 353 (by decide +kernel) (by decide +kernel)⟩, by decide +kernel, by decide⟩
abbrev Y2_isValue : am_Y := (yX2_isValue, cX2_isValue, 1, some (.boolean))
theorem ms2_isValue : am_ms Y2_isValue 1 := ⟨⟨am_GW_of 355 (by decide +kernel) (by decide +kernel), am_GW_of 60 (by decide +kernel) (by decide +kernel), am_GW_of 356 (by decide +kernel) (by decide +kernel)⟩, by decide +kernel, by decide⟩
abbrev Y0_keepAtLowest : am_Y := (yX0_keepAtLowest, cX0_keepAtLowest, 5, none)
theorem mv0_keepAtLowest : am_mv Y0_keepAtLowest 2 := ⟨⟨am_GW_of 360 (by decide +kernel) (by decide +kernel), am_GW_of 8 (by decide +kernel) (by decide +kernel), am_GW_of 61 (by decide +kernel) (by decide +kernel), am_GW_of 361 (by decide +kernel) (by decide +kernel)⟩, by decide +kernel, by decide⟩
abbrev Y2_write : am_Y := (yX2_write, cX2_write, 3, some (.int))
theorem mv2_write : am_mv Y2_write 2 := ⟨⟨am_GW_of 363 (by decide +kernel) (by decide +kernel), am_GW_of 364 (by decide +kernel) (by decide +kernel), am_GW_of 60 (by decide +kernel) (by decide +kernel), am_GW_of 365 (by decide +kernel) (by decide +kernel)⟩, by decide +kernel, by decide⟩
abbrev Y0_writeWord : am_Y := (yX0_writeWord, cX0_writeWord, 4, some (.int))
theorem mv0_writeWord : am_mv Y0_writeWord 2 := ⟨⟨am_GW_of 367 (by decide +kernel) (by decide +kernel), am_GW_of 368 (by decide +kernel) (by decide +kernel), am_GW_of 61 (by decide +kernel) (by decide +kernel), am_GW_of 369 (by decide +kernel) (by decide +kernel)⟩, by decide +kernel, by decide⟩
abbrev Y0_hasWord : am_Y := (yX0_hasWord, cX0_hasWord, 2, some (.boolean))
theorem mv0_hasWord : am_mv Y0_hasWord 1 := ⟨⟨am_GW_of 371 (by decide +kernel) (by decide +kernel), am_GW_of 372 (by decide +kernel) (by decide +kernel), am_GW_of 61 (by decide +kernel) (by decide +kernel), am_GW_of 373 (by decide +kernel) (by decide +kernel)⟩, by decide +kernel, by decide⟩
abbrev Y2_read : am_Y := (yX2_read, cX2_read, 2, some (.int))
theorem mv2_read : am_mv Y2_read 1 := ⟨⟨am_GW_of 375 (by decide +kernel) (by decide +kernel), am_GW_of 376 (by decide +kernel) (by decide +kernel), am_GW_of 60 (by decide +kernel) (by decide +kernel), am_GW_of 377 (by decide +kernel) (by decide +kernel)⟩, by decide +kernel, by decide⟩
abbrev Y0_fateOf : am_Y := (yX0_fateOf, cX0_fateOf, 2, some (.int))
theorem mv0_fateOf : am_mv Y0_fateOf 1 := ⟨⟨am_GW_of 380 (by decide +kernel) (by decide +kernel), am_GW_of 381 (by decide +kernel) (by decide +kernel), am_GW_of 61 (by decide +kernel) (by decide +kernel), am_GW_of 382 (by decide +kernel) (by decide +kernel)⟩, by decide +kernel, by decide⟩
abbrev Y2_carry : am_Y := (yX2_carry, cX2_carry, 3, some (.int))
theorem mv2_carry : am_mv Y2_carry 2 := ⟨⟨am_GW_of 384 (by decide +kernel) (by decide +kernel), am_GW_of 385 (by decide +kernel) (by decide +kernel), am_GW_of 60 (by decide +kernel) (by decide +kernel), am_GW_of 386 (by decide +kernel) (by decide +kernel)⟩, by decide +kernel, by decide⟩
abbrev Y0_carryWord : am_Y := (yX0_carryWord, cX0_carryWord, 3, some (.int))
theorem mv0_carryWord : am_mv Y0_carryWord 2 := ⟨⟨am_GW_of 388 (by decide +kernel) (by decide +kernel), am_GW_of 389 (by decide +kernel) (by decide +kernel), am_GW_of 61 (by decide +kernel) (by decide +kernel), am_GW_of 390 (by decide +kernel) (by decide +kernel)⟩, by decide +kernel, by decide⟩
abbrev Y2_empty : am_Y := (yX2_empty, cX2_empty, 2, some (.int))
theorem mv2_empty : am_mv Y2_empty 1 := ⟨⟨am_GW_of 392 (by decide +kernel) (by decide +kernel), am_GW_of 393 (by decide +kernel) (by decide +kernel), am_GW_of 60 (by decide +kernel) (by decide +kernel), am_GW_of 394 (by decide +kernel) (by decide +kernel)⟩, by decide +kernel, by decide⟩
abbrev Y0_emptyChip : am_Y := (yX0_emptyChip, cX0_emptyChip, 6, some (.int))
theorem mv0_emptyChip : am_mv Y0_emptyChip 1 := ⟨⟨am_GW_of 396 (by decide +kernel) (by decide +kernel), am_GW_of 397 (by decide +kernel) (by decide +kernel), am_GW_of 61 (by decide +kernel) (by decide +kernel), am_GW_of 398 (by decide +kernel) (by decide +kernel)⟩, by decide +kernel, by decide⟩
abbrev Y0_chipFor : am_Y := (yX0_chipFor, cX0_chipFor, 7, some (.int))
theorem mv0_chipFor : am_mv Y0_chipFor 2 := ⟨⟨am_GW_of 400 (by decide +kernel) (by decide +kernel), am_GW_of 401 (by decide +kernel) (by decide +kernel), am_GW_of 61 (by decide +kernel) (by decide +kernel), am_GW_of 402 (by decide +kernel) (by decide +kernel)⟩, by decide +kernel, by decide⟩
abbrev Y2_wordOf : am_Y := (yX2_wordOf, cX2_wordOf, 4, some (.int))
theorem mv2_wordOf : am_mv Y2_wordOf 2 := ⟨⟨am_GW_of 404 (by decide +kernel) (by decide +kernel), am_GW_of 405 (by decide +kernel) (by decide +kernel), am_GW_of 60 (by decide +kernel) (by decide +kernel), am_GW_of 406 (by decide +kernel) (by decide +kernel)⟩, by decide +kernel, by decide⟩
abbrev Y0_aheadOf : am_Y := (yX0_aheadOf, cX0_aheadOf, 4, some (.int))
theorem mv0_aheadOf : am_mv Y0_aheadOf 1 := ⟨⟨am_GW_of 408 (by decide +kernel) (by decide +kernel), am_GW_of 409 (by decide +kernel) (by decide +kernel), am_GW_of 61 (by decide +kernel) (by decide +kernel), am_GW_of 410 (by decide +kernel) (by decide +kernel)⟩, by decide +kernel, by decide⟩
abbrev Y2_familyOf : am_Y := (yX2_familyOf, cX2_familyOf, 4, some (.int))
theorem mv2_familyOf : am_mv Y2_familyOf 2 := ⟨⟨am_GW_of 412 (by decide +kernel) (by decide +kernel), am_GW_of 413 (by decide +kernel) (by decide +kernel), am_GW_of 60 (by decide +kernel) (by decide +kernel), am_GW_of 414 (by decide +kernel) (by decide +kernel)⟩, by decide +kernel, by decide⟩
abbrev Y0_livingOf : am_Y := (yX0_livingOf, cX0_livingOf, 4, some (.int))
theorem mv0_livingOf : am_mv Y0_livingOf 1 := ⟨⟨am_GW_of 417 (by decide +kernel) (by decide +kernel), am_GW_of 418 (by decide +kernel) (by decide +kernel), am_GW_of 61 (by decide +kernel) (by decide +kernel), am_GW_of 419 (by decide +kernel) (by decide +kernel)⟩, by decide +kernel, by decide⟩
abbrev Y0_keptIn : am_Y := (yX0_keptIn, cX0_keptIn, 5, some (.int))
theorem mv0_keptIn : am_mv Y0_keptIn 2 := ⟨⟨am_GW_of 421 (by decide +kernel) (by decide +kernel), am_GW_of 422 (by decide +kernel) (by decide +kernel), am_GW_of 61 (by decide +kernel) (by decide +kernel), am_GW_of 423 (by decide +kernel) (by decide +kernel)⟩, by decide +kernel, by decide⟩
abbrev Y2_tick : am_Y := (yX2_tick, cX2_tick, 2, some (.int))
theorem mv2_tick : am_mv Y2_tick 1 := ⟨⟨am_GW_of 426 (by decide +kernel) (by decide +kernel), am_GW_of 427 (by decide +kernel) (by decide +kernel), am_GW_of 60 (by decide +kernel) (by decide +kernel), am_GW_of 428 (by decide +kernel) (by decide +kernel)⟩, by decide +kernel, by decide⟩
abbrev Y0_goTicks : am_Y := (yX0_goTicks, cX0_goTicks, 6, some (.int))
theorem mv0_goTicks : am_mv Y0_goTicks 1 := ⟨⟨am_GW_of 430 (by decide +kernel) (by decide +kernel), am_GW_of 431 (by decide +kernel) (by decide +kernel), am_GW_of 61 (by decide +kernel) (by decide +kernel), am_GW_of 432 (by decide +kernel) (by decide +kernel)⟩, by decide +kernel, by decide⟩
abbrev Y0_raiseFirst : am_Y := (yX0_raiseFirst, cX0_raiseFirst, 5, none)
theorem mv0_raiseFirst : am_mv Y0_raiseFirst 1 := ⟨⟨am_GW_of 436 (by decide +kernel) (by decide +kernel), am_GW_of 9 (by decide +kernel) (by decide +kernel), am_GW_of 61 (by decide +kernel) (by decide +kernel), am_GW_of 437 (by decide +kernel) (by decide +kernel)⟩, by decide +kernel, by decide⟩
abbrev Y2_loss : am_Y := (yX2_loss, cX2_loss, 3, some (.int))
theorem mv2_loss : am_mv Y2_loss 2 := ⟨⟨am_GW_of 439 (by decide +kernel) (by decide +kernel), am_GW_of 440 (by decide +kernel) (by decide +kernel), am_GW_of 60 (by decide +kernel) (by decide +kernel), am_GW_of 441 (by decide +kernel) (by decide +kernel)⟩, by decide +kernel, by decide⟩
abbrev Y2_lostBy : am_Y := (yX2_lostBy, cX2_lostBy, 5, some (.int))
theorem mv2_lostBy : am_mv Y2_lostBy 2 := ⟨⟨am_GW_of 444 (by decide +kernel) (by decide +kernel), am_GW_of 10 (by decide +kernel) (by decide +kernel), am_GW_of 60 (by decide +kernel) (by decide +kernel), am_GW_of 445 (by decide +kernel) (by decide +kernel)⟩, by decide +kernel, by decide⟩
abbrev Y2_safe : am_Y := (yX2_safe, cX2_safe, 3, some (.int))
theorem mv2_safe : am_mv Y2_safe 0 := ⟨⟨am_GW_of 447 (by decide +kernel) (by decide +kernel), am_GW_of 448 (by decide +kernel) (by decide +kernel), am_GW_of 60 (by decide +kernel) (by decide +kernel), am_GW_of 449 (by decide +kernel) (by decide +kernel)⟩, by decide +kernel, by decide⟩
abbrev Y2_worstTwo : am_Y := (yX2_worstTwo, cX2_worstTwo, 7, some (.int))
theorem mv2_worstTwo : am_mv Y2_worstTwo 1 := ⟨⟨am_GW_of 451 (by decide +kernel) (by decide +kernel), am_GW_of 452 (by decide +kernel) (by decide +kernel), am_GW_of 60 (by decide +kernel) (by decide +kernel), am_GW_of 453 (by decide +kernel) (by decide +kernel)⟩, by decide +kernel, by decide⟩
abbrev Y2_calm : am_Y := (yX2_calm, cX2_calm, 3, some (.int))
theorem mv2_calm : am_mv Y2_calm 0 := ⟨⟨am_GW_of 455 (by decide +kernel) (by decide +kernel), am_GW_of 456 (by decide +kernel) (by decide +kernel), am_GW_of 60 (by decide +kernel) (by decide +kernel), am_GW_of 457 (by decide +kernel) (by decide +kernel)⟩, by decide +kernel, by decide⟩
abbrev Y0_wordsWaiting : am_Y := (yX0_wordsWaiting, cX0_wordsWaiting, 3, some (.int))
theorem mv0_wordsWaiting : am_mv Y0_wordsWaiting 0 := ⟨⟨am_GW_of 459 (by decide +kernel) (by decide +kernel), am_GW_of 460 (by decide +kernel) (by decide +kernel), am_GW_of 61 (by decide +kernel) (by decide +kernel), am_GW_of 461 (by decide +kernel) (by decide +kernel)⟩, by decide +kernel, by decide⟩
abbrev Y2_heir : am_Y := (yX2_heir, cX2_heir, 5, some (.int))
theorem mv2_heir : am_mv Y2_heir 1 := ⟨⟨am_GW_of 463 (by decide +kernel) (by decide +kernel), am_GW_of 464 (by decide +kernel) (by decide +kernel), am_GW_of 60 (by decide +kernel) (by decide +kernel), am_GW_of 465 (by decide +kernel) (by decide +kernel)⟩, by decide +kernel, by decide⟩
abbrev Y2_count : am_Y := (yX2_count, cX2_count, 2, some (.int))
theorem mv2_count : am_mv Y2_count 1 := ⟨⟨am_GW_of 467 (by decide +kernel) (by decide +kernel), am_GW_of 468 (by decide +kernel) (by decide +kernel), am_GW_of 60 (by decide +kernel) (by decide +kernel), am_GW_of 469 (by decide +kernel) (by decide +kernel)⟩, by decide +kernel, by decide⟩
abbrev Y0_wordsKept : am_Y := (yX0_wordsKept, cX0_wordsKept, 3, some (.int))
theorem mv0_wordsKept : am_mv Y0_wordsKept 0 := ⟨⟨am_GW_of 471 (by decide +kernel) (by decide +kernel), am_GW_of 472 (by decide +kernel) (by decide +kernel), am_GW_of 61 (by decide +kernel) (by decide +kernel), am_GW_of 473 (by decide +kernel) (by decide +kernel)⟩, by decide +kernel, by decide⟩
abbrev Y0_godfathers : am_Y := (yX0_godfathers, cX0_godfathers, 3, some (.int))
theorem mv0_godfathers : am_mv Y0_godfathers 0 := ⟨⟨am_GW_of 475 (by decide +kernel) (by decide +kernel), am_GW_of 476 (by decide +kernel) (by decide +kernel), am_GW_of 61 (by decide +kernel) (by decide +kernel), am_GW_of 477 (by decide +kernel) (by decide +kernel)⟩, by decide +kernel, by decide⟩
abbrev Y0_allPlaces : am_Y := (yX0_allPlaces, cX0_allPlaces, 3, some (.int))
theorem mv0_allPlaces : am_mv Y0_allPlaces 0 := ⟨⟨am_GW_of 479 (by decide +kernel) (by decide +kernel), am_GW_of 480 (by decide +kernel) (by decide +kernel), am_GW_of 61 (by decide +kernel) (by decide +kernel), am_GW_of 481 (by decide +kernel) (by decide +kernel)⟩, by decide +kernel, by decide⟩
abbrev Y2_undo : am_Y := (yX2_undo, cX2_undo, 1, some (.int))
theorem mv2_undo : am_mv Y2_undo 0 := ⟨⟨am_GW_of 483 (by decide +kernel) (by decide +kernel), am_GW_of 484 (by decide +kernel) (by decide +kernel), am_GW_of 60 (by decide +kernel) (by decide +kernel), am_GW_of 485 (by decide +kernel) (by decide +kernel)⟩, by decide +kernel, by decide⟩
abbrev Y2_type : am_Y := (yX2_type, cX2_type, 2, some (.int))
theorem mv2_type : am_mv Y2_type 1 := ⟨⟨am_GW_of 487 (by decide +kernel) (by decide +kernel), am_GW_of 488 (by decide +kernel) (by decide +kernel), am_GW_of 60 (by decide +kernel) (by decide +kernel), am_GW_of 489 (by decide +kernel) (by decide +kernel)⟩, by decide +kernel, by decide⟩
abbrev Y2_clearText : am_Y := (yX2_clearText, cX2_clearText, 2, some (.int))
theorem mv2_clearText : am_mv Y2_clearText 0 := ⟨⟨am_GW_of 492 (by decide +kernel) (by decide +kernel), am_GW_of 493 (by decide +kernel) (by decide +kernel), am_GW_of 60 (by decide +kernel) (by decide +kernel), am_GW_of 494 (by decide +kernel) (by decide +kernel)⟩, by decide +kernel, by decide⟩
abbrev Y2_fault : am_Y := (yX2_fault, cX2_fault, 2, some (.int))
theorem mv2_fault : am_mv Y2_fault 1 := ⟨⟨am_GW_of 496 (by decide +kernel) (by decide +kernel), am_GW_of 497 (by decide +kernel) (by decide +kernel), am_GW_of 60 (by decide +kernel) (by decide +kernel), am_GW_of 498 (by decide +kernel) (by decide +kernel)⟩, by decide +kernel, by decide⟩
abbrev Y1_doAll : am_Y := (yX1_doAll, cX1_doAll, 3, some (.int))
theorem mv1_doAll : am_mv Y1_doAll 1 := ⟨⟨am_GW_of 500 (by decide +kernel) (by decide +kernel), am_GW_of 501 (by decide +kernel) (by decide +kernel), am_GW_of 63 (by decide +kernel) (by decide +kernel), am_GW_of 502 (by decide +kernel) (by decide +kernel)⟩, by decide +kernel, by decide⟩
abbrev Y1_readOrder : am_Y := (yX1_readOrder, cX1_readOrder, 2, some (.boolean))
theorem mv1_readOrder : am_mv Y1_readOrder 0 := ⟨⟨am_GW_of 505 (by decide +kernel) (by decide +kernel), am_GW_of 11 (by decide +kernel) (by decide +kernel), am_GW_of 63 (by decide +kernel) (by decide +kernel), am_GW_of 506 (by decide +kernel) (by decide +kernel)⟩, by decide +kernel, by decide⟩
abbrev Y1_readNumber : am_Y := (yX1_readNumber, cX1_readNumber, 3, some (.int))
theorem mv1_readNumber : am_mv Y1_readNumber 0 := ⟨⟨am_GW_of 509 (by decide +kernel) (by decide +kernel), am_GW_of 12 (by decide +kernel) (by decide +kernel), am_GW_of 63 (by decide +kernel) (by decide +kernel), am_GW_of 510 (by decide +kernel) (by decide +kernel)⟩, by decide +kernel, by decide⟩
abbrev Y1_skip : am_Y := (yX1_skip, cX1_skip, 2, some (.boolean))
theorem mv1_skip : am_mv Y1_skip 1 := ⟨⟨am_GW_of 513 (by decide +kernel) (by decide +kernel), am_GW_of 13 (by decide +kernel) (by decide +kernel), am_GW_of 63 (by decide +kernel) (by decide +kernel), am_GW_of 514 (by decide +kernel) (by decide +kernel)⟩, by decide +kernel, by decide⟩
abbrev Y1_doOrder : am_Y := (yX1_doOrder, cX1_doOrder, 2, some (.int))
theorem mv1_doOrder : am_mv Y1_doOrder 1 := ⟨⟨am_GW_of 518 (by decide +kernel) (by decide +kernel), am_GW_of 14 (by decide +kernel) (by decide +kernel), am_GW_of 63 (by decide +kernel) (by decide +kernel), am_GW_of 519 (by decide +kernel) (by decide +kernel)⟩, by decide +kernel, by decide⟩
abbrev Y2_play : am_Y := (yX2_play, cX2_play, 2, some (.int))
theorem mv2_play : am_mv Y2_play 0 := ⟨⟨am_GW_of 528 (by decide +kernel) (by decide +kernel), am_GW_of 529 (by decide +kernel) (by decide +kernel), am_GW_of 60 (by decide +kernel) (by decide +kernel), am_GW_of 530 (by decide +kernel) (by decide +kernel)⟩, by decide +kernel, by decide⟩
abbrev Y3_chip : am_Y := (yX3_chip, cX3_chip, 4, some (.int))
theorem mv3_chip : am_mv Y3_chip 2 := ⟨⟨am_GW_of 572 (by decide +kernel) (by decide +kernel), am_GW_of 573 (by decide +kernel) (by decide +kernel), am_GW_of 64 (by decide +kernel) (by decide +kernel), am_GW_of 574 (by decide +kernel) (by decide +kernel)⟩, by decide +kernel, by decide⟩
abbrev Y3_in : am_Y := (yX3_in, cX3_in, 3, some (.boolean))
theorem ms3_in : am_ms Y3_in 3 := ⟨⟨am_GW_of 576 (by decide +kernel) (by decide +kernel), am_GW_of 64 (by decide +kernel) (by decide +kernel), am_GW_of 577 (by decide +kernel) (by decide +kernel)⟩, by decide +kernel, by decide⟩
abbrev Y3_keeps : am_Y := (yX3_keeps, cX3_keeps, 2, none)
theorem mv3_keeps : am_mv Y3_keeps 0 := ⟨⟨am_GW_of 582 (by decide +kernel) (by decide +kernel), am_GW_of 15 (by decide +kernel) (by decide +kernel), am_GW_of 64 (by decide +kernel) (by decide +kernel), am_GW_of 583 (by decide +kernel) (by decide +kernel)⟩, by decide +kernel, by decide⟩
abbrev Y3_acted : am_Y := (yX3_acted, cX3_acted, 3, some (.int))
theorem mv3_acted : am_mv Y3_acted 1 := ⟨⟨am_GW_of 586 (by decide +kernel) (by decide +kernel), am_GW_of 16 (by decide +kernel) (by decide +kernel), am_GW_of 64 (by decide +kernel) (by decide +kernel), am_GW_of 587 (by decide +kernel) (by decide +kernel)⟩, by decide +kernel, by decide⟩
abbrev Y3_elect : am_Y := (yX3_elect, cX3_elect, 2, some (.int))
theorem mv3_elect : am_mv Y3_elect 1 := ⟨⟨am_GW_of 589 (by decide +kernel) (by decide +kernel), am_GW_of 590 (by decide +kernel) (by decide +kernel), am_GW_of 64 (by decide +kernel) (by decide +kernel), am_GW_of 591 (by decide +kernel) (by decide +kernel)⟩, by decide +kernel, by decide⟩
abbrev Y3_elects : am_Y := (yX3_elects, cX3_elects, 2, some (.int))
theorem mv3_elects : am_mv Y3_elects 1 := ⟨⟨am_GW_of 594 (by decide +kernel) (by decide +kernel), am_GW_of 17 (by decide +kernel) (by decide +kernel), am_GW_of 64 (by decide +kernel) (by decide +kernel), am_GW_of 595 (by decide +kernel) (by decide +kernel)⟩, by decide +kernel, by decide⟩
abbrev Y3_isChip : am_Y := (yX3_isChip, cX3_isChip, 2, some (.boolean))
theorem mv3_isChip : am_mv Y3_isChip 1 := ⟨⟨am_GW_of 598 (by decide +kernel) (by decide +kernel), am_GW_of 18 (by decide +kernel) (by decide +kernel), am_GW_of 64 (by decide +kernel) (by decide +kernel), am_GW_of 599 (by decide +kernel) (by decide +kernel)⟩, by decide +kernel, by decide⟩
abbrev Y3_lives : am_Y := (yX3_lives, cX3_lives, 2, some (.boolean))
theorem mv3_lives : am_mv Y3_lives 1 := ⟨⟨am_GW_of 602 (by decide +kernel) (by decide +kernel), am_GW_of 19 (by decide +kernel) (by decide +kernel), am_GW_of 64 (by decide +kernel) (by decide +kernel), am_GW_of 603 (by decide +kernel) (by decide +kernel)⟩, by decide +kernel, by decide⟩
abbrev Y3_ch : am_Y := (yX3_ch, cX3_ch, 3, some (.int))
theorem mv3_ch : am_mv Y3_ch 2 := ⟨⟨am_GW_of 606 (by decide +kernel) (by decide +kernel), am_GW_of 20 (by decide +kernel) (by decide +kernel), am_GW_of 64 (by decide +kernel) (by decide +kernel), am_GW_of 607 (by decide +kernel) (by decide +kernel)⟩, by decide +kernel, by decide⟩
abbrev Y3_words : am_Y := (yX3_words, cX3_words, 4, some (.int))
theorem mv3_words : am_mv Y3_words 1 := ⟨⟨am_GW_of 610 (by decide +kernel) (by decide +kernel), am_GW_of 21 (by decide +kernel) (by decide +kernel), am_GW_of 64 (by decide +kernel) (by decide +kernel), am_GW_of 611 (by decide +kernel) (by decide +kernel)⟩, by decide +kernel, by decide⟩
abbrev Y3_kept : am_Y := (yX3_kept, cX3_kept, 5, some (.int))
theorem mv3_kept : am_mv Y3_kept 2 := ⟨⟨am_GW_of 614 (by decide +kernel) (by decide +kernel), am_GW_of 22 (by decide +kernel) (by decide +kernel), am_GW_of 64 (by decide +kernel) (by decide +kernel), am_GW_of 615 (by decide +kernel) (by decide +kernel)⟩, by decide +kernel, by decide⟩
abbrev Y3_wd : am_Y := (yX3_wd, cX3_wd, 3, some (.int))
theorem mv3_wd : am_mv Y3_wd 2 := ⟨⟨am_GW_of 618 (by decide +kernel) (by decide +kernel), am_GW_of 23 (by decide +kernel) (by decide +kernel), am_GW_of 64 (by decide +kernel) (by decide +kernel), am_GW_of 619 (by decide +kernel) (by decide +kernel)⟩, by decide +kernel, by decide⟩
abbrev Y3_guarded : am_Y := (yX3_guarded, cX3_guarded, 4, some (.int))
theorem mv3_guarded : am_mv Y3_guarded 1 := ⟨⟨am_GW_of 623 (by decide +kernel) (by decide +kernel), am_GW_of 24 (by decide +kernel) (by decide +kernel), am_GW_of 64 (by decide +kernel) (by decide +kernel), am_GW_of 624 (by decide +kernel) (by decide +kernel)⟩, by decide +kernel, by decide⟩
abbrev Y3_isGuarded : am_Y := (yX3_isGuarded, cX3_isGuarded, 4, some (.boolean))
theorem mv3_isGuarded : am_mv Y3_isGuarded 2 := ⟨⟨am_GW_of 627 (by decide +kernel) (by decide +kernel), am_GW_of 25 (by decide +kernel) (by decide +kernel), am_GW_of 64 (by decide +kernel) (by decide +kernel), am_GW_of 628 (by decide +kernel) (by decide +kernel)⟩, by decide +kernel, by decide⟩
abbrev Y3_isWhole : am_Y := (yX3_isWhole, cX3_isWhole, 3, some (.boolean))
theorem mv3_isWhole : am_mv Y3_isWhole 2 := ⟨⟨am_GW_of 631 (by decide +kernel) (by decide +kernel), am_GW_of 26 (by decide +kernel) (by decide +kernel), am_GW_of 64 (by decide +kernel) (by decide +kernel), am_GW_of 632 (by decide +kernel) (by decide +kernel)⟩, by decide +kernel, by decide⟩
abbrev Y3_ones : am_Y := (yX3_ones, cX3_ones, 3, some (.int))
theorem ms3_ones : am_ms Y3_ones 1 := ⟨⟨am_GW_of 634 (by decide +kernel) (by decide +kernel), am_GW_of 64 (by decide +kernel) (by decide +kernel), am_GW_of 635 (by decide +kernel) (by decide +kernel)⟩, by decide +kernel, by decide⟩
abbrev Y3_kill : am_Y := (yX3_kill, cX3_kill, 2, some (.int))
theorem mv3_kill : am_mv Y3_kill 1 := ⟨⟨am_GW_of 637 (by decide +kernel) (by decide +kernel), am_GW_of 638 (by decide +kernel) (by decide +kernel), am_GW_of 64 (by decide +kernel) (by decide +kernel), am_GW_of 639 (by decide +kernel) (by decide +kernel)⟩, by decide +kernel, by decide⟩
abbrev Y3_kills : am_Y := (yX3_kills, cX3_kills, 7, some (.int))
theorem mv3_kills : am_mv Y3_kills 1 := ⟨⟨am_GW_of 642 (by decide +kernel) (by decide +kernel), am_GW_of 27 (by decide +kernel) (by decide +kernel), am_GW_of 64 (by decide +kernel) (by decide +kernel), am_GW_of 643 (by decide +kernel) (by decide +kernel)⟩, by decide +kernel, by decide⟩
abbrev Y3_lost : am_Y := (yX3_lost, cX3_lost, 3, some (.int))
theorem mv3_lost : am_mv Y3_lost 0 := ⟨⟨am_GW_of 646 (by decide +kernel) (by decide +kernel), am_GW_of 28 (by decide +kernel) (by decide +kernel), am_GW_of 64 (by decide +kernel) (by decide +kernel), am_GW_of 647 (by decide +kernel) (by decide +kernel)⟩, by decide +kernel, by decide⟩
abbrev Y3_isGodfather : am_Y := (yX3_isGodfather, cX3_isGodfather, 2, some (.boolean))
theorem mv3_isGodfather : am_mv Y3_isGodfather 1 := ⟨⟨am_GW_of 650 (by decide +kernel) (by decide +kernel), am_GW_of 29 (by decide +kernel) (by decide +kernel), am_GW_of 64 (by decide +kernel) (by decide +kernel), am_GW_of 651 (by decide +kernel) (by decide +kernel)⟩, by decide +kernel, by decide⟩
abbrev Y3_falls : am_Y := (yX3_falls, cX3_falls, 6, none)
theorem mv3_falls : am_mv Y3_falls 2 := ⟨⟨am_GW_of 654 (by decide +kernel) (by decide +kernel), am_GW_of 30 (by decide +kernel) (by decide +kernel), am_GW_of 64 (by decide +kernel) (by decide +kernel), am_GW_of 655 (by decide +kernel) (by decide +kernel)⟩, by decide +kernel, by decide⟩
abbrev Y3_waiting : am_Y := (yX3_waiting, cX3_waiting, 5, some (.int))
theorem mv3_waiting : am_mv Y3_waiting 2 := ⟨⟨am_GW_of 658 (by decide +kernel) (by decide +kernel), am_GW_of 31 (by decide +kernel) (by decide +kernel), am_GW_of 64 (by decide +kernel) (by decide +kernel), am_GW_of 659 (by decide +kernel) (by decide +kernel)⟩, by decide +kernel, by decide⟩
abbrev Y3_lays : am_Y := (yX3_lays, cX3_lays, 4, none)
theorem mv3_lays : am_mv Y3_lays 3 := ⟨⟨am_GW_of 662 (by decide +kernel) (by decide +kernel), am_GW_of 32 (by decide +kernel) (by decide +kernel), am_GW_of 64 (by decide +kernel) (by decide +kernel), am_GW_of 663 (by decide +kernel) (by decide +kernel)⟩, by decide +kernel, by decide⟩
abbrev Y3_waitsNow : am_Y := (yX3_waitsNow, cX3_waitsNow, 2, none)
theorem mv3_waitsNow : am_mv Y3_waitsNow 1 := ⟨⟨am_GW_of 666 (by decide +kernel) (by decide +kernel), am_GW_of 33 (by decide +kernel) (by decide +kernel), am_GW_of 64 (by decide +kernel) (by decide +kernel), am_GW_of 667 (by decide +kernel) (by decide +kernel)⟩, by decide +kernel, by decide⟩
abbrev Y3_breaks : am_Y := (yX3_breaks, cX3_breaks, 3, some (.int))
theorem mv3_breaks : am_mv Y3_breaks 2 := ⟨⟨am_GW_of 669 (by decide +kernel) (by decide +kernel), am_GW_of 670 (by decide +kernel) (by decide +kernel), am_GW_of 64 (by decide +kernel) (by decide +kernel), am_GW_of 671 (by decide +kernel) (by decide +kernel)⟩, by decide +kernel, by decide⟩
abbrev Y3_breaksOne : am_Y := (yX3_breaksOne, cX3_breaksOne, 7, some (.int))
theorem mv3_breaksOne : am_mv Y3_breaksOne 2 := ⟨⟨am_GW_of 674 (by decide +kernel) (by decide +kernel), am_GW_of 34 (by decide +kernel) (by decide +kernel), am_GW_of 64 (by decide +kernel) (by decide +kernel), am_GW_of 675 (by decide +kernel) (by decide +kernel)⟩, by decide +kernel, by decide⟩
abbrev Y3_chipOf : am_Y := (yX3_chipOf, cX3_chipOf, 3, some (.int))
theorem mv3_chipOf : am_mv Y3_chipOf 2 := ⟨⟨am_GW_of 677 (by decide +kernel) (by decide +kernel), am_GW_of 678 (by decide +kernel) (by decide +kernel), am_GW_of 64 (by decide +kernel) (by decide +kernel), am_GW_of 679 (by decide +kernel) (by decide +kernel)⟩, by decide +kernel, by decide⟩
abbrev Y3_places : am_Y := (yX3_places, cX3_places, 4, some (.int))
theorem mv3_places : am_mv Y3_places 1 := ⟨⟨am_GW_of 682 (by decide +kernel) (by decide +kernel), am_GW_of 35 (by decide +kernel) (by decide +kernel), am_GW_of 64 (by decide +kernel) (by decide +kernel), am_GW_of 683 (by decide +kernel) (by decide +kernel)⟩, by decide +kernel, by decide⟩
abbrev Y3_isPlace : am_Y := (yX3_isPlace, cX3_isPlace, 3, some (.boolean))
theorem mv3_isPlace : am_mv Y3_isPlace 2 := ⟨⟨am_GW_of 686 (by decide +kernel) (by decide +kernel), am_GW_of 36 (by decide +kernel) (by decide +kernel), am_GW_of 64 (by decide +kernel) (by decide +kernel), am_GW_of 687 (by decide +kernel) (by decide +kernel)⟩, by decide +kernel, by decide⟩
abbrev Y3_rowOf : am_Y := (yX3_rowOf, cX3_rowOf, 3, some (.int))
theorem mv3_rowOf : am_mv Y3_rowOf 2 := ⟨⟨am_GW_of 689 (by decide +kernel) (by decide +kernel), am_GW_of 690 (by decide +kernel) (by decide +kernel), am_GW_of 64 (by decide +kernel) (by decide +kernel), am_GW_of 691 (by decide +kernel) (by decide +kernel)⟩, by decide +kernel, by decide⟩
abbrev Y3_sum : am_Y := (yX3_sum, cX3_sum, 5, some (.int))
theorem mv3_sum : am_mv Y3_sum 2 := ⟨⟨am_GW_of 694 (by decide +kernel) (by decide +kernel), am_GW_of 37 (by decide +kernel) (by decide +kernel), am_GW_of 64 (by decide +kernel) (by decide +kernel), am_GW_of 695 (by decide +kernel) (by decide +kernel)⟩, by decide +kernel, by decide⟩
abbrev Y3_put : am_Y := (yX3_put, cX3_put, 3, some (.int))
theorem mv3_put : am_mv Y3_put 2 := ⟨⟨am_GW_of 698 (by decide +kernel) (by decide +kernel), am_GW_of 699 (by decide +kernel) (by decide +kernel), am_GW_of 64 (by decide +kernel) (by decide +kernel), am_GW_of 700 (by decide +kernel) (by decide +kernel)⟩, by decide +kernel, by decide⟩
abbrev Y3_putsOne : am_Y := (yX3_putsOne, cX3_putsOne, 5, some (.int))
theorem mv3_putsOne : am_mv Y3_putsOne 2 := ⟨⟨am_GW_of 703 (by decide +kernel) (by decide +kernel), am_GW_of 38 (by decide +kernel) (by decide +kernel), am_GW_of 64 (by decide +kernel) (by decide +kernel), am_GW_of 704 (by decide +kernel) (by decide +kernel)⟩, by decide +kernel, by decide⟩
abbrev Y3_lowest : am_Y := (yX3_lowest, cX3_lowest, 3, some (.int))
theorem mv3_lowest : am_mv Y3_lowest 1 := ⟨⟨am_GW_of 707 (by decide +kernel) (by decide +kernel), am_GW_of 39 (by decide +kernel) (by decide +kernel), am_GW_of 64 (by decide +kernel) (by decide +kernel), am_GW_of 708 (by decide +kernel) (by decide +kernel)⟩, by decide +kernel, by decide⟩
abbrev Y3_sits : am_Y := (yX3_sits, cX3_sits, 4, none)
theorem mv3_sits : am_mv Y3_sits 3 := ⟨⟨am_GW_of 711 (by decide +kernel) (by decide +kernel), am_GW_of 40 (by decide +kernel) (by decide +kernel), am_GW_of 64 (by decide +kernel) (by decide +kernel), am_GW_of 712 (by decide +kernel) (by decide +kernel)⟩, by decide +kernel, by decide⟩
abbrev Y3_write : am_Y := (yX3_write, cX3_write, 4, some (.int))
theorem mv3_write : am_mv Y3_write 2 := ⟨⟨am_GW_of 714 (by decide +kernel) (by decide +kernel), am_GW_of 715 (by decide +kernel) (by decide +kernel), am_GW_of 64 (by decide +kernel) (by decide +kernel), am_GW_of 716 (by decide +kernel) (by decide +kernel)⟩, by decide +kernel, by decide⟩
abbrev Y3_isWord : am_Y := (yX3_isWord, cX3_isWord, 2, some (.boolean))
theorem mv3_isWord : am_mv Y3_isWord 1 := ⟨⟨am_GW_of 719 (by decide +kernel) (by decide +kernel), am_GW_of 41 (by decide +kernel) (by decide +kernel), am_GW_of 64 (by decide +kernel) (by decide +kernel), am_GW_of 720 (by decide +kernel) (by decide +kernel)⟩, by decide +kernel, by decide⟩
abbrev Y3_read : am_Y := (yX3_read, cX3_read, 2, some (.int))
theorem mv3_read : am_mv Y3_read 1 := ⟨⟨am_GW_of 722 (by decide +kernel) (by decide +kernel), am_GW_of 723 (by decide +kernel) (by decide +kernel), am_GW_of 64 (by decide +kernel) (by decide +kernel), am_GW_of 724 (by decide +kernel) (by decide +kernel)⟩, by decide +kernel, by decide⟩
abbrev Y3_carry : am_Y := (yX3_carry, cX3_carry, 4, some (.int))
theorem mv3_carry : am_mv Y3_carry 2 := ⟨⟨am_GW_of 726 (by decide +kernel) (by decide +kernel), am_GW_of 727 (by decide +kernel) (by decide +kernel), am_GW_of 64 (by decide +kernel) (by decide +kernel), am_GW_of 728 (by decide +kernel) (by decide +kernel)⟩, by decide +kernel, by decide⟩
abbrev Y3_empty : am_Y := (yX3_empty, cX3_empty, 2, some (.int))
theorem mv3_empty : am_mv Y3_empty 1 := ⟨⟨am_GW_of 730 (by decide +kernel) (by decide +kernel), am_GW_of 731 (by decide +kernel) (by decide +kernel), am_GW_of 64 (by decide +kernel) (by decide +kernel), am_GW_of 732 (by decide +kernel) (by decide +kernel)⟩, by decide +kernel, by decide⟩
abbrev Y3_empties : am_Y := (yX3_empties, cX3_empties, 7, some (.int))
theorem mv3_empties : am_mv Y3_empties 1 := ⟨⟨am_GW_of 735 (by decide +kernel) (by decide +kernel), am_GW_of 42 (by decide +kernel) (by decide +kernel), am_GW_of 64 (by decide +kernel) (by decide +kernel), am_GW_of 736 (by decide +kernel) (by decide +kernel)⟩, by decide +kernel, by decide⟩
abbrev Y3_target : am_Y := (yX3_target, cX3_target, 8, some (.int))
theorem mv3_target : am_mv Y3_target 2 := ⟨⟨am_GW_of 739 (by decide +kernel) (by decide +kernel), am_GW_of 43 (by decide +kernel) (by decide +kernel), am_GW_of 64 (by decide +kernel) (by decide +kernel), am_GW_of 740 (by decide +kernel) (by decide +kernel)⟩, by decide +kernel, by decide⟩
abbrev Y3_wordOf : am_Y := (yX3_wordOf, cX3_wordOf, 4, some (.int))
theorem mv3_wordOf : am_mv Y3_wordOf 2 := ⟨⟨am_GW_of 742 (by decide +kernel) (by decide +kernel), am_GW_of 743 (by decide +kernel) (by decide +kernel), am_GW_of 64 (by decide +kernel) (by decide +kernel), am_GW_of 744 (by decide +kernel) (by decide +kernel)⟩, by decide +kernel, by decide⟩
abbrev Y3_ahead : am_Y := (yX3_ahead, cX3_ahead, 4, some (.int))
theorem mv3_ahead : am_mv Y3_ahead 1 := ⟨⟨am_GW_of 747 (by decide +kernel) (by decide +kernel), am_GW_of 44 (by decide +kernel) (by decide +kernel), am_GW_of 64 (by decide +kernel) (by decide +kernel), am_GW_of 748 (by decide +kernel) (by decide +kernel)⟩, by decide +kernel, by decide⟩
abbrev Y3_familyOf : am_Y := (yX3_familyOf, cX3_familyOf, 5, some (.int))
theorem mv3_familyOf : am_mv Y3_familyOf 2 := ⟨⟨am_GW_of 750 (by decide +kernel) (by decide +kernel), am_GW_of 751 (by decide +kernel) (by decide +kernel), am_GW_of 64 (by decide +kernel) (by decide +kernel), am_GW_of 752 (by decide +kernel) (by decide +kernel)⟩, by decide +kernel, by decide⟩
abbrev Y3_many : am_Y := (yX3_many, cX3_many, 7, some (.int))
theorem mv3_many : am_mv Y3_many 3 := ⟨⟨am_GW_of 755 (by decide +kernel) (by decide +kernel), am_GW_of 45 (by decide +kernel) (by decide +kernel), am_GW_of 64 (by decide +kernel) (by decide +kernel), am_GW_of 756 (by decide +kernel) (by decide +kernel)⟩, by decide +kernel, by decide⟩
abbrev Y3_firstOf : am_Y := (yX3_firstOf, cX3_firstOf, 5, some (.int))
theorem mv3_firstOf : am_mv Y3_firstOf 1 := ⟨⟨am_GW_of 759 (by decide +kernel) (by decide +kernel), am_GW_of 46 (by decide +kernel) (by decide +kernel), am_GW_of 64 (by decide +kernel) (by decide +kernel), am_GW_of 760 (by decide +kernel) (by decide +kernel)⟩, by decide +kernel, by decide⟩
abbrev Y3_tick : am_Y := (yX3_tick, cX3_tick, 2, some (.int))
theorem mv3_tick : am_mv Y3_tick 1 := ⟨⟨am_GW_of 762 (by decide +kernel) (by decide +kernel), am_GW_of 763 (by decide +kernel) (by decide +kernel), am_GW_of 64 (by decide +kernel) (by decide +kernel), am_GW_of 764 (by decide +kernel) (by decide +kernel)⟩, by decide +kernel, by decide⟩
abbrev Y3_ticks : am_Y := (yX3_ticks, cX3_ticks, 4, some (.int))
theorem mv3_ticks : am_mv Y3_ticks 1 := ⟨⟨am_GW_of 767 (by decide +kernel) (by decide +kernel), am_GW_of 47 (by decide +kernel) (by decide +kernel), am_GW_of 64 (by decide +kernel) (by decide +kernel), am_GW_of 768 (by decide +kernel) (by decide +kernel)⟩, by decide +kernel, by decide⟩
abbrev Y3_tickOne : am_Y := (yX3_tickOne, cX3_tickOne, 3, some (.int))
theorem mv3_tickOne : am_mv Y3_tickOne 0 := ⟨⟨am_GW_of 772 (by decide +kernel) (by decide +kernel), am_GW_of 48 (by decide +kernel) (by decide +kernel), am_GW_of 64 (by decide +kernel) (by decide +kernel), am_GW_of 773 (by decide +kernel) (by decide +kernel)⟩, by decide +kernel, by decide⟩
abbrev Y3_raises : am_Y := (yX3_raises, cX3_raises, 4, some (.boolean))
theorem mv3_raises : am_mv Y3_raises 1 := ⟨⟨am_GW_of 776 (by decide +kernel) (by decide +kernel), am_GW_of 49 (by decide +kernel) (by decide +kernel), am_GW_of 64 (by decide +kernel) (by decide +kernel), am_GW_of 777 (by decide +kernel) (by decide +kernel)⟩, by decide +kernel, by decide⟩
abbrev Y3_loss : am_Y := (yX3_loss, cX3_loss, 3, some (.int))
theorem mv3_loss : am_mv Y3_loss 2 := ⟨⟨am_GW_of 779 (by decide +kernel) (by decide +kernel), am_GW_of 780 (by decide +kernel) (by decide +kernel), am_GW_of 64 (by decide +kernel) (by decide +kernel), am_GW_of 781 (by decide +kernel) (by decide +kernel)⟩, by decide +kernel, by decide⟩
abbrev Y3_lossOf : am_Y := (yX3_lossOf, cX3_lossOf, 4, some (.int))
theorem mv3_lossOf : am_mv Y3_lossOf 2 := ⟨⟨am_GW_of 784 (by decide +kernel) (by decide +kernel), am_GW_of 50 (by decide +kernel) (by decide +kernel), am_GW_of 64 (by decide +kernel) (by decide +kernel), am_GW_of 785 (by decide +kernel) (by decide +kernel)⟩, by decide +kernel, by decide⟩
abbrev Y3_puts : am_Y := (yX3_puts, cX3_puts, 2, none)
theorem mv3_puts : am_mv Y3_puts 0 := ⟨⟨am_GW_of 788 (by decide +kernel) (by decide +kernel), am_GW_of 51 (by decide +kernel) (by decide +kernel), am_GW_of 64 (by decide +kernel) (by decide +kernel), am_GW_of 789 (by decide +kernel) (by decide +kernel)⟩, by decide +kernel, by decide⟩
abbrev Y3_restores : am_Y := (yX3_restores, cX3_restores, 2, none)
theorem mv3_restores : am_mv Y3_restores 0 := ⟨⟨am_GW_of 792 (by decide +kernel) (by decide +kernel), am_GW_of 52 (by decide +kernel) (by decide +kernel), am_GW_of 64 (by decide +kernel) (by decide +kernel), am_GW_of 793 (by decide +kernel) (by decide +kernel)⟩, by decide +kernel, by decide⟩
abbrev Y3_safe : am_Y := (yX3_safe, cX3_safe, 3, some (.int))
theorem mv3_safe : am_mv Y3_safe 0 := ⟨⟨am_GW_of 795 (by decide +kernel) (by decide +kernel), am_GW_of 796 (by decide +kernel) (by decide +kernel), am_GW_of 64 (by decide +kernel) (by decide +kernel), am_GW_of 797 (by decide +kernel) (by decide +kernel)⟩, by decide +kernel, by decide⟩
abbrev Y3_worstTwo : am_Y := (yX3_worstTwo, cX3_worstTwo, 7, some (.int))
theorem mv3_worstTwo : am_mv Y3_worstTwo 1 := ⟨⟨am_GW_of 799 (by decide +kernel) (by decide +kernel), am_GW_of 800 (by decide +kernel) (by decide +kernel), am_GW_of 64 (by decide +kernel) (by decide +kernel), am_GW_of 801 (by decide +kernel) (by decide +kernel)⟩, by decide +kernel, by decide⟩
abbrev Y3_calm : am_Y := (yX3_calm, cX3_calm, 3, some (.int))
theorem mv3_calm : am_mv Y3_calm 0 := ⟨⟨am_GW_of 803 (by decide +kernel) (by decide +kernel), am_GW_of 804 (by decide +kernel) (by decide +kernel), am_GW_of 64 (by decide +kernel) (by decide +kernel), am_GW_of 805 (by decide +kernel) (by decide +kernel)⟩, by decide +kernel, by decide⟩
abbrev Y3_heir : am_Y := (yX3_heir, cX3_heir, 5, some (.int))
theorem mv3_heir : am_mv Y3_heir 1 := ⟨⟨am_GW_of 807 (by decide +kernel) (by decide +kernel), am_GW_of 808 (by decide +kernel) (by decide +kernel), am_GW_of 64 (by decide +kernel) (by decide +kernel), am_GW_of 809 (by decide +kernel) (by decide +kernel)⟩, by decide +kernel, by decide⟩
abbrev Y3_count : am_Y := (yX3_count, cX3_count, 6, some (.int))
theorem mv3_count : am_mv Y3_count 1 := ⟨⟨am_GW_of 811 (by decide +kernel) (by decide +kernel), am_GW_of 812 (by decide +kernel) (by decide +kernel), am_GW_of 64 (by decide +kernel) (by decide +kernel), am_GW_of 813 (by decide +kernel) (by decide +kernel)⟩, by decide +kernel, by decide⟩
abbrev Y3_undo : am_Y := (yX3_undo, cX3_undo, 2, some (.int))
theorem mv3_undo : am_mv Y3_undo 0 := ⟨⟨am_GW_of 815 (by decide +kernel) (by decide +kernel), am_GW_of 816 (by decide +kernel) (by decide +kernel), am_GW_of 64 (by decide +kernel) (by decide +kernel), am_GW_of 817 (by decide +kernel) (by decide +kernel)⟩, by decide +kernel, by decide⟩
abbrev Y3_type : am_Y := (yX3_type, cX3_type, 2, some (.int))
theorem mv3_type : am_mv Y3_type 1 := ⟨⟨am_GW_of 819 (by decide +kernel) (by decide +kernel), am_GW_of 820 (by decide +kernel) (by decide +kernel), am_GW_of 64 (by decide +kernel) (by decide +kernel), am_GW_of 821 (by decide +kernel) (by decide +kernel)⟩, by decide +kernel, by decide⟩
abbrev Y3_clearText : am_Y := (yX3_clearText, cX3_clearText, 2, some (.int))
theorem mv3_clearText : am_mv Y3_clearText 0 := ⟨⟨am_GW_of 823 (by decide +kernel) (by decide +kernel), am_GW_of 824 (by decide +kernel) (by decide +kernel), am_GW_of 64 (by decide +kernel) (by decide +kernel), am_GW_of 825 (by decide +kernel) (by decide +kernel)⟩, by decide +kernel, by decide⟩
abbrev Y3_fault : am_Y := (yX3_fault, cX3_fault, 3, some (.int))
theorem mv3_fault : am_mv Y3_fault 1 := ⟨⟨am_GW_of 827 (by decide +kernel) (by decide +kernel), am_GW_of 828 (by decide +kernel) (by decide +kernel), am_GW_of 64 (by decide +kernel) (by decide +kernel), am_GW_of 829 (by decide +kernel) (by decide +kernel)⟩, by decide +kernel, by decide⟩
abbrev Y3_faulty : am_Y := (yX3_faulty, cX3_faulty, 3, some (.int))
theorem mv3_faulty : am_mv Y3_faulty 0 := ⟨⟨am_GW_of 832 (by decide +kernel) (by decide +kernel), am_GW_of 53 (by decide +kernel) (by decide +kernel), am_GW_of 64 (by decide +kernel) (by decide +kernel), am_GW_of 833 (by decide +kernel) (by decide +kernel)⟩, by decide +kernel, by decide⟩
abbrev Y3_doesNext : am_Y := (yX3_doesNext, cX3_doesNext, 2, some (.int))
theorem mv3_doesNext : am_mv Y3_doesNext 0 := ⟨⟨am_GW_of 836 (by decide +kernel) (by decide +kernel), am_GW_of 54 (by decide +kernel) (by decide +kernel), am_GW_of 64 (by decide +kernel) (by decide +kernel), am_GW_of 837 (by decide +kernel) (by decide +kernel)⟩, by decide +kernel, by decide⟩
abbrev Y3_readsForm : am_Y := (yX3_readsForm, cX3_readsForm, 4, some (.boolean))
theorem mv3_readsForm : am_mv Y3_readsForm 1 := ⟨⟨am_GW_of 840 (by decide +kernel) (by decide +kernel), am_GW_of 55 (by decide +kernel) (by decide +kernel), am_GW_of 64 (by decide +kernel) (by decide +kernel), am_GW_of 841 (by decide +kernel) (by decide +kernel)⟩, by decide +kernel, by decide⟩
abbrev Y3_number : am_Y := (yX3_number, cX3_number, 3, some (.boolean))
theorem mv3_number : am_mv Y3_number 1 := ⟨⟨am_GW_of 844 (by decide +kernel) (by decide +kernel), am_GW_of 56 (by decide +kernel) (by decide +kernel), am_GW_of 64 (by decide +kernel) (by decide +kernel), am_GW_of 845 (by decide +kernel) (by decide +kernel)⟩, by decide +kernel, by decide⟩
abbrev Y3_has : am_Y := (yX3_has, cX3_has, 3, some (.boolean))
theorem mv3_has : am_mv Y3_has 1 := ⟨⟨am_GW_of 848 (by decide +kernel) (by decide +kernel), am_GW_of 57 (by decide +kernel) (by decide +kernel), am_GW_of 64 (by decide +kernel) (by decide +kernel), am_GW_of 849 (by decide +kernel) (by decide +kernel)⟩, by decide +kernel, by decide⟩
abbrev Y3_does : am_Y := (yX3_does, cX3_does, 2, some (.int))
theorem mv3_does : am_mv Y3_does 1 := ⟨⟨am_GW_of 852 (by decide +kernel) (by decide +kernel), am_GW_of 58 (by decide +kernel) (by decide +kernel), am_GW_of 64 (by decide +kernel) (by decide +kernel), am_GW_of 853 (by decide +kernel) (by decide +kernel)⟩, by decide +kernel, by decide⟩
abbrev Y3_play : am_Y := (yX3_play, cX3_play, 2, some (.int))
theorem mv3_play : am_mv Y3_play 0 := ⟨⟨am_GW_of 855 (by decide +kernel) (by decide +kernel), am_GW_of 856 (by decide +kernel) (by decide +kernel), am_GW_of 64 (by decide +kernel) (by decide +kernel), am_GW_of 857 (by decide +kernel) (by decide +kernel)⟩, by decide +kernel, by decide⟩
theorem ml_X2_34 : am_ml RX2 34 Y2_freshTrial := am_GW_of 214 (by decide +kernel) (by decide +kernel)
theorem ml_X2_38 : am_ml RX2 38 Y0_addChip := am_GW_of 225 (by decide +kernel) (by decide +kernel)
theorem ml_X2_42 : am_ml RX2 42 Y2_settle := am_GW_of 234 (by decide +kernel) (by decide +kernel)
theorem ml_X2_46 : am_ml RX2 46 Y0_makeGodfather := am_GW_of 246 (by decide +kernel) (by decide +kernel)
theorem ml_X2_49 : am_ml RX2 49 Y0_letDie := am_GW_of 277 (by decide +kernel) (by decide +kernel)
theorem ml_X2_52 : am_ml RX2 52 Y0_breakRow := am_GW_of 309 (by decide +kernel) (by decide +kernel)
theorem ml_X2_55 : am_ml RX2 55 Y0_hasChip := am_GW_of 324 (by decide +kernel) (by decide +kernel)
theorem ml_X2_64 : am_ml RX2 64 Y0_lives := am_GW_of 326 (by decide +kernel) (by decide +kernel)
theorem ml_X2_67 : am_ml RX2 67 Y0_isGodfather := am_GW_of 327 (by decide +kernel) (by decide +kernel)
theorem ml_X2_70 : am_ml RX2 70 Y0_keptBy := am_GW_of 328 (by decide +kernel) (by decide +kernel)
theorem ml_X2_73 : am_ml RX2 73 Y0_placeSet := am_GW_of 329 (by decide +kernel) (by decide +kernel)
theorem ml_X2_76 : am_ml RX2 76 Y6_bitCount := am_GW_of 333 (by decide +kernel) (by decide +kernel)
theorem ml_X2_87 : am_ml RX2 87 Y2_isRow := am_GW_of 338 (by decide +kernel) (by decide +kernel)
theorem ml_X2_90 : am_ml RX2 90 Y0_isBroken := am_GW_of 339 (by decide +kernel) (by decide +kernel)
theorem ml_X2_95 : am_ml RX2 95 Y0_sumOf := am_GW_of 341 (by decide +kernel) (by decide +kernel)
theorem ml_X2_102 : am_ml RX2 102 Y0_putWord := am_GW_of 350 (by decide +kernel) (by decide +kernel)
theorem ml_X2_105 : am_ml RX2 105 Y0_writeWord := am_GW_of 366 (by decide +kernel) (by decide +kernel)
theorem ml_X2_108 : am_ml RX2 108 Y0_hasWord := am_GW_of 378 (by decide +kernel) (by decide +kernel)
theorem ml_X2_111 : am_ml RX2 111 Y0_fateOf := am_GW_of 379 (by decide +kernel) (by decide +kernel)
theorem ml_X2_117 : am_ml RX2 117 Y0_carryWord := am_GW_of 387 (by decide +kernel) (by decide +kernel)
theorem ml_X2_120 : am_ml RX2 120 Y0_emptyChip := am_GW_of 395 (by decide +kernel) (by decide +kernel)
theorem ml_X2_132 : am_ml RX2 132 Y0_aheadOf := am_GW_of 407 (by decide +kernel) (by decide +kernel)
theorem ml_X2_138 : am_ml RX2 138 Y2_isFamily := am_GW_of 415 (by decide +kernel) (by decide +kernel)
theorem ml_X2_147 : am_ml RX2 147 Y0_livingOf := am_GW_of 416 (by decide +kernel) (by decide +kernel)
theorem ml_X2_150 : am_ml RX2 150 Y0_keptIn := am_GW_of 420 (by decide +kernel) (by decide +kernel)
theorem ml_X2_153 : am_ml RX2 153 Y0_guardedRows := am_GW_of 424 (by decide +kernel) (by decide +kernel)
theorem ml_X2_159 : am_ml RX2 159 Y0_goTicks := am_GW_of 429 (by decide +kernel) (by decide +kernel)
theorem ml_X2_162 : am_ml RX2 162 Y2_lostBy := am_GW_of 442 (by decide +kernel) (by decide +kernel)
theorem ml_X2_171 : am_ml RX2 171 Y0_wordsWaiting := am_GW_of 458 (by decide +kernel) (by decide +kernel)
theorem ml_X2_181 : am_ml RX2 181 Y0_wordsKept := am_GW_of 470 (by decide +kernel) (by decide +kernel)
theorem ml_X2_187 : am_ml RX2 187 Y0_godfathers := am_GW_of 474 (by decide +kernel) (by decide +kernel)
theorem ml_X2_190 : am_ml RX2 190 Y0_allPlaces := am_GW_of 478 (by decide +kernel) (by decide +kernel)
theorem ml_X2_196 : am_ml RX2 196 Y0_copyFrom := am_GW_of 218 (by decide +kernel) (by decide +kernel)
theorem ml_X2_205 : am_ml RX2 205 Y1_doAll := am_GW_of 499 (by decide +kernel) (by decide +kernel)
theorem ml_X2_215 : am_ml RX2 215 Y2_remember := am_GW_of 238 (by decide +kernel) (by decide +kernel)
theorem ml_X0_79 : am_ml RX0 79 Y0_lives := am_GW_of 254 (by decide +kernel) (by decide +kernel)
theorem ml_X0_83 : am_ml RX0 83 Y0_placeSet := am_GW_of 357 (by decide +kernel) (by decide +kernel)
theorem ml_X0_87 : am_ml RX0 87 Y6_bitCount := am_GW_of 267 (by decide +kernel) (by decide +kernel)
theorem ml_X0_97 : am_ml RX0 97 Y0_hasChip := am_GW_of 250 (by decide +kernel) (by decide +kernel)
theorem ml_X0_100 : am_ml RX0 100 Y0_keptBy := am_GW_of 258 (by decide +kernel) (by decide +kernel)
theorem ml_X0_104 : am_ml RX0 104 Y0_guardedRows := am_GW_of 263 (by decide +kernel) (by decide +kernel)
theorem ml_X0_107 : am_ml RX0 107 Y0_isGodfather := am_GW_of 281 (by decide +kernel) (by decide +kernel)
theorem ml_X0_110 : am_ml RX0 110 Y0_loseWaiting := am_GW_of 285 (by decide +kernel) (by decide +kernel)
theorem ml_X0_114 : am_ml RX0 114 Y0_loseUnlessSummed := am_GW_of 293 (by decide +kernel) (by decide +kernel)
theorem ml_X0_117 : am_ml RX0 117 Y0_letWait := am_GW_of 301 (by decide +kernel) (by decide +kernel)
theorem ml_X0_124 : am_ml RX0 124 Y0_isBroken := am_GW_of 316 (by decide +kernel) (by decide +kernel)
theorem ml_X0_131 : am_ml RX0 131 Y0_keepAtLowest := am_GW_of 358 (by decide +kernel) (by decide +kernel)
theorem ml_X0_135 : am_ml RX0 135 Y0_hasWord := am_GW_of 370 (by decide +kernel) (by decide +kernel)
theorem ml_X0_138 : am_ml RX0 138 Y0_takeFromChip := am_GW_of 297 (by decide +kernel) (by decide +kernel)
theorem ml_X0_141 : am_ml RX0 141 Y0_chipFor := am_GW_of 399 (by decide +kernel) (by decide +kernel)
theorem ml_X0_145 : am_ml RX0 145 Y0_raiseFirst := am_GW_of 434 (by decide +kernel) (by decide +kernel)
theorem ml_X0_148 : am_ml RX0 148 Y0_leaveQueue := am_GW_of 289 (by decide +kernel) (by decide +kernel)
theorem ml_X1_28 : am_ml RX1 28 Y1_readOrder := am_GW_of 503 (by decide +kernel) (by decide +kernel)
theorem ml_X1_38 : am_ml RX1 38 Y0_hasChip := am_GW_of 515 (by decide +kernel) (by decide +kernel)
theorem ml_X1_44 : am_ml RX1 44 Y1_doOrder := am_GW_of 516 (by decide +kernel) (by decide +kernel)
theorem ml_X1_48 : am_ml RX1 48 Y0_letDie := am_GW_of 520 (by decide +kernel) (by decide +kernel)
theorem ml_X1_52 : am_ml RX1 52 Y0_goTicks := am_GW_of 521 (by decide +kernel) (by decide +kernel)
theorem ml_X1_55 : am_ml RX1 55 Y0_makeGodfather := am_GW_of 522 (by decide +kernel) (by decide +kernel)
theorem ml_X1_58 : am_ml RX1 58 Y0_emptyChip := am_GW_of 523 (by decide +kernel) (by decide +kernel)
theorem ml_X1_64 : am_ml RX1 64 Y0_putWord := am_GW_of 524 (by decide +kernel) (by decide +kernel)
theorem ml_X1_68 : am_ml RX1 68 Y0_breakRow := am_GW_of 525 (by decide +kernel) (by decide +kernel)
theorem ml_X1_72 : am_ml RX1 72 Y1_readNumber := am_GW_of 507 (by decide +kernel) (by decide +kernel)
theorem ml_X1_76 : am_ml RX1 76 Y1_skip := am_GW_of 511 (by decide +kernel) (by decide +kernel)
theorem ml_X3_32 : am_ml RX3 32 Y3_in := am_GW_of 575 (by decide +kernel) (by decide +kernel)
theorem ml_X3_36 : am_ml RX3 36 Y3_ch := am_GW_of 604 (by decide +kernel) (by decide +kernel)
theorem ml_X3_45 : am_ml RX3 45 Y3_wd := am_GW_of 616 (by decide +kernel) (by decide +kernel)
theorem ml_X3_48 : am_ml RX3 48 Y3_isWhole := am_GW_of 629 (by decide +kernel) (by decide +kernel)
theorem ml_X3_52 : am_ml RX3 52 Y3_lives := am_GW_of 600 (by decide +kernel) (by decide +kernel)
theorem ml_X3_56 : am_ml RX3 56 Y3_isGodfather := am_GW_of 648 (by decide +kernel) (by decide +kernel)
theorem ml_X3_59 : am_ml RX3 59 Y3_kept := am_GW_of 612 (by decide +kernel) (by decide +kernel)
theorem ml_X3_62 : am_ml RX3 62 Y3_waiting := am_GW_of 656 (by decide +kernel) (by decide +kernel)
theorem ml_X3_65 : am_ml RX3 65 Y3_isPlace := am_GW_of 684 (by decide +kernel) (by decide +kernel)
theorem ml_X3_68 : am_ml RX3 68 Y3_places := am_GW_of 680 (by decide +kernel) (by decide +kernel)
theorem ml_X3_72 : am_ml RX3 72 Y3_lays := am_GW_of 660 (by decide +kernel) (by decide +kernel)
theorem ml_X3_76 : am_ml RX3 76 Y3_isGuarded := am_GW_of 625 (by decide +kernel) (by decide +kernel)
theorem ml_X3_79 : am_ml RX3 79 Y3_waitsNow := am_GW_of 664 (by decide +kernel) (by decide +kernel)
theorem ml_X3_84 : am_ml RX3 84 Y3_keeps := am_GW_of 580 (by decide +kernel) (by decide +kernel)
theorem ml_X3_87 : am_ml RX3 87 Y3_acted := am_GW_of 584 (by decide +kernel) (by decide +kernel)
theorem ml_X3_90 : am_ml RX3 90 Y3_isChip := am_GW_of 596 (by decide +kernel) (by decide +kernel)
theorem ml_X3_93 : am_ml RX3 93 Y3_words := am_GW_of 608 (by decide +kernel) (by decide +kernel)
theorem ml_X3_97 : am_ml RX3 97 Y3_guarded := am_GW_of 621 (by decide +kernel) (by decide +kernel)
theorem ml_X3_100 : am_ml RX3 100 Y3_ones := am_GW_of 633 (by decide +kernel) (by decide +kernel)
theorem ml_X3_103 : am_ml RX3 103 Y3_elects := am_GW_of 592 (by decide +kernel) (by decide +kernel)
theorem ml_X3_106 : am_ml RX3 106 Y3_lost := am_GW_of 644 (by decide +kernel) (by decide +kernel)
theorem ml_X3_110 : am_ml RX3 110 Y3_falls := am_GW_of 652 (by decide +kernel) (by decide +kernel)
theorem ml_X3_114 : am_ml RX3 114 Y3_kills := am_GW_of 640 (by decide +kernel) (by decide +kernel)
theorem ml_X3_117 : am_ml RX3 117 Y3_breaksOne := am_GW_of 672 (by decide +kernel) (by decide +kernel)
theorem ml_X3_120 : am_ml RX3 120 Y3_sum := am_GW_of 692 (by decide +kernel) (by decide +kernel)
theorem ml_X3_124 : am_ml RX3 124 Y3_lowest := am_GW_of 705 (by decide +kernel) (by decide +kernel)
theorem ml_X3_127 : am_ml RX3 127 Y3_sits := am_GW_of 709 (by decide +kernel) (by decide +kernel)
theorem ml_X3_130 : am_ml RX3 130 Y3_putsOne := am_GW_of 701 (by decide +kernel) (by decide +kernel)
theorem ml_X3_133 : am_ml RX3 133 Y3_isWord := am_GW_of 717 (by decide +kernel) (by decide +kernel)
theorem ml_X3_136 : am_ml RX3 136 Y3_target := am_GW_of 737 (by decide +kernel) (by decide +kernel)
theorem ml_X3_139 : am_ml RX3 139 Y3_empties := am_GW_of 733 (by decide +kernel) (by decide +kernel)
theorem ml_X3_142 : am_ml RX3 142 Y3_ahead := am_GW_of 745 (by decide +kernel) (by decide +kernel)
theorem ml_X3_145 : am_ml RX3 145 Y3_many := am_GW_of 753 (by decide +kernel) (by decide +kernel)
theorem ml_X3_149 : am_ml RX3 149 Y3_firstOf := am_GW_of 757 (by decide +kernel) (by decide +kernel)
theorem ml_X3_152 : am_ml RX3 152 Y3_raises := am_GW_of 774 (by decide +kernel) (by decide +kernel)
theorem ml_X3_156 : am_ml RX3 156 Y3_tickOne := am_GW_of 770 (by decide +kernel) (by decide +kernel)
theorem ml_X3_159 : am_ml RX3 159 Y3_ticks := am_GW_of 765 (by decide +kernel) (by decide +kernel)
theorem ml_X3_162 : am_ml RX3 162 Y3_puts := am_GW_of 786 (by decide +kernel) (by decide +kernel)
theorem ml_X3_165 : am_ml RX3 165 Y3_restores := am_GW_of 790 (by decide +kernel) (by decide +kernel)
theorem ml_X3_168 : am_ml RX3 168 Y3_lossOf := am_GW_of 782 (by decide +kernel) (by decide +kernel)
theorem ml_X3_177 : am_ml RX3 177 Y3_number := am_GW_of 842 (by decide +kernel) (by decide +kernel)
theorem ml_X3_180 : am_ml RX3 180 Y3_has := am_GW_of 846 (by decide +kernel) (by decide +kernel)
theorem ml_X3_184 : am_ml RX3 184 Y3_readsForm := am_GW_of 838 (by decide +kernel) (by decide +kernel)
theorem ml_X3_187 : am_ml RX3 187 Y3_does := am_GW_of 850 (by decide +kernel) (by decide +kernel)
theorem ml_X3_191 : am_ml RX3 191 Y3_doesNext := am_GW_of 834 (by decide +kernel) (by decide +kernel)
theorem ml_X3_197 : am_ml RX3 197 Y3_faulty := am_GW_of 830 (by decide +kernel) (by decide +kernel)
theorem fl_X2_11 : am_fl RX2 11 TX2 0 := am_GW_of 194 (by decide +kernel) (by decide +kernel)
theorem fl_X2_19 : am_fl RX2 19 TX2 1 := am_GW_of 195 (by decide +kernel) (by decide +kernel)
theorem fl_X2_23 : am_fl RX2 23 TX2 2 := am_GW_of 196 (by decide +kernel) (by decide +kernel)
theorem fl_X2_27 : am_fl RX2 27 TX2 3 := am_GW_of 197 (by decide +kernel) (by decide +kernel)
theorem fl_X2_30 : am_fl RX2 30 TX2 4 := am_GW_of 198 (by decide +kernel) (by decide +kernel)
theorem fl_X2_60 : am_fl RX2 60 TX0 5 := am_GW_of 96 (by decide +kernel) (by decide +kernel)
theorem fl_X2_81 : am_fl RX2 81 TX0 6 := am_GW_of 98 (by decide +kernel) (by decide +kernel)
theorem fl_X2_84 : am_fl RX2 84 TX0 7 := am_GW_of 100 (by decide +kernel) (by decide +kernel)
theorem fl_X2_98 : am_fl RX2 98 TX0 8 := am_GW_of 102 (by decide +kernel) (by decide +kernel)
theorem fl_X2_114 : am_fl RX2 114 TX0 13 := am_GW_of 111 (by decide +kernel) (by decide +kernel)
theorem fl_X2_123 : am_fl RX2 123 TX0 14 := am_GW_of 113 (by decide +kernel) (by decide +kernel)
theorem fl_X2_126 : am_fl RX2 126 TX0 15 := am_GW_of 115 (by decide +kernel) (by decide +kernel)
theorem fl_X2_129 : am_fl RX2 129 TX0 16 := am_GW_of 117 (by decide +kernel) (by decide +kernel)
theorem fl_X2_135 : am_fl RX2 135 TX0 17 := am_GW_of 119 (by decide +kernel) (by decide +kernel)
theorem fl_X2_141 : am_fl RX2 141 TX0 12 := am_GW_of 109 (by decide +kernel) (by decide +kernel)
theorem fl_X2_144 : am_fl RX2 144 TX0 9 := am_GW_of 104 (by decide +kernel) (by decide +kernel)
theorem fl_X2_156 : am_fl RX2 156 TX0 11 := am_GW_of 107 (by decide +kernel) (by decide +kernel)
theorem fl_X2_165 : am_fl RX2 165 TX0 0 := am_GW_of 86 (by decide +kernel) (by decide +kernel)
theorem fl_X2_168 : am_fl RX2 168 TX0 3 := am_GW_of 92 (by decide +kernel) (by decide +kernel)
theorem fl_X2_175 : am_fl RX2 175 TX0 1 := am_GW_of 88 (by decide +kernel) (by decide +kernel)
theorem fl_X2_178 : am_fl RX2 178 TX0 2 := am_GW_of 90 (by decide +kernel) (by decide +kernel)
theorem fl_X2_184 : am_fl RX2 184 TX0 4 := am_GW_of 94 (by decide +kernel) (by decide +kernel)
theorem fl_X2_193 : am_fl RX2 193 TX1 1 := am_GW_of 167 (by decide +kernel) (by decide +kernel)
theorem fl_X2_201 : am_fl RX2 201 TX1 0 := am_GW_of 165 (by decide +kernel) (by decide +kernel)
theorem fl_X2_209 : am_fl RX2 209 TX1 3 := am_GW_of 171 (by decide +kernel) (by decide +kernel)
theorem fl_X2_212 : am_fl RX2 212 TX1 2 := am_GW_of 169 (by decide +kernel) (by decide +kernel)
theorem fl_X0_9 : am_fl RX0 9 TX0 5 := am_GW_of 95 (by decide +kernel) (by decide +kernel)
theorem fl_X0_15 : am_fl RX0 15 TX0 6 := am_GW_of 97 (by decide +kernel) (by decide +kernel)
theorem fl_X0_18 : am_fl RX0 18 TX0 7 := am_GW_of 99 (by decide +kernel) (by decide +kernel)
theorem fl_X0_21 : am_fl RX0 21 TX0 8 := am_GW_of 101 (by decide +kernel) (by decide +kernel)
theorem fl_X0_24 : am_fl RX0 24 TX0 9 := am_GW_of 103 (by decide +kernel) (by decide +kernel)
theorem fl_X0_27 : am_fl RX0 27 TX0 10 := am_GW_of 105 (by decide +kernel) (by decide +kernel)
theorem fl_X0_30 : am_fl RX0 30 TX0 11 := am_GW_of 106 (by decide +kernel) (by decide +kernel)
theorem fl_X0_33 : am_fl RX0 33 TX0 12 := am_GW_of 108 (by decide +kernel) (by decide +kernel)
theorem fl_X0_36 : am_fl RX0 36 TX0 13 := am_GW_of 110 (by decide +kernel) (by decide +kernel)
theorem fl_X0_39 : am_fl RX0 39 TX0 14 := am_GW_of 112 (by decide +kernel) (by decide +kernel)
theorem fl_X0_42 : am_fl RX0 42 TX0 15 := am_GW_of 114 (by decide +kernel) (by decide +kernel)
theorem fl_X0_45 : am_fl RX0 45 TX0 16 := am_GW_of 116 (by decide +kernel) (by decide +kernel)
theorem fl_X0_48 : am_fl RX0 48 TX0 17 := am_GW_of 118 (by decide +kernel) (by decide +kernel)
theorem fl_X0_57 : am_fl RX0 57 TX0 0 := am_GW_of 85 (by decide +kernel) (by decide +kernel)
theorem fl_X0_61 : am_fl RX0 61 TX0 1 := am_GW_of 87 (by decide +kernel) (by decide +kernel)
theorem fl_X0_64 : am_fl RX0 64 TX0 2 := am_GW_of 89 (by decide +kernel) (by decide +kernel)
theorem fl_X0_67 : am_fl RX0 67 TX0 3 := am_GW_of 91 (by decide +kernel) (by decide +kernel)
theorem fl_X0_70 : am_fl RX0 70 TX0 4 := am_GW_of 93 (by decide +kernel) (by decide +kernel)
theorem fl_X1_9 : am_fl RX1 9 TX1 0 := am_GW_of 164 (by decide +kernel) (by decide +kernel)
theorem fl_X1_15 : am_fl RX1 15 TX1 4 := am_GW_of 172 (by decide +kernel) (by decide +kernel)
theorem fl_X1_19 : am_fl RX1 19 TX1 3 := am_GW_of 170 (by decide +kernel) (by decide +kernel)
theorem fl_X1_22 : am_fl RX1 22 TX1 1 := am_GW_of 166 (by decide +kernel) (by decide +kernel)
theorem fl_X1_25 : am_fl RX1 25 TX1 2 := am_GW_of 168 (by decide +kernel) (by decide +kernel)
theorem fl_X1_32 : am_fl RX1 32 TX1 5 := am_GW_of 173 (by decide +kernel) (by decide +kernel)
theorem fl_X1_35 : am_fl RX1 35 TX1 6 := am_GW_of 174 (by decide +kernel) (by decide +kernel)
theorem fl_X1_61 : am_fl RX1 61 TX1 7 := am_GW_of 175 (by decide +kernel) (by decide +kernel)
theorem fl_X3_7 : am_fl RX3 7 TX3 0 := am_GW_of 537 (by decide +kernel) (by decide +kernel)
theorem fl_X3_13 : am_fl RX3 13 TX3 1 := am_GW_of 538 (by decide +kernel) (by decide +kernel)
theorem fl_X3_16 : am_fl RX3 16 TX3 2 := am_GW_of 539 (by decide +kernel) (by decide +kernel)
theorem fl_X3_19 : am_fl RX3 19 TX3 3 := am_GW_of 540 (by decide +kernel) (by decide +kernel)
theorem fl_X3_22 : am_fl RX3 22 TX3 4 := am_GW_of 541 (by decide +kernel) (by decide +kernel)
theorem fl_X3_25 : am_fl RX3 25 TX3 6 := am_GW_of 543 (by decide +kernel) (by decide +kernel)
theorem fl_X3_29 : am_fl RX3 29 TX3 10 := am_GW_of 547 (by decide +kernel) (by decide +kernel)
theorem fl_X3_41 : am_fl RX3 41 TX3 5 := am_GW_of 542 (by decide +kernel) (by decide +kernel)
theorem fl_X3_171 : am_fl RX3 171 TX3 7 := am_GW_of 544 (by decide +kernel) (by decide +kernel)
theorem fl_X3_174 : am_fl RX3 174 TX3 8 := am_GW_of 545 (by decide +kernel) (by decide +kernel)
theorem fl_X3_194 : am_fl RX3 194 TX3 9 := am_GW_of 546 (by decide +kernel) (by decide +kernel)
theorem kc_X2_59 : Cond.constant RX2 59 (Int32.ofInt (-1000001)) ∈ am_GW := am_GW_of 325 (by decide +kernel) (by decide +kernel)
theorem kc_X2_94 : Cond.constant RX2 94 (Int32.ofInt (-1000002)) ∈ am_GW := am_GW_of 340 (by decide +kernel) (by decide +kernel)
theorem kc_X2_101 : Cond.constant RX2 101 (Int32.ofInt (-1000004)) ∈ am_GW := am_GW_of 345 (by decide +kernel) (by decide +kernel)
theorem kc_X2_200 : Cond.constant RX2 200 (Int32.ofInt (-1000003)) ∈ am_GW := am_GW_of 490 (by decide +kernel) (by decide +kernel)
theorem kc_X0_95 : Cond.constant RX0 95 (Int32.ofInt (-1000001)) ∈ am_GW := am_GW_of 232 (by decide +kernel) (by decide +kernel)
theorem kc_X0_96 : Cond.constant RX0 96 (Int32.ofInt (-1000003)) ∈ am_GW := am_GW_of 233 (by decide +kernel) (by decide +kernel)
theorem kc_X0_103 : Cond.constant RX0 103 (Int32.ofInt (-1000002)) ∈ am_GW := am_GW_of 262 (by decide +kernel) (by decide +kernel)
theorem kc_X0_144 : Cond.constant RX0 144 (Int32.ofInt (100000)) ∈ am_GW := am_GW_of 433 (by decide +kernel) (by decide +kernel)
theorem kc_X1_71 : Cond.constant RX1 71 (Int32.ofInt (-1000002)) ∈ am_GW := am_GW_of 526 (by decide +kernel) (by decide +kernel)
theorem kc_X3_40 : Cond.constant RX3 40 (Int32.ofInt (-1000001)) ∈ am_GW := am_GW_of 578 (by decide +kernel) (by decide +kernel)
theorem kc_X3_83 : Cond.constant RX3 83 (Int32.ofInt (-1000003)) ∈ am_GW := am_GW_of 579 (by decide +kernel) (by decide +kernel)
theorem kc_X3_96 : Cond.constant RX3 96 (Int32.ofInt (-1000002)) ∈ am_GW := am_GW_of 620 (by decide +kernel) (by decide +kernel)
theorem kc_X3_123 : Cond.constant RX3 123 (Int32.ofInt (-1000004)) ∈ am_GW := am_GW_of 696 (by decide +kernel) (by decide +kernel)
theorem kc_X3_155 : Cond.constant RX3 155 (Int32.ofInt (100000)) ∈ am_GW := am_GW_of 769 (by decide +kernel) (by decide +kernel)
theorem kc_J6_265 : Cond.constant RJ6 265 (Int32.ofInt (1431655765)) ∈ am_GW := am_GW_of 270 (by decide +kernel) (by decide +kernel)
theorem kc_J6_266 : Cond.constant RJ6 266 (Int32.ofInt (858993459)) ∈ am_GW := am_GW_of 271 (by decide +kernel) (by decide +kernel)
theorem kc_J6_267 : Cond.constant RJ6 267 (Int32.ofInt (252645135)) ∈ am_GW := am_GW_of 272 (by decide +kernel) (by decide +kernel)
end
section
/-! ===== the rows at one unit ===== -/
section SU
variable {d : Nat} {y : am_Y} {h1 : am_H} {r : Option am_V} {pc : Nat} {ls : List (Option am_V)} {st : List am_V} {h h0 : am_H}
theorem sx_callVi {y' : am_Y} {u j n ix d' : Nat} {as rest : List am_V} {x : Int} {h' : am_H} (hd : decode y.2.1 pc = .ok (.invokevirtual ix, 3)) (hl : am_ml y.1.cls ix y') (hm : am_mv y' n) (hc : Ct d' y' (.inr (u, j) :: as) (some (.inl x)) h h') (hst : st = as.reverse ++ .inr (u, j) :: rest) (hob : am_ob u j y'.1.cls) (hn : as.length = n) (hdd : d' + 1 ≤ d) (hroom : rest.length ≤ 8)
    (kk : Sx d y h1 r (pc + 3) ls (.inl x :: rest) h') : Sx d y h1 r pc ls st h := sx_callV hd hl hm hc hst hob hn hdd hroom kk
theorem sx_callVv {y' : am_Y} {u j n ix d' : Nat} {as rest : List am_V} {h' : am_H} (hd : decode y.2.1 pc = .ok (.invokevirtual ix, 3)) (hl : am_ml y.1.cls ix y') (hm : am_mv y' n) (hc : Ct d' y' (.inr (u, j) :: as) none h h') (hst : st = as.reverse ++ .inr (u, j) :: rest) (hob : am_ob u j y'.1.cls) (hn : as.length = n) (hdd : d' + 1 ≤ d) (hroom : rest.length ≤ 8)
    (kk : Sx d y h1 r (pc + 3) ls rest h') : Sx d y h1 r pc ls st h := sx_callV hd hl hm hc hst hob hn hdd hroom kk
theorem sx_callVr {y' : am_Y} {u j n ix d' : Nat} {as rest : List am_V} {q : Nat × Nat} {h' : am_H} (hd : decode y.2.1 pc = .ok (.invokevirtual ix, 3)) (hl : am_ml y.1.cls ix y') (hm : am_mv y' n) (hc : Ct d' y' (.inr (u, j) :: as) (some (.inr q)) h h') (hst : st = as.reverse ++ .inr (u, j) :: rest) (hob : am_ob u j y'.1.cls) (hn : as.length = n) (hdd : d' + 1 ≤ d) (hroom : rest.length ≤ 8)
    (kk : Sx d y h1 r (pc + 3) ls (.inr q :: rest) h') : Sx d y h1 r pc ls st h := sx_callV hd hl hm hc hst hob hn hdd hroom kk
theorem sx_callSi {y' : am_Y} {n ix d' : Nat} {as rest : List am_V} {x : Int} {h' : am_H} (hd : decode y.2.1 pc = .ok (.invokestatic ix, 3)) (hl : am_ml y.1.cls ix y') (hm : am_ms y' n) (hc : Ct d' y' as (some (.inl x)) h h') (hst : st = as.reverse ++ rest) (hn : as.length = n) (hdd : d' + 1 ≤ d) (hroom : rest.length ≤ 8)
    (kk : Sx d y h1 r (pc + 3) ls (.inl x :: rest) h') : Sx d y h1 r pc ls st h := sx_callS hd hl hm hc hst hn hdd hroom kk
theorem sx_callNi {y' : am_Y} {n ix d' : Nat} {host : String} {as rest : List am_V} {x : Int} {h' : am_H} (hd : decode y.2.1 pc = .ok (.invokestatic ix, 3)) (hl : Cond.methodLinkNest y.1.cls ix y'.1 host ∈ am_NW) (hm : am_ms y' n) (hc : Ct d' y' as (some (.inl x)) h h') (hst : st = as.reverse ++ rest) (hn : as.length = n) (hdd : d' + 1 ≤ d) (hroom : rest.length ≤ 8)
    (kk : Sx d y h1 r (pc + 3) ls (.inl x :: rest) h') : Sx d y h1 r pc ls st h := sx_callN hd hl hm hc hst hn hdd hroom kk
theorem am_R01 (p : Prop) [Decidable p] : am_R (if p then 1 else 0) := by
  split
  · exact ⟨by decide, by decide⟩
  · exact ⟨by decide, by decide⟩
theorem sx_ifB_eq {p : Prop} [Decidable p] {off : Int} {tgt : Nat} (hd : decode y.2.1 pc = .ok (.ifCond .eq off, 3)) (ht : (pc : Int) + off = (tgt : Int)) (kt : ¬ p → Sx d y h1 r tgt ls st h) (kf : p → Sx d y h1 r (pc + 3) ls st h) : Sx d y h1 r pc ls (.inl (if p then 1 else 0) :: st) h := by
  refine sx_if_eq hd ht (am_R01 p) (fun c => kt (fun hp => ?_)) (fun c => kf ?_)
  · rw [if_pos hp] at c; exact absurd c (by decide)
  · by_cases hp : p
    · exact hp
    · rw [if_neg hp] at c; exact absurd rfl c
theorem sx_ifB_ne {p : Prop} [Decidable p] {off : Int} {tgt : Nat} (hd : decode y.2.1 pc = .ok (.ifCond .ne off, 3)) (ht : (pc : Int) + off = (tgt : Int)) (kt : p → Sx d y h1 r tgt ls st h) (kf : ¬ p → Sx d y h1 r (pc + 3) ls st h) : Sx d y h1 r pc ls (.inl (if p then 1 else 0) :: st) h := by
  refine sx_if_ne hd ht (am_R01 p) (fun c => kt ?_) (fun c => kf (fun hp => ?_))
  · by_cases hp : p
    · exact hp
    · rw [if_neg hp] at c; exact absurd rfl c
  · rw [if_pos hp] at c; exact absurd c (by decide)
-- the reference: unit 7
theorem xx_geti {X : am_M} {ix k : Nat} (hd : decode y.2.1 pc = .ok (.getfield ix, 3)) (hl : am_fl y.1.cls ix TX3 k) (hk : k = 5 ∨ k = 7 ∨ k = 8 ∨ k = 9) (kk : am_R (X 0 k) → Sx d y h1 r (pc + 3) ls (.inl (X 0 k) :: st) (am_U h0 7 X)) : Sx d y h1 r pc ls (.inr (7, 0) :: st) (am_U h0 7 X) := by
  refine sx_vh (fun hV => ?_)
  have hR : am_R (X 0 k) := by have := hV.1 7 0 k; rwa [am_U_at] at this
  refine sx_get hd (am_inX 0 (by decide)) rfl hl (by show k < 11; omega) ?_ (kk hR)
  show am_fX ((am_U h0 7 X).1 7 0) 7 k = _
  rw [am_U_at]
  rcases hk with rfl | rfl | rfl | rfl <;> rfl
theorem xx_getr {X : am_M} {ix k j : Nat} (hd : decode y.2.1 pc = .ok (.getfield ix, 3)) (hl : am_fl y.1.cls ix TX3 k) (hk : k < 11) (hv : am_fX (X 0) 7 k = .inr (7, j)) (kk : Sx d y h1 r (pc + 3) ls (.inr (7, j) :: st) (am_U h0 7 X)) : Sx d y h1 r pc ls (.inr (7, 0) :: st) (am_U h0 7 X) := by
  refine sx_get hd (am_inX 0 (by decide)) rfl hl hk ?_ kk
  show am_fX ((am_U h0 7 X).1 7 0) 7 k = _
  rw [am_U_at]
  exact hv
theorem xx_put {X : am_M} {ix k : Nat} {x : Int} (hd : decode y.2.1 pc = .ok (.putfield ix, 3)) (hl : am_fl y.1.cls ix TX3 k) (hk : k = 5 ∨ k = 7 ∨ k = 8 ∨ k = 9) (hR : am_R x) (kk : Sx d y h1 r (pc + 3) ls st (am_U h0 7 (am_u2 X 0 k x))) : Sx d y h1 r pc ls (.inl x :: .inr (7, 0) :: st) (am_U h0 7 X) := by
  have e : am_U (am_U h0 7 X) 7 (am_u2 ((am_U h0 7 X).1 7) 0 k x) = am_U h0 7 (am_u2 X 0 k x) := by rw [am_U_at, am_U_U]
  refine sx_put hd (am_inX 0 (by decide)) rfl hl (by show k < 11; omega) ?_ ?_ ?_ ?_ hR (by rw [e]; exact kk)
  · rcases hk with rfl | rfl | rfl | rfl <;> rfl
  · rcases hk with rfl | rfl | rfl | rfl <;> rfl
  · intro w
    show am_fX (_) 7 k = _
    rcases hk with rfl | rfl | rfl | rfl <;> simp [am_fX, am_U_at, am_u2_at, am_u1_at]
  · intro w c hc hc9
    show am_fX (_) 7 c = am_fX _ 7 c
    rw [am_U_at, am_u2_at]
    unfold am_fX
    split <;> first | rfl | rw [am_u1_ne _ _ hc]
theorem xx_ild {X : am_M} {j n m : Nat} {i : Int} (hd : decode y.2.1 pc = .ok (.iaload, 1)) (hj : (7, j) ∈ am_cs) (h0' : am_kd 7 j = 1) (hn : am_len 7 j = n) (hn9 : n ≤ 1000000) (hi0 : 0 ≤ i) (hi9 : i < n) (hm : i.toNat = m) (kk : am_R (X j m) → Sx d y h1 r (pc + 1) ls (.inl (X j m) :: st) (am_U h0 7 X)) : Sx d y h1 r pc ls (.inl i :: .inr (7, j) :: st) (am_U h0 7 X) := by
  subst hm
  refine sx_ild hd hj h0' hn hn9 hi0 hi9 ?_
  rw [am_U_at]
  exact kk
theorem xx_cld {X : am_M} {n m : Nat} {i : Int} (hd : decode y.2.1 pc = .ok (.caload, 1)) (hn : am_len 7 6 = n) (hn9 : n ≤ 1000000) (hi0 : 0 ≤ i) (hi9 : i < n) (hm : i.toNat = m) (kk : am_R (X 6 m) → Sx d y h1 r (pc + 1) ls (.inl (X 6 m) :: st) (am_U h0 7 X)) : Sx d y h1 r pc ls (.inl i :: .inr (7, 6) :: st) (am_U h0 7 X) := by
  subst hm
  refine sx_cld hd (am_inX 6 (by decide)) rfl hn hn9 hi0 hi9 ?_
  rw [am_U_at]
  exact kk
theorem xx_ist {X : am_M} {j n m : Nat} {i x : Int} (hd : decode y.2.1 pc = .ok (.iastore, 1)) (hj : (7, j) ∈ am_cs) (h0' : am_kd 7 j = 1) (hn : am_len 7 j = n) (hn9 : n ≤ 1000000) (hi0 : 0 ≤ i) (hi9 : i < n) (hm : i.toNat = m) (hR : am_R x) (kk : Sx d y h1 r (pc + 1) ls st (am_U h0 7 (am_u2 X j m x))) : Sx d y h1 r pc ls (.inl x :: .inl i :: .inr (7, j) :: st) (am_U h0 7 X) := by
  subst hm
  refine sx_ist hd hj h0' hn hn9 hi0 hi9 hR ?_
  rw [am_U_at, am_U_U]
  exact kk
theorem xx_cst {X : am_M} {n m : Nat} {i x : Int} (hd : decode y.2.1 pc = .ok (.castore, 1)) (hn : am_len 7 6 = n) (hn9 : n ≤ 1000000) (hi0 : 0 ≤ i) (hi9 : i < n) (hm : i.toNat = m) (hx0 : 0 ≤ x) (hx9 : x ≤ 65535) (kk : Sx d y h1 r (pc + 1) ls st (am_U h0 7 (am_u2 X 6 m x))) : Sx d y h1 r pc ls (.inl x :: .inl i :: .inr (7, 6) :: st) (am_U h0 7 X) := by
  subst hm
  refine sx_cst hd (am_inX 6 (by decide)) rfl hn hn9 hi0 hi9 hx0 hx9 ?_
  rw [am_U_at, am_U_U]
  exact kk
-- a state of the class: a unit u below 6
theorem mm_geti {M : am_M} {u ix k : Nat} (hu : u < 6) (hd : decode y.2.1 pc = .ok (.getfield ix, 3)) (hl : am_fl y.1.cls ix TX0 k) (hk : k < 5) (kk : am_R (M 0 k) → Sx d y h1 r (pc + 3) ls (.inl (M 0 k) :: st) (am_U h0 u M)) : Sx d y h1 r pc ls (.inr (u, 0) :: st) (am_U h0 u M) := by
  refine sx_vh (fun hV => ?_)
  have hR : am_R (M 0 k) := by have := hV.1 u 0 k; rwa [am_U_at] at this
  refine sx_get hd (am_inM u hu 0 (by decide)) rfl (k := k) (by unfold am_T; rw [if_pos hu]; exact hl) (by unfold am_nf; rw [if_pos hu]; omega) ?_ (kk hR)
  unfold am_f
  rw [if_pos hu, am_U_at]
  rcases (show k = 0 ∨ k = 1 ∨ k = 2 ∨ k = 3 ∨ k = 4 by omega) with rfl | rfl | rfl | rfl | rfl <;> rfl
theorem mm_getr {M : am_M} {u ix j : Nat} (hu : u < 6) (hd : decode y.2.1 pc = .ok (.getfield ix, 3)) (hl : am_fl y.1.cls ix TX0 (j + 4)) (hj : 1 ≤ j ∧ j < 14) (kk : Sx d y h1 r (pc + 3) ls (.inr (u, j) :: st) (am_U h0 u M)) : Sx d y h1 r pc ls (.inr (u, 0) :: st) (am_U h0 u M) := by
  refine sx_get hd (am_inM u hu 0 (by decide)) rfl (k := j + 4) (by unfold am_T; rw [if_pos hu]; exact hl) (by unfold am_nf; rw [if_pos hu]; omega) ?_ kk
  unfold am_f
  rw [if_pos hu]
  obtain ⟨c, rfl⟩ : ∃ c, j = c + 1 := ⟨j - 1, by omega⟩
  rfl
theorem mm_put {M : am_M} {u ix k : Nat} {x : Int} (hu : u < 6) (hd : decode y.2.1 pc = .ok (.putfield ix, 3)) (hl : am_fl y.1.cls ix TX0 k) (hk : k < 5) (hR : am_R x) (kk : Sx d y h1 r (pc + 3) ls st (am_U h0 u (am_u2 M 0 k x))) : Sx d y h1 r pc ls (.inl x :: .inr (u, 0) :: st) (am_U h0 u M) := by
  have e : am_U (am_U h0 u M) u (am_u2 ((am_U h0 u M).1 u) 0 k x) = am_U h0 u (am_u2 M 0 k x) := by rw [am_U_at, am_U_U]
  have hk5 : k = 0 ∨ k = 1 ∨ k = 2 ∨ k = 3 ∨ k = 4 := by omega
  refine sx_put hd (am_inM u hu 0 (by decide)) rfl (k := k) (by unfold am_T; rw [if_pos hu]; exact hl) (by unfold am_nf; rw [if_pos hu]; omega) ?_ ?_ ?_ ?_ hR (by rw [e]; exact kk)
  · unfold am_T; rw [if_pos hu]; rcases hk5 with rfl | rfl | rfl | rfl | rfl <;> rfl
  · unfold am_T; rw [if_pos hu]; rcases hk5 with rfl | rfl | rfl | rfl | rfl <;> rfl
  · intro w
    unfold am_f
    rw [if_pos hu, am_U_at, am_u2_at]
    rcases hk5 with rfl | rfl | rfl | rfl | rfl <;> simp [am_fM, am_u1_at]
  · intro w c hc hc9
    unfold am_f
    rw [if_pos hu, if_pos hu]
    rw [am_U_at, am_u2_at]
    unfold am_fM
    split <;> first | rfl | rw [am_u1_ne _ _ hc]
theorem am_kdM {u j : Nat} (hu : u < 6) (hj : 1 ≤ j) : am_kd u j = 1 := by
  unfold am_kd
  rw [if_neg (by omega), if_neg (by omega), if_neg (by omega)]
theorem mm_ild {M : am_M} {u j n m : Nat} {i : Int} (hu : u < 6) (hd : decode y.2.1 pc = .ok (.iaload, 1)) (hj : 1 ≤ j ∧ j < 14) (hn : am_lenM j = n) (hn9 : n ≤ 1000000) (hi0 : 0 ≤ i) (hi9 : i < n) (hm : i.toNat = m) (kk : am_R (M j m) → Sx d y h1 r (pc + 1) ls (.inl (M j m) :: st) (am_U h0 u M)) : Sx d y h1 r pc ls (.inl i :: .inr (u, j) :: st) (am_U h0 u M) := by
  subst hm
  refine sx_ild hd (am_inM u hu j hj.2) (am_kdM hu hj.1) (n := n) (by unfold am_len; rw [if_pos hu]; exact hn) hn9 hi0 hi9 ?_
  rw [am_U_at]
  exact kk
theorem mm_ist {M : am_M} {u j n m : Nat} {i x : Int} (hu : u < 6) (hd : decode y.2.1 pc = .ok (.iastore, 1)) (hj : 1 ≤ j ∧ j < 14) (hn : am_lenM j = n) (hn9 : n ≤ 1000000) (hi0 : 0 ≤ i) (hi9 : i < n) (hm : i.toNat = m) (hR : am_R x) (kk : Sx d y h1 r (pc + 1) ls st (am_U h0 u (am_u2 M j m x))) : Sx d y h1 r pc ls (.inl x :: .inl i :: .inr (u, j) :: st) (am_U h0 u M) := by
  subst hm
  refine sx_ist hd (am_inM u hu j hj.2) (am_kdM hu hj.1) (n := n) (by unfold am_len; rw [if_pos hu]; exact hn) hn9 hi0 hi9 hR ?_
  rw [am_U_at, am_U_U]
  exact kk
/-- System.arraycopy of a whole row from one state to another -/
theorem sx_copy {u v j n ix : Nat} {M : am_M} (hu : u < 6) (hv : v < 6) (huv : u ≠ v) (hd : decode y.2.1 pc = .ok (.invokestatic ix, 3)) (hl : Cond.methodLink y.1.cls ix arraycopyName ∈ am_GW) (hj : 1 ≤ j ∧ j < 14) (hn : am_lenM j = n) (hdd : 1 ≤ d) (hroom : st.length ≤ 8) (kk : Sx d y h1 r (pc + 3) ls st (am_U h0 u (am_u3 M j (h0.1 v j)))) : Sx d y h1 r pc ls (.inl n :: .inl 0 :: .inr (u, j) :: .inl 0 :: .inr (v, j) :: st) (am_U h0 u M) := by
  intro p l e s m args below meth c D K ad H locs lsr hS hV hP hH hl2
  obtain ⟨hx, hb, hml, hr, hlk, hown, hts, hK, hN, hA⟩ := id hS
  have hn48 : n ≤ 48 := by
    rw [← hn]
    have : ∀ j, j < 14 → am_lenM j ≤ 48 := by decide
    exact this j hj.2
  have he := am_ws_at (K := K) (ad := ad) (h := am_U h0 u M) (am_inM u hu j hj.2)
  have hf := am_ws_at (K := K) (ad := ad) (h := am_U h0 u M) (am_inM v hv j hj.2)
  rw [am_cell1 (am_kdM hu hj.1)] at he
  rw [am_cell1 (am_kdM hv hj.1)] at hf
  have hlu : am_len u j = n := by unfold am_len; rw [if_pos hu]; exact hn
  have hlv : am_len v j = n := by unfold am_len; rw [if_pos hv]; exact hn
  simp only [hlu] at he
  simp only [hlv] at hf
  have c0 : ((0 : Int32).toNatClampNeg) = 0 := rfl
  have cn : (Int32.ofInt (n : Int)).toNatClampNeg = n := by rw [am_clamp ⟨by omega, by omega⟩]; omega
  have ok : ∀ w ∈ am_GW, w.before args s = true := fun w hw => hts w (List.mem_cons_of_mem _ hw)
  refine va_copyi (a := ad u j) (a0 := ad v j) (sp := 0) (dp := 0) (n := Int32.ofInt (n : Int)) hx hb (hml.trans hl2.1.symm) hown (ok _ hl) (ok _ (am_GW_of 224 (by decide +kernel) (by decide +kernel))) (ok _ (am_GW_of 223 (by decide +kernel) (by decide +kernel))) (ok _ (by decide +kernel)) hK hP (am_D hA) hV (am_ix v j) (am_ix u j) 0 0 hf he rfl rfl rfl (by decide) (by decide) ?_ (by rw [c0, cn]; omega) (by rw [c0, cn]; omega) (fun i _ => rfl) hdd ?_ hd (fun H1 locs1 hP1 hD1 hS1 => ?_)
  · rw [show (0 : Int32) = Int32.ofInt 0 from rfl, am_lt ⟨by omega, by omega⟩ ⟨by decide, by decide⟩]; omega
  · rw [am_room]
    show st.length + (nativeFrameWords "java/lang/System" "arraycopy" 5 + 11) ≤ 33 * d
    have : nativeFrameWords "java/lang/System" "arraycopy" 5 ≤ 14 := by decide +kernel
    omega
  · rw [c0, cn] at hP1
    have hP2 : va_P D vwCl (am_ws K ad (am_U h0 u (am_u3 M j (fun k => if k < n then h0.1 v j k else M j k)))) H1 := by
      have e := am_ws_set (K := K) (ad := ad) (h := am_U h0 u M) (h' := am_U h0 u (am_u3 M j (fun k => if k < n then h0.1 v j k else M j k))) (q := (u, j)) (e := .inl (K.1, n, .inl (va_cpy (fun k => Int32.ofInt ((am_U h0 u M).1 v j k)) (fun k => Int32.ofInt ((am_U h0 u M).1 u j k)) 0 0 n))) (am_inM u hu j hj.2) ?_ ?_
      · rw [← e]; exact hP1
      · rw [am_cell1 (am_kdM hu hj.1), hlu]
        congr 3
        congr 1
        funext k
        simp only [am_U_at, am_U_ne _ _ (Ne.symm huv), am_u3, if_pos]
        unfold va_cpy
        by_cases hk : k < n <;> simp [hk]
      · intro q' _ hne
        refine am_cell_of ?_ rfl
        by_cases hq : q'.1 = u
        · rw [hq, am_U_at, am_U_at]
          have hj' : q'.2 ≠ j := fun hj => hne (Prod.ext hq hj)
          unfold am_u3
          rw [if_neg hj']
        · rw [am_U_ne _ _ hq, am_U_ne _ _ hq]
    have hR0 : ∀ a b c, a ≠ u → am_R (h0.1 a b c) := fun a b c hne => by have := hH.1 a b c; rwa [am_U_ne _ _ hne] at this
    have hRM : ∀ b c, am_R (M b c) := fun b c => by have := hH.1 u b c; rwa [am_U_at] at this
    have hVH : am_VH (am_U h0 u (am_u3 M j (h0.1 v j))) := by
      refine ⟨fun a b c => ?_, hH.2⟩
      by_cases ha : a = u
      · subst ha
        rw [am_U_at]
        unfold am_u3
        split
        · exact hR0 v j c (Ne.symm huv)
        · exact hRM b c
      · rw [am_U_ne _ _ ha]; exact hR0 a b c ha
    refine kk p l e s m args below meth c D K ad H1 locs1 lsr hS hS1 (am_agP (h := am_U h0 u (am_u3 M j (fun k => if k < n then h0.1 v j k else M j k))) (h2 := am_U h0 u (am_u3 M j (h0.1 v j))) ⟨rfl, ?_⟩ hP2) hVH hl2
    intro q hq k hk
    by_cases ha : q.1 = u
    · rw [ha, am_U_at, am_U_at]
      unfold am_u3
      by_cases hqj : q.2 = j
      · rw [if_pos hqj, if_pos hqj]
        have hkn : k < n := by
          rw [ha, hqj] at hk
          unfold am_wd at hk
          rwa [if_neg (by rw [am_kdM hu hj.1]; decide), hlu] at hk
        rw [if_pos hkn]
      · rw [if_neg hqj, if_neg hqj]
    · rw [am_U_ne _ _ ha, am_U_ne _ _ ha]
end SU
end
section
/-! ===== the reference's heap: its row s apart ===== -/
theorem am_RT (x : Int32) : am_R x.toInt := ⟨by have := Int32.le_toInt x; omega, by have := Int32.toInt_lt x; omega⟩
def xh (h0 : am_H) (X : am_M) (S : Nat → Int) : am_H := am_U h0 7 (am_u3 X 1 S)
theorem am_u3_at (X : am_M) (j : Nat) (S : Nat → Int) : am_u3 X j S j = S := by simp [am_u3]
theorem am_u3_ne (X : am_M) {j b : Nat} (S : Nat → Int) (h : b ≠ j) : am_u3 X j S b = X b := by simp [am_u3, h]
theorem am_u23 (X : am_M) (j m : Nat) (x : Int) (S : Nat → Int) : am_u2 (am_u3 X j S) j m x = am_u3 X j (am_u1 S m x) := by
  funext b
  unfold am_u2 am_u3
  by_cases hb : b = j
  · simp [hb]
  · simp [hb]
theorem am_u23_ne (X : am_M) {j b : Nat} (m : Nat) (x : Int) (S : Nat → Int) (h : b ≠ j) : am_u2 (am_u3 X j S) b m x = am_u3 (am_u2 X b m x) j S := by
  funext c
  unfold am_u2 am_u3
  by_cases hb : c = b
  · subst hb; simp [h]
  · by_cases hj : c = j
    · simp [hj, Ne.symm h]
    · simp [hb, hj]
theorem am_u33 (X : am_M) (j : Nat) (S T : Nat → Int) : am_u3 (am_u3 X j S) j T = am_u3 X j T := by
  funext b
  unfold am_u3
  by_cases hb : b = j <;> simp [hb]
theorem am_u33_ne (X : am_M) {j b : Nat} (S T : Nat → Int) (h : b ≠ j) : am_u3 (am_u3 X j S) b T = am_u3 (am_u3 X b T) j S := by
  funext c
  unfold am_u3
  by_cases hb : c = b
  · subst hb; simp [h]
  · by_cases hj : c = j
    · simp [hj, Ne.symm h]
    · simp [hb, hj]
theorem am_u3_id (X : am_M) (j : Nat) : am_u3 X j (X j) = X := by
  funext b
  unfold am_u3
  by_cases hb : b = j <;> simp [hb]
theorem xh_id (h : am_H) : xh h (h.1 7) (h.1 7 1) = h := by
  unfold xh
  rw [am_u3_id, am_U_id]
section XR
variable {d : Nat} {y : am_Y} {h1 : am_H} {r : Option am_V} {pc : Nat} {ls : List (Option am_V)} {st : List am_V} {h0 : am_H} {X : am_M} {S : Nat → Int}
theorem xs_geti {ix k : Nat} (hd : decode y.2.1 pc = .ok (.getfield ix, 3)) (hl : am_fl y.1.cls ix TX3 k) (hk : k = 5 ∨ k = 7 ∨ k = 8 ∨ k = 9) (kk : am_R (X 0 k) → Sx d y h1 r (pc + 3) ls (.inl (X 0 k) :: st) (xh h0 X S)) : Sx d y h1 r pc ls (.inr (7, 0) :: st) (xh h0 X S) := xx_geti (X := am_u3 X 1 S) hd hl hk kk
theorem xs_getr {ix k j : Nat} (hd : decode y.2.1 pc = .ok (.getfield ix, 3)) (hl : am_fl y.1.cls ix TX3 k) (hk : k < 11) (hv : am_fX (X 0) 7 k = .inr (7, j)) (kk : Sx d y h1 r (pc + 3) ls (.inr (7, j) :: st) (xh h0 X S)) : Sx d y h1 r pc ls (.inr (7, 0) :: st) (xh h0 X S) := xx_getr (X := am_u3 X 1 S) hd hl hk hv kk
theorem xs_put {ix k : Nat} {x : Int} (hd : decode y.2.1 pc = .ok (.putfield ix, 3)) (hl : am_fl y.1.cls ix TX3 k) (hk : k = 5 ∨ k = 7 ∨ k = 8 ∨ k = 9) (hR : am_R x) (kk : Sx d y h1 r (pc + 3) ls st (xh h0 (am_u2 X 0 k x) S)) : Sx d y h1 r pc ls (.inl x :: .inr (7, 0) :: st) (xh h0 X S) := by
  refine xx_put (X := am_u3 X 1 S) hd hl hk hR ?_
  rw [am_u23_ne X k x S (by decide : (0 : Nat) ≠ 1)]
  exact kk
theorem xs_ild {n m : Nat} {i : Int} (hd : decode y.2.1 pc = .ok (.iaload, 1)) (hn : am_len 7 1 = n) (hn9 : n ≤ 1000000) (hi0 : 0 ≤ i) (hi9 : i < n) (hm : i.toNat = m) (kk : am_R (S m) → Sx d y h1 r (pc + 1) ls (.inl (S m) :: st) (xh h0 X S)) : Sx d y h1 r pc ls (.inl i :: .inr (7, 1) :: st) (xh h0 X S) := xx_ild (X := am_u3 X 1 S) (j := 1) hd (am_inX 1 (by decide)) rfl hn hn9 hi0 hi9 hm kk
theorem xs_ildo {j n m : Nat} {i : Int} (hd : decode y.2.1 pc = .ok (.iaload, 1)) (hj : (7, j) ∈ am_cs) (h0' : am_kd 7 j = 1) (hj1 : j ≠ 1) (hn : am_len 7 j = n) (hn9 : n ≤ 1000000) (hi0 : 0 ≤ i) (hi9 : i < n) (hm : i.toNat = m) (kk : am_R (X j m) → Sx d y h1 r (pc + 1) ls (.inl (X j m) :: st) (xh h0 X S)) : Sx d y h1 r pc ls (.inl i :: .inr (7, j) :: st) (xh h0 X S) := by
  refine xx_ild (X := am_u3 X 1 S) (j := j) hd hj h0' hn hn9 hi0 hi9 hm ?_
  rw [am_u3_ne X S hj1]
  exact kk
theorem xs_cld {n m : Nat} {i : Int} (hd : decode y.2.1 pc = .ok (.caload, 1)) (hn : am_len 7 6 = n) (hn9 : n ≤ 1000000) (hi0 : 0 ≤ i) (hi9 : i < n) (hm : i.toNat = m) (kk : am_R (X 6 m) → Sx d y h1 r (pc + 1) ls (.inl (X 6 m) :: st) (xh h0 X S)) : Sx d y h1 r pc ls (.inl i :: .inr (7, 6) :: st) (xh h0 X S) := xx_cld (X := am_u3 X 1 S) hd hn hn9 hi0 hi9 hm kk
theorem xs_ist {n m : Nat} {i x : Int} (hd : decode y.2.1 pc = .ok (.iastore, 1)) (hn : am_len 7 1 = n) (hn9 : n ≤ 1000000) (hi0 : 0 ≤ i) (hi9 : i < n) (hm : i.toNat = m) (hR : am_R x) (kk : Sx d y h1 r (pc + 1) ls st (xh h0 X (am_u1 S m x))) : Sx d y h1 r pc ls (.inl x :: .inl i :: .inr (7, 1) :: st) (xh h0 X S) := by
  refine xx_ist (X := am_u3 X 1 S) (j := 1) hd (am_inX 1 (by decide)) rfl hn hn9 hi0 hi9 hm hR ?_
  rw [am_u23]
  exact kk
theorem xs_isto {j n m : Nat} {i x : Int} (hd : decode y.2.1 pc = .ok (.iastore, 1)) (hj : (7, j) ∈ am_cs) (h0' : am_kd 7 j = 1) (hj1 : j ≠ 1) (hn : am_len 7 j = n) (hn9 : n ≤ 1000000) (hi0 : 0 ≤ i) (hi9 : i < n) (hm : i.toNat = m) (hR : am_R x) (kk : Sx d y h1 r (pc + 1) ls st (xh h0 (am_u2 X j m x) S)) : Sx d y h1 r pc ls (.inl x :: .inl i :: .inr (7, j) :: st) (xh h0 X S) := by
  refine xx_ist (X := am_u3 X 1 S) (j := j) hd hj h0' hn hn9 hi0 hi9 hm hR ?_
  rw [am_u23_ne X m x S hj1]
  exact kk
theorem xs_cst {n m : Nat} {i x : Int} (hd : decode y.2.1 pc = .ok (.castore, 1)) (hn : am_len 7 6 = n) (hn9 : n ≤ 1000000) (hi0 : 0 ≤ i) (hi9 : i < n) (hm : i.toNat = m) (hx0 : 0 ≤ x) (hx9 : x ≤ 65535) (kk : Sx d y h1 r (pc + 1) ls st (xh h0 (am_u2 X 6 m x) S)) : Sx d y h1 r pc ls (.inl x :: .inl i :: .inr (7, 6) :: st) (xh h0 X S) := by
  refine xx_cst (X := am_u3 X 1 S) hd hn hn9 hi0 hi9 hm hx0 hx9 ?_
  rw [am_u23_ne X m x S (by decide : (6 : Nat) ≠ 1)]
  exact kk
/-- what every number in this heap keeps to -/
theorem xs_vh (kk : (∀ m, am_R (S m)) → (∀ j m, j ≠ 1 → am_R (X j m)) → Sx d y h1 r pc ls st (xh h0 X S)) : Sx d y h1 r pc ls st (xh h0 X S) := by
  refine sx_vh (fun hV => kk (fun m => ?_) (fun j m hj => ?_))
  · have := hV.1 7 1 m
    unfold xh at this
    rwa [am_U_at, am_u3_at] at this
  · have := hV.1 7 j m
    unfold xh at this
    rwa [am_U_at, am_u3_ne X S hj] at this
end XR
theorem sx_forget {d : Nat} {y : am_Y} {h1 : am_H} {r : Option am_V} {pc : Nat} {ls : List (Option am_V)} {st : List am_V} {h : am_H} (k : Nat) (kk : Sx d y h1 r pc (ls.set k none) st h) : Sx d y h1 r pc ls st h := by
  refine sx_ls (fun i v hi => ?_) kk
  by_cases hik : i = k
  · subst hik
    by_cases hl : i < ls.length
    · rw [List.getElem?_set_self hl] at hi; cases hi
    · rw [List.getElem?_eq_none (by rw [List.length_set]; omega)] at hi; cases hi
  · rwa [List.getElem?_set_ne (Ne.symm hik)] at hi
theorem sx_heq {d : Nat} {y : am_Y} {h1 : am_H} {r : Option am_V} {pc : Nat} {ls : List (Option am_V)} {st : List am_V} {h : am_H} (h2 : am_H) (hh : h2 = h) (kk : Sx d y h1 r pc ls st h2) : Sx d y h1 r pc ls st h := hh ▸ kk
theorem am_R_and (x z : Int) : am_R (am_and x z) := am_RT _
theorem am_R_or (x z : Int) : am_R (am_or x z) := am_RT _
theorem am_R_xor (x z : Int) : am_R (am_xor x z) := am_RT _
theorem am_R_shl (x z : Int) : am_R (am_shl x z) := am_RT _
theorem am_R_shr (x z : Int) : am_R (am_shr x z) := am_RT _
end
section
/-! ===== the reference's words for its row s ===== -/
def lastW (p : Nat → Bool) : Nat → Int
  | 0 => -1
  | n + 1 => if p n = true then (n : Int) else lastW p n
def cntW (p : Nat → Bool) : Nat → Int
  | 0 => 0
  | n + 1 => cntW p n + (if p n = true then 1 else 0)
def bit (b r : Int) : Int := am_and (am_shr b r) 1
def xch (S : Nat → Int) (c k : Int) : Int := S (8 + 4 * c + k).toNat
def xwd (S : Nat → Int) (w k : Int) : Int := S (40 + 7 * w + k).toNat
def xkept (S : Nat → Int) (c row : Int) : Int := lastW (fun w => xwd S w 1 == 0 && xwd S w 2 == c && xwd S w 3 == row) (S 1).toNat
def xwait (S : Nat → Int) (f row : Int) : Int := lastW (fun w => xwd S w 1 == 1 && xwd S w 4 == f && xwd S w 3 == row) (S 1).toNat
theorem lastW_R (p : Nat → Bool) (n : Nat) (hn : n ≤ 1000) : -1 ≤ lastW p n ∧ lastW p n < n ∨ lastW p n = -1 := by
  induction n with
  | zero => exact Or.inr rfl
  | succ n ih =>
    unfold lastW
    have := ih (by omega)
    split <;> omega
theorem cntW_R (p : Nat → Bool) (n : Nat) : 0 ≤ cntW p n ∧ cntW p n ≤ n := by
  induction n with
  | zero => exact ⟨Int.le_refl _, Int.le_refl _⟩
  | succ n ih =>
    unfold cntW
    split <;> omega
def fstW (p : Nat → Bool) : Nat → Nat → Int
  | r, 0 => r
  | r, n + 1 => if p r = true then r else fstW p (r + 1) n
def xgod (S : Nat → Int) (f : Int) : Int := S (5 + f).toNat
def xgu (S : Nat → Int) (f row : Int) : Bool := decide (0 ≤ xgod S f) && bit (xch S (xgod S f) 3) row == 0
def xisg (S : Nat → Int) (c : Int) : Bool := xgod S (xch S c 0) == c
def xpl (S : Nat → Int) (c row : Int) : Bool := xch S c 2 == 1 && (!xisg S c && (bit (xch S c 3) row == 0 && (decide (xkept S c row < 0) && decide (xwait S (xch S c 0) row < 0))))
def xpls (S : Nat → Int) (c : Int) : Int := cntW (fun r => xpl S c r) 6
def xlow (S : Nat → Int) (c : Int) : Int := fstW (fun r => xpl S c r) 0 6
/-- what is always so of the row's shape -/
def WX (S : Nat → Int) : Prop := (0 ≤ S 0 ∧ S 0 ≤ 8) ∧ (0 ≤ S 1 ∧ S 1 ≤ 24) ∧ (∀ f : Int, 0 ≤ f → f ≤ 2 → -1 ≤ xgod S f ∧ xgod S f < 8) ∧ (∀ c : Int, 0 ≤ c → c < 8 → 0 ≤ xch S c 0 ∧ xch S c 0 ≤ 2) ∧ (∀ w : Int, 0 ≤ w → w < 24 → (0 ≤ xwd S w 4 ∧ xwd S w 4 ≤ 2) ∧ 0 ≤ xwd S w 3 ∧ xwd S w 3 ≤ 5)
theorem lastW_b (p : Nat → Bool) (n : Nat) : -1 ≤ lastW p n ∧ lastW p n < n := by
  induction n with
  | zero => exact ⟨Int.le_refl _, by show (-1 : Int) < 0; decide⟩
  | succ n ih =>
    unfold lastW
    split <;> omega
theorem lastW_RR {p : Nat → Bool} {n : Int} (hn : n ≤ 24) (hn0 : 0 ≤ n) : am_R (lastW p n.toNat) := by
  have := lastW_b p n.toNat
  exact ⟨by omega, by omega⟩
theorem xkept_b {S : Nat → Int} (hW : WX S) (c row : Int) : -1 ≤ xkept S c row ∧ xkept S c row < S 1 ∧ xkept S c row < 24 := by
  have h := lastW_b (fun w => xwd S w 1 == 0 && xwd S w 2 == c && xwd S w 3 == row) (S 1).toNat
  have h1 := hW.2.1
  unfold xkept
  omega
theorem xwait_b {S : Nat → Int} (hW : WX S) (c row : Int) : -1 ≤ xwait S c row ∧ xwait S c row < S 1 ∧ xwait S c row < 24 := by
  have h := lastW_b (fun w => xwd S w 1 == 1 && xwd S w 4 == c && xwd S w 3 == row) (S 1).toNat
  have h1 := hW.2.1
  unfold xwait
  omega
theorem xpls_b (S : Nat → Int) (c : Int) : 0 ≤ xpls S c ∧ xpls S c ≤ 6 := cntW_R _ 6
theorem xpls_R (S : Nat → Int) (c : Int) : am_R (xpls S c) := by
  have := xpls_b S c
  exact ⟨by omega, by omega⟩
theorem xkept_R {S : Nat → Int} (hW : WX S) (c row : Int) : am_R (xkept S c row) := by
  have := xkept_b hW c row
  exact ⟨by omega, by omega⟩
theorem xwait_R {S : Nat → Int} (hW : WX S) (c row : Int) : am_R (xwait S c row) := by
  have := xwait_b hW c row
  exact ⟨by omega, by omega⟩
theorem fstW_b (p : Nat → Bool) (r n : Nat) : r ≤ fstW p r n ∧ fstW p r n ≤ r + n := by
  induction n generalizing r with
  | zero => exact ⟨Int.le_refl _, by show (r : Int) ≤ r + 0; omega⟩
  | succ n ih =>
    unfold fstW
    have := ih (r + 1)
    split <;> omega
def sumW (g : Nat → Int) : Nat → Int
  | 0 => 0
  | n + 1 => sumW g n + g n
def orW (p : Nat → Bool) : Nat → Int
  | 0 => 0
  | n + 1 => am_or (orW p n) (if p n = true then am_shl 1 n else 0)
def xones (b : Int) : Int := sumW (fun k => bit b k) 8
def xlost (S : Nat → Int) : Int := cntW (fun w => xwd S w 1 == 2) (S 1).toNat
def xwords (S : Nat → Int) (c : Int) : Int := cntW (fun r => decide (0 ≤ xkept S c r)) 6
def xgd (S : Nat → Int) (f : Int) : Int := orW (fun r => xgu S f r) 6
def xlay (S : Nat → Int) (w k v : Int) : Nat → Int := am_u1 S (40 + 7 * w + k).toNat v
theorem xwd_R {S : Nat → Int} (h : ∀ m, am_R (S m)) (w k : Int) : am_R (xwd S w k) := h _
theorem xch_R {S : Nat → Int} (h : ∀ m, am_R (S m)) (w k : Int) : am_R (xch S w k) := h _
theorem bit_R (b r : Int) : am_R (bit b r) := am_RT _
end
section
set_option maxHeartbeats 4000000 in
set_option maxRecDepth 100000 in
theorem tx_in {h : am_H} (v low high : Int) (h1 : am_R v) (h2 : am_R low) (h3 : am_R high) : Ct 0 Y3_in [.inl v, .inl low, .inl high] (some (.inl (if low ≤ v ∧ v ≤ high then 1 else 0))) h h := by
  refine Ct_of (by decide +kernel) (Nat.le_of_ble_eq_true rfl) ?_
  show Sx 0 Y3_in h (some (.inl (if low ≤ v ∧ v ≤ high then 1 else 0))) 0 [some (.inl v), some (.inl low), some (.inl high)] [] h
  refine sx_iload_n dX3_in_0 rfl ?_
  refine sx_iload_n dX3_in_1 rfl ?_
  refine sx_icmp_lt (tgt := 14) dX3_in_2 (by decide) (by first | omega | exact hR _ _ | exact am_RT _ | (exact ⟨by omega, by omega⟩) | assumption) (by first | omega | exact hR _ _ | exact am_RT _ | (exact ⟨by omega, by omega⟩) | assumption) (fun c2 => ?_) (fun c2 => ?_)
  · -- 2t
    refine sx_iconst dX3_in_14 ?_
    exact sx_zret dX3_in_15 rfl (by decide) (by first | rw [if_pos (by omega)] | rw [if_neg (by omega)]) rfl
  · -- 2f
    refine sx_iload_n dX3_in_5 rfl ?_
    refine sx_iload_n dX3_in_6 rfl ?_
    refine sx_icmp_gt (tgt := 14) dX3_in_7 (by decide) (by first | omega | exact hR _ _ | exact am_RT _ | (exact ⟨by omega, by omega⟩) | assumption) (by first | omega | exact hR _ _ | exact am_RT _ | (exact ⟨by omega, by omega⟩) | assumption) (fun c7 => ?_) (fun c7 => ?_)
    · -- 7t
      refine sx_iconst dX3_in_14 ?_
      exact sx_zret dX3_in_15 rfl (by decide) (by first | rw [if_pos (by omega)] | rw [if_neg (by omega)]) rfl
    · -- 7f
      refine sx_iconst dX3_in_10 ?_
      refine sx_goto (tgt := 15) dX3_in_11 (by decide) ?_
      exact sx_zret dX3_in_15 rfl (by decide) (by first | rw [if_pos (by omega)] | rw [if_neg (by omega)]) rfl
set_option maxHeartbeats 4000000 in
set_option maxRecDepth 100000 in
theorem tx_ch {h0 : am_H} {X : am_M} {S : Nat → Int} (c k : Int) (hc : 0 ≤ c ∧ c < 8) (hk : 0 ≤ k ∧ k < 4) : Ct 0 Y3_ch [.inr (7, 0), .inl c, .inl k] (some (.inl (xch S c k))) (xh h0 X S) (xh h0 X S) := by
  refine Ct_of (by decide +kernel) (Nat.le_of_ble_eq_true rfl) ?_
  show Sx 0 Y3_ch (xh h0 X S) (some (.inl (xch S c k))) 0 [some (.inr (7, 0)), some (.inl c), some (.inl k)] [] (xh h0 X S)
  refine xs_vh (fun hR hRX => ?_)
  refine sx_aload_n dX3_ch_0 rfl ?_
  refine xs_getr (j := 1) dX3_ch_1 fl_X3_7 (by decide) rfl ?_
  refine sx_bipush dX3_ch_4 rfl ?_
  refine sx_iconst dX3_ch_6 ?_
  refine sx_iload_n dX3_ch_7 rfl ?_
  refine sx_imul dX3_ch_8 ?_
  refine sx_iadd dX3_ch_9 ?_
  refine sx_iload_n dX3_ch_10 rfl ?_
  refine sx_iadd dX3_ch_11 ?_
  refine xs_ild (n := 208) dX3_ch_12 rfl (by decide) (by first | omega | assumption | (with_reducible first | exact hR _ | exact xwd_R hR _ _ | exact xch_R hR _ _ | exact am_R_and _ _ | exact am_R_or _ _ | exact am_R_xor _ _ | exact am_R_shl _ _ | exact am_R_shr _ _ | exact bit_R _ _ | exact xpls_R _ _ | exact xkept_R hW _ _ | exact xwait_R hW _ _ ) | (exact ⟨by omega, by omega⟩) | exact wf _ (by omega) (by omega) | exact wg _ (by omega) (by omega)) (by first | omega | assumption | (with_reducible first | exact hR _ | exact xwd_R hR _ _ | exact xch_R hR _ _ | exact am_R_and _ _ | exact am_R_or _ _ | exact am_R_xor _ _ | exact am_R_shl _ _ | exact am_R_shr _ _ | exact bit_R _ _ | exact xpls_R _ _ | exact xkept_R hW _ _ | exact xwait_R hW _ _ ) | (exact ⟨by omega, by omega⟩) | exact wf _ (by omega) (by omega) | exact wg _ (by omega) (by omega)) rfl (fun r12 => ?_)
  exact sx_iret dX3_ch_13 rfl rfl rfl
set_option maxHeartbeats 4000000 in
set_option maxRecDepth 100000 in
theorem tx_wd {h0 : am_H} {X : am_M} {S : Nat → Int} (w k : Int) (hw : 0 ≤ w ∧ w < 24) (hk : 0 ≤ k ∧ k < 7) : Ct 0 Y3_wd [.inr (7, 0), .inl w, .inl k] (some (.inl (xwd S w k))) (xh h0 X S) (xh h0 X S) := by
  refine Ct_of (by decide +kernel) (Nat.le_of_ble_eq_true rfl) ?_
  show Sx 0 Y3_wd (xh h0 X S) (some (.inl (xwd S w k))) 0 [some (.inr (7, 0)), some (.inl w), some (.inl k)] [] (xh h0 X S)
  refine xs_vh (fun hR hRX => ?_)
  refine sx_aload_n dX3_wd_0 rfl ?_
  refine xs_getr (j := 1) dX3_wd_1 fl_X3_7 (by decide) rfl ?_
  refine sx_bipush dX3_wd_4 rfl ?_
  refine sx_bipush dX3_wd_6 rfl ?_
  refine sx_iload_n dX3_wd_8 rfl ?_
  refine sx_imul dX3_wd_9 ?_
  refine sx_iadd dX3_wd_10 ?_
  refine sx_iload_n dX3_wd_11 rfl ?_
  refine sx_iadd dX3_wd_12 ?_
  refine xs_ild (n := 208) dX3_wd_13 rfl (by decide) (by first | omega | assumption | (with_reducible first | exact hR _ | exact xwd_R hR _ _ | exact xch_R hR _ _ | exact am_R_and _ _ | exact am_R_or _ _ | exact am_R_xor _ _ | exact am_R_shl _ _ | exact am_R_shr _ _ | exact bit_R _ _ | exact xpls_R _ _ | exact xkept_R hW _ _ | exact xwait_R hW _ _ ) | (exact ⟨by omega, by omega⟩) | exact wf _ (by omega) (by omega) | exact wg _ (by omega) (by omega)) (by first | omega | assumption | (with_reducible first | exact hR _ | exact xwd_R hR _ _ | exact xch_R hR _ _ | exact am_R_and _ _ | exact am_R_or _ _ | exact am_R_xor _ _ | exact am_R_shl _ _ | exact am_R_shr _ _ | exact bit_R _ _ | exact xpls_R _ _ | exact xkept_R hW _ _ | exact xwait_R hW _ _ ) | (exact ⟨by omega, by omega⟩) | exact wf _ (by omega) (by omega) | exact wg _ (by omega) (by omega)) rfl (fun r13 => ?_)
  exact sx_iret dX3_wd_14 rfl rfl rfl
set_option maxHeartbeats 4000000 in
set_option maxRecDepth 100000 in
theorem tx_lays {h0 : am_H} {X : am_M} {S : Nat → Int} (w k v : Int) (hw : 0 ≤ w ∧ w < 24) (hk : 0 ≤ k ∧ k < 7) (hv : am_R v) : Ct 0 Y3_lays [.inr (7, 0), .inl w, .inl k, .inl v] none (xh h0 X S) (xh h0 X (xlay S w k v)) := by
  refine Ct_of (by decide +kernel) (Nat.le_of_ble_eq_true rfl) ?_
  show Sx 0 Y3_lays (xh h0 X (xlay S w k v)) none 0 [some (.inr (7, 0)), some (.inl w), some (.inl k), some (.inl v)] [] (xh h0 X S)
  refine xs_vh (fun hR hRX => ?_)
  refine sx_aload_n dX3_lays_0 rfl ?_
  refine xs_getr (j := 1) dX3_lays_1 fl_X3_7 (by decide) rfl ?_
  refine sx_bipush dX3_lays_4 rfl ?_
  refine sx_bipush dX3_lays_6 rfl ?_
  refine sx_iload_n dX3_lays_8 rfl ?_
  refine sx_imul dX3_lays_9 ?_
  refine sx_iadd dX3_lays_10 ?_
  refine sx_iload_n dX3_lays_11 rfl ?_
  refine sx_iadd dX3_lays_12 ?_
  refine sx_iload_n dX3_lays_13 rfl ?_
  refine xs_ist (n := 208) dX3_lays_14 rfl (by decide) (by first | omega | assumption | (with_reducible first | exact hR _ | exact xwd_R hR _ _ | exact xch_R hR _ _ | exact am_R_and _ _ | exact am_R_or _ _ | exact am_R_xor _ _ | exact am_R_shl _ _ | exact am_R_shr _ _ | exact bit_R _ _ | exact xpls_R _ _ | exact xkept_R hW _ _ | exact xwait_R hW _ _ ) | (exact ⟨by omega, by omega⟩) | exact wf _ (by omega) (by omega) | exact wg _ (by omega) (by omega)) (by first | omega | assumption | (with_reducible first | exact hR _ | exact xwd_R hR _ _ | exact xch_R hR _ _ | exact am_R_and _ _ | exact am_R_or _ _ | exact am_R_xor _ _ | exact am_R_shl _ _ | exact am_R_shr _ _ | exact bit_R _ _ | exact xpls_R _ _ | exact xkept_R hW _ _ | exact xwait_R hW _ _ ) | (exact ⟨by omega, by omega⟩) | exact wf _ (by omega) (by omega) | exact wg _ (by omega) (by omega)) rfl (by first | omega | assumption | (with_reducible first | exact hR _ | exact xwd_R hR _ _ | exact xch_R hR _ _ | exact am_R_and _ _ | exact am_R_or _ _ | exact am_R_xor _ _ | exact am_R_shl _ _ | exact am_R_shr _ _ | exact bit_R _ _ | exact xpls_R _ _ | exact xkept_R hW _ _ | exact xwait_R hW _ _ ) | (exact ⟨by omega, by omega⟩) | exact wf _ (by omega) (by omega) | exact wg _ (by omega) (by omega)) ?_
  exact sx_vret dX3_lays_15 rfl rfl rfl
set_option maxHeartbeats 4000000 in
set_option maxRecDepth 100000 in
theorem tx_isChip {h0 : am_H} {X : am_M} {S : Nat → Int} (c : Int) (hW : WX S) (hc : am_R c) : Ct 1 Y3_isChip [.inr (7, 0), .inl c] (some (.inl (if 0 ≤ c ∧ c ≤ S 0 - 1 then 1 else 0))) (xh h0 X S) (xh h0 X S) := by
  refine Ct_of (by decide +kernel) (Nat.le_of_ble_eq_true rfl) ?_
  show Sx 1 Y3_isChip (xh h0 X S) (some (.inl (if 0 ≤ c ∧ c ≤ S 0 - 1 then 1 else 0))) 0 [some (.inr (7, 0)), some (.inl c)] [] (xh h0 X S)
  refine xs_vh (fun hR hRX => ?_)
  obtain ⟨w0, w1, wg, wf, wo⟩ := id hW
  refine sx_iload_n dX3_isChip_0 rfl ?_
  refine sx_iconst dX3_isChip_1 ?_
  refine sx_aload_n dX3_isChip_2 rfl ?_
  refine xs_getr (j := 1) dX3_isChip_3 fl_X3_7 (by decide) rfl ?_
  refine sx_iconst dX3_isChip_6 ?_
  refine xs_ild (n := 208) (m := 0) dX3_isChip_7 rfl (by decide) (by decide) (by decide) rfl (fun r7 => ?_)
  refine sx_iconst dX3_isChip_8 ?_
  refine sx_isub dX3_isChip_9 ?_
  refine sx_callSi dX3_isChip_10 ml_X3_32 ms3_in (tx_in _ _ _ (by first | omega | assumption | (with_reducible first | exact hR _ | exact xwd_R hR _ _ | exact xch_R hR _ _ | exact am_R_and _ _ | exact am_R_or _ _ | exact am_R_xor _ _ | exact am_R_shl _ _ | exact am_R_shr _ _ | exact bit_R _ _ | exact xpls_R _ _ | exact xkept_R hW _ _ | exact xwait_R hW _ _ ) | (exact ⟨by omega, by omega⟩) | exact wf _ (by omega) (by omega) | exact wg _ (by omega) (by omega)) (by first | omega | assumption | (with_reducible first | exact hR _ | exact xwd_R hR _ _ | exact xch_R hR _ _ | exact am_R_and _ _ | exact am_R_or _ _ | exact am_R_xor _ _ | exact am_R_shl _ _ | exact am_R_shr _ _ | exact bit_R _ _ | exact xpls_R _ _ | exact xkept_R hW _ _ | exact xwait_R hW _ _ ) | (exact ⟨by omega, by omega⟩) | exact wf _ (by omega) (by omega) | exact wg _ (by omega) (by omega)) (by first | omega | assumption | (with_reducible first | exact hR _ | exact xwd_R hR _ _ | exact xch_R hR _ _ | exact am_R_and _ _ | exact am_R_or _ _ | exact am_R_xor _ _ | exact am_R_shl _ _ | exact am_R_shr _ _ | exact bit_R _ _ | exact xpls_R _ _ | exact xkept_R hW _ _ | exact xwait_R hW _ _ ) | (exact ⟨by omega, by omega⟩) | exact wf _ (by omega) (by omega) | exact wg _ (by omega) (by omega))) rfl rfl (Nat.le_of_ble_eq_true rfl) (Nat.le_of_ble_eq_true rfl) ?_
  exact sx_zret dX3_isChip_13 rfl (by first | decide | (split <;> simp)) rfl rfl
set_option maxHeartbeats 4000000 in
set_option maxRecDepth 100000 in
theorem tx_isWord {h0 : am_H} {X : am_M} {S : Nat → Int} (w : Int) (hW : WX S) (hc : am_R w) : Ct 1 Y3_isWord [.inr (7, 0), .inl w] (some (.inl (if 0 ≤ w ∧ w ≤ S 1 - 1 then 1 else 0))) (xh h0 X S) (xh h0 X S) := by
  refine Ct_of (by decide +kernel) (Nat.le_of_ble_eq_true rfl) ?_
  show Sx 1 Y3_isWord (xh h0 X S) (some (.inl (if 0 ≤ w ∧ w ≤ S 1 - 1 then 1 else 0))) 0 [some (.inr (7, 0)), some (.inl w)] [] (xh h0 X S)
  refine xs_vh (fun hR hRX => ?_)
  obtain ⟨w0, w1, wg, wf, wo⟩ := id hW
  refine sx_iload_n dX3_isWord_0 rfl ?_
  refine sx_iconst dX3_isWord_1 ?_
  refine sx_aload_n dX3_isWord_2 rfl ?_
  refine xs_getr (j := 1) dX3_isWord_3 fl_X3_7 (by decide) rfl ?_
  refine sx_iconst dX3_isWord_6 ?_
  refine xs_ild (n := 208) (m := 1) dX3_isWord_7 rfl (by decide) (by decide) (by decide) rfl (fun r7 => ?_)
  refine sx_iconst dX3_isWord_8 ?_
  refine sx_isub dX3_isWord_9 ?_
  refine sx_callSi dX3_isWord_10 ml_X3_32 ms3_in (tx_in _ _ _ (by first | omega | assumption | (with_reducible first | exact hR _ | exact xwd_R hR _ _ | exact xch_R hR _ _ | exact am_R_and _ _ | exact am_R_or _ _ | exact am_R_xor _ _ | exact am_R_shl _ _ | exact am_R_shr _ _ | exact bit_R _ _ | exact xpls_R _ _ | exact xkept_R hW _ _ | exact xwait_R hW _ _ ) | (exact ⟨by omega, by omega⟩) | exact wf _ (by omega) (by omega) | exact wg _ (by omega) (by omega)) (by first | omega | assumption | (with_reducible first | exact hR _ | exact xwd_R hR _ _ | exact xch_R hR _ _ | exact am_R_and _ _ | exact am_R_or _ _ | exact am_R_xor _ _ | exact am_R_shl _ _ | exact am_R_shr _ _ | exact bit_R _ _ | exact xpls_R _ _ | exact xkept_R hW _ _ | exact xwait_R hW _ _ ) | (exact ⟨by omega, by omega⟩) | exact wf _ (by omega) (by omega) | exact wg _ (by omega) (by omega)) (by first | omega | assumption | (with_reducible first | exact hR _ | exact xwd_R hR _ _ | exact xch_R hR _ _ | exact am_R_and _ _ | exact am_R_or _ _ | exact am_R_xor _ _ | exact am_R_shl _ _ | exact am_R_shr _ _ | exact bit_R _ _ | exact xpls_R _ _ | exact xkept_R hW _ _ | exact xwait_R hW _ _ ) | (exact ⟨by omega, by omega⟩) | exact wf _ (by omega) (by omega) | exact wg _ (by omega) (by omega))) rfl rfl (Nat.le_of_ble_eq_true rfl) (Nat.le_of_ble_eq_true rfl) ?_
  exact sx_zret dX3_isWord_13 rfl (by first | decide | (split <;> simp)) rfl rfl
set_option maxHeartbeats 4000000 in
set_option maxRecDepth 100000 in
theorem tx_lives {h0 : am_H} {X : am_M} {S : Nat → Int} (c : Int) (hc : 0 ≤ c ∧ c < 8)  : Ct 1 Y3_lives [.inr (7, 0), .inl c] (some (.inl (if xch S c 2 = 1 then 1 else 0))) (xh h0 X S) (xh h0 X S) := by
  refine Ct_of (by decide +kernel) (Nat.le_of_ble_eq_true rfl) ?_
  show Sx 1 Y3_lives (xh h0 X S) (some (.inl (if xch S c 2 = 1 then 1 else 0))) 0 [some (.inr (7, 0)), some (.inl c)] [] (xh h0 X S)
  refine xs_vh (fun hR hRX => ?_)
  refine sx_aload_n dX3_lives_0 rfl ?_
  refine sx_iload_n dX3_lives_1 rfl ?_
  refine sx_iconst dX3_lives_2 ?_
  refine sx_callVi dX3_lives_3 ml_X3_36 mv3_ch (tx_ch _ _ (by first | omega | assumption | (with_reducible first | exact hR _ | exact xwd_R hR _ _ | exact xch_R hR _ _ | exact am_R_and _ _ | exact am_R_or _ _ | exact am_R_xor _ _ | exact am_R_shl _ _ | exact am_R_shr _ _ | exact bit_R _ _ | exact xpls_R _ _ | exact xkept_R hW _ _ | exact xwait_R hW _ _ ) | (exact ⟨by omega, by omega⟩) | exact wf _ (by omega) (by omega) | exact wg _ (by omega) (by omega)) (by first | omega | assumption | (with_reducible first | exact hR _ | exact xwd_R hR _ _ | exact xch_R hR _ _ | exact am_R_and _ _ | exact am_R_or _ _ | exact am_R_xor _ _ | exact am_R_shl _ _ | exact am_R_shr _ _ | exact bit_R _ _ | exact xpls_R _ _ | exact xkept_R hW _ _ | exact xwait_R hW _ _ ) | (exact ⟨by omega, by omega⟩) | exact wf _ (by omega) (by omega) | exact wg _ (by omega) (by omega))) rfl am_obX rfl (Nat.le_of_ble_eq_true rfl) (Nat.le_of_ble_eq_true rfl) ?_
  refine sx_iconst dX3_lives_6 ?_
  refine sx_icmp_ne (tgt := 14) dX3_lives_7 (by decide) (by first | omega | assumption | (with_reducible first | exact hR _ | exact xwd_R hR _ _ | exact xch_R hR _ _ | exact am_R_and _ _ | exact am_R_or _ _ | exact am_R_xor _ _ | exact am_R_shl _ _ | exact am_R_shr _ _ | exact bit_R _ _ | exact xpls_R _ _ | exact xkept_R hW _ _ | exact xwait_R hW _ _ ) | (exact ⟨by omega, by omega⟩) | exact wf _ (by omega) (by omega) | exact wg _ (by omega) (by omega)) ⟨by decide, by decide⟩ (fun c7 => ?_) (fun c7 => ?_)
  · -- 7t
    refine sx_iconst dX3_lives_14 ?_
    exact sx_zret dX3_lives_15 rfl (by decide) (by first | rw [if_pos c7] | rw [if_neg c7]) rfl
  · -- 7f
    refine sx_iconst dX3_lives_10 ?_
    refine sx_goto (tgt := 15) dX3_lives_11 (by decide) ?_
    exact sx_zret dX3_lives_15 rfl (by decide) (by first | rw [if_pos c7] | rw [if_neg c7]) rfl
set_option maxHeartbeats 4000000 in
set_option maxRecDepth 100000 in
theorem tx_isGodfather {h0 : am_H} {X : am_M} {S : Nat → Int} (c : Int) (hW : WX S) (hc : 0 ≤ c ∧ c < 8) (hcr : am_R c) : Ct 1 Y3_isGodfather [.inr (7, 0), .inl c] (some (.inl (if xisg S c = true then 1 else 0))) (xh h0 X S) (xh h0 X S) := by
  refine Ct_of (by decide +kernel) (Nat.le_of_ble_eq_true rfl) ?_
  show Sx 1 Y3_isGodfather (xh h0 X S) (some (.inl (if xisg S c = true then 1 else 0))) 0 [some (.inr (7, 0)), some (.inl c)] [] (xh h0 X S)
  refine xs_vh (fun hR hRX => ?_)
  obtain ⟨w0, w1, wg, wf, wo⟩ := id hW
  refine sx_aload_n dX3_isGodfather_0 rfl ?_
  refine xs_getr (j := 1) dX3_isGodfather_1 fl_X3_7 (by decide) rfl ?_
  refine sx_iconst dX3_isGodfather_4 ?_
  refine sx_aload_n dX3_isGodfather_5 rfl ?_
  refine sx_iload_n dX3_isGodfather_6 rfl ?_
  refine sx_iconst dX3_isGodfather_7 ?_
  refine sx_callVi dX3_isGodfather_8 ml_X3_36 mv3_ch (tx_ch _ _ (by first | omega | assumption | (with_reducible first | exact hR _ | exact xwd_R hR _ _ | exact xch_R hR _ _ | exact am_R_and _ _ | exact am_R_or _ _ | exact am_R_xor _ _ | exact am_R_shl _ _ | exact am_R_shr _ _ | exact bit_R _ _ | exact xpls_R _ _ | exact xkept_R hW _ _ | exact xwait_R hW _ _ ) | (exact ⟨by omega, by omega⟩) | exact wf _ (by omega) (by omega) | exact wg _ (by omega) (by omega)) (by first | omega | assumption | (with_reducible first | exact hR _ | exact xwd_R hR _ _ | exact xch_R hR _ _ | exact am_R_and _ _ | exact am_R_or _ _ | exact am_R_xor _ _ | exact am_R_shl _ _ | exact am_R_shr _ _ | exact bit_R _ _ | exact xpls_R _ _ | exact xkept_R hW _ _ | exact xwait_R hW _ _ ) | (exact ⟨by omega, by omega⟩) | exact wf _ (by omega) (by omega) | exact wg _ (by omega) (by omega))) rfl am_obX rfl (Nat.le_of_ble_eq_true rfl) (Nat.le_of_ble_eq_true rfl) ?_
  have hf := wf c (by omega) (by omega)
  refine sx_iadd dX3_isGodfather_11 ?_
  refine xs_ild (n := 208) dX3_isGodfather_12 rfl (by decide) (by first | omega | assumption | (with_reducible first | exact hR _ | exact xwd_R hR _ _ | exact xch_R hR _ _ | exact am_R_and _ _ | exact am_R_or _ _ | exact am_R_xor _ _ | exact am_R_shl _ _ | exact am_R_shr _ _ | exact bit_R _ _ | exact xpls_R _ _ | exact xkept_R hW _ _ | exact xwait_R hW _ _ ) | (exact ⟨by omega, by omega⟩) | exact wf _ (by omega) (by omega) | exact wg _ (by omega) (by omega)) (by first | omega | assumption | (with_reducible first | exact hR _ | exact xwd_R hR _ _ | exact xch_R hR _ _ | exact am_R_and _ _ | exact am_R_or _ _ | exact am_R_xor _ _ | exact am_R_shl _ _ | exact am_R_shr _ _ | exact bit_R _ _ | exact xpls_R _ _ | exact xkept_R hW _ _ | exact xwait_R hW _ _ ) | (exact ⟨by omega, by omega⟩) | exact wf _ (by omega) (by omega) | exact wg _ (by omega) (by omega)) rfl (fun r12 => ?_)
  refine sx_iload_n dX3_isGodfather_13 rfl ?_
  refine sx_icmp_ne (tgt := 21) dX3_isGodfather_14 (by decide) (by first | omega | assumption | (with_reducible first | exact hR _ | exact xwd_R hR _ _ | exact xch_R hR _ _ | exact am_R_and _ _ | exact am_R_or _ _ | exact am_R_xor _ _ | exact am_R_shl _ _ | exact am_R_shr _ _ | exact bit_R _ _ | exact xpls_R _ _ | exact xkept_R hW _ _ | exact xwait_R hW _ _ ) | (exact ⟨by omega, by omega⟩) | exact wf _ (by omega) (by omega) | exact wg _ (by omega) (by omega)) (by first | omega | assumption | (with_reducible first | exact hR _ | exact xwd_R hR _ _ | exact xch_R hR _ _ | exact am_R_and _ _ | exact am_R_or _ _ | exact am_R_xor _ _ | exact am_R_shl _ _ | exact am_R_shr _ _ | exact bit_R _ _ | exact xpls_R _ _ | exact xkept_R hW _ _ | exact xwait_R hW _ _ ) | (exact ⟨by omega, by omega⟩) | exact wf _ (by omega) (by omega) | exact wg _ (by omega) (by omega)) (fun c14 => ?_) (fun c14 => ?_)
  · -- 14t
    refine sx_iconst dX3_isGodfather_21 ?_
    exact sx_zret dX3_isGodfather_22 rfl (by decide) (by simp [xisg, xgod, c14]) rfl
  · -- 14f
    refine sx_iconst dX3_isGodfather_17 ?_
    refine sx_goto (tgt := 22) dX3_isGodfather_18 (by decide) ?_
    exact sx_zret dX3_isGodfather_22 rfl (by decide) (by simp [xisg, xgod, c14]) rfl
set_option maxHeartbeats 4000000 in
set_option maxRecDepth 100000 in
theorem tx_isWhole {h0 : am_H} {X : am_M} {S : Nat → Int} (c row : Int) (hc : 0 ≤ c ∧ c < 8) (hr : 0 ≤ row ∧ row ≤ 5) : Ct 1 Y3_isWhole [.inr (7, 0), .inl c, .inl row] (some (.inl (if bit (xch S c 3) row = 0 then 1 else 0))) (xh h0 X S) (xh h0 X S) := by
  refine Ct_of (by decide +kernel) (Nat.le_of_ble_eq_true rfl) ?_
  show Sx 1 Y3_isWhole (xh h0 X S) (some (.inl (if bit (xch S c 3) row = 0 then 1 else 0))) 0 [some (.inr (7, 0)), some (.inl c), some (.inl row)] [] (xh h0 X S)
  refine xs_vh (fun hR hRX => ?_)
  refine sx_aload_n dX3_isWhole_0 rfl ?_
  refine sx_iload_n dX3_isWhole_1 rfl ?_
  refine sx_iconst dX3_isWhole_2 ?_
  refine sx_callVi dX3_isWhole_3 ml_X3_36 mv3_ch (tx_ch _ _ (by first | omega | assumption | (with_reducible first | exact hR _ | exact xwd_R hR _ _ | exact xch_R hR _ _ | exact am_R_and _ _ | exact am_R_or _ _ | exact am_R_xor _ _ | exact am_R_shl _ _ | exact am_R_shr _ _ | exact bit_R _ _ | exact xpls_R _ _ | exact xkept_R hW _ _ | exact xwait_R hW _ _ ) | (exact ⟨by omega, by omega⟩) | exact wf _ (by omega) (by omega) | exact wg _ (by omega) (by omega)) (by first | omega | assumption | (with_reducible first | exact hR _ | exact xwd_R hR _ _ | exact xch_R hR _ _ | exact am_R_and _ _ | exact am_R_or _ _ | exact am_R_xor _ _ | exact am_R_shl _ _ | exact am_R_shr _ _ | exact bit_R _ _ | exact xpls_R _ _ | exact xkept_R hW _ _ | exact xwait_R hW _ _ ) | (exact ⟨by omega, by omega⟩) | exact wf _ (by omega) (by omega) | exact wg _ (by omega) (by omega))) rfl am_obX rfl (Nat.le_of_ble_eq_true rfl) (Nat.le_of_ble_eq_true rfl) ?_
  refine sx_iload_n dX3_isWhole_6 rfl ?_
  refine sx_ishr dX3_isWhole_7 ?_
  refine sx_iconst dX3_isWhole_8 ?_
  refine sx_iand dX3_isWhole_9 ?_
  refine sx_if_ne (tgt := 17) dX3_isWhole_10 (by decide) (by first | omega | assumption | (with_reducible first | exact hR _ | exact xwd_R hR _ _ | exact xch_R hR _ _ | exact am_R_and _ _ | exact am_R_or _ _ | exact am_R_xor _ _ | exact am_R_shl _ _ | exact am_R_shr _ _ | exact bit_R _ _ | exact xpls_R _ _ | exact xkept_R hW _ _ | exact xwait_R hW _ _ ) | (exact ⟨by omega, by omega⟩) | exact wf _ (by omega) (by omega) | exact wg _ (by omega) (by omega)) (fun c10 => ?_) (fun c10 => ?_)
  · -- 10t
    refine sx_iconst dX3_isWhole_17 ?_
    exact sx_zret dX3_isWhole_18 rfl (by decide) (by simp [bit, c10]) rfl
  · -- 10f
    refine sx_iconst dX3_isWhole_13 ?_
    refine sx_goto (tgt := 18) dX3_isWhole_14 (by decide) ?_
    exact sx_zret dX3_isWhole_18 rfl (by decide) (by simp [bit, c10]) rfl
set_option maxHeartbeats 4000000 in
set_option maxRecDepth 100000 in
theorem tx_kept {h0 : am_H} {X : am_M} {S : Nat → Int} (c row : Int) (hW : WX S) (hc : am_R c) (hr : am_R row) : Ct 1 Y3_kept [.inr (7, 0), .inl c, .inl row] (some (.inl (xkept S c row))) (xh h0 X S) (xh h0 X S) := by
  refine Ct_of (by decide +kernel) (Nat.le_of_ble_eq_true rfl) ?_
  show Sx 1 Y3_kept (xh h0 X S) (some (.inl (xkept S c row))) 0 [some (.inr (7, 0)), some (.inl c), some (.inl row), none, none] [] (xh h0 X S)
  refine xs_vh (fun hR hRX => ?_)
  obtain ⟨w0, w1, wg, wf, wo⟩ := id hW
  refine sx_iconst dX3_kept_0 ?_
  refine sx_istore_n dX3_kept_1 (by decide) ?_
  refine sx_iconst dX3_kept_2 ?_
  refine sx_istore dX3_kept_3 (by decide) ?_
  have loop5 : ∀ (n : Nat) (fd : Int) (w : Nat), (S 1 - w).toNat = n → (w : Int) ≤ S 1 → fd = lastW (fun w => xwd S w 1 == 0 && xwd S w 2 == c && xwd S w 3 == row) w → Sx 1 Y3_kept (xh h0 X S) (some (.inl (xkept S c row))) 5 [some (.inr (7, 0)), some (.inl c), some (.inl row), some (.inl fd), some (.inl (w : Int))] [] (xh h0 X S) := by
    intro n
    induction n using Nat.strongRecOn with
    | _ n ih5 =>
      intro fd w hn hle hf
      refine sx_iload dX3_kept_5 rfl ?_
      refine sx_aload_n dX3_kept_7 rfl ?_
      refine xs_getr (j := 1) dX3_kept_8 fl_X3_7 (by decide) rfl ?_
      refine sx_iconst dX3_kept_11 ?_
      refine xs_ild (n := 208) (m := 1) dX3_kept_12 rfl (by decide) (by decide) (by decide) rfl (fun r12 => ?_)
      refine sx_icmp_ge (tgt := 61) dX3_kept_13 (by decide) (by first | omega | assumption | (with_reducible first | exact hR _ | exact xwd_R hR _ _ | exact xch_R hR _ _ | exact am_R_and _ _ | exact am_R_or _ _ | exact am_R_xor _ _ | exact am_R_shl _ _ | exact am_R_shr _ _ | exact bit_R _ _ | exact xpls_R _ _ | exact xkept_R hW _ _ | exact xwait_R hW _ _ ) | (exact ⟨by omega, by omega⟩) | exact wf _ (by omega) (by omega) | exact wg _ (by omega) (by omega)) (by first | omega | assumption | (with_reducible first | exact hR _ | exact xwd_R hR _ _ | exact xch_R hR _ _ | exact am_R_and _ _ | exact am_R_or _ _ | exact am_R_xor _ _ | exact am_R_shl _ _ | exact am_R_shr _ _ | exact bit_R _ _ | exact xpls_R _ _ | exact xkept_R hW _ _ | exact xwait_R hW _ _ ) | (exact ⟨by omega, by omega⟩) | exact wf _ (by omega) (by omega) | exact wg _ (by omega) (by omega)) (fun c13 => ?_) (fun c13 => ?_)
      · -- 13t
        refine sx_iload_n dX3_kept_61 rfl ?_
        exact sx_iret dX3_kept_62 rfl (by rw [hf, show w = (S 1).toNat by omega]; rfl) rfl
      · -- 13f
        refine sx_aload_n dX3_kept_16 rfl ?_
        refine sx_iload dX3_kept_17 rfl ?_
        refine sx_iconst dX3_kept_19 ?_
        refine sx_callVi dX3_kept_20 ml_X3_45 mv3_wd (tx_wd _ _ (by first | omega | assumption | (with_reducible first | exact hR _ | exact xwd_R hR _ _ | exact xch_R hR _ _ | exact am_R_and _ _ | exact am_R_or _ _ | exact am_R_xor _ _ | exact am_R_shl _ _ | exact am_R_shr _ _ | exact bit_R _ _ | exact xpls_R _ _ | exact xkept_R hW _ _ | exact xwait_R hW _ _ ) | (exact ⟨by omega, by omega⟩) | exact wf _ (by omega) (by omega) | exact wg _ (by omega) (by omega)) (by first | omega | assumption | (with_reducible first | exact hR _ | exact xwd_R hR _ _ | exact xch_R hR _ _ | exact am_R_and _ _ | exact am_R_or _ _ | exact am_R_xor _ _ | exact am_R_shl _ _ | exact am_R_shr _ _ | exact bit_R _ _ | exact xpls_R _ _ | exact xkept_R hW _ _ | exact xwait_R hW _ _ ) | (exact ⟨by omega, by omega⟩) | exact wf _ (by omega) (by omega) | exact wg _ (by omega) (by omega))) rfl am_obX rfl (Nat.le_of_ble_eq_true rfl) (Nat.le_of_ble_eq_true rfl) ?_
        refine sx_if_ne (tgt := 53) dX3_kept_23 (by decide) (by first | omega | assumption | (with_reducible first | exact hR _ | exact xwd_R hR _ _ | exact xch_R hR _ _ | exact am_R_and _ _ | exact am_R_or _ _ | exact am_R_xor _ _ | exact am_R_shl _ _ | exact am_R_shr _ _ | exact bit_R _ _ | exact xpls_R _ _ | exact xkept_R hW _ _ | exact xwait_R hW _ _ ) | (exact ⟨by omega, by omega⟩) | exact wf _ (by omega) (by omega) | exact wg _ (by omega) (by omega)) (fun c23 => ?_) (fun c23 => ?_)
        · -- 23t
          refine sx_iload_n dX3_kept_53 rfl ?_
          refine sx_istore_n dX3_kept_54 (by decide) ?_
          refine sx_iinc dX3_kept_55 rfl (by decide) ?_
          refine sx_goto (tgt := 5) dX3_kept_58 (by decide) ?_
          exact ih5 _ (by omega) _ (w + 1) rfl (by omega) (by simp [lastW, c13, c23, hf])
        · -- 23f
          refine sx_aload_n dX3_kept_26 rfl ?_
          refine sx_iload dX3_kept_27 rfl ?_
          refine sx_iconst dX3_kept_29 ?_
          refine sx_callVi dX3_kept_30 ml_X3_45 mv3_wd (tx_wd _ _ (by first | omega | assumption | (with_reducible first | exact hR _ | exact xwd_R hR _ _ | exact xch_R hR _ _ | exact am_R_and _ _ | exact am_R_or _ _ | exact am_R_xor _ _ | exact am_R_shl _ _ | exact am_R_shr _ _ | exact bit_R _ _ | exact xpls_R _ _ | exact xkept_R hW _ _ | exact xwait_R hW _ _ ) | (exact ⟨by omega, by omega⟩) | exact wf _ (by omega) (by omega) | exact wg _ (by omega) (by omega)) (by first | omega | assumption | (with_reducible first | exact hR _ | exact xwd_R hR _ _ | exact xch_R hR _ _ | exact am_R_and _ _ | exact am_R_or _ _ | exact am_R_xor _ _ | exact am_R_shl _ _ | exact am_R_shr _ _ | exact bit_R _ _ | exact xpls_R _ _ | exact xkept_R hW _ _ | exact xwait_R hW _ _ ) | (exact ⟨by omega, by omega⟩) | exact wf _ (by omega) (by omega) | exact wg _ (by omega) (by omega))) rfl am_obX rfl (Nat.le_of_ble_eq_true rfl) (Nat.le_of_ble_eq_true rfl) ?_
          refine sx_iload_n dX3_kept_33 rfl ?_
          refine sx_icmp_ne (tgt := 53) dX3_kept_34 (by decide) (by first | omega | assumption | (with_reducible first | exact hR _ | exact xwd_R hR _ _ | exact xch_R hR _ _ | exact am_R_and _ _ | exact am_R_or _ _ | exact am_R_xor _ _ | exact am_R_shl _ _ | exact am_R_shr _ _ | exact bit_R _ _ | exact xpls_R _ _ | exact xkept_R hW _ _ | exact xwait_R hW _ _ ) | (exact ⟨by omega, by omega⟩) | exact wf _ (by omega) (by omega) | exact wg _ (by omega) (by omega)) (by first | omega | assumption | (with_reducible first | exact hR _ | exact xwd_R hR _ _ | exact xch_R hR _ _ | exact am_R_and _ _ | exact am_R_or _ _ | exact am_R_xor _ _ | exact am_R_shl _ _ | exact am_R_shr _ _ | exact bit_R _ _ | exact xpls_R _ _ | exact xkept_R hW _ _ | exact xwait_R hW _ _ ) | (exact ⟨by omega, by omega⟩) | exact wf _ (by omega) (by omega) | exact wg _ (by omega) (by omega)) (fun c34 => ?_) (fun c34 => ?_)
          · -- 34t
            refine sx_iload_n dX3_kept_53 rfl ?_
            refine sx_istore_n dX3_kept_54 (by decide) ?_
            refine sx_iinc dX3_kept_55 rfl (by decide) ?_
            refine sx_goto (tgt := 5) dX3_kept_58 (by decide) ?_
            exact ih5 _ (by omega) _ (w + 1) rfl (by omega) (by simp [lastW, c13, c23, c34, hf])
          · -- 34f
            refine sx_aload_n dX3_kept_37 rfl ?_
            refine sx_iload dX3_kept_38 rfl ?_
            refine sx_iconst dX3_kept_40 ?_
            refine sx_callVi dX3_kept_41 ml_X3_45 mv3_wd (tx_wd _ _ (by first | omega | assumption | (with_reducible first | exact hR _ | exact xwd_R hR _ _ | exact xch_R hR _ _ | exact am_R_and _ _ | exact am_R_or _ _ | exact am_R_xor _ _ | exact am_R_shl _ _ | exact am_R_shr _ _ | exact bit_R _ _ | exact xpls_R _ _ | exact xkept_R hW _ _ | exact xwait_R hW _ _ ) | (exact ⟨by omega, by omega⟩) | exact wf _ (by omega) (by omega) | exact wg _ (by omega) (by omega)) (by first | omega | assumption | (with_reducible first | exact hR _ | exact xwd_R hR _ _ | exact xch_R hR _ _ | exact am_R_and _ _ | exact am_R_or _ _ | exact am_R_xor _ _ | exact am_R_shl _ _ | exact am_R_shr _ _ | exact bit_R _ _ | exact xpls_R _ _ | exact xkept_R hW _ _ | exact xwait_R hW _ _ ) | (exact ⟨by omega, by omega⟩) | exact wf _ (by omega) (by omega) | exact wg _ (by omega) (by omega))) rfl am_obX rfl (Nat.le_of_ble_eq_true rfl) (Nat.le_of_ble_eq_true rfl) ?_
            refine sx_iload_n dX3_kept_44 rfl ?_
            refine sx_icmp_ne (tgt := 53) dX3_kept_45 (by decide) (by first | omega | assumption | (with_reducible first | exact hR _ | exact xwd_R hR _ _ | exact xch_R hR _ _ | exact am_R_and _ _ | exact am_R_or _ _ | exact am_R_xor _ _ | exact am_R_shl _ _ | exact am_R_shr _ _ | exact bit_R _ _ | exact xpls_R _ _ | exact xkept_R hW _ _ | exact xwait_R hW _ _ ) | (exact ⟨by omega, by omega⟩) | exact wf _ (by omega) (by omega) | exact wg _ (by omega) (by omega)) (by first | omega | assumption | (with_reducible first | exact hR _ | exact xwd_R hR _ _ | exact xch_R hR _ _ | exact am_R_and _ _ | exact am_R_or _ _ | exact am_R_xor _ _ | exact am_R_shl _ _ | exact am_R_shr _ _ | exact bit_R _ _ | exact xpls_R _ _ | exact xkept_R hW _ _ | exact xwait_R hW _ _ ) | (exact ⟨by omega, by omega⟩) | exact wf _ (by omega) (by omega) | exact wg _ (by omega) (by omega)) (fun c45 => ?_) (fun c45 => ?_)
            · -- 45t
              refine sx_iload_n dX3_kept_53 rfl ?_
              refine sx_istore_n dX3_kept_54 (by decide) ?_
              refine sx_iinc dX3_kept_55 rfl (by decide) ?_
              refine sx_goto (tgt := 5) dX3_kept_58 (by decide) ?_
              exact ih5 _ (by omega) _ (w + 1) rfl (by omega) (by simp [lastW, c13, c23, c34, c45, hf])
            · -- 45f
              refine sx_iload dX3_kept_48 rfl ?_
              refine sx_goto (tgt := 54) dX3_kept_50 (by decide) ?_
              refine sx_istore_n dX3_kept_54 (by decide) ?_
              refine sx_iinc dX3_kept_55 rfl (by decide) ?_
              refine sx_goto (tgt := 5) dX3_kept_58 (by decide) ?_
              exact ih5 _ (by omega) _ (w + 1) rfl (by omega) (by simp [lastW, c13, c23, c34, c45, hf])
  exact loop5 _ _ 0 rfl (by omega) rfl
set_option maxHeartbeats 4000000 in
set_option maxRecDepth 100000 in
theorem tx_waiting {h0 : am_H} {X : am_M} {S : Nat → Int} (f row : Int) (hW : WX S) (hc : am_R f) (hr : am_R row) : Ct 1 Y3_waiting [.inr (7, 0), .inl f, .inl row] (some (.inl (xwait S f row))) (xh h0 X S) (xh h0 X S) := by
  refine Ct_of (by decide +kernel) (Nat.le_of_ble_eq_true rfl) ?_
  show Sx 1 Y3_waiting (xh h0 X S) (some (.inl (xwait S f row))) 0 [some (.inr (7, 0)), some (.inl f), some (.inl row), none, none] [] (xh h0 X S)
  refine xs_vh (fun hR hRX => ?_)
  obtain ⟨w0, w1, wg, wf, wo⟩ := id hW
  refine sx_iconst dX3_waiting_0 ?_
  refine sx_istore_n dX3_waiting_1 (by decide) ?_
  refine sx_iconst dX3_waiting_2 ?_
  refine sx_istore dX3_waiting_3 (by decide) ?_
  have loop5 : ∀ (n : Nat) (fd : Int) (w : Nat), (S 1 - w).toNat = n → (w : Int) ≤ S 1 → fd = lastW (fun w => xwd S w 1 == 1 && xwd S w 4 == f && xwd S w 3 == row) w → Sx 1 Y3_waiting (xh h0 X S) (some (.inl (xwait S f row))) 5 [some (.inr (7, 0)), some (.inl f), some (.inl row), some (.inl fd), some (.inl (w : Int))] [] (xh h0 X S) := by
    intro n
    induction n using Nat.strongRecOn with
    | _ n ih5 =>
      intro fd w hn hle hf
      refine sx_iload dX3_waiting_5 rfl ?_
      refine sx_aload_n dX3_waiting_7 rfl ?_
      refine xs_getr (j := 1) dX3_waiting_8 fl_X3_7 (by decide) rfl ?_
      refine sx_iconst dX3_waiting_11 ?_
      refine xs_ild (n := 208) (m := 1) dX3_waiting_12 rfl (by decide) (by decide) (by decide) rfl (fun r12 => ?_)
      refine sx_icmp_ge (tgt := 62) dX3_waiting_13 (by decide) (by first | omega | assumption | (with_reducible first | exact hR _ | exact xwd_R hR _ _ | exact xch_R hR _ _ | exact am_R_and _ _ | exact am_R_or _ _ | exact am_R_xor _ _ | exact am_R_shl _ _ | exact am_R_shr _ _ | exact bit_R _ _ | exact xpls_R _ _ | exact xkept_R hW _ _ | exact xwait_R hW _ _ ) | (exact ⟨by omega, by omega⟩) | exact wf _ (by omega) (by omega) | exact wg _ (by omega) (by omega)) (by first | omega | assumption | (with_reducible first | exact hR _ | exact xwd_R hR _ _ | exact xch_R hR _ _ | exact am_R_and _ _ | exact am_R_or _ _ | exact am_R_xor _ _ | exact am_R_shl _ _ | exact am_R_shr _ _ | exact bit_R _ _ | exact xpls_R _ _ | exact xkept_R hW _ _ | exact xwait_R hW _ _ ) | (exact ⟨by omega, by omega⟩) | exact wf _ (by omega) (by omega) | exact wg _ (by omega) (by omega)) (fun c13 => ?_) (fun c13 => ?_)
      · -- 13t
        refine sx_iload_n dX3_waiting_62 rfl ?_
        exact sx_iret dX3_waiting_63 rfl (by rw [hf, show w = (S 1).toNat by omega]; rfl) rfl
      · -- 13f
        refine sx_aload_n dX3_waiting_16 rfl ?_
        refine sx_iload dX3_waiting_17 rfl ?_
        refine sx_iconst dX3_waiting_19 ?_
        refine sx_callVi dX3_waiting_20 ml_X3_45 mv3_wd (tx_wd _ _ (by first | omega | assumption | (with_reducible first | exact hR _ | exact xwd_R hR _ _ | exact xch_R hR _ _ | exact am_R_and _ _ | exact am_R_or _ _ | exact am_R_xor _ _ | exact am_R_shl _ _ | exact am_R_shr _ _ | exact bit_R _ _ | exact xpls_R _ _ | exact xkept_R hW _ _ | exact xwait_R hW _ _ ) | (exact ⟨by omega, by omega⟩) | exact wf _ (by omega) (by omega) | exact wg _ (by omega) (by omega)) (by first | omega | assumption | (with_reducible first | exact hR _ | exact xwd_R hR _ _ | exact xch_R hR _ _ | exact am_R_and _ _ | exact am_R_or _ _ | exact am_R_xor _ _ | exact am_R_shl _ _ | exact am_R_shr _ _ | exact bit_R _ _ | exact xpls_R _ _ | exact xkept_R hW _ _ | exact xwait_R hW _ _ ) | (exact ⟨by omega, by omega⟩) | exact wf _ (by omega) (by omega) | exact wg _ (by omega) (by omega))) rfl am_obX rfl (Nat.le_of_ble_eq_true rfl) (Nat.le_of_ble_eq_true rfl) ?_
        refine sx_iconst dX3_waiting_23 ?_
        refine sx_icmp_ne (tgt := 54) dX3_waiting_24 (by decide) (by first | omega | assumption | (with_reducible first | exact hR _ | exact xwd_R hR _ _ | exact xch_R hR _ _ | exact am_R_and _ _ | exact am_R_or _ _ | exact am_R_xor _ _ | exact am_R_shl _ _ | exact am_R_shr _ _ | exact bit_R _ _ | exact xpls_R _ _ | exact xkept_R hW _ _ | exact xwait_R hW _ _ ) | (exact ⟨by omega, by omega⟩) | exact wf _ (by omega) (by omega) | exact wg _ (by omega) (by omega)) ⟨by decide, by decide⟩ (fun c24 => ?_) (fun c24 => ?_)
        · -- 24t
          refine sx_iload_n dX3_waiting_54 rfl ?_
          refine sx_istore_n dX3_waiting_55 (by decide) ?_
          refine sx_iinc dX3_waiting_56 rfl (by decide) ?_
          refine sx_goto (tgt := 5) dX3_waiting_59 (by decide) ?_
          exact ih5 _ (by omega) _ (w + 1) rfl (by omega) (by simp [lastW, c13, c24, hf])
        · -- 24f
          refine sx_aload_n dX3_waiting_27 rfl ?_
          refine sx_iload dX3_waiting_28 rfl ?_
          refine sx_iconst dX3_waiting_30 ?_
          refine sx_callVi dX3_waiting_31 ml_X3_45 mv3_wd (tx_wd _ _ (by first | omega | assumption | (with_reducible first | exact hR _ | exact xwd_R hR _ _ | exact xch_R hR _ _ | exact am_R_and _ _ | exact am_R_or _ _ | exact am_R_xor _ _ | exact am_R_shl _ _ | exact am_R_shr _ _ | exact bit_R _ _ | exact xpls_R _ _ | exact xkept_R hW _ _ | exact xwait_R hW _ _ ) | (exact ⟨by omega, by omega⟩) | exact wf _ (by omega) (by omega) | exact wg _ (by omega) (by omega)) (by first | omega | assumption | (with_reducible first | exact hR _ | exact xwd_R hR _ _ | exact xch_R hR _ _ | exact am_R_and _ _ | exact am_R_or _ _ | exact am_R_xor _ _ | exact am_R_shl _ _ | exact am_R_shr _ _ | exact bit_R _ _ | exact xpls_R _ _ | exact xkept_R hW _ _ | exact xwait_R hW _ _ ) | (exact ⟨by omega, by omega⟩) | exact wf _ (by omega) (by omega) | exact wg _ (by omega) (by omega))) rfl am_obX rfl (Nat.le_of_ble_eq_true rfl) (Nat.le_of_ble_eq_true rfl) ?_
          refine sx_iload_n dX3_waiting_34 rfl ?_
          refine sx_icmp_ne (tgt := 54) dX3_waiting_35 (by decide) (by first | omega | assumption | (with_reducible first | exact hR _ | exact xwd_R hR _ _ | exact xch_R hR _ _ | exact am_R_and _ _ | exact am_R_or _ _ | exact am_R_xor _ _ | exact am_R_shl _ _ | exact am_R_shr _ _ | exact bit_R _ _ | exact xpls_R _ _ | exact xkept_R hW _ _ | exact xwait_R hW _ _ ) | (exact ⟨by omega, by omega⟩) | exact wf _ (by omega) (by omega) | exact wg _ (by omega) (by omega)) (by first | omega | assumption | (with_reducible first | exact hR _ | exact xwd_R hR _ _ | exact xch_R hR _ _ | exact am_R_and _ _ | exact am_R_or _ _ | exact am_R_xor _ _ | exact am_R_shl _ _ | exact am_R_shr _ _ | exact bit_R _ _ | exact xpls_R _ _ | exact xkept_R hW _ _ | exact xwait_R hW _ _ ) | (exact ⟨by omega, by omega⟩) | exact wf _ (by omega) (by omega) | exact wg _ (by omega) (by omega)) (fun c35 => ?_) (fun c35 => ?_)
          · -- 35t
            refine sx_iload_n dX3_waiting_54 rfl ?_
            refine sx_istore_n dX3_waiting_55 (by decide) ?_
            refine sx_iinc dX3_waiting_56 rfl (by decide) ?_
            refine sx_goto (tgt := 5) dX3_waiting_59 (by decide) ?_
            exact ih5 _ (by omega) _ (w + 1) rfl (by omega) (by simp [lastW, c13, c24, c35, hf])
          · -- 35f
            refine sx_aload_n dX3_waiting_38 rfl ?_
            refine sx_iload dX3_waiting_39 rfl ?_
            refine sx_iconst dX3_waiting_41 ?_
            refine sx_callVi dX3_waiting_42 ml_X3_45 mv3_wd (tx_wd _ _ (by first | omega | assumption | (with_reducible first | exact hR _ | exact xwd_R hR _ _ | exact xch_R hR _ _ | exact am_R_and _ _ | exact am_R_or _ _ | exact am_R_xor _ _ | exact am_R_shl _ _ | exact am_R_shr _ _ | exact bit_R _ _ | exact xpls_R _ _ | exact xkept_R hW _ _ | exact xwait_R hW _ _ ) | (exact ⟨by omega, by omega⟩) | exact wf _ (by omega) (by omega) | exact wg _ (by omega) (by omega)) (by first | omega | assumption | (with_reducible first | exact hR _ | exact xwd_R hR _ _ | exact xch_R hR _ _ | exact am_R_and _ _ | exact am_R_or _ _ | exact am_R_xor _ _ | exact am_R_shl _ _ | exact am_R_shr _ _ | exact bit_R _ _ | exact xpls_R _ _ | exact xkept_R hW _ _ | exact xwait_R hW _ _ ) | (exact ⟨by omega, by omega⟩) | exact wf _ (by omega) (by omega) | exact wg _ (by omega) (by omega))) rfl am_obX rfl (Nat.le_of_ble_eq_true rfl) (Nat.le_of_ble_eq_true rfl) ?_
            refine sx_iload_n dX3_waiting_45 rfl ?_
            refine sx_icmp_ne (tgt := 54) dX3_waiting_46 (by decide) (by first | omega | assumption | (with_reducible first | exact hR _ | exact xwd_R hR _ _ | exact xch_R hR _ _ | exact am_R_and _ _ | exact am_R_or _ _ | exact am_R_xor _ _ | exact am_R_shl _ _ | exact am_R_shr _ _ | exact bit_R _ _ | exact xpls_R _ _ | exact xkept_R hW _ _ | exact xwait_R hW _ _ ) | (exact ⟨by omega, by omega⟩) | exact wf _ (by omega) (by omega) | exact wg _ (by omega) (by omega)) (by first | omega | assumption | (with_reducible first | exact hR _ | exact xwd_R hR _ _ | exact xch_R hR _ _ | exact am_R_and _ _ | exact am_R_or _ _ | exact am_R_xor _ _ | exact am_R_shl _ _ | exact am_R_shr _ _ | exact bit_R _ _ | exact xpls_R _ _ | exact xkept_R hW _ _ | exact xwait_R hW _ _ ) | (exact ⟨by omega, by omega⟩) | exact wf _ (by omega) (by omega) | exact wg _ (by omega) (by omega)) (fun c46 => ?_) (fun c46 => ?_)
            · -- 46t
              refine sx_iload_n dX3_waiting_54 rfl ?_
              refine sx_istore_n dX3_waiting_55 (by decide) ?_
              refine sx_iinc dX3_waiting_56 rfl (by decide) ?_
              refine sx_goto (tgt := 5) dX3_waiting_59 (by decide) ?_
              exact ih5 _ (by omega) _ (w + 1) rfl (by omega) (by simp [lastW, c13, c24, c35, c46, hf])
            · -- 46f
              refine sx_iload dX3_waiting_49 rfl ?_
              refine sx_goto (tgt := 55) dX3_waiting_51 (by decide) ?_
              refine sx_istore_n dX3_waiting_55 (by decide) ?_
              refine sx_iinc dX3_waiting_56 rfl (by decide) ?_
              refine sx_goto (tgt := 5) dX3_waiting_59 (by decide) ?_
              exact ih5 _ (by omega) _ (w + 1) rfl (by omega) (by simp [lastW, c13, c24, c35, c46, hf])
  exact loop5 _ _ 0 rfl (by omega) rfl
set_option maxHeartbeats 4000000 in
set_option maxRecDepth 100000 in
theorem tx_isGuarded {h0 : am_H} {X : am_M} {S : Nat → Int} (f row : Int) (hW : WX S) (hc : 0 ≤ f ∧ f ≤ 2) (hr : 0 ≤ row ∧ row ≤ 5) : Ct 2 Y3_isGuarded [.inr (7, 0), .inl f, .inl row] (some (.inl (if xgu S f row = true then 1 else 0))) (xh h0 X S) (xh h0 X S) := by
  refine Ct_of (by decide +kernel) (Nat.le_of_ble_eq_true rfl) ?_
  show Sx 2 Y3_isGuarded (xh h0 X S) (some (.inl (if xgu S f row = true then 1 else 0))) 0 [some (.inr (7, 0)), some (.inl f), some (.inl row), none] [] (xh h0 X S)
  refine xs_vh (fun hR hRX => ?_)
  obtain ⟨w0, w1, wg, wf, wo⟩ := id hW
  refine sx_aload_n dX3_isGuarded_0 rfl ?_
  refine xs_getr (j := 1) dX3_isGuarded_1 fl_X3_7 (by decide) rfl ?_
  refine sx_iconst dX3_isGuarded_4 ?_
  refine sx_iload_n dX3_isGuarded_5 rfl ?_
  refine sx_iadd dX3_isGuarded_6 ?_
  have hg := wg f (by omega) (by omega)
  unfold xgod at hg
  refine xs_ild (n := 208) dX3_isGuarded_7 rfl (by decide) (by first | omega | assumption | (with_reducible first | exact hR _ | exact xwd_R hR _ _ | exact xch_R hR _ _ | exact am_R_and _ _ | exact am_R_or _ _ | exact am_R_xor _ _ | exact am_R_shl _ _ | exact am_R_shr _ _ | exact bit_R _ _ | exact xpls_R _ _ | exact xkept_R hW _ _ | exact xwait_R hW _ _ ) | (exact ⟨by omega, by omega⟩) | exact wf _ (by omega) (by omega) | exact wg _ (by omega) (by omega)) (by first | omega | assumption | (with_reducible first | exact hR _ | exact xwd_R hR _ _ | exact xch_R hR _ _ | exact am_R_and _ _ | exact am_R_or _ _ | exact am_R_xor _ _ | exact am_R_shl _ _ | exact am_R_shr _ _ | exact bit_R _ _ | exact xpls_R _ _ | exact xkept_R hW _ _ | exact xwait_R hW _ _ ) | (exact ⟨by omega, by omega⟩) | exact wf _ (by omega) (by omega) | exact wg _ (by omega) (by omega)) rfl (fun r7 => ?_)
  refine sx_istore_n dX3_isGuarded_8 (by decide) ?_
  refine sx_iload_n dX3_isGuarded_9 rfl ?_
  refine sx_if_lt (tgt := 26) dX3_isGuarded_10 (by decide) (by first | omega | assumption | (with_reducible first | exact hR _ | exact xwd_R hR _ _ | exact xch_R hR _ _ | exact am_R_and _ _ | exact am_R_or _ _ | exact am_R_xor _ _ | exact am_R_shl _ _ | exact am_R_shr _ _ | exact bit_R _ _ | exact xpls_R _ _ | exact xkept_R hW _ _ | exact xwait_R hW _ _ ) | (exact ⟨by omega, by omega⟩) | exact wf _ (by omega) (by omega) | exact wg _ (by omega) (by omega)) (fun c10 => ?_) (fun c10 => ?_)
  · -- 10t
    refine sx_iconst dX3_isGuarded_26 ?_
    exact sx_zret dX3_isGuarded_27 rfl (by decide) (by first | (simp [xgu, xgod, c10]; done) | grind [xgu, xgod]) rfl
  · -- 10f
    refine sx_aload_n dX3_isGuarded_13 rfl ?_
    refine sx_iload_n dX3_isGuarded_14 rfl ?_
    refine sx_iload_n dX3_isGuarded_15 rfl ?_
    refine sx_callVi dX3_isGuarded_16 ml_X3_48 mv3_isWhole (tx_isWhole _ _ (by first | omega | assumption | (with_reducible first | exact hR _ | exact xwd_R hR _ _ | exact xch_R hR _ _ | exact am_R_and _ _ | exact am_R_or _ _ | exact am_R_xor _ _ | exact am_R_shl _ _ | exact am_R_shr _ _ | exact bit_R _ _ | exact xpls_R _ _ | exact xkept_R hW _ _ | exact xwait_R hW _ _ ) | (exact ⟨by omega, by omega⟩) | exact wf _ (by omega) (by omega) | exact wg _ (by omega) (by omega)) (by first | omega | assumption | (with_reducible first | exact hR _ | exact xwd_R hR _ _ | exact xch_R hR _ _ | exact am_R_and _ _ | exact am_R_or _ _ | exact am_R_xor _ _ | exact am_R_shl _ _ | exact am_R_shr _ _ | exact bit_R _ _ | exact xpls_R _ _ | exact xkept_R hW _ _ | exact xwait_R hW _ _ ) | (exact ⟨by omega, by omega⟩) | exact wf _ (by omega) (by omega) | exact wg _ (by omega) (by omega))) rfl am_obX rfl (Nat.le_of_ble_eq_true rfl) (Nat.le_of_ble_eq_true rfl) ?_
    refine sx_ifB_eq (tgt := 26) dX3_isGuarded_19 (by decide) (fun c19 => ?_) (fun c19 => ?_)
    · -- 19t
      refine sx_iconst dX3_isGuarded_26 ?_
      exact sx_zret dX3_isGuarded_27 rfl (by decide) (by first | (simp [xgu, xgod, c10, c19]; done) | grind [xgu, xgod]) rfl
    · -- 19f
      refine sx_iconst dX3_isGuarded_22 ?_
      refine sx_goto (tgt := 27) dX3_isGuarded_23 (by decide) ?_
      exact sx_zret dX3_isGuarded_27 rfl (by decide) (by first | (simp [xgu, xgod, c10, c19]; done) | grind [xgu, xgod]) rfl
set_option maxHeartbeats 4000000 in
set_option maxRecDepth 100000 in
theorem tx_isPlace {h0 : am_H} {X : am_M} {S : Nat → Int} (c row : Int) (hW : WX S) (hc : 0 ≤ c ∧ c < 8) (hr : 0 ≤ row ∧ row ≤ 5) : Ct 3 Y3_isPlace [.inr (7, 0), .inl c, .inl row] (some (.inl (if xpl S c row = true then 1 else 0))) (xh h0 X S) (xh h0 X S) := by
  refine Ct_of (by decide +kernel) (Nat.le_of_ble_eq_true rfl) ?_
  show Sx 3 Y3_isPlace (xh h0 X S) (some (.inl (if xpl S c row = true then 1 else 0))) 0 [some (.inr (7, 0)), some (.inl c), some (.inl row)] [] (xh h0 X S)
  refine xs_vh (fun hR hRX => ?_)
  obtain ⟨w0, w1, wg, wf, wo⟩ := id hW
  refine sx_aload_n dX3_isPlace_0 rfl ?_
  refine sx_iload_n dX3_isPlace_1 rfl ?_
  refine sx_callVi dX3_isPlace_2 ml_X3_52 mv3_lives (tx_lives _ (by first | omega | assumption | (with_reducible first | exact hR _ | exact xwd_R hR _ _ | exact xch_R hR _ _ | exact am_R_and _ _ | exact am_R_or _ _ | exact am_R_xor _ _ | exact am_R_shl _ _ | exact am_R_shr _ _ | exact bit_R _ _ | exact xpls_R _ _ | exact xkept_R hW _ _ | exact xwait_R hW _ _ ) | (exact ⟨by omega, by omega⟩) | exact wf _ (by omega) (by omega) | exact wg _ (by omega) (by omega))) rfl am_obX rfl (Nat.le_of_ble_eq_true rfl) (Nat.le_of_ble_eq_true rfl) ?_
  refine sx_ifB_eq (tgt := 52) dX3_isPlace_5 (by decide) (fun c5 => ?_) (fun c5 => ?_)
  · -- 5t
    refine sx_iconst dX3_isPlace_52 ?_
    exact sx_zret dX3_isPlace_53 rfl (by decide) (by first | (simp [xpl, c5]; done) | grind [xpl]) rfl
  · -- 5f
    refine sx_aload_n dX3_isPlace_8 rfl ?_
    refine sx_iload_n dX3_isPlace_9 rfl ?_
    refine sx_callVi dX3_isPlace_10 ml_X3_56 mv3_isGodfather (tx_isGodfather _ hW (by first | omega | assumption | (with_reducible first | exact hR _ | exact xwd_R hR _ _ | exact xch_R hR _ _ | exact am_R_and _ _ | exact am_R_or _ _ | exact am_R_xor _ _ | exact am_R_shl _ _ | exact am_R_shr _ _ | exact bit_R _ _ | exact xpls_R _ _ | exact xkept_R hW _ _ | exact xwait_R hW _ _ ) | (exact ⟨by omega, by omega⟩) | exact wf _ (by omega) (by omega) | exact wg _ (by omega) (by omega)) (by first | omega | assumption | (with_reducible first | exact hR _ | exact xwd_R hR _ _ | exact xch_R hR _ _ | exact am_R_and _ _ | exact am_R_or _ _ | exact am_R_xor _ _ | exact am_R_shl _ _ | exact am_R_shr _ _ | exact bit_R _ _ | exact xpls_R _ _ | exact xkept_R hW _ _ | exact xwait_R hW _ _ ) | (exact ⟨by omega, by omega⟩) | exact wf _ (by omega) (by omega) | exact wg _ (by omega) (by omega))) rfl am_obX rfl (Nat.le_of_ble_eq_true rfl) (Nat.le_of_ble_eq_true rfl) ?_
    refine sx_ifB_ne (tgt := 52) dX3_isPlace_13 (by decide) (fun c13 => ?_) (fun c13 => ?_)
    · -- 13t
      refine sx_iconst dX3_isPlace_52 ?_
      exact sx_zret dX3_isPlace_53 rfl (by decide) (by first | (simp [xpl, c5, c13]; done) | grind [xpl]) rfl
    · -- 13f
      refine sx_aload_n dX3_isPlace_16 rfl ?_
      refine sx_iload_n dX3_isPlace_17 rfl ?_
      refine sx_iload_n dX3_isPlace_18 rfl ?_
      refine sx_callVi dX3_isPlace_19 ml_X3_48 mv3_isWhole (tx_isWhole _ _ (by first | omega | assumption | (with_reducible first | exact hR _ | exact xwd_R hR _ _ | exact xch_R hR _ _ | exact am_R_and _ _ | exact am_R_or _ _ | exact am_R_xor _ _ | exact am_R_shl _ _ | exact am_R_shr _ _ | exact bit_R _ _ | exact xpls_R _ _ | exact xkept_R hW _ _ | exact xwait_R hW _ _ ) | (exact ⟨by omega, by omega⟩) | exact wf _ (by omega) (by omega) | exact wg _ (by omega) (by omega)) (by first | omega | assumption | (with_reducible first | exact hR _ | exact xwd_R hR _ _ | exact xch_R hR _ _ | exact am_R_and _ _ | exact am_R_or _ _ | exact am_R_xor _ _ | exact am_R_shl _ _ | exact am_R_shr _ _ | exact bit_R _ _ | exact xpls_R _ _ | exact xkept_R hW _ _ | exact xwait_R hW _ _ ) | (exact ⟨by omega, by omega⟩) | exact wf _ (by omega) (by omega) | exact wg _ (by omega) (by omega))) rfl am_obX rfl (Nat.le_of_ble_eq_true rfl) (Nat.le_of_ble_eq_true rfl) ?_
      refine sx_ifB_eq (tgt := 52) dX3_isPlace_22 (by decide) (fun c22 => ?_) (fun c22 => ?_)
      · -- 22t
        refine sx_iconst dX3_isPlace_52 ?_
        exact sx_zret dX3_isPlace_53 rfl (by decide) (by first | (simp [xpl, c5, c13, c22]; done) | grind [xpl]) rfl
      · -- 22f
        refine sx_aload_n dX3_isPlace_25 rfl ?_
        refine sx_iload_n dX3_isPlace_26 rfl ?_
        refine sx_iload_n dX3_isPlace_27 rfl ?_
        refine sx_callVi dX3_isPlace_28 ml_X3_59 mv3_kept (tx_kept _ _ hW (by first | omega | assumption | (with_reducible first | exact hR _ | exact xwd_R hR _ _ | exact xch_R hR _ _ | exact am_R_and _ _ | exact am_R_or _ _ | exact am_R_xor _ _ | exact am_R_shl _ _ | exact am_R_shr _ _ | exact bit_R _ _ | exact xpls_R _ _ | exact xkept_R hW _ _ | exact xwait_R hW _ _ ) | (exact ⟨by omega, by omega⟩) | exact wf _ (by omega) (by omega) | exact wg _ (by omega) (by omega)) (by first | omega | assumption | (with_reducible first | exact hR _ | exact xwd_R hR _ _ | exact xch_R hR _ _ | exact am_R_and _ _ | exact am_R_or _ _ | exact am_R_xor _ _ | exact am_R_shl _ _ | exact am_R_shr _ _ | exact bit_R _ _ | exact xpls_R _ _ | exact xkept_R hW _ _ | exact xwait_R hW _ _ ) | (exact ⟨by omega, by omega⟩) | exact wf _ (by omega) (by omega) | exact wg _ (by omega) (by omega))) rfl am_obX rfl (Nat.le_of_ble_eq_true rfl) (Nat.le_of_ble_eq_true rfl) ?_
        refine sx_if_ge (tgt := 52) dX3_isPlace_31 (by decide) (by first | omega | assumption | (with_reducible first | exact hR _ | exact xwd_R hR _ _ | exact xch_R hR _ _ | exact am_R_and _ _ | exact am_R_or _ _ | exact am_R_xor _ _ | exact am_R_shl _ _ | exact am_R_shr _ _ | exact bit_R _ _ | exact xpls_R _ _ | exact xkept_R hW _ _ | exact xwait_R hW _ _ ) | (exact ⟨by omega, by omega⟩) | exact wf _ (by omega) (by omega) | exact wg _ (by omega) (by omega)) (fun c31 => ?_) (fun c31 => ?_)
        · -- 31t
          refine sx_iconst dX3_isPlace_52 ?_
          exact sx_zret dX3_isPlace_53 rfl (by decide) (by first | (simp [xpl, c5, c13, c22, c31]; done) | grind [xpl]) rfl
        · -- 31f
          refine sx_aload_n dX3_isPlace_34 rfl ?_
          refine sx_aload_n dX3_isPlace_35 rfl ?_
          refine sx_iload_n dX3_isPlace_36 rfl ?_
          refine sx_iconst dX3_isPlace_37 ?_
          refine sx_callVi dX3_isPlace_38 ml_X3_36 mv3_ch (tx_ch _ _ (by first | omega | assumption | (with_reducible first | exact hR _ | exact xwd_R hR _ _ | exact xch_R hR _ _ | exact am_R_and _ _ | exact am_R_or _ _ | exact am_R_xor _ _ | exact am_R_shl _ _ | exact am_R_shr _ _ | exact bit_R _ _ | exact xpls_R _ _ | exact xkept_R hW _ _ | exact xwait_R hW _ _ ) | (exact ⟨by omega, by omega⟩) | exact wf _ (by omega) (by omega) | exact wg _ (by omega) (by omega)) (by first | omega | assumption | (with_reducible first | exact hR _ | exact xwd_R hR _ _ | exact xch_R hR _ _ | exact am_R_and _ _ | exact am_R_or _ _ | exact am_R_xor _ _ | exact am_R_shl _ _ | exact am_R_shr _ _ | exact bit_R _ _ | exact xpls_R _ _ | exact xkept_R hW _ _ | exact xwait_R hW _ _ ) | (exact ⟨by omega, by omega⟩) | exact wf _ (by omega) (by omega) | exact wg _ (by omega) (by omega))) rfl am_obX rfl (Nat.le_of_ble_eq_true rfl) (Nat.le_of_ble_eq_true rfl) ?_
          refine sx_iload_n dX3_isPlace_41 rfl ?_
          refine sx_callVi dX3_isPlace_42 ml_X3_62 mv3_waiting (tx_waiting _ _ hW (by first | omega | assumption | (with_reducible first | exact hR _ | exact xwd_R hR _ _ | exact xch_R hR _ _ | exact am_R_and _ _ | exact am_R_or _ _ | exact am_R_xor _ _ | exact am_R_shl _ _ | exact am_R_shr _ _ | exact bit_R _ _ | exact xpls_R _ _ | exact xkept_R hW _ _ | exact xwait_R hW _ _ ) | (exact ⟨by omega, by omega⟩) | exact wf _ (by omega) (by omega) | exact wg _ (by omega) (by omega)) (by first | omega | assumption | (with_reducible first | exact hR _ | exact xwd_R hR _ _ | exact xch_R hR _ _ | exact am_R_and _ _ | exact am_R_or _ _ | exact am_R_xor _ _ | exact am_R_shl _ _ | exact am_R_shr _ _ | exact bit_R _ _ | exact xpls_R _ _ | exact xkept_R hW _ _ | exact xwait_R hW _ _ ) | (exact ⟨by omega, by omega⟩) | exact wf _ (by omega) (by omega) | exact wg _ (by omega) (by omega))) rfl am_obX rfl (Nat.le_of_ble_eq_true rfl) (Nat.le_of_ble_eq_true rfl) ?_
          refine sx_if_ge (tgt := 52) dX3_isPlace_45 (by decide) (by first | omega | assumption | (with_reducible first | exact hR _ | exact xwd_R hR _ _ | exact xch_R hR _ _ | exact am_R_and _ _ | exact am_R_or _ _ | exact am_R_xor _ _ | exact am_R_shl _ _ | exact am_R_shr _ _ | exact bit_R _ _ | exact xpls_R _ _ | exact xkept_R hW _ _ | exact xwait_R hW _ _ ) | (exact ⟨by omega, by omega⟩) | exact wf _ (by omega) (by omega) | exact wg _ (by omega) (by omega)) (fun c45 => ?_) (fun c45 => ?_)
          · -- 45t
            refine sx_iconst dX3_isPlace_52 ?_
            exact sx_zret dX3_isPlace_53 rfl (by decide) (by first | (simp [xpl, c5, c13, c22, c31, c45]; done) | grind [xpl]) rfl
          · -- 45f
            refine sx_iconst dX3_isPlace_48 ?_
            refine sx_goto (tgt := 53) dX3_isPlace_49 (by decide) ?_
            exact sx_zret dX3_isPlace_53 rfl (by decide) (by first | (simp [xpl, c5, c13, c22, c31, c45]; done) | grind [xpl]) rfl
set_option maxHeartbeats 4000000 in
set_option maxRecDepth 100000 in
theorem tx_places {h0 : am_H} {X : am_M} {S : Nat → Int} (c : Int) (hW : WX S) (hc : 0 ≤ c ∧ c < 8)  : Ct 4 Y3_places [.inr (7, 0), .inl c] (some (.inl (xpls S c))) (xh h0 X S) (xh h0 X S) := by
  refine Ct_of (by decide +kernel) (Nat.le_of_ble_eq_true rfl) ?_
  show Sx 4 Y3_places (xh h0 X S) (some (.inl (xpls S c))) 0 [some (.inr (7, 0)), some (.inl c), none, none] [] (xh h0 X S)
  refine xs_vh (fun hR hRX => ?_)
  obtain ⟨w0, w1, wg, wf, wo⟩ := id hW
  refine sx_iconst dX3_places_0 ?_
  refine sx_istore_n dX3_places_1 (by decide) ?_
  refine sx_iconst dX3_places_2 ?_
  refine sx_istore_n dX3_places_3 (by decide) ?_
  have loop4 : ∀ (n : Nat) (nn : Int) (row : Nat), (6 - row) = n → row ≤ 6 → nn = cntW (fun r => xpl S c r) row → Sx 4 Y3_places (xh h0 X S) (some (.inl (xpls S c))) 4 [some (.inr (7, 0)), some (.inl c), some (.inl nn), some (.inl (row : Int))] [] (xh h0 X S) := by
    intro n
    induction n using Nat.strongRecOn with
    | _ n ih4 =>
      intro nn row hn hle hf
      refine sx_iload_n dX3_places_4 rfl ?_
      refine sx_bipush dX3_places_5 rfl ?_
      refine sx_icmp_ge (tgt := 33) dX3_places_7 (by decide) (by first | omega | assumption | (with_reducible first | exact hR _ | exact xwd_R hR _ _ | exact xch_R hR _ _ | exact am_R_and _ _ | exact am_R_or _ _ | exact am_R_xor _ _ | exact am_R_shl _ _ | exact am_R_shr _ _ | exact bit_R _ _ | exact xpls_R _ _ | exact xkept_R hW _ _ | exact xwait_R hW _ _ ) | (exact ⟨by omega, by omega⟩) | exact wf _ (by omega) (by omega) | exact wg _ (by omega) (by omega)) ⟨by decide, by decide⟩ (fun c7 => ?_) (fun c7 => ?_)
      · -- 7t
        refine sx_iload_n dX3_places_33 rfl ?_
        exact sx_iret dX3_places_34 rfl (by rw [hf, show row = 6 by omega]; rfl) rfl
      · -- 7f
        refine sx_iload_n dX3_places_10 rfl ?_
        refine sx_aload_n dX3_places_11 rfl ?_
        refine sx_iload_n dX3_places_12 rfl ?_
        refine sx_iload_n dX3_places_13 rfl ?_
        refine sx_callVi dX3_places_14 ml_X3_65 mv3_isPlace (tx_isPlace _ _ hW (by first | omega | assumption | (with_reducible first | exact hR _ | exact xwd_R hR _ _ | exact xch_R hR _ _ | exact am_R_and _ _ | exact am_R_or _ _ | exact am_R_xor _ _ | exact am_R_shl _ _ | exact am_R_shr _ _ | exact bit_R _ _ | exact xpls_R _ _ | exact xkept_R hW _ _ | exact xwait_R hW _ _ ) | (exact ⟨by omega, by omega⟩) | exact wf _ (by omega) (by omega) | exact wg _ (by omega) (by omega)) (by first | omega | assumption | (with_reducible first | exact hR _ | exact xwd_R hR _ _ | exact xch_R hR _ _ | exact am_R_and _ _ | exact am_R_or _ _ | exact am_R_xor _ _ | exact am_R_shl _ _ | exact am_R_shr _ _ | exact bit_R _ _ | exact xpls_R _ _ | exact xkept_R hW _ _ | exact xwait_R hW _ _ ) | (exact ⟨by omega, by omega⟩) | exact wf _ (by omega) (by omega) | exact wg _ (by omega) (by omega))) rfl am_obX rfl (Nat.le_of_ble_eq_true rfl) (Nat.le_of_ble_eq_true rfl) ?_
        refine sx_ifB_eq (tgt := 24) dX3_places_17 (by decide) (fun c17 => ?_) (fun c17 => ?_)
        · -- 17t
          refine sx_iconst dX3_places_24 ?_
          refine sx_iadd dX3_places_25 ?_
          refine sx_istore_n dX3_places_26 (by decide) ?_
          refine sx_iinc dX3_places_27 rfl (by decide) ?_
          refine sx_goto (tgt := 4) dX3_places_30 (by decide) ?_
          exact ih4 _ (by omega) _ (row + 1) rfl (by omega) (by simp [cntW, c7, c17, hf])
        · -- 17f
          refine sx_iconst dX3_places_20 ?_
          refine sx_goto (tgt := 25) dX3_places_21 (by decide) ?_
          refine sx_iadd dX3_places_25 ?_
          refine sx_istore_n dX3_places_26 (by decide) ?_
          refine sx_iinc dX3_places_27 rfl (by decide) ?_
          refine sx_goto (tgt := 4) dX3_places_30 (by decide) ?_
          exact ih4 _ (by omega) _ (row + 1) rfl (by omega) (by simp [cntW, c7, c17, hf])
  exact loop4 _ _ 0 rfl (by omega) rfl
set_option maxHeartbeats 4000000 in
set_option maxRecDepth 100000 in
theorem tx_lowest {h0 : am_H} {X : am_M} {S : Nat → Int} (c : Int) (hW : WX S) (hc : 0 ≤ c ∧ c < 8) (hex : xlow S c < 6) : Ct 4 Y3_lowest [.inr (7, 0), .inl c] (some (.inl (xlow S c))) (xh h0 X S) (xh h0 X S) := by
  refine Ct_of (by decide +kernel) (Nat.le_of_ble_eq_true rfl) ?_
  show Sx 4 Y3_lowest (xh h0 X S) (some (.inl (xlow S c))) 0 [some (.inr (7, 0)), some (.inl c), none] [] (xh h0 X S)
  refine xs_vh (fun hR hRX => ?_)
  obtain ⟨w0, w1, wg, wf, wo⟩ := id hW
  refine sx_iconst dX3_lowest_0 ?_
  refine sx_istore_n dX3_lowest_1 (by decide) ?_
  have loop2 : ∀ (n : Nat) (row : Nat), (6 - row) = n → row ≤ 6 → xlow S c = fstW (fun r => xpl S c r) row (6 - row) → xlow S c < 6 → Sx 4 Y3_lowest (xh h0 X S) (some (.inl (xlow S c))) 2 [some (.inr (7, 0)), some (.inl c), some (.inl (row : Int))] [] (xh h0 X S) := by
    intro n
    induction n using Nat.strongRecOn with
    | _ n ih2 =>
      intro row hn hle hf hlt
      have hr6 : row < 6 := by
        rcases Nat.lt_or_ge row 6 with q | q
        · exact q
        · rw [show row = 6 by omega] at hf; have hf : xlow S c = 6 := hf; omega
      refine sx_aload_n dX3_lowest_2 rfl ?_
      refine sx_iload_n dX3_lowest_3 rfl ?_
      refine sx_iload_n dX3_lowest_4 rfl ?_
      refine sx_callVi dX3_lowest_5 ml_X3_65 mv3_isPlace (tx_isPlace _ _ hW (by first | omega | assumption | (with_reducible first | exact hR _ | exact xwd_R hR _ _ | exact xch_R hR _ _ | exact am_R_and _ _ | exact am_R_or _ _ | exact am_R_xor _ _ | exact am_R_shl _ _ | exact am_R_shr _ _ | exact bit_R _ _ | exact xpls_R _ _ | exact xkept_R hW _ _ | exact xwait_R hW _ _ ) | (exact ⟨by omega, by omega⟩) | exact wf _ (by omega) (by omega) | exact wg _ (by omega) (by omega)) (by first | omega | assumption | (with_reducible first | exact hR _ | exact xwd_R hR _ _ | exact xch_R hR _ _ | exact am_R_and _ _ | exact am_R_or _ _ | exact am_R_xor _ _ | exact am_R_shl _ _ | exact am_R_shr _ _ | exact bit_R _ _ | exact xpls_R _ _ | exact xkept_R hW _ _ | exact xwait_R hW _ _ ) | (exact ⟨by omega, by omega⟩) | exact wf _ (by omega) (by omega) | exact wg _ (by omega) (by omega))) rfl am_obX rfl (Nat.le_of_ble_eq_true rfl) (Nat.le_of_ble_eq_true rfl) ?_
      refine sx_ifB_ne (tgt := 17) dX3_lowest_8 (by decide) (fun c8 => ?_) (fun c8 => ?_)
      · -- 8t
        refine sx_iload_n dX3_lowest_17 rfl ?_
        exact sx_iret dX3_lowest_18 rfl (by rw [hf, show 6 - row = (6 - (row + 1)) + 1 by omega]; simp [fstW, c8]) rfl
      · -- 8f
        refine sx_iinc dX3_lowest_11 rfl (by decide) ?_
        refine sx_goto (tgt := 2) dX3_lowest_14 (by decide) ?_
        exact ih2 _ (by omega) (row + 1) rfl (by omega) (by rw [hf, show 6 - row = (6 - (row + 1)) + 1 by omega]; simp [fstW, c8]) hlt
  exact loop2 _ 0 rfl (by omega) rfl hex
set_option maxHeartbeats 4000000 in
set_option maxRecDepth 100000 in
theorem tx_lost {h0 : am_H} {X : am_M} {S : Nat → Int} (hW : WX S)  : Ct 1 Y3_lost [.inr (7, 0)] (some (.inl (xlost S))) (xh h0 X S) (xh h0 X S) := by
  refine Ct_of (by decide +kernel) (Nat.le_of_ble_eq_true rfl) ?_
  show Sx 1 Y3_lost (xh h0 X S) (some (.inl (xlost S))) 0 [some (.inr (7, 0)), none, none] [] (xh h0 X S)
  refine xs_vh (fun hR hRX => ?_)
  obtain ⟨w0, w1, wg, wf, wo⟩ := id hW
  refine sx_iconst dX3_lost_0 ?_
  refine sx_istore_n dX3_lost_1 (by decide) ?_
  refine sx_iconst dX3_lost_2 ?_
  refine sx_istore_n dX3_lost_3 (by decide) ?_
  have loop4 : ∀ (n : Nat) (nn : Int) (w : Nat), (S 1 - w).toNat = n → (w : Int) ≤ S 1 → nn = cntW (fun w => xwd S w 1 == 2) w → Sx 1 Y3_lost (xh h0 X S) (some (.inl (xlost S))) 4 [some (.inr (7, 0)), some (.inl nn), some (.inl (w : Int))] [] (xh h0 X S) := by
    intro n
    induction n using Nat.strongRecOn with
    | _ n ih4 =>
      intro nn w hn hle hf
      refine sx_iload_n dX3_lost_4 rfl ?_
      refine sx_aload_n dX3_lost_5 rfl ?_
      refine xs_getr (j := 1) dX3_lost_6 fl_X3_7 (by decide) rfl ?_
      refine sx_iconst dX3_lost_9 ?_
      refine xs_ild (n := 208) (m := 1) dX3_lost_10 rfl (by decide) (by decide) (by decide) rfl (fun r10 => ?_)
      refine sx_icmp_ge (tgt := 38) dX3_lost_11 (by decide) (by first | omega | assumption | (with_reducible first | exact hR _ | exact xwd_R hR _ _ | exact xch_R hR _ _ | exact am_R_and _ _ | exact am_R_or _ _ | exact am_R_xor _ _ | exact am_R_shl _ _ | exact am_R_shr _ _ | exact bit_R _ _ | exact xpls_R _ _ | exact xkept_R hW _ _ | exact xwait_R hW _ _ ) | (exact ⟨by omega, by omega⟩) | exact wf _ (by omega) (by omega) | exact wg _ (by omega) (by omega)) (by first | omega | assumption | (with_reducible first | exact hR _ | exact xwd_R hR _ _ | exact xch_R hR _ _ | exact am_R_and _ _ | exact am_R_or _ _ | exact am_R_xor _ _ | exact am_R_shl _ _ | exact am_R_shr _ _ | exact bit_R _ _ | exact xpls_R _ _ | exact xkept_R hW _ _ | exact xwait_R hW _ _ ) | (exact ⟨by omega, by omega⟩) | exact wf _ (by omega) (by omega) | exact wg _ (by omega) (by omega)) (fun c11 => ?_) (fun c11 => ?_)
      · -- 11t
        refine sx_iload_n dX3_lost_38 rfl ?_
        exact sx_iret dX3_lost_39 rfl (by rw [hf, show w = (S 1).toNat by omega]; rfl) rfl
      · -- 11f
        refine sx_iload_n dX3_lost_14 rfl ?_
        refine sx_aload_n dX3_lost_15 rfl ?_
        refine sx_iload_n dX3_lost_16 rfl ?_
        refine sx_iconst dX3_lost_17 ?_
        refine sx_callVi dX3_lost_18 ml_X3_45 mv3_wd (tx_wd _ _ (by first | omega | assumption | (with_reducible first | exact hR _ | exact xwd_R hR _ _ | exact xch_R hR _ _ | exact am_R_and _ _ | exact am_R_or _ _ | exact am_R_xor _ _ | exact am_R_shl _ _ | exact am_R_shr _ _ | exact bit_R _ _ | exact xpls_R _ _ | exact xkept_R hW _ _ | exact xwait_R hW _ _ ) | (exact ⟨by omega, by omega⟩) | exact wf _ (by omega) (by omega) | exact wg _ (by omega) (by omega)) (by first | omega | assumption | (with_reducible first | exact hR _ | exact xwd_R hR _ _ | exact xch_R hR _ _ | exact am_R_and _ _ | exact am_R_or _ _ | exact am_R_xor _ _ | exact am_R_shl _ _ | exact am_R_shr _ _ | exact bit_R _ _ | exact xpls_R _ _ | exact xkept_R hW _ _ | exact xwait_R hW _ _ ) | (exact ⟨by omega, by omega⟩) | exact wf _ (by omega) (by omega) | exact wg _ (by omega) (by omega))) rfl am_obX rfl (Nat.le_of_ble_eq_true rfl) (Nat.le_of_ble_eq_true rfl) ?_
        refine sx_iconst dX3_lost_21 ?_
        refine sx_icmp_ne (tgt := 29) dX3_lost_22 (by decide) (by first | omega | assumption | (with_reducible first | exact hR _ | exact xwd_R hR _ _ | exact xch_R hR _ _ | exact am_R_and _ _ | exact am_R_or _ _ | exact am_R_xor _ _ | exact am_R_shl _ _ | exact am_R_shr _ _ | exact bit_R _ _ | exact xpls_R _ _ | exact xkept_R hW _ _ | exact xwait_R hW _ _ ) | (exact ⟨by omega, by omega⟩) | exact wf _ (by omega) (by omega) | exact wg _ (by omega) (by omega)) ⟨by decide, by decide⟩ (fun c22 => ?_) (fun c22 => ?_)
        · -- 22t
          refine sx_iconst dX3_lost_29 ?_
          refine sx_iadd dX3_lost_30 ?_
          refine sx_istore_n dX3_lost_31 (by decide) ?_
          refine sx_iinc dX3_lost_32 rfl (by decide) ?_
          refine sx_goto (tgt := 4) dX3_lost_35 (by decide) ?_
          exact ih4 _ (by omega) _ (w + 1) rfl (by omega) (by simp [cntW, c11, c22, hf])
        · -- 22f
          refine sx_iconst dX3_lost_25 ?_
          refine sx_goto (tgt := 30) dX3_lost_26 (by decide) ?_
          refine sx_iadd dX3_lost_30 ?_
          refine sx_istore_n dX3_lost_31 (by decide) ?_
          refine sx_iinc dX3_lost_32 rfl (by decide) ?_
          refine sx_goto (tgt := 4) dX3_lost_35 (by decide) ?_
          exact ih4 _ (by omega) _ (w + 1) rfl (by omega) (by simp [cntW, c11, c22, hf])
  exact loop4 _ _ 0 rfl (by omega) rfl
set_option maxHeartbeats 4000000 in
set_option maxRecDepth 100000 in
theorem tx_words {h0 : am_H} {X : am_M} {S : Nat → Int} (c : Int) (hW : WX S) (hc : 0 ≤ c ∧ c < 8)  : Ct 2 Y3_words [.inr (7, 0), .inl c] (some (.inl (xwords S c))) (xh h0 X S) (xh h0 X S) := by
  refine Ct_of (by decide +kernel) (Nat.le_of_ble_eq_true rfl) ?_
  show Sx 2 Y3_words (xh h0 X S) (some (.inl (xwords S c))) 0 [some (.inr (7, 0)), some (.inl c), none, none] [] (xh h0 X S)
  refine xs_vh (fun hR hRX => ?_)
  obtain ⟨w0, w1, wg, wf, wo⟩ := id hW
  refine sx_iconst dX3_words_0 ?_
  refine sx_istore_n dX3_words_1 (by decide) ?_
  refine sx_iconst dX3_words_2 ?_
  refine sx_istore_n dX3_words_3 (by decide) ?_
  have loop4 : ∀ (n : Nat) (nn : Int) (row : Nat), (6 - row) = n → row ≤ 6 → nn = cntW (fun r => decide (0 ≤ xkept S c r)) row → Sx 2 Y3_words (xh h0 X S) (some (.inl (xwords S c))) 4 [some (.inr (7, 0)), some (.inl c), some (.inl nn), some (.inl (row : Int))] [] (xh h0 X S) := by
    intro n
    induction n using Nat.strongRecOn with
    | _ n ih4 =>
      intro nn row hn hle hf
      refine sx_iload_n dX3_words_4 rfl ?_
      refine sx_bipush dX3_words_5 rfl ?_
      refine sx_icmp_ge (tgt := 33) dX3_words_7 (by decide) (by first | omega | assumption | (with_reducible first | exact hR _ | exact xwd_R hR _ _ | exact xch_R hR _ _ | exact am_R_and _ _ | exact am_R_or _ _ | exact am_R_xor _ _ | exact am_R_shl _ _ | exact am_R_shr _ _ | exact bit_R _ _ | exact xpls_R _ _ | exact xkept_R hW _ _ | exact xwait_R hW _ _ ) | (exact ⟨by omega, by omega⟩) | exact wf _ (by omega) (by omega) | exact wg _ (by omega) (by omega)) ⟨by decide, by decide⟩ (fun c7 => ?_) (fun c7 => ?_)
      · -- 7t
        refine sx_iload_n dX3_words_33 rfl ?_
        exact sx_iret dX3_words_34 rfl (by rw [hf, show row = 6 by omega]; rfl) rfl
      · -- 7f
        refine sx_iload_n dX3_words_10 rfl ?_
        refine sx_aload_n dX3_words_11 rfl ?_
        refine sx_iload_n dX3_words_12 rfl ?_
        refine sx_iload_n dX3_words_13 rfl ?_
        refine sx_callVi dX3_words_14 ml_X3_59 mv3_kept (tx_kept _ _ hW (by first | omega | assumption | (with_reducible first | exact hR _ | exact xwd_R hR _ _ | exact xch_R hR _ _ | exact am_R_and _ _ | exact am_R_or _ _ | exact am_R_xor _ _ | exact am_R_shl _ _ | exact am_R_shr _ _ | exact bit_R _ _ | exact xpls_R _ _ | exact xkept_R hW _ _ | exact xwait_R hW _ _ ) | (exact ⟨by omega, by omega⟩) | exact wf _ (by omega) (by omega) | exact wg _ (by omega) (by omega)) (by first | omega | assumption | (with_reducible first | exact hR _ | exact xwd_R hR _ _ | exact xch_R hR _ _ | exact am_R_and _ _ | exact am_R_or _ _ | exact am_R_xor _ _ | exact am_R_shl _ _ | exact am_R_shr _ _ | exact bit_R _ _ | exact xpls_R _ _ | exact xkept_R hW _ _ | exact xwait_R hW _ _ ) | (exact ⟨by omega, by omega⟩) | exact wf _ (by omega) (by omega) | exact wg _ (by omega) (by omega))) rfl am_obX rfl (Nat.le_of_ble_eq_true rfl) (Nat.le_of_ble_eq_true rfl) ?_
        refine sx_if_ge (tgt := 24) dX3_words_17 (by decide) (by first | omega | assumption | (with_reducible first | exact hR _ | exact xwd_R hR _ _ | exact xch_R hR _ _ | exact am_R_and _ _ | exact am_R_or _ _ | exact am_R_xor _ _ | exact am_R_shl _ _ | exact am_R_shr _ _ | exact bit_R _ _ | exact xpls_R _ _ | exact xkept_R hW _ _ | exact xwait_R hW _ _ ) | (exact ⟨by omega, by omega⟩) | exact wf _ (by omega) (by omega) | exact wg _ (by omega) (by omega)) (fun c17 => ?_) (fun c17 => ?_)
        · -- 17t
          refine sx_iconst dX3_words_24 ?_
          refine sx_iadd dX3_words_25 ?_
          refine sx_istore_n dX3_words_26 (by decide) ?_
          refine sx_iinc dX3_words_27 rfl (by decide) ?_
          refine sx_goto (tgt := 4) dX3_words_30 (by decide) ?_
          exact ih4 _ (by omega) _ (row + 1) rfl (by omega) (by simp [cntW, hf]; omega)
        · -- 17f
          refine sx_iconst dX3_words_20 ?_
          refine sx_goto (tgt := 25) dX3_words_21 (by decide) ?_
          refine sx_iadd dX3_words_25 ?_
          refine sx_istore_n dX3_words_26 (by decide) ?_
          refine sx_iinc dX3_words_27 rfl (by decide) ?_
          refine sx_goto (tgt := 4) dX3_words_30 (by decide) ?_
          exact ih4 _ (by omega) _ (row + 1) rfl (by omega) (by simp [cntW, hf]; omega)
  exact loop4 _ _ 0 rfl (by omega) rfl
set_option maxHeartbeats 4000000 in
set_option maxRecDepth 100000 in
theorem tx_guarded {h0 : am_H} {X : am_M} {S : Nat → Int} (f : Int) (hW : WX S) (hc : 0 ≤ f ∧ f ≤ 2) : Ct 3 Y3_guarded [.inr (7, 0), .inl f] (some (.inl (xgd S f))) (xh h0 X S) (xh h0 X S) := by
  refine Ct_of (by decide +kernel) (Nat.le_of_ble_eq_true rfl) ?_
  show Sx 3 Y3_guarded (xh h0 X S) (some (.inl (xgd S f))) 0 [some (.inr (7, 0)), some (.inl f), none, none] [] (xh h0 X S)
  refine xs_vh (fun hR hRX => ?_)
  obtain ⟨w0, w1, wg, wf, wo⟩ := id hW
  refine sx_iconst dX3_guarded_0 ?_
  refine sx_istore_n dX3_guarded_1 (by decide) ?_
  refine sx_iconst dX3_guarded_2 ?_
  refine sx_istore_n dX3_guarded_3 (by decide) ?_
  have loop4 : ∀ (n : Nat) (nn : Int) (row : Nat), (6 - row) = n → row ≤ 6 → nn = orW (fun r => xgu S f r) row → Sx 3 Y3_guarded (xh h0 X S) (some (.inl (xgd S f))) 4 [some (.inr (7, 0)), some (.inl f), some (.inl nn), some (.inl (row : Int))] [] (xh h0 X S) := by
    intro n
    induction n using Nat.strongRecOn with
    | _ n ih4 =>
      intro nn row hn hle hf
      refine sx_iload_n dX3_guarded_4 rfl ?_
      refine sx_bipush dX3_guarded_5 rfl ?_
      refine sx_icmp_ge (tgt := 35) dX3_guarded_7 (by decide) (by first | omega | assumption | (with_reducible first | exact hR _ | exact xwd_R hR _ _ | exact xch_R hR _ _ | exact am_R_and _ _ | exact am_R_or _ _ | exact am_R_xor _ _ | exact am_R_shl _ _ | exact am_R_shr _ _ | exact bit_R _ _ | exact xpls_R _ _ | exact xkept_R hW _ _ | exact xwait_R hW _ _ ) | (exact ⟨by omega, by omega⟩) | exact wf _ (by omega) (by omega) | exact wg _ (by omega) (by omega)) ⟨by decide, by decide⟩ (fun c7 => ?_) (fun c7 => ?_)
      · -- 7t
        refine sx_iload_n dX3_guarded_35 rfl ?_
        exact sx_iret dX3_guarded_36 rfl (by rw [hf, show row = 6 by omega]; rfl) rfl
      · -- 7f
        refine sx_iload_n dX3_guarded_10 rfl ?_
        refine sx_aload_n dX3_guarded_11 rfl ?_
        refine sx_iload_n dX3_guarded_12 rfl ?_
        refine sx_iload_n dX3_guarded_13 rfl ?_
        refine sx_callVi dX3_guarded_14 ml_X3_76 mv3_isGuarded (tx_isGuarded _ _ hW (by first | omega | assumption | (with_reducible first | exact hR _ | exact xwd_R hR _ _ | exact xch_R hR _ _ | exact am_R_and _ _ | exact am_R_or _ _ | exact am_R_xor _ _ | exact am_R_shl _ _ | exact am_R_shr _ _ | exact bit_R _ _ | exact xpls_R _ _ | exact xkept_R hW _ _ | exact xwait_R hW _ _ ) | (exact ⟨by omega, by omega⟩) | exact wf _ (by omega) (by omega) | exact wg _ (by omega) (by omega)) (by first | omega | assumption | (with_reducible first | exact hR _ | exact xwd_R hR _ _ | exact xch_R hR _ _ | exact am_R_and _ _ | exact am_R_or _ _ | exact am_R_xor _ _ | exact am_R_shl _ _ | exact am_R_shr _ _ | exact bit_R _ _ | exact xpls_R _ _ | exact xkept_R hW _ _ | exact xwait_R hW _ _ ) | (exact ⟨by omega, by omega⟩) | exact wf _ (by omega) (by omega) | exact wg _ (by omega) (by omega))) rfl am_obX rfl (Nat.le_of_ble_eq_true rfl) (Nat.le_of_ble_eq_true rfl) ?_
        refine sx_ifB_eq (tgt := 26) dX3_guarded_17 (by decide) (fun c17 => ?_) (fun c17 => ?_)
        · -- 17t
          refine sx_iconst dX3_guarded_26 ?_
          refine sx_ior dX3_guarded_27 ?_
          refine sx_istore_n dX3_guarded_28 (by decide) ?_
          refine sx_iinc dX3_guarded_29 rfl (by decide) ?_
          refine sx_goto (tgt := 4) dX3_guarded_32 (by decide) ?_
          exact ih4 _ (by omega) _ (row + 1) rfl (by omega) (by simp [orW, c7, c17, hf])
        · -- 17f
          refine sx_iconst dX3_guarded_20 ?_
          refine sx_iload_n dX3_guarded_21 rfl ?_
          refine sx_ishl dX3_guarded_22 ?_
          refine sx_goto (tgt := 27) dX3_guarded_23 (by decide) ?_
          refine sx_ior dX3_guarded_27 ?_
          refine sx_istore_n dX3_guarded_28 (by decide) ?_
          refine sx_iinc dX3_guarded_29 rfl (by decide) ?_
          refine sx_goto (tgt := 4) dX3_guarded_32 (by decide) ?_
          exact ih4 _ (by omega) _ (row + 1) rfl (by omega) (by simp [orW, c7, c17, hf])
  exact loop4 _ _ 0 rfl (by omega) rfl
set_option maxHeartbeats 4000000 in
set_option maxRecDepth 100000 in
theorem tx_ones {h : am_H} (b : Int) : Ct 0 Y3_ones [.inl b] (some (.inl (xones b))) h h := by
  refine Ct_of (by decide +kernel) (Nat.le_of_ble_eq_true rfl) ?_
  show Sx 0 Y3_ones h (some (.inl (xones b))) 0 [some (.inl b), none, none] [] h
  refine sx_iconst dX3_ones_0 ?_
  refine sx_istore_n dX3_ones_1 (by decide) ?_
  refine sx_iconst dX3_ones_2 ?_
  refine sx_istore_n dX3_ones_3 (by decide) ?_
  have loop4 : ∀ (n : Nat) (nn : Int) (k : Nat), (8 - k) = n → k ≤ 8 → nn = sumW (fun k => bit b k) k → Sx 0 Y3_ones h (some (.inl (xones b))) 4 [some (.inl b), some (.inl nn), some (.inl (k : Int))] [] h := by
    intro n
    induction n using Nat.strongRecOn with
    | _ n ih4 =>
      intro nn k hn hle hf
      refine sx_iload_n dX3_ones_4 rfl ?_
      refine sx_bipush dX3_ones_5 rfl ?_
      refine sx_icmp_ge (tgt := 24) dX3_ones_7 (by decide) (by first | omega | assumption | (with_reducible first | exact hR _ | exact xwd_R hR _ _ | exact xch_R hR _ _ | exact am_R_and _ _ | exact am_R_or _ _ | exact am_R_xor _ _ | exact am_R_shl _ _ | exact am_R_shr _ _ | exact bit_R _ _ | exact xpls_R _ _ | exact xkept_R hW _ _ | exact xwait_R hW _ _ ) | (exact ⟨by omega, by omega⟩) | exact wf _ (by omega) (by omega) | exact wg _ (by omega) (by omega)) ⟨by decide, by decide⟩ (fun c7 => ?_) (fun c7 => ?_)
      · -- 7t
        refine sx_iload_n dX3_ones_24 rfl ?_
        exact sx_iret dX3_ones_25 rfl (by rw [hf, show k = 8 by omega]; rfl) rfl
      · -- 7f
        refine sx_iload_n dX3_ones_10 rfl ?_
        refine sx_iload_n dX3_ones_11 rfl ?_
        refine sx_iload_n dX3_ones_12 rfl ?_
        refine sx_ishr dX3_ones_13 ?_
        refine sx_iconst dX3_ones_14 ?_
        refine sx_iand dX3_ones_15 ?_
        refine sx_iadd dX3_ones_16 ?_
        refine sx_istore_n dX3_ones_17 (by decide) ?_
        refine sx_iinc dX3_ones_18 rfl (by decide) ?_
        refine sx_goto (tgt := 4) dX3_ones_21 (by decide) ?_
        exact ih4 _ (by omega) _ (k + 1) rfl (by omega) (by simp [sumW, bit, hf])
  exact loop4 _ _ 0 rfl (by omega) rfl
end
section
/-! ===== the reference's changes of its row s ===== -/
def xsits (S : Nat → Int) (w c row : Int) : Nat → Int := xlay (xlay (xlay (xlay S w 1 0) w 2 c) w 3 row) w 4 (xch (xlay (xlay (xlay S w 1 0) w 2 c) w 3 row) c 0)
def xwn (S : Nat → Int) (w : Int) : Nat → Int := am_u1 (xlay (xlay S w 1 1) w 5 (xlay S w 1 1 4)) 4 (xlay (xlay S w 1 1) w 5 (xlay S w 1 1 4) 4 + 1)
def xfalls (S : Nat → Int) (w b : Int) : Nat → Int := if xgu S (xwd S w 4) (xwd S w 3) = true then (if xwait S (xwd S w 4) (xwd S w 3) < 0 then (if b = 0 then xwn S w else S) else xlay (xlay S w 1 2) (xwait S (xwd S w 4) (xwd S w 3)) 1 2) else xlay S w 1 2
def xq (S : Nat → Int) (f wo : Int) (b : Bool) (c : Nat) : Bool := !((c : Int) == wo) && (((xch S c 0 == f) == b) && decide (0 < xpls S c))
def xbest (S : Nat → Int) (q : Nat → Bool) (g0 : Int) : Nat → Int
  | 0 => g0
  | n + 1 => if (q n && (decide (xbest S q g0 n < 0) || decide (xpls S (xbest S q g0 n) < xpls S n))) = true then (n : Int) else xbest S q g0 n
def xtarget (S : Nat → Int) (f wo : Int) : Int := if xbest S (xq S f wo true) (-1) (S 0).toNat < 0 then xbest S (xq S f wo false) (xbest S (xq S f wo true) (-1) (S 0).toNat) (S 0).toNat else xbest S (xq S f wo true) (-1) (S 0).toNat
def xelects (S : Nat → Int) (c : Int) : Int × (Nat → Int) := if 0 ≤ c ∧ c ≤ S 0 - 1 then (if xch S c 2 = 1 then (if xgod S (xch S c 0) < 0 then (if xwords S c ≤ 0 then (xones (xgd (am_u1 S (5 + xch S c 0).toNat c) (xch (am_u1 S (5 + xch S c 0).toNat c) c 0)), am_u1 S (5 + xch S c 0).toNat c) else (-1000002, S)) else (-1000002, S)) else (-1000002, S)) else (-1000001, S)
def xkrow (S : Nat → Int) (c f : Int) (hd : Bool) (row : Int) : Nat → Int :=
  if xkept S c row < 0 then (if hd = true then (if xwait S f row < 0 then S else xlay S (xwait S f row) 1 2) else S)
  else (if hd = true then (if xwait (xfalls S (xkept S c row) 0) f row < 0 then xfalls S (xkept S c row) 0 else xlay (xfalls S (xkept S c row) 0) (xwait (xfalls S (xkept S c row) 0) f row) 1 2) else xfalls S (xkept S c row) 0)
def xkrows (S : Nat → Int) (c f : Int) (hd : Bool) : Nat → Nat → Int
  | 0 => S
  | n + 1 => xkrow (xkrows S c f hd n) c f hd n
def xkillS (S : Nat → Int) (c : Int) : Nat → Int := am_u1 (xkrows (am_u1 S (8 + 4 * c + 2).toNat 0) c (xch S c 0) (xisg S c) 6) (5 + xch S c 0).toNat (if xisg S c = true then -1 else xkrows (am_u1 S (8 + 4 * c + 2).toNat 0) c (xch S c 0) (xisg S c) 6 (5 + xch S c 0).toNat)
def xkills (S : Nat → Int) (c : Int) : Int × (Nat → Int) := if 0 ≤ c ∧ c ≤ S 0 - 1 then (if xch S c 2 = 1 then (xlost (xkillS S c) - xlost S, xkillS S c) else (-1000002, S)) else (-1000001, S)
theorem xlay_lo {S : Nat → Int} {w k v : Int} {m : Nat} (hw : 0 ≤ w) (hk : 0 ≤ k) (hm : m < 40) : xlay S w k v m = S m := by
  unfold xlay
  rw [am_u1_ne]
  omega
theorem xlay_ch {S : Nat → Int} {w k v c j : Int} (hw : 0 ≤ w) (hk : 0 ≤ k) (hc : 0 ≤ c ∧ c < 8) (hj : 0 ≤ j ∧ j < 4) : xch (xlay S w k v) c j = xch S c j := by
  unfold xch
  exact xlay_lo hw hk (by omega)
theorem xlay_god {S : Nat → Int} {w k v f : Int} (hw : 0 ≤ w) (hk : 0 ≤ k) (hf : 0 ≤ f ∧ f ≤ 2) : xgod (xlay S w k v) f = xgod S f := by
  unfold xgod
  exact xlay_lo hw hk (by omega)
theorem xlay_at {S : Nat → Int} {w k v : Int} : xwd (xlay S w k v) w k = v := by
  unfold xwd xlay
  rw [am_u1_at]
theorem xlay_ne {S : Nat → Int} {w k v w2 k2 : Int} (hw : 0 ≤ w ∧ 0 ≤ k ∧ k < 7) (hw2 : 0 ≤ w2 ∧ 0 ≤ k2 ∧ k2 < 7) (hne : w2 ≠ w ∨ k2 ≠ k) : xwd (xlay S w k v) w2 k2 = xwd S w2 k2 := by
  unfold xwd xlay
  rw [am_u1_ne]
  omega
theorem WX_lay {S : Nat → Int} {w k v : Int} (hW : WX S) (hw : 0 ≤ w ∧ w < 24) (hk : 0 ≤ k ∧ k < 7) (h3 : k = 3 → 0 ≤ v ∧ v ≤ 5) (h4 : k = 4 → 0 ≤ v ∧ v ≤ 2) : WX (xlay S w k v) := by
  obtain ⟨w0, w1, wg, wf, wo⟩ := hW
  refine ⟨by rw [xlay_lo hw.1 hk.1 (by decide)]; exact w0, by rw [xlay_lo hw.1 hk.1 (by decide)]; exact w1, fun f h0 h2 => by rw [xlay_god hw.1 hk.1 ⟨h0, h2⟩]; exact wg f h0 h2, fun c h0 h8 => by rw [xlay_ch hw.1 hk.1 ⟨h0, h8⟩ (by decide)]; exact wf c h0 h8, fun a h0 h9 => ⟨?_, ?_⟩⟩
  · by_cases h : a ≠ w ∨ (4 : Int) ≠ k
    · rw [xlay_ne ⟨hw.1, hk.1, hk.2⟩ ⟨h0, by decide⟩ h]; exact (wo a h0 h9).1
    · have ha : a = w := by omega
      have hk4 : k = 4 := by omega
      subst ha; subst hk4
      rw [xlay_at]; exact h4 rfl
  · by_cases h : a ≠ w ∨ (3 : Int) ≠ k
    · rw [xlay_ne ⟨hw.1, hk.1, hk.2⟩ ⟨h0, by decide⟩ h]; exact (wo a h0 h9).2
    · have ha : a = w := by omega
      have hk4 : k = 3 := by omega
      subst ha; subst hk4
      rw [xlay_at]; exact h3 rfl
theorem WX_n {S : Nat → Int} {v : Int} {m : Nat} (hW : WX S) (hm : m = 2 ∨ m = 3 ∨ m = 4) : WX (am_u1 S m v) := by
  obtain ⟨w0, w1, wg, wf, wo⟩ := hW
  refine ⟨by rw [am_u1_ne _ _ (by omega)]; exact w0, by rw [am_u1_ne _ _ (by omega)]; exact w1, fun f h0 h2 => ?_, fun c h0 h8 => ?_, fun a h0 h9 => ?_⟩
  · unfold xgod; rw [am_u1_ne _ _ (by omega)]; exact wg f h0 h2
  · unfold xch; rw [am_u1_ne _ _ (by omega)]; exact wf c h0 h8
  · unfold xwd; rw [am_u1_ne _ _ (by omega), am_u1_ne _ _ (by omega)]; exact wo a h0 h9
theorem WX_sits {S : Nat → Int} {w c row : Int} (hW : WX S) (hw : 0 ≤ w ∧ w < 24) (hc : 0 ≤ c ∧ c < 8) (hr : 0 ≤ row ∧ row ≤ 5) : WX (xsits S w c row) := by
  have h1 : WX (xlay S w 1 0) := WX_lay hW hw (by decide) (by omega) (by omega)
  have h2 : WX (xlay (xlay S w 1 0) w 2 c) := WX_lay h1 hw (by decide) (by omega) (by omega)
  have h3 : WX (xlay (xlay (xlay S w 1 0) w 2 c) w 3 row) := WX_lay h2 hw (by decide) (fun _ => hr) (by omega)
  exact WX_lay h3 hw (by decide) (by omega) (fun _ => h3.2.2.2.1 c hc.1 hc.2)
theorem WX_wn {S : Nat → Int} {w : Int} (hW : WX S) (hw : 0 ≤ w ∧ w < 24) : WX (xwn S w) := WX_n (WX_lay (WX_lay hW hw (by decide) (by omega) (by omega)) hw (by decide) (by omega) (by omega)) (by omega)
theorem WX_falls {S : Nat → Int} {w b : Int} (hW : WX S) (hw : 0 ≤ w ∧ w < 24) : WX (xfalls S w b) := by
  have h1 : WX (xlay S w 1 2) := WX_lay hW hw (by decide) (by omega) (by omega)
  have hb := xwait_b hW (xwd S w 4) (xwd S w 3)
  unfold xfalls
  split
  · split
    · split
      · exact WX_wn hW hw
      · exact hW
    · exact WX_lay h1 (by omega) (by decide) (by omega) (by omega)
  · exact h1
theorem WX_krow {S : Nat → Int} {c f : Int} {hd : Bool} {row : Int} (hW : WX S) : WX (xkrow S c f hd row) := by
  have hk := xkept_b hW c row
  have hb := xwait_b hW f row
  unfold xkrow
  split
  · split
    · split
      · exact hW
      · exact WX_lay hW (by omega) (by decide) (by omega) (by omega)
    · exact hW
  · have h2 : WX (xfalls S (xkept S c row) 0) := WX_falls hW (by omega)
    have hb2 := xwait_b h2 f row
    split
    · split
      · exact h2
      · exact WX_lay h2 (by omega) (by decide) (by omega) (by omega)
    · exact h2
theorem WX_krows {S : Nat → Int} {c f : Int} {hd : Bool} (hW : WX S) (n : Nat) : WX (xkrows S c f hd n) := by
  induction n with
  | zero => exact hW
  | succ n ih => exact WX_krow ih
theorem WX_chip {S : Nat → Int} {c k v : Int} (hW : WX S) (hc : 0 ≤ c ∧ c < 8) (hk : 1 ≤ k ∧ k < 4) : WX (am_u1 S (8 + 4 * c + k).toNat v) := by
  obtain ⟨w0, w1, wg, wf, wo⟩ := hW
  refine ⟨by rw [am_u1_ne _ _ (by omega)]; exact w0, by rw [am_u1_ne _ _ (by omega)]; exact w1, fun f h0 h2 => ?_, fun a h0 h8 => ?_, fun a h0 h9 => ?_⟩
  · unfold xgod; rw [am_u1_ne _ _ (by omega)]; exact wg f h0 h2
  · unfold xch; rw [am_u1_ne _ _ (by omega)]; exact wf a h0 h8
  · unfold xwd; rw [am_u1_ne _ _ (by omega), am_u1_ne _ _ (by omega)]; exact wo a h0 h9
theorem WX_god {S : Nat → Int} {f v : Int} (hW : WX S) (hf : 0 ≤ f ∧ f ≤ 2) (hv : -1 ≤ v ∧ v < 8) : WX (am_u1 S (5 + f).toNat v) := by
  obtain ⟨w0, w1, wg, wf, wo⟩ := hW
  refine ⟨by rw [am_u1_ne _ _ (by omega)]; exact w0, by rw [am_u1_ne _ _ (by omega)]; exact w1, fun g h0 h2 => ?_, fun a h0 h8 => ?_, fun a h0 h9 => ?_⟩
  · unfold xgod
    by_cases h : (5 + g).toNat = (5 + f).toNat
    · rw [h, am_u1_at]; exact hv
    · rw [am_u1_ne _ _ h]; exact wg g h0 h2
  · unfold xch; rw [am_u1_ne _ _ (by omega)]; exact wf a h0 h8
  · unfold xwd; rw [am_u1_ne _ _ (by omega), am_u1_ne _ _ (by omega)]; exact wo a h0 h9
theorem xbest_b {S : Nat → Int} {q : Nat → Bool} {g0 : Int} {n : Nat} {N : Int} (hg : -1 ≤ g0 ∧ g0 < N) (hn : (n : Int) ≤ N) : -1 ≤ xbest S q g0 n ∧ xbest S q g0 n < N := by
  induction n with
  | zero => exact hg
  | succ n ih =>
    unfold xbest
    split
    · omega
    · exact ih (by omega)
theorem xtarget_b {S : Nat → Int} (hW : WX S) (f wo : Int) : -1 ≤ xtarget S f wo ∧ xtarget S f wo < 8 := by
  have h0 := hW.1
  have h1 : -1 ≤ xbest S (xq S f wo true) (-1) (S 0).toNat ∧ _ < (8 : Int) := xbest_b (by decide) (by omega)
  unfold xtarget
  split
  · exact xbest_b h1 (by omega)
  · exact h1
theorem xwn_4 {S : Nat → Int} {w : Int} (hw : 0 ≤ w) : xwn S w 4 = S 4 + 1 := by
  unfold xwn
  rw [am_u1_at, xlay_lo hw (by decide) (by decide), xlay_lo hw (by decide) (by decide)]
theorem xfalls_4 {S : Nat → Int} {w b : Int} (hW : WX S) (hw : 0 ≤ w ∧ w < 24) : S 4 ≤ xfalls S w b 4 ∧ xfalls S w b 4 ≤ S 4 + 1 := by
  have hb := xwait_b hW (xwd S w 4) (xwd S w 3)
  unfold xfalls
  split
  · split
    · split
      · rw [xwn_4 hw.1]; omega
      · omega
    · rw [xlay_lo (by omega) (by decide) (by decide), xlay_lo hw.1 (by decide) (by decide)]; omega
  · rw [xlay_lo hw.1 (by decide) (by decide)]; omega
theorem xkrow_4 {S : Nat → Int} {c f : Int} {hd : Bool} {row : Int} (hW : WX S) : S 4 ≤ xkrow S c f hd row 4 ∧ xkrow S c f hd row 4 ≤ S 4 + 1 := by
  have hk := xkept_b hW c row
  have hb := xwait_b hW f row
  unfold xkrow
  split
  · split
    · split
      · omega
      · rw [xlay_lo (by omega) (by decide) (by decide)]; omega
    · omega
  · have h2 : WX (xfalls S (xkept S c row) 0) := WX_falls hW (by omega)
    have h4 := xfalls_4 (b := 0) hW (w := xkept S c row) (by omega)
    have hb2 := xwait_b h2 f row
    split
    · split
      · exact h4
      · rw [xlay_lo (by omega) (by decide) (by decide)]; exact h4
    · exact h4
theorem xkrows_4 {S : Nat → Int} {c f : Int} {hd : Bool} (hW : WX S) (n : Nat) : S 4 ≤ xkrows S c f hd n 4 ∧ xkrows S c f hd n 4 ≤ S 4 + n := by
  induction n with
  | zero => exact ⟨Int.le_refl _, by show S 4 ≤ S 4 + 0; omega⟩
  | succ n ih =>
    have := xkrow_4 (c := c) (f := f) (hd := hd) (row := n) (WX_krows (c := c) (f := f) (hd := hd) hW n)
    show S 4 ≤ xkrow _ c f hd n 4 ∧ xkrow _ c f hd n 4 ≤ _
    omega
theorem cntW_RR {p : Nat → Bool} {n : Nat} (hn : n ≤ 1000) : am_R (cntW p n) := by
  have := cntW_R p n
  exact ⟨by omega, by omega⟩
theorem xlost_b {S : Nat → Int} (hW : WX S) : 0 ≤ xlost S ∧ xlost S ≤ 24 := by
  have := cntW_R (fun w => xwd S w 1 == 2) (S 1).toNat
  have h1 := hW.2.1
  unfold xlost
  omega
theorem xwords_b (S : Nat → Int) (c : Int) : 0 ≤ xwords S c ∧ xwords S c ≤ 6 := cntW_R _ 6
theorem xwords_R (S : Nat → Int) (c : Int) : am_R (xwords S c) := by
  have := xwords_b S c
  exact ⟨by omega, by omega⟩
theorem xbest_y {S : Nat → Int} {q : Nat → Bool} {g0 g : Int} {c : Nat} (hf : g = xbest S q g0 c) (hq : q c = true) (h : g < 0 ∨ xpls S g < xpls S c) : (c : Int) = xbest S q g0 (c + 1) := by
  subst hf
  show (c : Int) = if (q c && (decide (xbest S q g0 c < 0) || decide (xpls S (xbest S q g0 c) < xpls S c))) = true then (c : Int) else xbest S q g0 c
  rw [if_pos]
  rw [hq]
  simpa using h
theorem xbest_n {S : Nat → Int} {q : Nat → Bool} {g0 g : Int} {c : Nat} (hf : g = xbest S q g0 c) (h : q c = false ∨ (0 ≤ g ∧ xpls S c ≤ xpls S g)) : g = xbest S q g0 (c + 1) := by
  subst hf
  show xbest S q g0 c = if (q c && (decide (xbest S q g0 c < 0) || decide (xpls S (xbest S q g0 c) < xpls S c))) = true then (c : Int) else xbest S q g0 c
  rw [if_neg]
  rcases h with h | ⟨h1, h2⟩
  · rw [h]; simp
  · simp
    intro _
    omega
end
section
set_option maxHeartbeats 4000000 in
set_option maxRecDepth 100000 in
theorem tx_sits {h0 : am_H} {X : am_M} {S : Nat → Int} (w c row : Int) (hw : 0 ≤ w ∧ w < 24) (hc : 0 ≤ c ∧ c < 8) (hr : am_R row) : Ct 1 Y3_sits [.inr (7, 0), .inl w, .inl c, .inl row] none (xh h0 X S) (xh h0 X (xsits S w c row)) := by
  refine Ct_of (by decide +kernel) (Nat.le_of_ble_eq_true rfl) ?_
  show Sx 1 Y3_sits (xh h0 X (xsits S w c row)) none 0 [some (.inr (7, 0)), some (.inl w), some (.inl c), some (.inl row)] [] (xh h0 X S)
  refine xs_vh (fun hR hRX => ?_)
  refine sx_aload_n dX3_sits_0 rfl ?_
  refine sx_iload_n dX3_sits_1 rfl ?_
  refine sx_iconst dX3_sits_2 ?_
  refine sx_iconst dX3_sits_3 ?_
  refine sx_callVv dX3_sits_4 ml_X3_72 mv3_lays (tx_lays _ _ _ (by first | omega | assumption | (with_reducible first | exact hR _ | exact xwd_R hR _ _ | exact xch_R hR _ _ | exact am_R_and _ _ | exact am_R_or _ _ | exact am_R_xor _ _ | exact am_R_shl _ _ | exact am_R_shr _ _ | exact bit_R _ _ | exact xpls_R _ _ | exact xkept_R hW _ _ | exact xwait_R hW _ _ | exact xwords_R _ _ | exact hR9 _ | exact xch_R hR9 _ _) | (exact ⟨by omega, by omega⟩) | exact wf _ (by omega) (by omega) | exact wg _ (by omega) (by omega)) (by first | omega | assumption | (with_reducible first | exact hR _ | exact xwd_R hR _ _ | exact xch_R hR _ _ | exact am_R_and _ _ | exact am_R_or _ _ | exact am_R_xor _ _ | exact am_R_shl _ _ | exact am_R_shr _ _ | exact bit_R _ _ | exact xpls_R _ _ | exact xkept_R hW _ _ | exact xwait_R hW _ _ | exact xwords_R _ _ | exact hR9 _ | exact xch_R hR9 _ _) | (exact ⟨by omega, by omega⟩) | exact wf _ (by omega) (by omega) | exact wg _ (by omega) (by omega)) (by first | omega | assumption | (with_reducible first | exact hR _ | exact xwd_R hR _ _ | exact xch_R hR _ _ | exact am_R_and _ _ | exact am_R_or _ _ | exact am_R_xor _ _ | exact am_R_shl _ _ | exact am_R_shr _ _ | exact bit_R _ _ | exact xpls_R _ _ | exact xkept_R hW _ _ | exact xwait_R hW _ _ | exact xwords_R _ _ | exact hR9 _ | exact xch_R hR9 _ _) | (exact ⟨by omega, by omega⟩) | exact wf _ (by omega) (by omega) | exact wg _ (by omega) (by omega))) rfl am_obX rfl (Nat.le_of_ble_eq_true rfl) (Nat.le_of_ble_eq_true rfl) ?_
  refine sx_aload_n dX3_sits_7 rfl ?_
  refine sx_iload_n dX3_sits_8 rfl ?_
  refine sx_iconst dX3_sits_9 ?_
  refine sx_iload_n dX3_sits_10 rfl ?_
  refine sx_callVv dX3_sits_11 ml_X3_72 mv3_lays (tx_lays _ _ _ (by first | omega | assumption | (with_reducible first | exact hR _ | exact xwd_R hR _ _ | exact xch_R hR _ _ | exact am_R_and _ _ | exact am_R_or _ _ | exact am_R_xor _ _ | exact am_R_shl _ _ | exact am_R_shr _ _ | exact bit_R _ _ | exact xpls_R _ _ | exact xkept_R hW _ _ | exact xwait_R hW _ _ | exact xwords_R _ _ | exact hR9 _ | exact xch_R hR9 _ _) | (exact ⟨by omega, by omega⟩) | exact wf _ (by omega) (by omega) | exact wg _ (by omega) (by omega)) (by first | omega | assumption | (with_reducible first | exact hR _ | exact xwd_R hR _ _ | exact xch_R hR _ _ | exact am_R_and _ _ | exact am_R_or _ _ | exact am_R_xor _ _ | exact am_R_shl _ _ | exact am_R_shr _ _ | exact bit_R _ _ | exact xpls_R _ _ | exact xkept_R hW _ _ | exact xwait_R hW _ _ | exact xwords_R _ _ | exact hR9 _ | exact xch_R hR9 _ _) | (exact ⟨by omega, by omega⟩) | exact wf _ (by omega) (by omega) | exact wg _ (by omega) (by omega)) (by first | omega | assumption | (with_reducible first | exact hR _ | exact xwd_R hR _ _ | exact xch_R hR _ _ | exact am_R_and _ _ | exact am_R_or _ _ | exact am_R_xor _ _ | exact am_R_shl _ _ | exact am_R_shr _ _ | exact bit_R _ _ | exact xpls_R _ _ | exact xkept_R hW _ _ | exact xwait_R hW _ _ | exact xwords_R _ _ | exact hR9 _ | exact xch_R hR9 _ _) | (exact ⟨by omega, by omega⟩) | exact wf _ (by omega) (by omega) | exact wg _ (by omega) (by omega))) rfl am_obX rfl (Nat.le_of_ble_eq_true rfl) (Nat.le_of_ble_eq_true rfl) ?_
  refine sx_aload_n dX3_sits_14 rfl ?_
  refine sx_iload_n dX3_sits_15 rfl ?_
  refine sx_iconst dX3_sits_16 ?_
  refine sx_iload_n dX3_sits_17 rfl ?_
  refine sx_callVv dX3_sits_18 ml_X3_72 mv3_lays (tx_lays _ _ _ (by first | omega | assumption | (with_reducible first | exact hR _ | exact xwd_R hR _ _ | exact xch_R hR _ _ | exact am_R_and _ _ | exact am_R_or _ _ | exact am_R_xor _ _ | exact am_R_shl _ _ | exact am_R_shr _ _ | exact bit_R _ _ | exact xpls_R _ _ | exact xkept_R hW _ _ | exact xwait_R hW _ _ | exact xwords_R _ _ | exact hR9 _ | exact xch_R hR9 _ _) | (exact ⟨by omega, by omega⟩) | exact wf _ (by omega) (by omega) | exact wg _ (by omega) (by omega)) (by first | omega | assumption | (with_reducible first | exact hR _ | exact xwd_R hR _ _ | exact xch_R hR _ _ | exact am_R_and _ _ | exact am_R_or _ _ | exact am_R_xor _ _ | exact am_R_shl _ _ | exact am_R_shr _ _ | exact bit_R _ _ | exact xpls_R _ _ | exact xkept_R hW _ _ | exact xwait_R hW _ _ | exact xwords_R _ _ | exact hR9 _ | exact xch_R hR9 _ _) | (exact ⟨by omega, by omega⟩) | exact wf _ (by omega) (by omega) | exact wg _ (by omega) (by omega)) (by first | omega | assumption | (with_reducible first | exact hR _ | exact xwd_R hR _ _ | exact xch_R hR _ _ | exact am_R_and _ _ | exact am_R_or _ _ | exact am_R_xor _ _ | exact am_R_shl _ _ | exact am_R_shr _ _ | exact bit_R _ _ | exact xpls_R _ _ | exact xkept_R hW _ _ | exact xwait_R hW _ _ | exact xwords_R _ _ | exact hR9 _ | exact xch_R hR9 _ _) | (exact ⟨by omega, by omega⟩) | exact wf _ (by omega) (by omega) | exact wg _ (by omega) (by omega))) rfl am_obX rfl (Nat.le_of_ble_eq_true rfl) (Nat.le_of_ble_eq_true rfl) ?_
  refine xs_vh (fun hR9 _ => ?_)
  refine sx_aload_n dX3_sits_21 rfl ?_
  refine sx_iload_n dX3_sits_22 rfl ?_
  refine sx_iconst dX3_sits_23 ?_
  refine sx_aload_n dX3_sits_24 rfl ?_
  refine sx_iload_n dX3_sits_25 rfl ?_
  refine sx_iconst dX3_sits_26 ?_
  refine sx_callVi dX3_sits_27 ml_X3_36 mv3_ch (tx_ch _ _ (by first | omega | assumption | (with_reducible first | exact hR _ | exact xwd_R hR _ _ | exact xch_R hR _ _ | exact am_R_and _ _ | exact am_R_or _ _ | exact am_R_xor _ _ | exact am_R_shl _ _ | exact am_R_shr _ _ | exact bit_R _ _ | exact xpls_R _ _ | exact xkept_R hW _ _ | exact xwait_R hW _ _ ) | (exact ⟨by omega, by omega⟩) | exact wf _ (by omega) (by omega) | exact wg _ (by omega) (by omega)) (by first | omega | assumption | (with_reducible first | exact hR _ | exact xwd_R hR _ _ | exact xch_R hR _ _ | exact am_R_and _ _ | exact am_R_or _ _ | exact am_R_xor _ _ | exact am_R_shl _ _ | exact am_R_shr _ _ | exact bit_R _ _ | exact xpls_R _ _ | exact xkept_R hW _ _ | exact xwait_R hW _ _ ) | (exact ⟨by omega, by omega⟩) | exact wf _ (by omega) (by omega) | exact wg _ (by omega) (by omega))) rfl am_obX rfl (Nat.le_of_ble_eq_true rfl) (Nat.le_of_ble_eq_true rfl) ?_
  refine sx_callVv dX3_sits_30 ml_X3_72 mv3_lays (tx_lays _ _ _ (by first | omega | assumption | (with_reducible first | exact hR _ | exact xwd_R hR _ _ | exact xch_R hR _ _ | exact am_R_and _ _ | exact am_R_or _ _ | exact am_R_xor _ _ | exact am_R_shl _ _ | exact am_R_shr _ _ | exact bit_R _ _ | exact xpls_R _ _ | exact xkept_R hW _ _ | exact xwait_R hW _ _ | exact xwords_R _ _ | exact hR9 _ | exact xch_R hR9 _ _) | (exact ⟨by omega, by omega⟩) | exact wf _ (by omega) (by omega) | exact wg _ (by omega) (by omega)) (by first | omega | assumption | (with_reducible first | exact hR _ | exact xwd_R hR _ _ | exact xch_R hR _ _ | exact am_R_and _ _ | exact am_R_or _ _ | exact am_R_xor _ _ | exact am_R_shl _ _ | exact am_R_shr _ _ | exact bit_R _ _ | exact xpls_R _ _ | exact xkept_R hW _ _ | exact xwait_R hW _ _ | exact xwords_R _ _ | exact hR9 _ | exact xch_R hR9 _ _) | (exact ⟨by omega, by omega⟩) | exact wf _ (by omega) (by omega) | exact wg _ (by omega) (by omega)) (by first | omega | assumption | (with_reducible first | exact hR _ | exact xwd_R hR _ _ | exact xch_R hR _ _ | exact am_R_and _ _ | exact am_R_or _ _ | exact am_R_xor _ _ | exact am_R_shl _ _ | exact am_R_shr _ _ | exact bit_R _ _ | exact xpls_R _ _ | exact xkept_R hW _ _ | exact xwait_R hW _ _ | exact xwords_R _ _ | exact hR9 _ | exact xch_R hR9 _ _) | (exact ⟨by omega, by omega⟩) | exact wf _ (by omega) (by omega) | exact wg _ (by omega) (by omega))) rfl am_obX rfl (Nat.le_of_ble_eq_true rfl) (Nat.le_of_ble_eq_true rfl) ?_
  exact sx_vret dX3_sits_33 rfl rfl rfl
set_option maxHeartbeats 4000000 in
set_option maxRecDepth 100000 in
theorem tx_waitsNow {h0 : am_H} {X : am_M} {S : Nat → Int} (w : Int) (hw : 0 ≤ w ∧ w < 24) (hN : S 4 ≤ 2000000000)  : Ct 1 Y3_waitsNow [.inr (7, 0), .inl w] none (xh h0 X S) (xh h0 X (xwn S w)) := by
  refine Ct_of (by decide +kernel) (Nat.le_of_ble_eq_true rfl) ?_
  show Sx 1 Y3_waitsNow (xh h0 X (xwn S w)) none 0 [some (.inr (7, 0)), some (.inl w)] [] (xh h0 X S)
  refine xs_vh (fun hR hRX => ?_)
  refine sx_aload_n dX3_waitsNow_0 rfl ?_
  refine sx_iload_n dX3_waitsNow_1 rfl ?_
  refine sx_iconst dX3_waitsNow_2 ?_
  refine sx_iconst dX3_waitsNow_3 ?_
  refine sx_callVv dX3_waitsNow_4 ml_X3_72 mv3_lays (tx_lays _ _ _ (by omega) (by decide) (by first | exact ⟨by decide, by decide⟩ | (rw [xlay_lo (by omega) (by decide) (by decide)]; exact hR 4))) rfl am_obX rfl (Nat.le_of_ble_eq_true rfl) (Nat.le_of_ble_eq_true rfl) ?_
  refine sx_aload_n dX3_waitsNow_7 rfl ?_
  refine sx_iload_n dX3_waitsNow_8 rfl ?_
  refine sx_iconst dX3_waitsNow_9 ?_
  refine sx_aload_n dX3_waitsNow_10 rfl ?_
  refine xs_getr (j := 1) dX3_waitsNow_11 fl_X3_7 (by decide) rfl ?_
  refine sx_iconst dX3_waitsNow_14 ?_
  refine xs_ild (n := 208) (m := 4) dX3_waitsNow_15 rfl (by decide) (by decide) (by decide) rfl (fun r15 => ?_)
  refine sx_callVv dX3_waitsNow_16 ml_X3_72 mv3_lays (tx_lays _ _ _ (by omega) (by decide) (by first | exact ⟨by decide, by decide⟩ | (rw [xlay_lo (by omega) (by decide) (by decide)]; exact hR 4))) rfl am_obX rfl (Nat.le_of_ble_eq_true rfl) (Nat.le_of_ble_eq_true rfl) ?_
  refine sx_aload_n dX3_waitsNow_19 rfl ?_
  refine xs_getr (j := 1) dX3_waitsNow_20 fl_X3_7 (by decide) rfl ?_
  refine sx_iconst dX3_waitsNow_23 ?_
  refine sx_dup2 dX3_waitsNow_24 ?_
  refine xs_ild (n := 208) (m := 4) dX3_waitsNow_25 rfl (by decide) (by decide) (by decide) rfl (fun r25 => ?_)
  refine sx_iconst dX3_waitsNow_26 ?_
  refine sx_iadd dX3_waitsNow_27 ?_
  refine xs_ist (n := 208) (m := 4) dX3_waitsNow_28 rfl (by decide) (by decide) (by decide) rfl (by rw [xlay_lo (by omega) (by decide) (by decide), xlay_lo (by omega) (by decide) (by decide)]; exact ⟨by have := (hR 4).1; omega, by omega⟩) ?_
  exact sx_vret dX3_waitsNow_29 rfl rfl rfl
set_option maxHeartbeats 4000000 in
set_option maxRecDepth 100000 in
theorem tx_falls {h0 : am_H} {X : am_M} {S : Nat → Int} (w b : Int) (hW : WX S) (hw : 0 ≤ w ∧ w < 24) (hb : b = 0 ∨ b = 1) (hN : S 4 ≤ 2000000000)  : Ct 3 Y3_falls [.inr (7, 0), .inl w, .inl b] none (xh h0 X S) (xh h0 X (xfalls S w b)) := by
  refine Ct_of (by decide +kernel) (Nat.le_of_ble_eq_true rfl) ?_
  show Sx 3 Y3_falls (xh h0 X (xfalls S w b)) none 0 [some (.inr (7, 0)), some (.inl w), some (.inl b), none, none, none] [] (xh h0 X S)
  refine xs_vh (fun hR hRX => ?_)
  obtain ⟨w0, w1, wg, wf, wo⟩ := id hW
  obtain ⟨wo4, wo3⟩ := wo w (by omega) (by omega)
  have hwb := xwait_b hW (xwd S w 4) (xwd S w 3)
  refine sx_aload_n dX3_falls_0 rfl ?_
  refine sx_iload_n dX3_falls_1 rfl ?_
  refine sx_iconst dX3_falls_2 ?_
  refine sx_callVi dX3_falls_3 ml_X3_45 mv3_wd (tx_wd _ _ (by first | omega | assumption | (with_reducible first | exact hR _ | exact xwd_R hR _ _ | exact xch_R hR _ _ | exact am_R_and _ _ | exact am_R_or _ _ | exact am_R_xor _ _ | exact am_R_shl _ _ | exact am_R_shr _ _ | exact bit_R _ _ | exact xpls_R _ _ | exact xkept_R hW _ _ | exact xwait_R hW _ _ ) | (exact ⟨by omega, by omega⟩) | exact wf _ (by omega) (by omega) | exact wg _ (by omega) (by omega)) (by first | omega | assumption | (with_reducible first | exact hR _ | exact xwd_R hR _ _ | exact xch_R hR _ _ | exact am_R_and _ _ | exact am_R_or _ _ | exact am_R_xor _ _ | exact am_R_shl _ _ | exact am_R_shr _ _ | exact bit_R _ _ | exact xpls_R _ _ | exact xkept_R hW _ _ | exact xwait_R hW _ _ ) | (exact ⟨by omega, by omega⟩) | exact wf _ (by omega) (by omega) | exact wg _ (by omega) (by omega))) rfl am_obX rfl (Nat.le_of_ble_eq_true rfl) (Nat.le_of_ble_eq_true rfl) ?_
  refine sx_istore_n dX3_falls_6 (by decide) ?_
  refine sx_aload_n dX3_falls_7 rfl ?_
  refine sx_iload_n dX3_falls_8 rfl ?_
  refine sx_iconst dX3_falls_9 ?_
  refine sx_callVi dX3_falls_10 ml_X3_45 mv3_wd (tx_wd _ _ (by first | omega | assumption | (with_reducible first | exact hR _ | exact xwd_R hR _ _ | exact xch_R hR _ _ | exact am_R_and _ _ | exact am_R_or _ _ | exact am_R_xor _ _ | exact am_R_shl _ _ | exact am_R_shr _ _ | exact bit_R _ _ | exact xpls_R _ _ | exact xkept_R hW _ _ | exact xwait_R hW _ _ ) | (exact ⟨by omega, by omega⟩) | exact wf _ (by omega) (by omega) | exact wg _ (by omega) (by omega)) (by first | omega | assumption | (with_reducible first | exact hR _ | exact xwd_R hR _ _ | exact xch_R hR _ _ | exact am_R_and _ _ | exact am_R_or _ _ | exact am_R_xor _ _ | exact am_R_shl _ _ | exact am_R_shr _ _ | exact bit_R _ _ | exact xpls_R _ _ | exact xkept_R hW _ _ | exact xwait_R hW _ _ ) | (exact ⟨by omega, by omega⟩) | exact wf _ (by omega) (by omega) | exact wg _ (by omega) (by omega))) rfl am_obX rfl (Nat.le_of_ble_eq_true rfl) (Nat.le_of_ble_eq_true rfl) ?_
  refine sx_istore dX3_falls_13 (by decide) ?_
  refine sx_aload_n dX3_falls_15 rfl ?_
  refine sx_iload_n dX3_falls_16 rfl ?_
  refine sx_iload dX3_falls_17 rfl ?_
  refine sx_callVi dX3_falls_19 ml_X3_62 mv3_waiting (tx_waiting _ _ hW (by first | omega | assumption | (with_reducible first | exact hR _ | exact xwd_R hR _ _ | exact xch_R hR _ _ | exact am_R_and _ _ | exact am_R_or _ _ | exact am_R_xor _ _ | exact am_R_shl _ _ | exact am_R_shr _ _ | exact bit_R _ _ | exact xpls_R _ _ | exact xkept_R hW _ _ | exact xwait_R hW _ _ ) | (exact ⟨by omega, by omega⟩) | exact wf _ (by omega) (by omega) | exact wg _ (by omega) (by omega)) (by first | omega | assumption | (with_reducible first | exact hR _ | exact xwd_R hR _ _ | exact xch_R hR _ _ | exact am_R_and _ _ | exact am_R_or _ _ | exact am_R_xor _ _ | exact am_R_shl _ _ | exact am_R_shr _ _ | exact bit_R _ _ | exact xpls_R _ _ | exact xkept_R hW _ _ | exact xwait_R hW _ _ ) | (exact ⟨by omega, by omega⟩) | exact wf _ (by omega) (by omega) | exact wg _ (by omega) (by omega))) rfl am_obX rfl (Nat.le_of_ble_eq_true rfl) (Nat.le_of_ble_eq_true rfl) ?_
  refine sx_istore dX3_falls_22 (by decide) ?_
  refine sx_aload_n dX3_falls_24 rfl ?_
  refine sx_iload_n dX3_falls_25 rfl ?_
  refine sx_iload dX3_falls_26 rfl ?_
  refine sx_callVi dX3_falls_28 ml_X3_76 mv3_isGuarded (tx_isGuarded _ _ hW (by first | omega | assumption | (with_reducible first | exact hR _ | exact xwd_R hR _ _ | exact xch_R hR _ _ | exact am_R_and _ _ | exact am_R_or _ _ | exact am_R_xor _ _ | exact am_R_shl _ _ | exact am_R_shr _ _ | exact bit_R _ _ | exact xpls_R _ _ | exact xkept_R hW _ _ | exact xwait_R hW _ _ ) | (exact ⟨by omega, by omega⟩) | exact wf _ (by omega) (by omega) | exact wg _ (by omega) (by omega)) (by first | omega | assumption | (with_reducible first | exact hR _ | exact xwd_R hR _ _ | exact xch_R hR _ _ | exact am_R_and _ _ | exact am_R_or _ _ | exact am_R_xor _ _ | exact am_R_shl _ _ | exact am_R_shr _ _ | exact bit_R _ _ | exact xpls_R _ _ | exact xkept_R hW _ _ | exact xwait_R hW _ _ ) | (exact ⟨by omega, by omega⟩) | exact wf _ (by omega) (by omega) | exact wg _ (by omega) (by omega))) rfl am_obX rfl (Nat.le_of_ble_eq_true rfl) (Nat.le_of_ble_eq_true rfl) ?_
  refine sx_ifB_ne (tgt := 44) dX3_falls_31 (by decide) (fun c31 => ?_) (fun c31 => ?_)
  · -- 31t
    refine sx_iload dX3_falls_44 rfl ?_
    refine sx_if_lt (tgt := 67) dX3_falls_46 (by decide) (by first | omega | assumption | (with_reducible first | exact hR _ | exact xwd_R hR _ _ | exact xch_R hR _ _ | exact am_R_and _ _ | exact am_R_or _ _ | exact am_R_xor _ _ | exact am_R_shl _ _ | exact am_R_shr _ _ | exact bit_R _ _ | exact xpls_R _ _ | exact xkept_R hW _ _ | exact xwait_R hW _ _ ) | (exact ⟨by omega, by omega⟩) | exact wf _ (by omega) (by omega) | exact wg _ (by omega) (by omega)) (fun c46 => ?_) (fun c46 => ?_)
    · -- 46t
      refine sx_iload_n dX3_falls_67 rfl ?_
      refine sx_if_ne (tgt := 76) dX3_falls_68 (by decide) (by first | omega | assumption | (with_reducible first | exact hR _ | exact xwd_R hR _ _ | exact xch_R hR _ _ | exact am_R_and _ _ | exact am_R_or _ _ | exact am_R_xor _ _ | exact am_R_shl _ _ | exact am_R_shr _ _ | exact bit_R _ _ | exact xpls_R _ _ | exact xkept_R hW _ _ | exact xwait_R hW _ _ ) | (exact ⟨by omega, by omega⟩) | exact wf _ (by omega) (by omega) | exact wg _ (by omega) (by omega)) (fun c68 => ?_) (fun c68 => ?_)
      · -- 68t
        exact sx_vret dX3_falls_76 rfl rfl (by unfold xfalls; (repeat' split) <;> first | contradiction | (exfalso; omega) | rfl | (congr 2; omega) | (simp_all; done))
      · -- 68f
        refine sx_aload_n dX3_falls_71 rfl ?_
        refine sx_iload_n dX3_falls_72 rfl ?_
        refine sx_callVv dX3_falls_73 ml_X3_79 mv3_waitsNow (tx_waitsNow _ (by omega) hN) rfl am_obX rfl (Nat.le_of_ble_eq_true rfl) (Nat.le_of_ble_eq_true rfl) ?_
        exact sx_vret dX3_falls_76 rfl rfl (by unfold xfalls; (repeat' split) <;> first | contradiction | (exfalso; omega) | rfl | (congr 2; omega) | (simp_all; done))
    · -- 46f
      refine sx_aload_n dX3_falls_49 rfl ?_
      refine sx_iload_n dX3_falls_50 rfl ?_
      refine sx_iconst dX3_falls_51 ?_
      refine sx_iconst dX3_falls_52 ?_
      refine sx_callVv dX3_falls_53 ml_X3_72 mv3_lays (tx_lays _ _ _ (by first | omega | assumption | (with_reducible first | exact hR _ | exact xwd_R hR _ _ | exact xch_R hR _ _ | exact am_R_and _ _ | exact am_R_or _ _ | exact am_R_xor _ _ | exact am_R_shl _ _ | exact am_R_shr _ _ | exact bit_R _ _ | exact xpls_R _ _ | exact xkept_R hW _ _ | exact xwait_R hW _ _ ) | (exact ⟨by omega, by omega⟩) | exact wf _ (by omega) (by omega) | exact wg _ (by omega) (by omega)) (by first | omega | assumption | (with_reducible first | exact hR _ | exact xwd_R hR _ _ | exact xch_R hR _ _ | exact am_R_and _ _ | exact am_R_or _ _ | exact am_R_xor _ _ | exact am_R_shl _ _ | exact am_R_shr _ _ | exact bit_R _ _ | exact xpls_R _ _ | exact xkept_R hW _ _ | exact xwait_R hW _ _ ) | (exact ⟨by omega, by omega⟩) | exact wf _ (by omega) (by omega) | exact wg _ (by omega) (by omega)) (by first | omega | assumption | (with_reducible first | exact hR _ | exact xwd_R hR _ _ | exact xch_R hR _ _ | exact am_R_and _ _ | exact am_R_or _ _ | exact am_R_xor _ _ | exact am_R_shl _ _ | exact am_R_shr _ _ | exact bit_R _ _ | exact xpls_R _ _ | exact xkept_R hW _ _ | exact xwait_R hW _ _ ) | (exact ⟨by omega, by omega⟩) | exact wf _ (by omega) (by omega) | exact wg _ (by omega) (by omega))) rfl am_obX rfl (Nat.le_of_ble_eq_true rfl) (Nat.le_of_ble_eq_true rfl) ?_
      refine sx_aload_n dX3_falls_56 rfl ?_
      refine sx_iload dX3_falls_57 rfl ?_
      refine sx_iconst dX3_falls_59 ?_
      refine sx_iconst dX3_falls_60 ?_
      refine sx_callVv dX3_falls_61 ml_X3_72 mv3_lays (tx_lays _ _ _ (by first | omega | assumption | (with_reducible first | exact hR _ | exact xwd_R hR _ _ | exact xch_R hR _ _ | exact am_R_and _ _ | exact am_R_or _ _ | exact am_R_xor _ _ | exact am_R_shl _ _ | exact am_R_shr _ _ | exact bit_R _ _ | exact xpls_R _ _ | exact xkept_R hW _ _ | exact xwait_R hW _ _ ) | (exact ⟨by omega, by omega⟩) | exact wf _ (by omega) (by omega) | exact wg _ (by omega) (by omega)) (by first | omega | assumption | (with_reducible first | exact hR _ | exact xwd_R hR _ _ | exact xch_R hR _ _ | exact am_R_and _ _ | exact am_R_or _ _ | exact am_R_xor _ _ | exact am_R_shl _ _ | exact am_R_shr _ _ | exact bit_R _ _ | exact xpls_R _ _ | exact xkept_R hW _ _ | exact xwait_R hW _ _ ) | (exact ⟨by omega, by omega⟩) | exact wf _ (by omega) (by omega) | exact wg _ (by omega) (by omega)) (by first | omega | assumption | (with_reducible first | exact hR _ | exact xwd_R hR _ _ | exact xch_R hR _ _ | exact am_R_and _ _ | exact am_R_or _ _ | exact am_R_xor _ _ | exact am_R_shl _ _ | exact am_R_shr _ _ | exact bit_R _ _ | exact xpls_R _ _ | exact xkept_R hW _ _ | exact xwait_R hW _ _ ) | (exact ⟨by omega, by omega⟩) | exact wf _ (by omega) (by omega) | exact wg _ (by omega) (by omega))) rfl am_obX rfl (Nat.le_of_ble_eq_true rfl) (Nat.le_of_ble_eq_true rfl) ?_
      refine sx_goto (tgt := 76) dX3_falls_64 (by decide) ?_
      exact sx_vret dX3_falls_76 rfl rfl (by unfold xfalls; (repeat' split) <;> first | contradiction | (exfalso; omega) | rfl | (congr 2; omega) | (simp_all; done))
  · -- 31f
    refine sx_aload_n dX3_falls_34 rfl ?_
    refine sx_iload_n dX3_falls_35 rfl ?_
    refine sx_iconst dX3_falls_36 ?_
    refine sx_iconst dX3_falls_37 ?_
    refine sx_callVv dX3_falls_38 ml_X3_72 mv3_lays (tx_lays _ _ _ (by first | omega | assumption | (with_reducible first | exact hR _ | exact xwd_R hR _ _ | exact xch_R hR _ _ | exact am_R_and _ _ | exact am_R_or _ _ | exact am_R_xor _ _ | exact am_R_shl _ _ | exact am_R_shr _ _ | exact bit_R _ _ | exact xpls_R _ _ | exact xkept_R hW _ _ | exact xwait_R hW _ _ ) | (exact ⟨by omega, by omega⟩) | exact wf _ (by omega) (by omega) | exact wg _ (by omega) (by omega)) (by first | omega | assumption | (with_reducible first | exact hR _ | exact xwd_R hR _ _ | exact xch_R hR _ _ | exact am_R_and _ _ | exact am_R_or _ _ | exact am_R_xor _ _ | exact am_R_shl _ _ | exact am_R_shr _ _ | exact bit_R _ _ | exact xpls_R _ _ | exact xkept_R hW _ _ | exact xwait_R hW _ _ ) | (exact ⟨by omega, by omega⟩) | exact wf _ (by omega) (by omega) | exact wg _ (by omega) (by omega)) (by first | omega | assumption | (with_reducible first | exact hR _ | exact xwd_R hR _ _ | exact xch_R hR _ _ | exact am_R_and _ _ | exact am_R_or _ _ | exact am_R_xor _ _ | exact am_R_shl _ _ | exact am_R_shr _ _ | exact bit_R _ _ | exact xpls_R _ _ | exact xkept_R hW _ _ | exact xwait_R hW _ _ ) | (exact ⟨by omega, by omega⟩) | exact wf _ (by omega) (by omega) | exact wg _ (by omega) (by omega))) rfl am_obX rfl (Nat.le_of_ble_eq_true rfl) (Nat.le_of_ble_eq_true rfl) ?_
    refine sx_goto (tgt := 76) dX3_falls_41 (by decide) ?_
    exact sx_vret dX3_falls_76 rfl rfl (by unfold xfalls; (repeat' split) <;> first | contradiction | (exfalso; omega) | rfl | (congr 2; omega) | (simp_all; done))
set_option maxHeartbeats 4000000 in
set_option maxRecDepth 100000 in
theorem tx_target {h0 : am_H} {X : am_M} {S : Nat → Int} (f wt : Int) (hW : WX S) (hf0 : am_R f) (hwt : am_R wt) : Ct 5 Y3_target [.inr (7, 0), .inl f, .inl wt] (some (.inl (xtarget S f wt))) (xh h0 X S) (xh h0 X S) := by
  refine Ct_of (by decide +kernel) (Nat.le_of_ble_eq_true rfl) ?_
  show Sx 5 Y3_target (xh h0 X S) (some (.inl (xtarget S f wt))) 0 [some (.inr (7, 0)), some (.inl f), some (.inl wt), none, none, none, none, none] [] (xh h0 X S)
  refine xs_vh (fun hR hRX => ?_)
  obtain ⟨w0, w1, wg, wf, wo⟩ := id hW
  refine sx_iconst dX3_target_0 ?_
  refine sx_istore_n dX3_target_1 (by decide) ?_
  refine sx_iconst dX3_target_2 ?_
  refine sx_istore dX3_target_3 (by decide) ?_
  refine sx_iload dX3_target_5 rfl ?_
  refine sx_iconst dX3_target_7 ?_
  refine sx_icmp_ge (tgt := 126) dX3_target_8 (by decide) ⟨by decide, by decide⟩ ⟨by decide, by decide⟩ (fun q => absurd q (by decide)) (fun _ => ?_)
  refine sx_iload_n dX3_target_11 rfl ?_
  refine sx_if_ge (tgt := 126) dX3_target_12 (by decide) ⟨by decide, by decide⟩ (fun q => absurd q (by decide)) (fun _ => ?_)
  refine sx_iconst dX3_target_15 ?_
  refine sx_istore dX3_target_16 (by decide) ?_
  have loop18_0 : ∀ (n : Nat) (g : Int) (c : Nat), (S 0 - c).toNat = n → (c : Int) ≤ S 0 → g = xbest S (xq S f wt true) (-1) c → -1 ≤ g → g < 8 → Sx 5 Y3_target (xh h0 X S) (some (.inl (xtarget S f wt))) 18 [some (.inr (7, 0)), some (.inl f), some (.inl wt), some (.inl g), some (.inl 0), some (.inl (c : Int)), none, none] [] (xh h0 X S) := by
    intro n
    induction n using Nat.strongRecOn with
    | _ n ih18_0 =>
      intro g c hn0 hle0 hf0 hg00 hg80
      refine sx_iload dX3_target_18 rfl ?_
      refine sx_aload_n dX3_target_20 rfl ?_
      refine xs_getr (j := 1) dX3_target_21 fl_X3_7 (by decide) rfl ?_
      refine sx_iconst dX3_target_24 ?_
      refine xs_ild (n := 208) (m := 0) dX3_target_25 rfl (by decide) (by decide) (by decide) rfl (fun r25 => ?_)
      refine sx_icmp_ge (tgt := 120) dX3_target_26 (by decide) (by first | omega | assumption | (with_reducible first | exact hR _ | exact xwd_R hR _ _ | exact xch_R hR _ _ | exact am_R_and _ _ | exact am_R_or _ _ | exact am_R_xor _ _ | exact am_R_shl _ _ | exact am_R_shr _ _ | exact bit_R _ _ | exact xpls_R _ _ | exact xkept_R hW _ _ | exact xwait_R hW _ _ ) | (exact ⟨by omega, by omega⟩) | exact wf _ (by omega) (by omega) | exact wg _ (by omega) (by omega)) (by first | omega | assumption | (with_reducible first | exact hR _ | exact xwd_R hR _ _ | exact xch_R hR _ _ | exact am_R_and _ _ | exact am_R_or _ _ | exact am_R_xor _ _ | exact am_R_shl _ _ | exact am_R_shr _ _ | exact bit_R _ _ | exact xpls_R _ _ | exact xkept_R hW _ _ | exact xwait_R hW _ _ ) | (exact ⟨by omega, by omega⟩) | exact wf _ (by omega) (by omega) | exact wg _ (by omega) (by omega)) (fun c26 => ?_) (fun c26 => ?_)
      · -- 26t
        obtain rfl : c = (S 0).toNat := by omega
        refine sx_iinc dX3_target_120 rfl (by decide) ?_
        refine sx_goto (tgt := 5) dX3_target_123 (by decide) ?_
        refine sx_iload dX3_target_5 rfl ?_
        refine sx_iconst dX3_target_7 ?_
        refine sx_icmp_ge (tgt := 126) dX3_target_8 (by decide) ⟨by decide, by decide⟩ ⟨by decide, by decide⟩ (fun q => absurd q (by decide)) (fun _ => ?_)
        refine sx_iload_n dX3_target_11 rfl ?_
        refine sx_if_ge (tgt := 126) dX3_target_12 (by decide) (by first | omega | assumption | (with_reducible first | exact hR _ | exact xwd_R hR _ _ | exact xch_R hR _ _ | exact am_R_and _ _ | exact am_R_or _ _ | exact am_R_xor _ _ | exact am_R_shl _ _ | exact am_R_shr _ _ | exact bit_R _ _ | exact xpls_R _ _ | exact xkept_R hW _ _ | exact xwait_R hW _ _ ) | (exact ⟨by omega, by omega⟩) | exact wf _ (by omega) (by omega) | exact wg _ (by omega) (by omega)) (fun c12 => ?_) (fun c12 => ?_)
        · -- 12t
          refine sx_iload_n dX3_target_126 rfl ?_
          exact sx_iret dX3_target_127 rfl (by unfold xtarget; (repeat' split) <;> first | contradiction | (exfalso; omega) | rfl | (congr 2; omega) | (simp_all; done)) rfl
        · -- 12f
          refine sx_iconst dX3_target_15 ?_
          refine sx_istore dX3_target_16 (by decide) ?_
          have loop18_1 : ∀ (n : Nat) (g : Int) (c : Nat), (S 0 - c).toNat = n → (c : Int) ≤ S 0 → g = xbest S (xq S f wt false) (xbest S (xq S f wt true) (-1) (S 0).toNat) c → -1 ≤ g → g < 8 → Sx 5 Y3_target (xh h0 X S) (some (.inl (xtarget S f wt))) 18 [some (.inr (7, 0)), some (.inl f), some (.inl wt), some (.inl g), some (.inl 1), some (.inl (c : Int)), none, none] [] (xh h0 X S) := by
            intro n
            induction n using Nat.strongRecOn with
            | _ n ih18_1 =>
              intro g c hn1 hle1 hf1 hg01 hg81
              refine sx_iload dX3_target_18 rfl ?_
              refine sx_aload_n dX3_target_20 rfl ?_
              refine xs_getr (j := 1) dX3_target_21 fl_X3_7 (by decide) rfl ?_
              refine sx_iconst dX3_target_24 ?_
              refine xs_ild (n := 208) (m := 0) dX3_target_25 rfl (by decide) (by decide) (by decide) rfl (fun r25 => ?_)
              refine sx_icmp_ge (tgt := 120) dX3_target_26 (by decide) (by first | omega | assumption | (with_reducible first | exact hR _ | exact xwd_R hR _ _ | exact xch_R hR _ _ | exact am_R_and _ _ | exact am_R_or _ _ | exact am_R_xor _ _ | exact am_R_shl _ _ | exact am_R_shr _ _ | exact bit_R _ _ | exact xpls_R _ _ | exact xkept_R hW _ _ | exact xwait_R hW _ _ ) | (exact ⟨by omega, by omega⟩) | exact wf _ (by omega) (by omega) | exact wg _ (by omega) (by omega)) (by first | omega | assumption | (with_reducible first | exact hR _ | exact xwd_R hR _ _ | exact xch_R hR _ _ | exact am_R_and _ _ | exact am_R_or _ _ | exact am_R_xor _ _ | exact am_R_shl _ _ | exact am_R_shr _ _ | exact bit_R _ _ | exact xpls_R _ _ | exact xkept_R hW _ _ | exact xwait_R hW _ _ ) | (exact ⟨by omega, by omega⟩) | exact wf _ (by omega) (by omega) | exact wg _ (by omega) (by omega)) (fun c26 => ?_) (fun c26 => ?_)
              · -- 26t
                obtain rfl : c = (S 0).toNat := by omega
                refine sx_iinc dX3_target_120 rfl (by decide) ?_
                refine sx_goto (tgt := 5) dX3_target_123 (by decide) ?_
                refine sx_iload dX3_target_5 rfl ?_
                refine sx_iconst dX3_target_7 ?_
                refine sx_icmp_ge (tgt := 126) dX3_target_8 (by decide) ⟨by decide, by decide⟩ ⟨by decide, by decide⟩ (fun _ => ?_) (fun q => absurd q (by decide))
                refine sx_iload_n dX3_target_126 rfl ?_
                exact sx_iret dX3_target_127 rfl (by unfold xtarget; (repeat' split) <;> first | contradiction | (exfalso; omega) | rfl | (congr 2; omega) | (simp_all; done)) rfl
              · -- 26f
                refine sx_aload_n dX3_target_29 rfl ?_
                refine sx_iload dX3_target_30 rfl ?_
                refine sx_iconst dX3_target_32 ?_
                refine sx_callVi dX3_target_33 ml_X3_36 mv3_ch (tx_ch _ _ (by first | omega | assumption | (with_reducible first | exact hR _ | exact xwd_R hR _ _ | exact xch_R hR _ _ | exact am_R_and _ _ | exact am_R_or _ _ | exact am_R_xor _ _ | exact am_R_shl _ _ | exact am_R_shr _ _ | exact bit_R _ _ | exact xpls_R _ _ | exact xkept_R hW _ _ | exact xwait_R hW _ _ ) | (exact ⟨by omega, by omega⟩) | exact wf _ (by omega) (by omega) | exact wg _ (by omega) (by omega)) (by first | omega | assumption | (with_reducible first | exact hR _ | exact xwd_R hR _ _ | exact xch_R hR _ _ | exact am_R_and _ _ | exact am_R_or _ _ | exact am_R_xor _ _ | exact am_R_shl _ _ | exact am_R_shr _ _ | exact bit_R _ _ | exact xpls_R _ _ | exact xkept_R hW _ _ | exact xwait_R hW _ _ ) | (exact ⟨by omega, by omega⟩) | exact wf _ (by omega) (by omega) | exact wg _ (by omega) (by omega))) rfl am_obX rfl (Nat.le_of_ble_eq_true rfl) (Nat.le_of_ble_eq_true rfl) ?_
                refine sx_iload_n dX3_target_36 rfl ?_
                refine sx_icmp_ne (tgt := 44) dX3_target_37 (by decide) (by first | omega | assumption | (with_reducible first | exact hR _ | exact xwd_R hR _ _ | exact xch_R hR _ _ | exact am_R_and _ _ | exact am_R_or _ _ | exact am_R_xor _ _ | exact am_R_shl _ _ | exact am_R_shr _ _ | exact bit_R _ _ | exact xpls_R _ _ | exact xkept_R hW _ _ | exact xwait_R hW _ _ ) | (exact ⟨by omega, by omega⟩) | exact wf _ (by omega) (by omega) | exact wg _ (by omega) (by omega)) (by first | omega | assumption | (with_reducible first | exact hR _ | exact xwd_R hR _ _ | exact xch_R hR _ _ | exact am_R_and _ _ | exact am_R_or _ _ | exact am_R_xor _ _ | exact am_R_shl _ _ | exact am_R_shr _ _ | exact bit_R _ _ | exact xpls_R _ _ | exact xkept_R hW _ _ | exact xwait_R hW _ _ ) | (exact ⟨by omega, by omega⟩) | exact wf _ (by omega) (by omega) | exact wg _ (by omega) (by omega)) (fun c37 => ?_) (fun c37 => ?_)
                · -- 37t
                  refine sx_iconst dX3_target_44 ?_
                  refine sx_istore dX3_target_45 (by decide) ?_
                  refine sx_iload dX3_target_47 rfl ?_
                  refine sx_iload_n dX3_target_49 rfl ?_
                  refine sx_icmp_eq (tgt := 81) dX3_target_50 (by decide) (by first | omega | assumption | (with_reducible first | exact hR _ | exact xwd_R hR _ _ | exact xch_R hR _ _ | exact am_R_and _ _ | exact am_R_or _ _ | exact am_R_xor _ _ | exact am_R_shl _ _ | exact am_R_shr _ _ | exact bit_R _ _ | exact xpls_R _ _ | exact xkept_R hW _ _ | exact xwait_R hW _ _ ) | (exact ⟨by omega, by omega⟩) | exact wf _ (by omega) (by omega) | exact wg _ (by omega) (by omega)) (by first | omega | assumption | (with_reducible first | exact hR _ | exact xwd_R hR _ _ | exact xch_R hR _ _ | exact am_R_and _ _ | exact am_R_or _ _ | exact am_R_xor _ _ | exact am_R_shl _ _ | exact am_R_shr _ _ | exact bit_R _ _ | exact xpls_R _ _ | exact xkept_R hW _ _ | exact xwait_R hW _ _ ) | (exact ⟨by omega, by omega⟩) | exact wf _ (by omega) (by omega) | exact wg _ (by omega) (by omega)) (fun c50 => ?_) (fun c50 => ?_)
                  · -- 50t
                    refine sx_iconst dX3_target_81 ?_
                    refine sx_istore dX3_target_82 (by decide) ?_
                    refine sx_iload dX3_target_84 rfl ?_
                    refine sx_if_eq (tgt := 112) dX3_target_86 (by decide) ⟨by decide, by decide⟩ (fun _ => ?_) (fun q => absurd q (by decide))
                    refine sx_iload_n dX3_target_112 rfl ?_
                    refine sx_istore_n dX3_target_113 (by decide) ?_
                    refine sx_iinc dX3_target_114 rfl (by decide) ?_
                    refine sx_goto (tgt := 18) dX3_target_117 (by decide) ?_
                    exact sx_forget 6 (sx_forget 7 (ih18_1 _ (by omega) _ (c + 1) rfl (by omega) (by first | exact xbest_y hf1 (by simp [xq, c26, c12, c26, c37, c50]) (by omega) | exact xbest_n hf1 (Or.inr ⟨by omega, by omega⟩) | exact xbest_n hf1 (Or.inl (by simp [xq, c26, c12, c26, c37, c50]; done)) | exact xbest_n hf1 (Or.inl (by simp [xq, c26, c12, c26, c37, c50]; omega))) (by omega) (by omega)))
                  · -- 50f
                    refine sx_iload dX3_target_53 rfl ?_
                    refine sx_iload dX3_target_55 rfl ?_
                    refine sx_if_ne (tgt := 64) dX3_target_57 (by decide) ⟨by decide, by decide⟩ (fun _ => ?_) (fun q => absurd q (by decide))
                    refine sx_iconst dX3_target_64 ?_
                    refine sx_icmp_ne (tgt := 81) dX3_target_65 (by decide) ⟨by decide, by decide⟩ ⟨by decide, by decide⟩ (fun q => absurd q (by decide)) (fun _ => ?_)
                    refine sx_aload_n dX3_target_68 rfl ?_
                    refine sx_iload dX3_target_69 rfl ?_
                    refine sx_callVi dX3_target_71 ml_X3_68 mv3_places (tx_places _ hW (by first | omega | assumption | (with_reducible first | exact hR _ | exact xwd_R hR _ _ | exact xch_R hR _ _ | exact am_R_and _ _ | exact am_R_or _ _ | exact am_R_xor _ _ | exact am_R_shl _ _ | exact am_R_shr _ _ | exact bit_R _ _ | exact xpls_R _ _ | exact xkept_R hW _ _ | exact xwait_R hW _ _ ) | (exact ⟨by omega, by omega⟩) | exact wf _ (by omega) (by omega) | exact wg _ (by omega) (by omega))) rfl am_obX rfl (Nat.le_of_ble_eq_true rfl) (Nat.le_of_ble_eq_true rfl) ?_
                    refine sx_if_le (tgt := 81) dX3_target_74 (by decide) (by first | omega | assumption | (with_reducible first | exact hR _ | exact xwd_R hR _ _ | exact xch_R hR _ _ | exact am_R_and _ _ | exact am_R_or _ _ | exact am_R_xor _ _ | exact am_R_shl _ _ | exact am_R_shr _ _ | exact bit_R _ _ | exact xpls_R _ _ | exact xkept_R hW _ _ | exact xwait_R hW _ _ ) | (exact ⟨by omega, by omega⟩) | exact wf _ (by omega) (by omega) | exact wg _ (by omega) (by omega)) (fun c74 => ?_) (fun c74 => ?_)
                    · -- 74t
                      refine sx_iconst dX3_target_81 ?_
                      refine sx_istore dX3_target_82 (by decide) ?_
                      refine sx_iload dX3_target_84 rfl ?_
                      refine sx_if_eq (tgt := 112) dX3_target_86 (by decide) ⟨by decide, by decide⟩ (fun _ => ?_) (fun q => absurd q (by decide))
                      refine sx_iload_n dX3_target_112 rfl ?_
                      refine sx_istore_n dX3_target_113 (by decide) ?_
                      refine sx_iinc dX3_target_114 rfl (by decide) ?_
                      refine sx_goto (tgt := 18) dX3_target_117 (by decide) ?_
                      exact sx_forget 6 (sx_forget 7 (ih18_1 _ (by omega) _ (c + 1) rfl (by omega) (by first | exact xbest_y hf1 (by simp [xq, c26, c12, c26, c37, c50, c74]) (by omega) | exact xbest_n hf1 (Or.inr ⟨by omega, by omega⟩) | exact xbest_n hf1 (Or.inl (by simp [xq, c26, c12, c26, c37, c50, c74]; done)) | exact xbest_n hf1 (Or.inl (by simp [xq, c26, c12, c26, c37, c50, c74]; omega))) (by omega) (by omega)))
                    · -- 74f
                      refine sx_iconst dX3_target_77 ?_
                      refine sx_goto (tgt := 82) dX3_target_78 (by decide) ?_
                      refine sx_istore dX3_target_82 (by decide) ?_
                      refine sx_iload dX3_target_84 rfl ?_
                      refine sx_if_eq (tgt := 112) dX3_target_86 (by decide) ⟨by decide, by decide⟩ (fun q => absurd q (by decide)) (fun _ => ?_)
                      refine sx_iload_n dX3_target_89 rfl ?_
                      refine sx_if_lt (tgt := 107) dX3_target_90 (by decide) (by first | omega | assumption | (with_reducible first | exact hR _ | exact xwd_R hR _ _ | exact xch_R hR _ _ | exact am_R_and _ _ | exact am_R_or _ _ | exact am_R_xor _ _ | exact am_R_shl _ _ | exact am_R_shr _ _ | exact bit_R _ _ | exact xpls_R _ _ | exact xkept_R hW _ _ | exact xwait_R hW _ _ ) | (exact ⟨by omega, by omega⟩) | exact wf _ (by omega) (by omega) | exact wg _ (by omega) (by omega)) (fun c90 => ?_) (fun c90 => ?_)
                      · -- 90t
                        refine sx_iload dX3_target_107 rfl ?_
                        refine sx_goto (tgt := 113) dX3_target_109 (by decide) ?_
                        refine sx_istore_n dX3_target_113 (by decide) ?_
                        refine sx_iinc dX3_target_114 rfl (by decide) ?_
                        refine sx_goto (tgt := 18) dX3_target_117 (by decide) ?_
                        exact sx_forget 6 (sx_forget 7 (ih18_1 _ (by omega) _ (c + 1) rfl (by omega) (by first | exact xbest_y hf1 (by simp [xq, c26, c12, c26, c37, c50, c74, c90]) (by omega) | exact xbest_n hf1 (Or.inr ⟨by omega, by omega⟩) | exact xbest_n hf1 (Or.inl (by simp [xq, c26, c12, c26, c37, c50, c74, c90]; done)) | exact xbest_n hf1 (Or.inl (by simp [xq, c26, c12, c26, c37, c50, c74, c90]; omega))) (by omega) (by omega)))
                      · -- 90f
                        refine sx_aload_n dX3_target_93 rfl ?_
                        refine sx_iload dX3_target_94 rfl ?_
                        refine sx_callVi dX3_target_96 ml_X3_68 mv3_places (tx_places _ hW (by first | omega | assumption | (with_reducible first | exact hR _ | exact xwd_R hR _ _ | exact xch_R hR _ _ | exact am_R_and _ _ | exact am_R_or _ _ | exact am_R_xor _ _ | exact am_R_shl _ _ | exact am_R_shr _ _ | exact bit_R _ _ | exact xpls_R _ _ | exact xkept_R hW _ _ | exact xwait_R hW _ _ ) | (exact ⟨by omega, by omega⟩) | exact wf _ (by omega) (by omega) | exact wg _ (by omega) (by omega))) rfl am_obX rfl (Nat.le_of_ble_eq_true rfl) (Nat.le_of_ble_eq_true rfl) ?_
                        refine sx_aload_n dX3_target_99 rfl ?_
                        refine sx_iload_n dX3_target_100 rfl ?_
                        refine sx_callVi dX3_target_101 ml_X3_68 mv3_places (tx_places _ hW (by first | omega | assumption | (with_reducible first | exact hR _ | exact xwd_R hR _ _ | exact xch_R hR _ _ | exact am_R_and _ _ | exact am_R_or _ _ | exact am_R_xor _ _ | exact am_R_shl _ _ | exact am_R_shr _ _ | exact bit_R _ _ | exact xpls_R _ _ | exact xkept_R hW _ _ | exact xwait_R hW _ _ ) | (exact ⟨by omega, by omega⟩) | exact wf _ (by omega) (by omega) | exact wg _ (by omega) (by omega))) rfl am_obX rfl (Nat.le_of_ble_eq_true rfl) (Nat.le_of_ble_eq_true rfl) ?_
                        refine sx_icmp_le (tgt := 112) dX3_target_104 (by decide) (by first | omega | assumption | (with_reducible first | exact hR _ | exact xwd_R hR _ _ | exact xch_R hR _ _ | exact am_R_and _ _ | exact am_R_or _ _ | exact am_R_xor _ _ | exact am_R_shl _ _ | exact am_R_shr _ _ | exact bit_R _ _ | exact xpls_R _ _ | exact xkept_R hW _ _ | exact xwait_R hW _ _ ) | (exact ⟨by omega, by omega⟩) | exact wf _ (by omega) (by omega) | exact wg _ (by omega) (by omega)) (by first | omega | assumption | (with_reducible first | exact hR _ | exact xwd_R hR _ _ | exact xch_R hR _ _ | exact am_R_and _ _ | exact am_R_or _ _ | exact am_R_xor _ _ | exact am_R_shl _ _ | exact am_R_shr _ _ | exact bit_R _ _ | exact xpls_R _ _ | exact xkept_R hW _ _ | exact xwait_R hW _ _ ) | (exact ⟨by omega, by omega⟩) | exact wf _ (by omega) (by omega) | exact wg _ (by omega) (by omega)) (fun c104 => ?_) (fun c104 => ?_)
                        · -- 104t
                          refine sx_iload_n dX3_target_112 rfl ?_
                          refine sx_istore_n dX3_target_113 (by decide) ?_
                          refine sx_iinc dX3_target_114 rfl (by decide) ?_
                          refine sx_goto (tgt := 18) dX3_target_117 (by decide) ?_
                          exact sx_forget 6 (sx_forget 7 (ih18_1 _ (by omega) _ (c + 1) rfl (by omega) (by first | exact xbest_y hf1 (by simp [xq, c26, c12, c26, c37, c50, c74, c90, c104]) (by omega) | exact xbest_n hf1 (Or.inr ⟨by omega, by omega⟩) | exact xbest_n hf1 (Or.inl (by simp [xq, c26, c12, c26, c37, c50, c74, c90, c104]; done)) | exact xbest_n hf1 (Or.inl (by simp [xq, c26, c12, c26, c37, c50, c74, c90, c104]; omega))) (by omega) (by omega)))
                        · -- 104f
                          refine sx_iload dX3_target_107 rfl ?_
                          refine sx_goto (tgt := 113) dX3_target_109 (by decide) ?_
                          refine sx_istore_n dX3_target_113 (by decide) ?_
                          refine sx_iinc dX3_target_114 rfl (by decide) ?_
                          refine sx_goto (tgt := 18) dX3_target_117 (by decide) ?_
                          exact sx_forget 6 (sx_forget 7 (ih18_1 _ (by omega) _ (c + 1) rfl (by omega) (by first | exact xbest_y hf1 (by simp [xq, c26, c12, c26, c37, c50, c74, c90, c104]) (by omega) | exact xbest_n hf1 (Or.inr ⟨by omega, by omega⟩) | exact xbest_n hf1 (Or.inl (by simp [xq, c26, c12, c26, c37, c50, c74, c90, c104]; done)) | exact xbest_n hf1 (Or.inl (by simp [xq, c26, c12, c26, c37, c50, c74, c90, c104]; omega))) (by omega) (by omega)))
                · -- 37f
                  refine sx_iconst dX3_target_40 ?_
                  refine sx_goto (tgt := 45) dX3_target_41 (by decide) ?_
                  refine sx_istore dX3_target_45 (by decide) ?_
                  refine sx_iload dX3_target_47 rfl ?_
                  refine sx_iload_n dX3_target_49 rfl ?_
                  refine sx_icmp_eq (tgt := 81) dX3_target_50 (by decide) (by first | omega | assumption | (with_reducible first | exact hR _ | exact xwd_R hR _ _ | exact xch_R hR _ _ | exact am_R_and _ _ | exact am_R_or _ _ | exact am_R_xor _ _ | exact am_R_shl _ _ | exact am_R_shr _ _ | exact bit_R _ _ | exact xpls_R _ _ | exact xkept_R hW _ _ | exact xwait_R hW _ _ ) | (exact ⟨by omega, by omega⟩) | exact wf _ (by omega) (by omega) | exact wg _ (by omega) (by omega)) (by first | omega | assumption | (with_reducible first | exact hR _ | exact xwd_R hR _ _ | exact xch_R hR _ _ | exact am_R_and _ _ | exact am_R_or _ _ | exact am_R_xor _ _ | exact am_R_shl _ _ | exact am_R_shr _ _ | exact bit_R _ _ | exact xpls_R _ _ | exact xkept_R hW _ _ | exact xwait_R hW _ _ ) | (exact ⟨by omega, by omega⟩) | exact wf _ (by omega) (by omega) | exact wg _ (by omega) (by omega)) (fun c50 => ?_) (fun c50 => ?_)
                  · -- 50t
                    refine sx_iconst dX3_target_81 ?_
                    refine sx_istore dX3_target_82 (by decide) ?_
                    refine sx_iload dX3_target_84 rfl ?_
                    refine sx_if_eq (tgt := 112) dX3_target_86 (by decide) ⟨by decide, by decide⟩ (fun _ => ?_) (fun q => absurd q (by decide))
                    refine sx_iload_n dX3_target_112 rfl ?_
                    refine sx_istore_n dX3_target_113 (by decide) ?_
                    refine sx_iinc dX3_target_114 rfl (by decide) ?_
                    refine sx_goto (tgt := 18) dX3_target_117 (by decide) ?_
                    exact sx_forget 6 (sx_forget 7 (ih18_1 _ (by omega) _ (c + 1) rfl (by omega) (by first | exact xbest_y hf1 (by simp [xq, c26, c12, c26, c37, c50]) (by omega) | exact xbest_n hf1 (Or.inr ⟨by omega, by omega⟩) | exact xbest_n hf1 (Or.inl (by simp [xq, c26, c12, c26, c37, c50]; done)) | exact xbest_n hf1 (Or.inl (by simp [xq, c26, c12, c26, c37, c50]; omega))) (by omega) (by omega)))
                  · -- 50f
                    refine sx_iload dX3_target_53 rfl ?_
                    refine sx_iload dX3_target_55 rfl ?_
                    refine sx_if_ne (tgt := 64) dX3_target_57 (by decide) ⟨by decide, by decide⟩ (fun _ => ?_) (fun q => absurd q (by decide))
                    refine sx_iconst dX3_target_64 ?_
                    refine sx_icmp_ne (tgt := 81) dX3_target_65 (by decide) ⟨by decide, by decide⟩ ⟨by decide, by decide⟩ (fun _ => ?_) (fun q => absurd q (by decide))
                    refine sx_iconst dX3_target_81 ?_
                    refine sx_istore dX3_target_82 (by decide) ?_
                    refine sx_iload dX3_target_84 rfl ?_
                    refine sx_if_eq (tgt := 112) dX3_target_86 (by decide) ⟨by decide, by decide⟩ (fun _ => ?_) (fun q => absurd q (by decide))
                    refine sx_iload_n dX3_target_112 rfl ?_
                    refine sx_istore_n dX3_target_113 (by decide) ?_
                    refine sx_iinc dX3_target_114 rfl (by decide) ?_
                    refine sx_goto (tgt := 18) dX3_target_117 (by decide) ?_
                    exact sx_forget 6 (sx_forget 7 (ih18_1 _ (by omega) _ (c + 1) rfl (by omega) (by first | exact xbest_y hf1 (by simp [xq, c26, c12, c26, c37, c50]) (by omega) | exact xbest_n hf1 (Or.inr ⟨by omega, by omega⟩) | exact xbest_n hf1 (Or.inl (by simp [xq, c26, c12, c26, c37, c50]; done)) | exact xbest_n hf1 (Or.inl (by simp [xq, c26, c12, c26, c37, c50]; omega))) (by omega) (by omega)))
          exact sx_forget 6 (sx_forget 7 (loop18_1 _ _ 0 rfl (by omega) (by first | rfl | exact hf0) (by omega) (by omega)))
      · -- 26f
        refine sx_aload_n dX3_target_29 rfl ?_
        refine sx_iload dX3_target_30 rfl ?_
        refine sx_iconst dX3_target_32 ?_
        refine sx_callVi dX3_target_33 ml_X3_36 mv3_ch (tx_ch _ _ (by first | omega | assumption | (with_reducible first | exact hR _ | exact xwd_R hR _ _ | exact xch_R hR _ _ | exact am_R_and _ _ | exact am_R_or _ _ | exact am_R_xor _ _ | exact am_R_shl _ _ | exact am_R_shr _ _ | exact bit_R _ _ | exact xpls_R _ _ | exact xkept_R hW _ _ | exact xwait_R hW _ _ ) | (exact ⟨by omega, by omega⟩) | exact wf _ (by omega) (by omega) | exact wg _ (by omega) (by omega)) (by first | omega | assumption | (with_reducible first | exact hR _ | exact xwd_R hR _ _ | exact xch_R hR _ _ | exact am_R_and _ _ | exact am_R_or _ _ | exact am_R_xor _ _ | exact am_R_shl _ _ | exact am_R_shr _ _ | exact bit_R _ _ | exact xpls_R _ _ | exact xkept_R hW _ _ | exact xwait_R hW _ _ ) | (exact ⟨by omega, by omega⟩) | exact wf _ (by omega) (by omega) | exact wg _ (by omega) (by omega))) rfl am_obX rfl (Nat.le_of_ble_eq_true rfl) (Nat.le_of_ble_eq_true rfl) ?_
        refine sx_iload_n dX3_target_36 rfl ?_
        refine sx_icmp_ne (tgt := 44) dX3_target_37 (by decide) (by first | omega | assumption | (with_reducible first | exact hR _ | exact xwd_R hR _ _ | exact xch_R hR _ _ | exact am_R_and _ _ | exact am_R_or _ _ | exact am_R_xor _ _ | exact am_R_shl _ _ | exact am_R_shr _ _ | exact bit_R _ _ | exact xpls_R _ _ | exact xkept_R hW _ _ | exact xwait_R hW _ _ ) | (exact ⟨by omega, by omega⟩) | exact wf _ (by omega) (by omega) | exact wg _ (by omega) (by omega)) (by first | omega | assumption | (with_reducible first | exact hR _ | exact xwd_R hR _ _ | exact xch_R hR _ _ | exact am_R_and _ _ | exact am_R_or _ _ | exact am_R_xor _ _ | exact am_R_shl _ _ | exact am_R_shr _ _ | exact bit_R _ _ | exact xpls_R _ _ | exact xkept_R hW _ _ | exact xwait_R hW _ _ ) | (exact ⟨by omega, by omega⟩) | exact wf _ (by omega) (by omega) | exact wg _ (by omega) (by omega)) (fun c37 => ?_) (fun c37 => ?_)
        · -- 37t
          refine sx_iconst dX3_target_44 ?_
          refine sx_istore dX3_target_45 (by decide) ?_
          refine sx_iload dX3_target_47 rfl ?_
          refine sx_iload_n dX3_target_49 rfl ?_
          refine sx_icmp_eq (tgt := 81) dX3_target_50 (by decide) (by first | omega | assumption | (with_reducible first | exact hR _ | exact xwd_R hR _ _ | exact xch_R hR _ _ | exact am_R_and _ _ | exact am_R_or _ _ | exact am_R_xor _ _ | exact am_R_shl _ _ | exact am_R_shr _ _ | exact bit_R _ _ | exact xpls_R _ _ | exact xkept_R hW _ _ | exact xwait_R hW _ _ ) | (exact ⟨by omega, by omega⟩) | exact wf _ (by omega) (by omega) | exact wg _ (by omega) (by omega)) (by first | omega | assumption | (with_reducible first | exact hR _ | exact xwd_R hR _ _ | exact xch_R hR _ _ | exact am_R_and _ _ | exact am_R_or _ _ | exact am_R_xor _ _ | exact am_R_shl _ _ | exact am_R_shr _ _ | exact bit_R _ _ | exact xpls_R _ _ | exact xkept_R hW _ _ | exact xwait_R hW _ _ ) | (exact ⟨by omega, by omega⟩) | exact wf _ (by omega) (by omega) | exact wg _ (by omega) (by omega)) (fun c50 => ?_) (fun c50 => ?_)
          · -- 50t
            refine sx_iconst dX3_target_81 ?_
            refine sx_istore dX3_target_82 (by decide) ?_
            refine sx_iload dX3_target_84 rfl ?_
            refine sx_if_eq (tgt := 112) dX3_target_86 (by decide) ⟨by decide, by decide⟩ (fun _ => ?_) (fun q => absurd q (by decide))
            refine sx_iload_n dX3_target_112 rfl ?_
            refine sx_istore_n dX3_target_113 (by decide) ?_
            refine sx_iinc dX3_target_114 rfl (by decide) ?_
            refine sx_goto (tgt := 18) dX3_target_117 (by decide) ?_
            exact sx_forget 6 (sx_forget 7 (ih18_0 _ (by omega) _ (c + 1) rfl (by omega) (by first | exact xbest_y hf0 (by simp [xq, c26, c37, c50]) (by omega) | exact xbest_n hf0 (Or.inr ⟨by omega, by omega⟩) | exact xbest_n hf0 (Or.inl (by simp [xq, c26, c37, c50]; done)) | exact xbest_n hf0 (Or.inl (by simp [xq, c26, c37, c50]; omega))) (by omega) (by omega)))
          · -- 50f
            refine sx_iload dX3_target_53 rfl ?_
            refine sx_iload dX3_target_55 rfl ?_
            refine sx_if_ne (tgt := 64) dX3_target_57 (by decide) ⟨by decide, by decide⟩ (fun q => absurd q (by decide)) (fun _ => ?_)
            refine sx_iconst dX3_target_60 ?_
            refine sx_goto (tgt := 65) dX3_target_61 (by decide) ?_
            refine sx_icmp_ne (tgt := 81) dX3_target_65 (by decide) ⟨by decide, by decide⟩ ⟨by decide, by decide⟩ (fun _ => ?_) (fun q => absurd q (by decide))
            refine sx_iconst dX3_target_81 ?_
            refine sx_istore dX3_target_82 (by decide) ?_
            refine sx_iload dX3_target_84 rfl ?_
            refine sx_if_eq (tgt := 112) dX3_target_86 (by decide) ⟨by decide, by decide⟩ (fun _ => ?_) (fun q => absurd q (by decide))
            refine sx_iload_n dX3_target_112 rfl ?_
            refine sx_istore_n dX3_target_113 (by decide) ?_
            refine sx_iinc dX3_target_114 rfl (by decide) ?_
            refine sx_goto (tgt := 18) dX3_target_117 (by decide) ?_
            exact sx_forget 6 (sx_forget 7 (ih18_0 _ (by omega) _ (c + 1) rfl (by omega) (by first | exact xbest_y hf0 (by simp [xq, c26, c37, c50]) (by omega) | exact xbest_n hf0 (Or.inr ⟨by omega, by omega⟩) | exact xbest_n hf0 (Or.inl (by simp [xq, c26, c37, c50]; done)) | exact xbest_n hf0 (Or.inl (by simp [xq, c26, c37, c50]; omega))) (by omega) (by omega)))
        · -- 37f
          refine sx_iconst dX3_target_40 ?_
          refine sx_goto (tgt := 45) dX3_target_41 (by decide) ?_
          refine sx_istore dX3_target_45 (by decide) ?_
          refine sx_iload dX3_target_47 rfl ?_
          refine sx_iload_n dX3_target_49 rfl ?_
          refine sx_icmp_eq (tgt := 81) dX3_target_50 (by decide) (by first | omega | assumption | (with_reducible first | exact hR _ | exact xwd_R hR _ _ | exact xch_R hR _ _ | exact am_R_and _ _ | exact am_R_or _ _ | exact am_R_xor _ _ | exact am_R_shl _ _ | exact am_R_shr _ _ | exact bit_R _ _ | exact xpls_R _ _ | exact xkept_R hW _ _ | exact xwait_R hW _ _ ) | (exact ⟨by omega, by omega⟩) | exact wf _ (by omega) (by omega) | exact wg _ (by omega) (by omega)) (by first | omega | assumption | (with_reducible first | exact hR _ | exact xwd_R hR _ _ | exact xch_R hR _ _ | exact am_R_and _ _ | exact am_R_or _ _ | exact am_R_xor _ _ | exact am_R_shl _ _ | exact am_R_shr _ _ | exact bit_R _ _ | exact xpls_R _ _ | exact xkept_R hW _ _ | exact xwait_R hW _ _ ) | (exact ⟨by omega, by omega⟩) | exact wf _ (by omega) (by omega) | exact wg _ (by omega) (by omega)) (fun c50 => ?_) (fun c50 => ?_)
          · -- 50t
            refine sx_iconst dX3_target_81 ?_
            refine sx_istore dX3_target_82 (by decide) ?_
            refine sx_iload dX3_target_84 rfl ?_
            refine sx_if_eq (tgt := 112) dX3_target_86 (by decide) ⟨by decide, by decide⟩ (fun _ => ?_) (fun q => absurd q (by decide))
            refine sx_iload_n dX3_target_112 rfl ?_
            refine sx_istore_n dX3_target_113 (by decide) ?_
            refine sx_iinc dX3_target_114 rfl (by decide) ?_
            refine sx_goto (tgt := 18) dX3_target_117 (by decide) ?_
            exact sx_forget 6 (sx_forget 7 (ih18_0 _ (by omega) _ (c + 1) rfl (by omega) (by first | exact xbest_y hf0 (by simp [xq, c26, c37, c50]) (by omega) | exact xbest_n hf0 (Or.inr ⟨by omega, by omega⟩) | exact xbest_n hf0 (Or.inl (by simp [xq, c26, c37, c50]; done)) | exact xbest_n hf0 (Or.inl (by simp [xq, c26, c37, c50]; omega))) (by omega) (by omega)))
          · -- 50f
            refine sx_iload dX3_target_53 rfl ?_
            refine sx_iload dX3_target_55 rfl ?_
            refine sx_if_ne (tgt := 64) dX3_target_57 (by decide) ⟨by decide, by decide⟩ (fun q => absurd q (by decide)) (fun _ => ?_)
            refine sx_iconst dX3_target_60 ?_
            refine sx_goto (tgt := 65) dX3_target_61 (by decide) ?_
            refine sx_icmp_ne (tgt := 81) dX3_target_65 (by decide) ⟨by decide, by decide⟩ ⟨by decide, by decide⟩ (fun q => absurd q (by decide)) (fun _ => ?_)
            refine sx_aload_n dX3_target_68 rfl ?_
            refine sx_iload dX3_target_69 rfl ?_
            refine sx_callVi dX3_target_71 ml_X3_68 mv3_places (tx_places _ hW (by first | omega | assumption | (with_reducible first | exact hR _ | exact xwd_R hR _ _ | exact xch_R hR _ _ | exact am_R_and _ _ | exact am_R_or _ _ | exact am_R_xor _ _ | exact am_R_shl _ _ | exact am_R_shr _ _ | exact bit_R _ _ | exact xpls_R _ _ | exact xkept_R hW _ _ | exact xwait_R hW _ _ ) | (exact ⟨by omega, by omega⟩) | exact wf _ (by omega) (by omega) | exact wg _ (by omega) (by omega))) rfl am_obX rfl (Nat.le_of_ble_eq_true rfl) (Nat.le_of_ble_eq_true rfl) ?_
            refine sx_if_le (tgt := 81) dX3_target_74 (by decide) (by first | omega | assumption | (with_reducible first | exact hR _ | exact xwd_R hR _ _ | exact xch_R hR _ _ | exact am_R_and _ _ | exact am_R_or _ _ | exact am_R_xor _ _ | exact am_R_shl _ _ | exact am_R_shr _ _ | exact bit_R _ _ | exact xpls_R _ _ | exact xkept_R hW _ _ | exact xwait_R hW _ _ ) | (exact ⟨by omega, by omega⟩) | exact wf _ (by omega) (by omega) | exact wg _ (by omega) (by omega)) (fun c74 => ?_) (fun c74 => ?_)
            · -- 74t
              refine sx_iconst dX3_target_81 ?_
              refine sx_istore dX3_target_82 (by decide) ?_
              refine sx_iload dX3_target_84 rfl ?_
              refine sx_if_eq (tgt := 112) dX3_target_86 (by decide) ⟨by decide, by decide⟩ (fun _ => ?_) (fun q => absurd q (by decide))
              refine sx_iload_n dX3_target_112 rfl ?_
              refine sx_istore_n dX3_target_113 (by decide) ?_
              refine sx_iinc dX3_target_114 rfl (by decide) ?_
              refine sx_goto (tgt := 18) dX3_target_117 (by decide) ?_
              exact sx_forget 6 (sx_forget 7 (ih18_0 _ (by omega) _ (c + 1) rfl (by omega) (by first | exact xbest_y hf0 (by simp [xq, c26, c37, c50, c74]) (by omega) | exact xbest_n hf0 (Or.inr ⟨by omega, by omega⟩) | exact xbest_n hf0 (Or.inl (by simp [xq, c26, c37, c50, c74]; done)) | exact xbest_n hf0 (Or.inl (by simp [xq, c26, c37, c50, c74]; omega))) (by omega) (by omega)))
            · -- 74f
              refine sx_iconst dX3_target_77 ?_
              refine sx_goto (tgt := 82) dX3_target_78 (by decide) ?_
              refine sx_istore dX3_target_82 (by decide) ?_
              refine sx_iload dX3_target_84 rfl ?_
              refine sx_if_eq (tgt := 112) dX3_target_86 (by decide) ⟨by decide, by decide⟩ (fun q => absurd q (by decide)) (fun _ => ?_)
              refine sx_iload_n dX3_target_89 rfl ?_
              refine sx_if_lt (tgt := 107) dX3_target_90 (by decide) (by first | omega | assumption | (with_reducible first | exact hR _ | exact xwd_R hR _ _ | exact xch_R hR _ _ | exact am_R_and _ _ | exact am_R_or _ _ | exact am_R_xor _ _ | exact am_R_shl _ _ | exact am_R_shr _ _ | exact bit_R _ _ | exact xpls_R _ _ | exact xkept_R hW _ _ | exact xwait_R hW _ _ ) | (exact ⟨by omega, by omega⟩) | exact wf _ (by omega) (by omega) | exact wg _ (by omega) (by omega)) (fun c90 => ?_) (fun c90 => ?_)
              · -- 90t
                refine sx_iload dX3_target_107 rfl ?_
                refine sx_goto (tgt := 113) dX3_target_109 (by decide) ?_
                refine sx_istore_n dX3_target_113 (by decide) ?_
                refine sx_iinc dX3_target_114 rfl (by decide) ?_
                refine sx_goto (tgt := 18) dX3_target_117 (by decide) ?_
                exact sx_forget 6 (sx_forget 7 (ih18_0 _ (by omega) _ (c + 1) rfl (by omega) (by first | exact xbest_y hf0 (by simp [xq, c26, c37, c50, c74, c90]) (by omega) | exact xbest_n hf0 (Or.inr ⟨by omega, by omega⟩) | exact xbest_n hf0 (Or.inl (by simp [xq, c26, c37, c50, c74, c90]; done)) | exact xbest_n hf0 (Or.inl (by simp [xq, c26, c37, c50, c74, c90]; omega))) (by omega) (by omega)))
              · -- 90f
                refine sx_aload_n dX3_target_93 rfl ?_
                refine sx_iload dX3_target_94 rfl ?_
                refine sx_callVi dX3_target_96 ml_X3_68 mv3_places (tx_places _ hW (by first | omega | assumption | (with_reducible first | exact hR _ | exact xwd_R hR _ _ | exact xch_R hR _ _ | exact am_R_and _ _ | exact am_R_or _ _ | exact am_R_xor _ _ | exact am_R_shl _ _ | exact am_R_shr _ _ | exact bit_R _ _ | exact xpls_R _ _ | exact xkept_R hW _ _ | exact xwait_R hW _ _ ) | (exact ⟨by omega, by omega⟩) | exact wf _ (by omega) (by omega) | exact wg _ (by omega) (by omega))) rfl am_obX rfl (Nat.le_of_ble_eq_true rfl) (Nat.le_of_ble_eq_true rfl) ?_
                refine sx_aload_n dX3_target_99 rfl ?_
                refine sx_iload_n dX3_target_100 rfl ?_
                refine sx_callVi dX3_target_101 ml_X3_68 mv3_places (tx_places _ hW (by first | omega | assumption | (with_reducible first | exact hR _ | exact xwd_R hR _ _ | exact xch_R hR _ _ | exact am_R_and _ _ | exact am_R_or _ _ | exact am_R_xor _ _ | exact am_R_shl _ _ | exact am_R_shr _ _ | exact bit_R _ _ | exact xpls_R _ _ | exact xkept_R hW _ _ | exact xwait_R hW _ _ ) | (exact ⟨by omega, by omega⟩) | exact wf _ (by omega) (by omega) | exact wg _ (by omega) (by omega))) rfl am_obX rfl (Nat.le_of_ble_eq_true rfl) (Nat.le_of_ble_eq_true rfl) ?_
                refine sx_icmp_le (tgt := 112) dX3_target_104 (by decide) (by first | omega | assumption | (with_reducible first | exact hR _ | exact xwd_R hR _ _ | exact xch_R hR _ _ | exact am_R_and _ _ | exact am_R_or _ _ | exact am_R_xor _ _ | exact am_R_shl _ _ | exact am_R_shr _ _ | exact bit_R _ _ | exact xpls_R _ _ | exact xkept_R hW _ _ | exact xwait_R hW _ _ ) | (exact ⟨by omega, by omega⟩) | exact wf _ (by omega) (by omega) | exact wg _ (by omega) (by omega)) (by first | omega | assumption | (with_reducible first | exact hR _ | exact xwd_R hR _ _ | exact xch_R hR _ _ | exact am_R_and _ _ | exact am_R_or _ _ | exact am_R_xor _ _ | exact am_R_shl _ _ | exact am_R_shr _ _ | exact bit_R _ _ | exact xpls_R _ _ | exact xkept_R hW _ _ | exact xwait_R hW _ _ ) | (exact ⟨by omega, by omega⟩) | exact wf _ (by omega) (by omega) | exact wg _ (by omega) (by omega)) (fun c104 => ?_) (fun c104 => ?_)
                · -- 104t
                  refine sx_iload_n dX3_target_112 rfl ?_
                  refine sx_istore_n dX3_target_113 (by decide) ?_
                  refine sx_iinc dX3_target_114 rfl (by decide) ?_
                  refine sx_goto (tgt := 18) dX3_target_117 (by decide) ?_
                  exact sx_forget 6 (sx_forget 7 (ih18_0 _ (by omega) _ (c + 1) rfl (by omega) (by first | exact xbest_y hf0 (by simp [xq, c26, c37, c50, c74, c90, c104]) (by omega) | exact xbest_n hf0 (Or.inr ⟨by omega, by omega⟩) | exact xbest_n hf0 (Or.inl (by simp [xq, c26, c37, c50, c74, c90, c104]; done)) | exact xbest_n hf0 (Or.inl (by simp [xq, c26, c37, c50, c74, c90, c104]; omega))) (by omega) (by omega)))
                · -- 104f
                  refine sx_iload dX3_target_107 rfl ?_
                  refine sx_goto (tgt := 113) dX3_target_109 (by decide) ?_
                  refine sx_istore_n dX3_target_113 (by decide) ?_
                  refine sx_iinc dX3_target_114 rfl (by decide) ?_
                  refine sx_goto (tgt := 18) dX3_target_117 (by decide) ?_
                  exact sx_forget 6 (sx_forget 7 (ih18_0 _ (by omega) _ (c + 1) rfl (by omega) (by first | exact xbest_y hf0 (by simp [xq, c26, c37, c50, c74, c90, c104]) (by omega) | exact xbest_n hf0 (Or.inr ⟨by omega, by omega⟩) | exact xbest_n hf0 (Or.inl (by simp [xq, c26, c37, c50, c74, c90, c104]; done)) | exact xbest_n hf0 (Or.inl (by simp [xq, c26, c37, c50, c74, c90, c104]; omega))) (by omega) (by omega)))
  exact sx_forget 6 (sx_forget 7 (loop18_0 _ _ 0 rfl (by omega) (by first | rfl | exact hf0) (by omega) (by omega)))
end
section
/-! ===== more of the reference's words ===== -/
theorem xfalls_lo {S : Nat → Int} {w b : Int} {m : Nat} (hW : WX S) (hw : 0 ≤ w ∧ w < 24) (hm : m < 40) (h4 : m ≠ 4) : xfalls S w b m = S m := by
  have hb := xwait_b hW (xwd S w 4) (xwd S w 3)
  unfold xfalls
  split
  · split
    · split
      · unfold xwn
        rw [am_u1_ne _ _ h4, xlay_lo hw.1 (by decide) hm, xlay_lo hw.1 (by decide) hm]
      · rfl
    · rw [xlay_lo (by omega) (by decide) hm, xlay_lo hw.1 (by decide) hm]
  · rw [xlay_lo hw.1 (by decide) hm]
def xbr1 (S : Nat → Int) (c row : Int) : Nat → Int :=
  if xisg S c = true then (if xwait S (xch S c 0) row < 0 then S else xlay S (xwait S (xch S c 0) row) 1 2)
  else (if xkept S c row < 0 then S else xfalls S (xkept S c row) (if xch S c 1 ≤ 0 then 0 else 1))
def xbr2 (S : Nat → Int) (c row : Int) : Nat → Int := am_u1 (xbr1 S c row) (8 + 4 * c + 1).toNat (xbr1 S c row (8 + 4 * c + 1).toNat - (if xch S c 1 ≤ 0 then 0 else 1))
def xbrS (S : Nat → Int) (c row : Int) : Nat → Int := am_u1 (xbr2 S c row) (8 + 4 * c + 3).toNat (am_or (xbr2 S c row (8 + 4 * c + 3).toNat) (if xch S c 1 ≤ 0 then am_shl 1 row else 0))
def xbreaks (S : Nat → Int) (c row : Int) : Int × (Nat → Int) := if 0 ≤ c ∧ c ≤ S 0 - 1 then (if 0 ≤ row ∧ row ≤ 5 then (if xch S c 2 = 1 then (if bit (xch S c 3) row = 0 then (xlost (xbrS S c row) - xlost S, xbrS S c row) else (-1000002, S)) else (-1000002, S)) else (-1000001, S)) else (-1000001, S)
theorem xbr1_lo {S : Nat → Int} {c row : Int} {m : Nat} (hW : WX S) (hm : m < 40) (h4 : m ≠ 4) : xbr1 S c row m = S m := by
  have hb := xwait_b hW (xch S c 0) row
  have hk := xkept_b hW c row
  unfold xbr1
  split
  · split
    · rfl
    · rw [xlay_lo (by omega) (by decide) hm]
  · split
    · rfl
    · exact xfalls_lo hW (by omega) hm h4
theorem WX_br1 {S : Nat → Int} {c row : Int} (hW : WX S) : WX (xbr1 S c row) := by
  have hb := xwait_b hW (xch S c 0) row
  have hk := xkept_b hW c row
  unfold xbr1
  split
  · split
    · exact hW
    · exact WX_lay hW (by omega) (by decide) (by omega) (by omega)
  · split
    · exact hW
    · exact WX_falls hW (by omega)
theorem WX_brS {S : Nat → Int} {c row : Int} (hW : WX S) (hc : 0 ≤ c ∧ c < 8) : WX (xbrS S c row) := WX_chip (WX_chip (WX_br1 hW) hc (by decide)) hc (by decide)
theorem fstW_lt (p : Nat → Bool) (r n k : Nat) (h1 : r ≤ k) (h2 : k < r + n) (hp : p k = true) : fstW p r n < r + n := by
  induction n generalizing r with
  | zero => omega
  | succ n ih =>
    unfold fstW
    split
    · omega
    · have hrk : r ≠ k := by intro h; subst h; contradiction
      have := ih (r + 1) (by omega) (by omega)
      omega
theorem cntW_ex (p : Nat → Bool) (n : Nat) (h : cntW p n ≠ 0) : ∃ k, k < n ∧ p k = true := by
  induction n with
  | zero => exact absurd rfl h
  | succ n ih =>
    by_cases hp : p n = true
    · exact ⟨n, by omega, hp⟩
    · have : cntW p n ≠ 0 := by
        intro h0
        apply h
        show cntW p n + (if p n = true then 1 else 0) = 0
        rw [if_neg hp, h0]; rfl
      obtain ⟨k, hk, hpk⟩ := ih this
      exact ⟨k, by omega, hpk⟩
theorem xlow_lt {S : Nat → Int} {c : Int} (h : xpls S c ≠ 0) : xlow S c < 6 := by
  obtain ⟨k, hk, hp⟩ := cntW_ex _ _ h
  exact fstW_lt _ 0 6 k (by omega) (by omega) hp
theorem xlow_0 (S : Nat → Int) (c : Int) : 0 ≤ xlow S c ∧ xlow S c ≤ 6 := by
  have := fstW_b (fun r => xpl S c r) 0 6
  unfold xlow
  omega
def xputS (S : Nat → Int) (c v : Int) : Nat → Int := xsits (xlay (xlay (xlay (am_u1 S 1 (S 1 + 1)) (S 1) 0 v) (S 1) 5 0) (S 1) 6 0) (S 1) c (xlow S c)
def xputs (S : Nat → Int) (c v : Int) : Int × (Nat → Int) := if 0 ≤ c ∧ c ≤ S 0 - 1 then (if 0 ≤ v ∧ v ≤ 255 then (if xpls S c = 0 then (-1000002, S) else (if S 1 = 24 then (-1000003, S) else (S 1, xputS S c v))) else (-1000001, S)) else (-1000001, S)
def xahead (S : Nat → Int) (word : Int) : Int := cntW (fun w => xwd S w 1 == 1 && (xwd S w 4 == xwd S word 4 && decide (xwd S w 5 < xwd S word 5))) (S 1).toNat
def xfirstN (S : Nat → Int) (f : Int) : Nat → Int
  | 0 => -1
  | n + 1 => if (xwd S n 1 == 1 && (xwd S n 4 == f && (decide (xfirstN S f n < 0) || decide (xwd S n 5 < xwd S (xfirstN S f n) 5)))) = true then (n : Int) else xfirstN S f n
def xfirst (S : Nat → Int) (f : Int) : Int := xfirstN S f (S 1).toNat
def xmany (S : Nat → Int) (f st : Int) (bare : Bool) : Int := cntW (fun w => (xwd S w 1 == st && (decide (f < 0) || xwd S w 4 == f)) && !(bare && xgu S (xwd S w 4) (xwd S w 3))) (S 1).toNat
theorem xfirstN_b (S : Nat → Int) (f : Int) (n : Nat) : -1 ≤ xfirstN S f n ∧ xfirstN S f n < n := by
  induction n with
  | zero => exact ⟨Int.le_refl _, by show (-1 : Int) < 0; decide⟩
  | succ n ih =>
    unfold xfirstN
    split <;> omega
theorem xfirst_b {S : Nat → Int} (hW : WX S) (f : Int) : -1 ≤ xfirst S f ∧ xfirst S f < S 1 ∧ xfirst S f < 24 := by
  have := xfirstN_b S f (S 1).toNat
  have h1 := hW.2.1
  unfold xfirst
  omega
theorem xfirstN_y {S : Nat → Int} {f g : Int} {n : Nat} (hf : g = xfirstN S f n) (h1 : xwd S n 1 = 1) (h4 : xwd S n 4 = f) (h : g < 0 ∨ xwd S n 5 < xwd S g 5) : (n : Int) = xfirstN S f (n + 1) := by
  subst hf
  unfold xfirstN
  rw [if_pos]
  rw [h1, h4]
  simpa using h
theorem xfirstN_n {S : Nat → Int} {f g : Int} {n : Nat} (hf : g = xfirstN S f n) (h : ¬ xwd S n 1 = 1 ∨ ¬ xwd S n 4 = f ∨ (0 ≤ g ∧ xwd S g 5 ≤ xwd S n 5)) : g = xfirstN S f (n + 1) := by
  subst hf
  conv => rhs; unfold xfirstN
  rw [if_neg]
  rcases h with h | h | h
  · simp [h]
  · simp [h]
  · simp
    intro _ _
    omega
def xsum (S : Nat → Int) (f row : Int) : Nat → Int
  | 0 => 0
  | n + 1 => am_xor (xsum S f row n) (if xwd S n 1 = 2 then 0 else if xwd S n 4 = f then (if xwd S n 3 = row then xwd S n 0 else 0) else 0)
/-- what a family's tick does -/
def xraS (S : Nat → Int) (f : Int) : Nat → Int := xlay (xsits (xlay S (xfirst S f) 1 2) (xfirst S f) (xtarget (xlay S (xfirst S f) 1 2) f (-1)) (xlow (xlay S (xfirst S f) 1 2) (xtarget (xlay S (xfirst S f) 1 2) f (-1)))) (xfirst S f) 6 (xwd (xsits (xlay S (xfirst S f) 1 2) (xfirst S f) (xtarget (xlay S (xfirst S f) 1 2) f (-1)) (xlow (xlay S (xfirst S f) 1 2) (xtarget (xlay S (xfirst S f) 1 2) f (-1)))) (xfirst S f) 6 + 1)
def xraB (S : Nat → Int) (f : Int) : Bool := decide (0 ≤ xfirst S f) && decide (0 ≤ xtarget (xlay S (xfirst S f) 1 2) f (-1))
def xra (S : Nat → Int) (f : Int) : Nat → Int := if xfirst S f < 0 then S else if xtarget (xlay S (xfirst S f) 1 2) f (-1) < 0 then xlay (xlay S (xfirst S f) 1 2) (xfirst S f) 1 1 else am_u1 (xraS S f) 3 (xraS S f 3 + 1)
def xt1 (S : Nat → Int) : Nat → Int := am_u1 (xra (xra (xra S 0) 1) 2) 2 (xra (xra (xra S 0) 1) 2 2 + 1)
def xt1n (S : Nat → Int) : Int := (if xraB S 0 = true then 1 else 0) + (if xraB (xra S 0) 1 = true then 1 else 0) + (if xraB (xra (xra S 0) 1) 2 = true then 1 else 0)
def xtS (S : Nat → Int) : Nat → Nat → Int
  | 0 => S
  | n + 1 => xt1 (xtS S n)
def xtn (S : Nat → Int) : Nat → Int
  | 0 => 0
  | n + 1 => xtn S n + xt1n (xtS S n)
def xticks (S : Nat → Int) (n : Int) : Int × (Nat → Int) := if 1 ≤ n ∧ n ≤ 100 then (if S 2 + n ≤ 100000 then (xtn S n.toNat, xtS S n.toNat) else (-1000003, S)) else (-1000001, S)
theorem xbest_q {S : Nat → Int} {q : Nat → Bool} {g0 : Int} {n : Nat} (hg : xbest S q g0 n ≠ g0) : ∃ c : Nat, c < n ∧ xbest S q g0 n = c ∧ q c = true := by
  induction n with
  | zero => exact absurd rfl hg
  | succ n ih =>
    unfold xbest at hg ⊢
    split
    · rename_i h
      simp only [Bool.and_eq_true] at h
      exact ⟨n, by omega, rfl, h.1⟩
    · rename_i h
      rw [if_neg h] at hg
      obtain ⟨c, h1, h2, h3⟩ := ih hg
      exact ⟨c, by omega, h2, h3⟩
theorem xtarget_pl {S : Nat → Int} {f wt : Int} (h : 0 ≤ xtarget S f wt) : xpls S (xtarget S f wt) ≠ 0 ∧ xtarget S f wt < S 0 ∧ xtarget S f wt ≠ wt := by
  have key : ∀ (b : Bool) (g0 : Int), g0 < 0 → 0 ≤ xbest S (xq S f wt b) g0 (S 0).toNat → xpls S (xbest S (xq S f wt b) g0 (S 0).toNat) ≠ 0 ∧ xbest S (xq S f wt b) g0 (S 0).toNat < S 0 ∧ xbest S (xq S f wt b) g0 (S 0).toNat ≠ wt := by
    intro b g0 hg h0
    obtain ⟨c, h1, h2, h3⟩ := xbest_q (S := S) (q := xq S f wt b) (g0 := g0) (n := (S 0).toNat) (by omega)
    rw [h2]
    unfold xq at h3
    simp at h3
    refine ⟨?_, ?_, ?_⟩
    · have := h3.2.2; omega
    · omega
    · exact h3.1
  unfold xtarget at h ⊢
  split
  · rename_i hlt
    rw [if_pos hlt] at h
    exact key false _ hlt h
  · rename_i hge
    exact key true (-1) (by decide) (by omega)
/-- copies of a row up to a place -/
def am_mix (a b : Nat → Int) (k : Nat) : Nat → Int := fun i => if i < k then a i else b i
theorem am_mix_0 (a b : Nat → Int) : am_mix a b 0 = b := by
  funext i; simp [am_mix]
theorem am_mix_s (a b : Nat → Int) (k : Nat) : am_u1 (am_mix a b k) k (a k) = am_mix a b (k + 1) := by
  funext i
  unfold am_u1 am_mix
  by_cases h : i = k
  · subst h; simp
  · rw [if_neg h]
    by_cases h2 : i < k
    · rw [if_pos h2, if_pos (by omega)]
    · rw [if_neg h2, if_neg (by omega)]
section XM
variable {d : Nat} {y : am_Y} {h1 : am_H} {r : Option am_V} {pc : Nat} {ls : List (Option am_V)} {st : List am_V} {h0 : am_H} {X : am_M} {S : Nat → Int}
theorem xs_isto3 {j n m : Nat} {i x : Int} {F : Nat → Int} (hd : decode y.2.1 pc = .ok (.iastore, 1)) (hj : (7, j) ∈ am_cs) (h0' : am_kd 7 j = 1) (hj1 : j ≠ 1) (hn : am_len 7 j = n) (hn9 : n ≤ 1000000) (hi0 : 0 ≤ i) (hi9 : i < n) (hm : i.toNat = m) (hR : am_R x) (kk : Sx d y h1 r (pc + 1) ls st (xh h0 (am_u3 X j (am_u1 F m x)) S)) : Sx d y h1 r pc ls (.inl x :: .inl i :: .inr (7, j) :: st) (xh h0 (am_u3 X j F) S) := by
  refine xs_isto (X := am_u3 X j F) (j := j) hd hj h0' hj1 hn hn9 hi0 hi9 hm hR ?_
  rw [am_u23]
  exact kk
theorem xs_simo {j : Nat} {F G : Nat → Int} (hk : ∀ k, k < am_len 7 j → G k = F k) (hj0 : j ≠ 0) (hG : (∀ m, am_R (S m)) → (∀ i m, i ≠ 1 → am_R (am_u3 X j F i m)) → ∀ m, am_R (G m)) (hj1 : j ≠ 1) (kk : Sx d y h1 r pc ls st (xh h0 (am_u3 X j G) S)) : Sx d y h1 r pc ls st (xh h0 (am_u3 X j F) S) := by
  refine xs_vh (fun hR hRX => ?_)
  refine sx_sim (h2 := xh h0 (am_u3 X j G) S) ⟨rfl, fun q hq k hkw => ?_⟩ (fun hV => ⟨fun u a b => ?_, hV.2⟩) kk
  · unfold xh
    by_cases hu : q.1 = 7
    · rw [hu, am_U_at, am_U_at]
      by_cases h1 : q.2 = 1
      · rw [h1, am_u3_at, am_u3_at]
      · rw [am_u3_ne _ _ h1, am_u3_ne _ _ h1]
        by_cases h2 : q.2 = j
        · rw [h2, am_u3_at, am_u3_at]
          refine hk k ?_
          rw [hu, h2] at hkw
          unfold am_wd at hkw
          rwa [if_neg (by unfold am_kd; rw [if_neg hj0]; (repeat' split) <;> simp_all)] at hkw
        · rw [am_u3_ne _ _ h2, am_u3_ne _ _ h2]
    · rw [am_U_ne _ _ hu, am_U_ne _ _ hu]
  · have hh := hV.1 u a b
    unfold xh at hh ⊢
    by_cases hu : u = 7
    · subst hu
      rw [am_U_at] at hh ⊢
      by_cases h1 : a = 1
      · subst h1; rw [am_u3_at]; exact hR b
      · rw [am_u3_ne _ _ h1] at hh ⊢
        by_cases h2 : a = j
        · subst h2; rw [am_u3_at]; exact hG hR hRX b
        · rw [am_u3_ne _ _ h2] at hh ⊢; exact hh
    · rw [am_U_ne _ _ hu] at hh ⊢; exact hh
theorem xs_sims {F G : Nat → Int} (hk : ∀ k, k < 208 → G k = F k) (hG : (∀ i m, i ≠ 1 → am_R (X i m)) → (∀ m, am_R (F m)) → ∀ m, am_R (G m)) (kk : Sx d y h1 r pc ls st (xh h0 X G)) : Sx d y h1 r pc ls st (xh h0 X F) := by
  refine xs_vh (fun hR hRX => ?_)
  refine sx_sim (h2 := xh h0 X G) ⟨rfl, fun q hq k hkw => ?_⟩ (fun hV => ⟨fun u a b => ?_, hV.2⟩) kk
  · unfold xh
    by_cases hu : q.1 = 7
    · rw [hu, am_U_at, am_U_at]
      by_cases h1 : q.2 = 1
      · rw [h1, am_u3_at, am_u3_at]
        refine hk k ?_
        rw [hu, h1] at hkw
        exact hkw
      · rw [am_u3_ne _ _ h1, am_u3_ne _ _ h1]
    · rw [am_U_ne _ _ hu, am_U_ne _ _ hu]
  · have hh := hV.1 u a b
    unfold xh at hh ⊢
    by_cases hu : u = 7
    · subst hu
      rw [am_U_at] at hh ⊢
      by_cases h1 : a = 1
      · subst h1; rw [am_u3_at]; exact hG hRX hR b
      · rw [am_u3_ne _ _ h1] at hh ⊢; exact hh
    · rw [am_U_ne _ _ hu] at hh ⊢; exact hh
end XM
end
section
set_option maxHeartbeats 4000000 in
set_option maxRecDepth 100000 in
theorem tx_elects {h0 : am_H} {X : am_M} {S : Nat → Int} (c : Int) (hW : WX S) (hc : am_R c)  : Ct 4 Y3_elects [.inr (7, 0), .inl c] (some (.inl (xelects S c).1)) (xh h0 X S) (xh h0 X (xelects S c).2) := by
  refine Ct_of (by decide +kernel) (Nat.le_of_ble_eq_true rfl) ?_
  show Sx 4 Y3_elects (xh h0 X (xelects S c).2) (some (.inl (xelects S c).1)) 0 [some (.inr (7, 0)), some (.inl c)] [] (xh h0 X S)
  refine xs_vh (fun hR hRX => ?_)
  obtain ⟨w0, w1, wg, wf, wo⟩ := id hW
  refine sx_aload_n dX3_elects_0 rfl ?_
  refine sx_iload_n dX3_elects_1 rfl ?_
  refine sx_callVi dX3_elects_2 ml_X3_90 mv3_isChip (tx_isChip _ hW (by first | omega | assumption | (with_reducible first | exact hR _ | exact xwd_R hR _ _ | exact xch_R hR _ _ | exact am_R_and _ _ | exact am_R_or _ _ | exact am_R_xor _ _ | exact am_R_shl _ _ | exact am_R_shr _ _ | exact bit_R _ _ | exact xpls_R _ _ | exact xkept_R hW _ _ | exact xwait_R hW _ _ ) | (exact ⟨by omega, by omega⟩) | exact wf _ (by omega) (by omega) | exact wg _ (by omega) (by omega))) rfl am_obX rfl (Nat.le_of_ble_eq_true rfl) (Nat.le_of_ble_eq_true rfl) ?_
  refine sx_ifB_ne (tgt := 11) dX3_elects_5 (by decide) (fun c5 => ?_) (fun c5 => ?_)
  · -- 5t
    have hc8 : 0 ≤ c ∧ c < 8 := ⟨c5.1, by omega⟩
    obtain ⟨hf0, hf2⟩ := wf c hc8.1 hc8.2
    refine sx_aload_n dX3_elects_11 rfl ?_
    refine sx_iload_n dX3_elects_12 rfl ?_
    refine sx_callVi dX3_elects_13 ml_X3_52 mv3_lives (tx_lives _ (by first | omega | assumption | (with_reducible first | exact hR _ | exact xwd_R hR _ _ | exact xch_R hR _ _ | exact am_R_and _ _ | exact am_R_or _ _ | exact am_R_xor _ _ | exact am_R_shl _ _ | exact am_R_shr _ _ | exact bit_R _ _ | exact xpls_R _ _ | exact xkept_R hW _ _ | exact xwait_R hW _ _ | exact xwords_R _ _) | (exact ⟨by omega, by omega⟩) | exact wf _ (by omega) (by omega) | exact wg _ (by omega) (by omega))) rfl am_obX rfl (Nat.le_of_ble_eq_true rfl) (Nat.le_of_ble_eq_true rfl) ?_
    refine sx_ifB_eq (tgt := 43) dX3_elects_16 (by decide) (fun c16 => ?_) (fun c16 => ?_)
    · -- 16t
      refine sx_ldc dX3_elects_43 kc_X3_96 ?_
      exact sx_iret dX3_elects_45 rfl (by unfold xelects xgod; (repeat' split) <;> first | contradiction | (exfalso; omega) | rfl | (congr 2; omega) | (simp_all; done)) (by unfold xelects xgod; (repeat' split) <;> first | contradiction | (exfalso; omega) | rfl | (congr 2; omega) | (simp_all; done))
    · -- 16f
      refine sx_aload_n dX3_elects_19 rfl ?_
      refine xs_getr (j := 1) dX3_elects_20 fl_X3_7 (by decide) rfl ?_
      refine sx_iconst dX3_elects_23 ?_
      refine sx_aload_n dX3_elects_24 rfl ?_
      refine sx_iload_n dX3_elects_25 rfl ?_
      refine sx_iconst dX3_elects_26 ?_
      refine sx_callVi dX3_elects_27 ml_X3_36 mv3_ch (tx_ch _ _ (by first | omega | assumption | (with_reducible first | exact hR _ | exact xwd_R hR _ _ | exact xch_R hR _ _ | exact am_R_and _ _ | exact am_R_or _ _ | exact am_R_xor _ _ | exact am_R_shl _ _ | exact am_R_shr _ _ | exact bit_R _ _ | exact xpls_R _ _ | exact xkept_R hW _ _ | exact xwait_R hW _ _ | exact xwords_R _ _) | (exact ⟨by omega, by omega⟩) | exact wf _ (by omega) (by omega) | exact wg _ (by omega) (by omega)) (by first | omega | assumption | (with_reducible first | exact hR _ | exact xwd_R hR _ _ | exact xch_R hR _ _ | exact am_R_and _ _ | exact am_R_or _ _ | exact am_R_xor _ _ | exact am_R_shl _ _ | exact am_R_shr _ _ | exact bit_R _ _ | exact xpls_R _ _ | exact xkept_R hW _ _ | exact xwait_R hW _ _ | exact xwords_R _ _) | (exact ⟨by omega, by omega⟩) | exact wf _ (by omega) (by omega) | exact wg _ (by omega) (by omega))) rfl am_obX rfl (Nat.le_of_ble_eq_true rfl) (Nat.le_of_ble_eq_true rfl) ?_
      refine sx_iadd dX3_elects_30 ?_
      refine xs_ild (n := 208) dX3_elects_31 rfl (by decide) (by first | omega | assumption | (with_reducible first | exact hR _ | exact xwd_R hR _ _ | exact xch_R hR _ _ | exact am_R_and _ _ | exact am_R_or _ _ | exact am_R_xor _ _ | exact am_R_shl _ _ | exact am_R_shr _ _ | exact bit_R _ _ | exact xpls_R _ _ | exact xkept_R hW _ _ | exact xwait_R hW _ _ | exact xwords_R _ _) | (exact ⟨by omega, by omega⟩) | exact wf _ (by omega) (by omega) | exact wg _ (by omega) (by omega)) (by first | omega | assumption | (with_reducible first | exact hR _ | exact xwd_R hR _ _ | exact xch_R hR _ _ | exact am_R_and _ _ | exact am_R_or _ _ | exact am_R_xor _ _ | exact am_R_shl _ _ | exact am_R_shr _ _ | exact bit_R _ _ | exact xpls_R _ _ | exact xkept_R hW _ _ | exact xwait_R hW _ _ | exact xwords_R _ _) | (exact ⟨by omega, by omega⟩) | exact wf _ (by omega) (by omega) | exact wg _ (by omega) (by omega)) rfl (fun r31 => ?_)
      refine sx_if_ge (tgt := 43) dX3_elects_32 (by decide) (by first | omega | assumption | (with_reducible first | exact hR _ | exact xwd_R hR _ _ | exact xch_R hR _ _ | exact am_R_and _ _ | exact am_R_or _ _ | exact am_R_xor _ _ | exact am_R_shl _ _ | exact am_R_shr _ _ | exact bit_R _ _ | exact xpls_R _ _ | exact xkept_R hW _ _ | exact xwait_R hW _ _ | exact xwords_R _ _) | (exact ⟨by omega, by omega⟩) | exact wf _ (by omega) (by omega) | exact wg _ (by omega) (by omega)) (fun c32 => ?_) (fun c32 => ?_)
      · -- 32t
        refine sx_ldc dX3_elects_43 kc_X3_96 ?_
        exact sx_iret dX3_elects_45 rfl (by unfold xelects xgod; (repeat' split) <;> first | contradiction | (exfalso; omega) | rfl | (congr 2; omega) | (simp_all; done)) (by unfold xelects xgod; (repeat' split) <;> first | contradiction | (exfalso; omega) | rfl | (congr 2; omega) | (simp_all; done))
      · -- 32f
        refine sx_aload_n dX3_elects_35 rfl ?_
        refine sx_iload_n dX3_elects_36 rfl ?_
        refine sx_callVi dX3_elects_37 ml_X3_93 mv3_words (tx_words _ hW (by first | omega | assumption | (with_reducible first | exact hR _ | exact xwd_R hR _ _ | exact xch_R hR _ _ | exact am_R_and _ _ | exact am_R_or _ _ | exact am_R_xor _ _ | exact am_R_shl _ _ | exact am_R_shr _ _ | exact bit_R _ _ | exact xpls_R _ _ | exact xkept_R hW _ _ | exact xwait_R hW _ _ | exact xwords_R _ _) | (exact ⟨by omega, by omega⟩) | exact wf _ (by omega) (by omega) | exact wg _ (by omega) (by omega))) rfl am_obX rfl (Nat.le_of_ble_eq_true rfl) (Nat.le_of_ble_eq_true rfl) ?_
        refine sx_if_le (tgt := 46) dX3_elects_40 (by decide) (by first | omega | assumption | (with_reducible first | exact hR _ | exact xwd_R hR _ _ | exact xch_R hR _ _ | exact am_R_and _ _ | exact am_R_or _ _ | exact am_R_xor _ _ | exact am_R_shl _ _ | exact am_R_shr _ _ | exact bit_R _ _ | exact xpls_R _ _ | exact xkept_R hW _ _ | exact xwait_R hW _ _ | exact xwords_R _ _) | (exact ⟨by omega, by omega⟩) | exact wf _ (by omega) (by omega) | exact wg _ (by omega) (by omega)) (fun c40 => ?_) (fun c40 => ?_)
        · -- 40t
          refine sx_aload_n dX3_elects_46 rfl ?_
          refine xs_getr (j := 1) dX3_elects_47 fl_X3_7 (by decide) rfl ?_
          refine sx_iconst dX3_elects_50 ?_
          refine sx_aload_n dX3_elects_51 rfl ?_
          refine sx_iload_n dX3_elects_52 rfl ?_
          refine sx_iconst dX3_elects_53 ?_
          refine sx_callVi dX3_elects_54 ml_X3_36 mv3_ch (tx_ch _ _ (by first | omega | assumption | (with_reducible first | exact hR _ | exact xwd_R hR _ _ | exact xch_R hR _ _ | exact am_R_and _ _ | exact am_R_or _ _ | exact am_R_xor _ _ | exact am_R_shl _ _ | exact am_R_shr _ _ | exact bit_R _ _ | exact xpls_R _ _ | exact xkept_R hW _ _ | exact xwait_R hW _ _ | exact xwords_R _ _) | (exact ⟨by omega, by omega⟩) | exact wf _ (by omega) (by omega) | exact wg _ (by omega) (by omega)) (by first | omega | assumption | (with_reducible first | exact hR _ | exact xwd_R hR _ _ | exact xch_R hR _ _ | exact am_R_and _ _ | exact am_R_or _ _ | exact am_R_xor _ _ | exact am_R_shl _ _ | exact am_R_shr _ _ | exact bit_R _ _ | exact xpls_R _ _ | exact xkept_R hW _ _ | exact xwait_R hW _ _ | exact xwords_R _ _) | (exact ⟨by omega, by omega⟩) | exact wf _ (by omega) (by omega) | exact wg _ (by omega) (by omega))) rfl am_obX rfl (Nat.le_of_ble_eq_true rfl) (Nat.le_of_ble_eq_true rfl) ?_
          refine sx_iadd dX3_elects_57 ?_
          refine sx_iload_n dX3_elects_58 rfl ?_
          refine xs_ist (n := 208) dX3_elects_59 rfl (by decide) (by first | omega | assumption | (with_reducible first | exact hR _ | exact xwd_R hR _ _ | exact xch_R hR _ _ | exact am_R_and _ _ | exact am_R_or _ _ | exact am_R_xor _ _ | exact am_R_shl _ _ | exact am_R_shr _ _ | exact bit_R _ _ | exact xpls_R _ _ | exact xkept_R hW _ _ | exact xwait_R hW _ _ | exact xwords_R _ _) | (exact ⟨by omega, by omega⟩) | exact wf _ (by omega) (by omega) | exact wg _ (by omega) (by omega)) (by first | omega | assumption | (with_reducible first | exact hR _ | exact xwd_R hR _ _ | exact xch_R hR _ _ | exact am_R_and _ _ | exact am_R_or _ _ | exact am_R_xor _ _ | exact am_R_shl _ _ | exact am_R_shr _ _ | exact bit_R _ _ | exact xpls_R _ _ | exact xkept_R hW _ _ | exact xwait_R hW _ _ | exact xwords_R _ _) | (exact ⟨by omega, by omega⟩) | exact wf _ (by omega) (by omega) | exact wg _ (by omega) (by omega)) rfl (by first | omega | assumption | (with_reducible first | exact hR _ | exact xwd_R hR _ _ | exact xch_R hR _ _ | exact am_R_and _ _ | exact am_R_or _ _ | exact am_R_xor _ _ | exact am_R_shl _ _ | exact am_R_shr _ _ | exact bit_R _ _ | exact xpls_R _ _ | exact xkept_R hW _ _ | exact xwait_R hW _ _ | exact xwords_R _ _) | (exact ⟨by omega, by omega⟩) | exact wf _ (by omega) (by omega) | exact wg _ (by omega) (by omega)) ?_
          have hW2 : WX (am_u1 S (5 + xch S c 0).toNat c) := WX_god hW ⟨hf0, hf2⟩ (by omega)
          obtain ⟨-, -, -, wf2, -⟩ := id hW2
          obtain ⟨hg0, hg2⟩ := wf2 c hc8.1 hc8.2
          refine sx_aload_n dX3_elects_60 rfl ?_
          refine sx_aload_n dX3_elects_61 rfl ?_
          refine sx_iload_n dX3_elects_62 rfl ?_
          refine sx_iconst dX3_elects_63 ?_
          refine sx_callVi dX3_elects_64 ml_X3_36 mv3_ch (tx_ch _ _ (by first | omega | assumption | (with_reducible first | exact hR _ | exact xwd_R hR _ _ | exact xch_R hR _ _ | exact am_R_and _ _ | exact am_R_or _ _ | exact am_R_xor _ _ | exact am_R_shl _ _ | exact am_R_shr _ _ | exact bit_R _ _ | exact xpls_R _ _ | exact xkept_R hW _ _ | exact xwait_R hW _ _ | exact xwords_R _ _) | (exact ⟨by omega, by omega⟩) | exact wf _ (by omega) (by omega) | exact wg _ (by omega) (by omega)) (by first | omega | assumption | (with_reducible first | exact hR _ | exact xwd_R hR _ _ | exact xch_R hR _ _ | exact am_R_and _ _ | exact am_R_or _ _ | exact am_R_xor _ _ | exact am_R_shl _ _ | exact am_R_shr _ _ | exact bit_R _ _ | exact xpls_R _ _ | exact xkept_R hW _ _ | exact xwait_R hW _ _ | exact xwords_R _ _) | (exact ⟨by omega, by omega⟩) | exact wf _ (by omega) (by omega) | exact wg _ (by omega) (by omega))) rfl am_obX rfl (Nat.le_of_ble_eq_true rfl) (Nat.le_of_ble_eq_true rfl) ?_
          refine sx_callVi dX3_elects_67 ml_X3_97 mv3_guarded (tx_guarded _ hW2 ⟨hg0, hg2⟩) rfl am_obX rfl (Nat.le_of_ble_eq_true rfl) (Nat.le_of_ble_eq_true rfl) ?_
          refine sx_callSi dX3_elects_70 ml_X3_100 ms3_ones (tx_ones _) rfl rfl (Nat.le_of_ble_eq_true rfl) (Nat.le_of_ble_eq_true rfl) ?_
          exact sx_iret dX3_elects_73 rfl (by unfold xelects xgod; (repeat' split) <;> first | contradiction | (exfalso; omega) | rfl | (congr 2; omega) | (simp_all; done)) (by unfold xelects xgod; (repeat' split) <;> first | contradiction | (exfalso; omega) | rfl | (congr 2; omega) | (simp_all; done))
        · -- 40f
          refine sx_ldc dX3_elects_43 kc_X3_96 ?_
          exact sx_iret dX3_elects_45 rfl (by unfold xelects xgod; (repeat' split) <;> first | contradiction | (exfalso; omega) | rfl | (congr 2; omega) | (simp_all; done)) (by unfold xelects xgod; (repeat' split) <;> first | contradiction | (exfalso; omega) | rfl | (congr 2; omega) | (simp_all; done))
  · -- 5f
    refine sx_ldc dX3_elects_8 kc_X3_40 ?_
    exact sx_iret dX3_elects_10 rfl (by unfold xelects xgod; (repeat' split) <;> first | contradiction | (exfalso; omega) | rfl | (congr 2; omega) | (simp_all; done)) (by unfold xelects xgod; (repeat' split) <;> first | contradiction | (exfalso; omega) | rfl | (congr 2; omega) | (simp_all; done))
set_option maxHeartbeats 4000000 in
set_option maxRecDepth 100000 in
theorem tx_kills {h0 : am_H} {X : am_M} {S : Nat → Int} (c : Int) (hW : WX S) (hc : am_R c) (hN : S 4 ≤ 1000000000)  : Ct 4 Y3_kills [.inr (7, 0), .inl c] (some (.inl (xkills S c).1)) (xh h0 X S) (xh h0 X (xkills S c).2) := by
  refine Ct_of (by decide +kernel) (Nat.le_of_ble_eq_true rfl) ?_
  show Sx 4 Y3_kills (xh h0 X (xkills S c).2) (some (.inl (xkills S c).1)) 0 [some (.inr (7, 0)), some (.inl c), none, none, none, none, none] [] (xh h0 X S)
  refine xs_vh (fun hR hRX => ?_)
  obtain ⟨w0, w1, wg, wf, wo⟩ := id hW
  refine sx_aload_n dX3_kills_0 rfl ?_
  refine sx_iload_n dX3_kills_1 rfl ?_
  refine sx_callVi dX3_kills_2 ml_X3_90 mv3_isChip (tx_isChip _ hW (by first | omega | assumption | (with_reducible first | exact hR _ | exact xwd_R hR _ _ | exact xch_R hR _ _ | exact am_R_and _ _ | exact am_R_or _ _ | exact am_R_xor _ _ | exact am_R_shl _ _ | exact am_R_shr _ _ | exact bit_R _ _ | exact xpls_R _ _ | exact xkept_R hW _ _ | exact xwait_R hW _ _ | exact xwords_R _ _) | (exact ⟨by omega, by omega⟩) | exact wf _ (by omega) (by omega) | exact wg _ (by omega) (by omega))) rfl am_obX rfl (Nat.le_of_ble_eq_true rfl) (Nat.le_of_ble_eq_true rfl) ?_
  refine sx_ifB_ne (tgt := 11) dX3_kills_5 (by decide) (fun c5 => ?_) (fun c5 => ?_)
  · -- 5t
    have hc8 : 0 ≤ c ∧ c < 8 := ⟨c5.1, by omega⟩
    obtain ⟨hf0, hf2⟩ := wf c hc8.1 hc8.2
    refine sx_aload_n dX3_kills_11 rfl ?_
    refine sx_iload_n dX3_kills_12 rfl ?_
    refine sx_callVi dX3_kills_13 ml_X3_52 mv3_lives (tx_lives _ (by first | omega | assumption | (with_reducible first | exact hR _ | exact xwd_R hR _ _ | exact xch_R hR _ _ | exact am_R_and _ _ | exact am_R_or _ _ | exact am_R_xor _ _ | exact am_R_shl _ _ | exact am_R_shr _ _ | exact bit_R _ _ | exact xpls_R _ _ | exact xkept_R hW _ _ | exact xwait_R hW _ _ | exact xwords_R _ _) | (exact ⟨by omega, by omega⟩) | exact wf _ (by omega) (by omega) | exact wg _ (by omega) (by omega))) rfl am_obX rfl (Nat.le_of_ble_eq_true rfl) (Nat.le_of_ble_eq_true rfl) ?_
    refine sx_ifB_ne (tgt := 22) dX3_kills_16 (by decide) (fun c16 => ?_) (fun c16 => ?_)
    · -- 16t
      refine sx_aload_n dX3_kills_22 rfl ?_
      refine sx_callVi dX3_kills_23 ml_X3_106 mv3_lost (tx_lost hW) rfl am_obX rfl (Nat.le_of_ble_eq_true rfl) (Nat.le_of_ble_eq_true rfl) ?_
      refine sx_istore_n dX3_kills_26 (by decide) ?_
      refine sx_aload_n dX3_kills_27 rfl ?_
      refine sx_iload_n dX3_kills_28 rfl ?_
      refine sx_iconst dX3_kills_29 ?_
      refine sx_callVi dX3_kills_30 ml_X3_36 mv3_ch (tx_ch _ _ (by first | omega | assumption | (with_reducible first | exact hR _ | exact xwd_R hR _ _ | exact xch_R hR _ _ | exact am_R_and _ _ | exact am_R_or _ _ | exact am_R_xor _ _ | exact am_R_shl _ _ | exact am_R_shr _ _ | exact bit_R _ _ | exact xpls_R _ _ | exact xkept_R hW _ _ | exact xwait_R hW _ _ | exact xwords_R _ _) | (exact ⟨by omega, by omega⟩) | exact wf _ (by omega) (by omega) | exact wg _ (by omega) (by omega)) (by first | omega | assumption | (with_reducible first | exact hR _ | exact xwd_R hR _ _ | exact xch_R hR _ _ | exact am_R_and _ _ | exact am_R_or _ _ | exact am_R_xor _ _ | exact am_R_shl _ _ | exact am_R_shr _ _ | exact bit_R _ _ | exact xpls_R _ _ | exact xkept_R hW _ _ | exact xwait_R hW _ _ | exact xwords_R _ _) | (exact ⟨by omega, by omega⟩) | exact wf _ (by omega) (by omega) | exact wg _ (by omega) (by omega))) rfl am_obX rfl (Nat.le_of_ble_eq_true rfl) (Nat.le_of_ble_eq_true rfl) ?_
      refine sx_istore_n dX3_kills_33 (by decide) ?_
      refine sx_aload_n dX3_kills_34 rfl ?_
      refine sx_iload_n dX3_kills_35 rfl ?_
      refine sx_callVi dX3_kills_36 ml_X3_56 mv3_isGodfather (tx_isGodfather _ hW (by first | omega | assumption | (with_reducible first | exact hR _ | exact xwd_R hR _ _ | exact xch_R hR _ _ | exact am_R_and _ _ | exact am_R_or _ _ | exact am_R_xor _ _ | exact am_R_shl _ _ | exact am_R_shr _ _ | exact bit_R _ _ | exact xpls_R _ _ | exact xkept_R hW _ _ | exact xwait_R hW _ _ | exact xwords_R _ _) | (exact ⟨by omega, by omega⟩) | exact wf _ (by omega) (by omega) | exact wg _ (by omega) (by omega)) (by first | omega | assumption | (with_reducible first | exact hR _ | exact xwd_R hR _ _ | exact xch_R hR _ _ | exact am_R_and _ _ | exact am_R_or _ _ | exact am_R_xor _ _ | exact am_R_shl _ _ | exact am_R_shr _ _ | exact bit_R _ _ | exact xpls_R _ _ | exact xkept_R hW _ _ | exact xwait_R hW _ _ | exact xwords_R _ _) | (exact ⟨by omega, by omega⟩) | exact wf _ (by omega) (by omega) | exact wg _ (by omega) (by omega))) rfl am_obX rfl (Nat.le_of_ble_eq_true rfl) (Nat.le_of_ble_eq_true rfl) ?_
      refine sx_istore dX3_kills_39 (by decide) ?_
      refine sx_aload_n dX3_kills_41 rfl ?_
      refine xs_getr (j := 1) dX3_kills_42 fl_X3_7 (by decide) rfl ?_
      refine sx_bipush dX3_kills_45 rfl ?_
      refine sx_iconst dX3_kills_47 ?_
      refine sx_iload_n dX3_kills_48 rfl ?_
      refine sx_imul dX3_kills_49 ?_
      refine sx_iadd dX3_kills_50 ?_
      refine sx_iconst dX3_kills_51 ?_
      refine sx_iadd dX3_kills_52 ?_
      refine sx_iconst dX3_kills_53 ?_
      refine xs_ist (n := 208) dX3_kills_54 rfl (by decide) (by first | omega | assumption | (with_reducible first | exact hR _ | exact xch_R hR _ _ | exact am_R_or _ _ | exact xkept_R hWr _ _ | exact xwait_R hWr _ _) | (with_reducible exact xwait_R (hWf (by omega)) _ _) | (exact ⟨by omega, by omega⟩)) (by first | omega | assumption | (with_reducible first | exact hR _ | exact xch_R hR _ _ | exact am_R_or _ _ | exact xkept_R hWr _ _ | exact xwait_R hWr _ _) | (with_reducible exact xwait_R (hWf (by omega)) _ _) | (exact ⟨by omega, by omega⟩)) rfl ⟨by decide, by decide⟩ ?_
      have hW1 : WX (am_u1 S (8 + 4 * c + 2).toNat 0) := WX_chip hW hc8 (by decide)
      have hS4 : (am_u1 S (8 + 4 * c + 2).toNat 0) 4 = S 4 := am_u1_ne _ _ (by omega)
      refine sx_iconst dX3_kills_55 ?_
      refine sx_istore dX3_kills_56 (by decide) ?_
      have loop58 : ∀ (n : Nat) (row : Nat), 6 - row = n → row ≤ 6 → Sx 4 Y3_kills (xh h0 X (xkills S c).2) (some (.inl (xkills S c).1)) 58 [some (.inr (7, 0)), some (.inl c), some (.inl (xlost S)), some (.inl (xch S c 0)), some (.inl (if (xisg S c) = true then 1 else 0)), some (.inl (row : Int)), none] [] (xh h0 X (xkrows (am_u1 S (8 + 4 * c + 2).toNat 0) c (xch S c 0) (xisg S c) row)) := by
        intro n
        induction n using Nat.strongRecOn with
        | _ n ih58 =>
          intro row hn hle
          have hWr : WX (xkrows (am_u1 S (8 + 4 * c + 2).toNat 0) c (xch S c 0) (xisg S c) row) := WX_krows hW1 row
          obtain ⟨hN1, hN2⟩ := xkrows_4 (c := c) (f := (xch S c 0)) (hd := (xisg S c)) hW1 row
          rw [hS4] at hN1 hN2
          have hkb := xkept_b hWr c row
          have hWf := WX_falls (b := 0) hWr (w := xkept (xkrows (am_u1 S (8 + 4 * c + 2).toNat 0) c (xch S c 0) (xisg S c) row) c row)
          refine xs_vh (fun hR2 _ => ?_)
          refine sx_iload dX3_kills_58 rfl ?_
          refine sx_bipush dX3_kills_60 rfl ?_
          refine sx_icmp_ge (tgt := 120) dX3_kills_62 (by decide) (by first | omega | assumption | (with_reducible first | exact hR _ | exact xch_R hR _ _ | exact am_R_or _ _ | exact xkept_R hWr _ _ | exact xwait_R hWr _ _) | (with_reducible exact xwait_R (hWf (by omega)) _ _) | (exact ⟨by omega, by omega⟩)) ⟨by decide, by decide⟩ (fun c62 => ?_) (fun c62 => ?_)
          · -- 62t
            obtain rfl : row = 6 := by omega
            have hWk : WX (xkillS S c) := WX_god hWr ⟨hf0, hf2⟩ (by split <;> first | omega | exact (hWr.2.2.1 _ hf0 hf2))
            refine sx_aload_n dX3_kills_120 rfl ?_
            refine xs_getr (j := 1) dX3_kills_121 fl_X3_7 (by decide) rfl ?_
            refine sx_iconst dX3_kills_124 ?_
            refine sx_iload_n dX3_kills_125 rfl ?_
            refine sx_iadd dX3_kills_126 ?_
            refine sx_iload dX3_kills_127 rfl ?_
            refine sx_ifB_eq (tgt := 136) dX3_kills_129 (by decide) (fun c129 => ?_) (fun c129 => ?_)
            · -- 129t
              refine sx_aload_n dX3_kills_136 rfl ?_
              refine xs_getr (j := 1) dX3_kills_137 fl_X3_7 (by decide) rfl ?_
              refine sx_iconst dX3_kills_140 ?_
              refine sx_iload_n dX3_kills_141 rfl ?_
              refine sx_iadd dX3_kills_142 ?_
              refine xs_ild (n := 208) dX3_kills_143 rfl (by decide) (by omega) (by omega) rfl (fun r143 => ?_)
              refine xs_ist (n := 208) dX3_kills_144 rfl (by decide) (by first | omega | assumption | (with_reducible first | exact hR _ | exact xch_R hR _ _ | exact am_R_or _ _ | exact xkept_R hWr _ _ | exact xwait_R hWr _ _) | (with_reducible exact xwait_R (hWf (by omega)) _ _) | (exact ⟨by omega, by omega⟩)) (by first | omega | assumption | (with_reducible first | exact hR _ | exact xch_R hR _ _ | exact am_R_or _ _ | exact xkept_R hWr _ _ | exact xwait_R hWr _ _) | (with_reducible exact xwait_R (hWf (by omega)) _ _) | (exact ⟨by omega, by omega⟩)) rfl (by first | omega | assumption | (with_reducible first | exact hR _ | exact xch_R hR _ _ | exact am_R_or _ _ | exact xkept_R hWr _ _ | exact xwait_R hWr _ _) | (with_reducible exact xwait_R (hWf (by omega)) _ _) | (exact ⟨by omega, by omega⟩)) ?_
              have ek : xkillS S c = am_u1 (xkrows (am_u1 S (8 + 4 * c + 2).toNat 0) c (xch S c 0) (xisg S c) 6) (5 + (xch S c 0)).toNat _ := rfl
              first | rw [if_pos (by assumption)] at ek | rw [if_neg (by assumption)] at ek
              rw [← ek]
              refine sx_aload_n dX3_kills_145 rfl ?_
              refine sx_callVi dX3_kills_146 ml_X3_106 mv3_lost (tx_lost hWk) rfl am_obX rfl (Nat.le_of_ble_eq_true rfl) (Nat.le_of_ble_eq_true rfl) ?_
              refine sx_iload_n dX3_kills_149 rfl ?_
              refine sx_isub dX3_kills_150 ?_
              exact sx_iret dX3_kills_151 rfl (by unfold xkills; (repeat' split) <;> first | contradiction | (exfalso; omega) | rfl | (congr 2; omega) | (simp_all; done)) (by unfold xkills; (repeat' split) <;> first | contradiction | (exfalso; omega) | rfl | (congr 2; omega) | (simp_all; done))
            · -- 129f
              refine sx_iconst dX3_kills_132 ?_
              refine sx_goto (tgt := 144) dX3_kills_133 (by decide) ?_
              refine xs_ist (n := 208) dX3_kills_144 rfl (by decide) (by first | omega | assumption | (with_reducible first | exact hR _ | exact xch_R hR _ _ | exact am_R_or _ _ | exact xkept_R hWr _ _ | exact xwait_R hWr _ _) | (with_reducible exact xwait_R (hWf (by omega)) _ _) | (exact ⟨by omega, by omega⟩)) (by first | omega | assumption | (with_reducible first | exact hR _ | exact xch_R hR _ _ | exact am_R_or _ _ | exact xkept_R hWr _ _ | exact xwait_R hWr _ _) | (with_reducible exact xwait_R (hWf (by omega)) _ _) | (exact ⟨by omega, by omega⟩)) rfl ⟨by decide, by decide⟩ ?_
              have ek : xkillS S c = am_u1 (xkrows (am_u1 S (8 + 4 * c + 2).toNat 0) c (xch S c 0) (xisg S c) 6) (5 + (xch S c 0)).toNat _ := rfl
              first | rw [if_pos (by assumption)] at ek | rw [if_neg (by assumption)] at ek
              rw [← ek]
              refine sx_aload_n dX3_kills_145 rfl ?_
              refine sx_callVi dX3_kills_146 ml_X3_106 mv3_lost (tx_lost hWk) rfl am_obX rfl (Nat.le_of_ble_eq_true rfl) (Nat.le_of_ble_eq_true rfl) ?_
              refine sx_iload_n dX3_kills_149 rfl ?_
              refine sx_isub dX3_kills_150 ?_
              exact sx_iret dX3_kills_151 rfl (by unfold xkills; (repeat' split) <;> first | contradiction | (exfalso; omega) | rfl | (congr 2; omega) | (simp_all; done)) (by unfold xkills; (repeat' split) <;> first | contradiction | (exfalso; omega) | rfl | (congr 2; omega) | (simp_all; done))
          · -- 62f
            refine sx_aload_n dX3_kills_65 rfl ?_
            refine sx_iload_n dX3_kills_66 rfl ?_
            refine sx_iload dX3_kills_67 rfl ?_
            refine sx_callVi dX3_kills_69 ml_X3_59 mv3_kept (tx_kept _ _ hWr (by first | omega | assumption | (with_reducible first | exact hR2 _ | exact xch_R hR2 _ _ | exact am_R_or _ _ | exact xkept_R hWr _ _ | exact xwait_R hWr _ _) | (with_reducible exact xwait_R (hWf (by omega)) _ _) | (exact ⟨by omega, by omega⟩)) (by first | omega | assumption | (with_reducible first | exact hR2 _ | exact xch_R hR2 _ _ | exact am_R_or _ _ | exact xkept_R hWr _ _ | exact xwait_R hWr _ _) | (with_reducible exact xwait_R (hWf (by omega)) _ _) | (exact ⟨by omega, by omega⟩))) rfl am_obX rfl (Nat.le_of_ble_eq_true rfl) (Nat.le_of_ble_eq_true rfl) ?_
            refine sx_istore dX3_kills_72 (by decide) ?_
            refine sx_iload dX3_kills_74 rfl ?_
            refine sx_if_lt (tgt := 86) dX3_kills_76 (by decide) (by first | omega | assumption | (with_reducible first | exact hR _ | exact xch_R hR _ _ | exact am_R_or _ _ | exact xkept_R hWr _ _ | exact xwait_R hWr _ _) | (with_reducible exact xwait_R (hWf (by omega)) _ _) | (exact ⟨by omega, by omega⟩)) (fun c76 => ?_) (fun c76 => ?_)
            · -- 76t
              refine sx_iload dX3_kills_86 rfl ?_
              refine sx_ifB_eq (tgt := 114) dX3_kills_88 (by decide) (fun c88 => ?_) (fun c88 => ?_)
              · -- 88t
                refine sx_iinc dX3_kills_114 rfl (by decide) ?_
                refine sx_goto (tgt := 58) dX3_kills_117 (by decide) ?_
                refine sx_forget 6 (sx_heq (xh h0 X (xkrows (am_u1 S (8 + 4 * c + 2).toNat 0) c (xch S c 0) (xisg S c) (row + 1))) ?_ (ih58 _ (by omega) (row + 1) rfl (by omega)))
                show xh h0 X (xkrow (xkrows (am_u1 S (8 + 4 * c + 2).toNat 0) c (xch S c 0) (xisg S c) row) c (xch S c 0) (xisg S c) row) = _
                unfold xkrow
                (repeat' split) <;> first | contradiction | (exfalso; omega) | rfl | (congr 2; omega) | (simp_all; done)
              · -- 88f
                refine sx_aload_n dX3_kills_91 rfl ?_
                refine sx_iload_n dX3_kills_92 rfl ?_
                refine sx_iload dX3_kills_93 rfl ?_
                refine sx_callVi dX3_kills_95 ml_X3_62 mv3_waiting (tx_waiting _ _ (by first | exact hWr | exact hWf (by omega)) (by first | omega | assumption | (with_reducible first | exact hR2 _ | exact xch_R hR2 _ _ | exact am_R_or _ _ | exact xkept_R hWr _ _ | exact xwait_R hWr _ _) | (with_reducible exact xwait_R (hWf (by omega)) _ _) | (exact ⟨by omega, by omega⟩)) (by first | omega | assumption | (with_reducible first | exact hR2 _ | exact xch_R hR2 _ _ | exact am_R_or _ _ | exact xkept_R hWr _ _ | exact xwait_R hWr _ _) | (with_reducible exact xwait_R (hWf (by omega)) _ _) | (exact ⟨by omega, by omega⟩))) rfl am_obX rfl (Nat.le_of_ble_eq_true rfl) (Nat.le_of_ble_eq_true rfl) ?_
                refine sx_if_lt (tgt := 114) dX3_kills_98 (by decide) (by first | omega | assumption | (with_reducible first | exact hR _ | exact xch_R hR _ _ | exact am_R_or _ _ | exact xkept_R hWr _ _ | exact xwait_R hWr _ _) | (with_reducible exact xwait_R (hWf (by omega)) _ _) | (exact ⟨by omega, by omega⟩)) (fun c98 => ?_) (fun c98 => ?_)
                · -- 98t
                  refine sx_iinc dX3_kills_114 rfl (by decide) ?_
                  refine sx_goto (tgt := 58) dX3_kills_117 (by decide) ?_
                  refine sx_forget 6 (sx_heq (xh h0 X (xkrows (am_u1 S (8 + 4 * c + 2).toNat 0) c (xch S c 0) (xisg S c) (row + 1))) ?_ (ih58 _ (by omega) (row + 1) rfl (by omega)))
                  show xh h0 X (xkrow (xkrows (am_u1 S (8 + 4 * c + 2).toNat 0) c (xch S c 0) (xisg S c) row) c (xch S c 0) (xisg S c) row) = _
                  unfold xkrow
                  (repeat' split) <;> first | contradiction | (exfalso; omega) | rfl | (congr 2; omega) | (simp_all; done)
                · -- 98f
                  refine sx_aload_n dX3_kills_101 rfl ?_
                  refine sx_aload_n dX3_kills_102 rfl ?_
                  refine sx_iload_n dX3_kills_103 rfl ?_
                  refine sx_iload dX3_kills_104 rfl ?_
                  refine sx_callVi dX3_kills_106 ml_X3_62 mv3_waiting (tx_waiting _ _ (by first | exact hWr | exact hWf (by omega)) (by first | omega | assumption | (with_reducible first | exact hR2 _ | exact xch_R hR2 _ _ | exact am_R_or _ _ | exact xkept_R hWr _ _ | exact xwait_R hWr _ _) | (with_reducible exact xwait_R (hWf (by omega)) _ _) | (exact ⟨by omega, by omega⟩)) (by first | omega | assumption | (with_reducible first | exact hR2 _ | exact xch_R hR2 _ _ | exact am_R_or _ _ | exact xkept_R hWr _ _ | exact xwait_R hWr _ _) | (with_reducible exact xwait_R (hWf (by omega)) _ _) | (exact ⟨by omega, by omega⟩))) rfl am_obX rfl (Nat.le_of_ble_eq_true rfl) (Nat.le_of_ble_eq_true rfl) ?_
                  refine sx_iconst dX3_kills_109 ?_
                  refine sx_iconst dX3_kills_110 ?_
                  refine sx_callVv dX3_kills_111 ml_X3_72 mv3_lays (tx_lays _ _ _ (by first | (have q1 := xwait_b hWr (xch S c 0) row; omega) | (have q1 := xwait_b (hWf (by omega)) (xch S c 0) row; omega)) (by decide) ⟨by decide, by decide⟩) rfl am_obX rfl (Nat.le_of_ble_eq_true rfl) (Nat.le_of_ble_eq_true rfl) ?_
                  refine sx_iinc dX3_kills_114 rfl (by decide) ?_
                  refine sx_goto (tgt := 58) dX3_kills_117 (by decide) ?_
                  refine sx_forget 6 (sx_heq (xh h0 X (xkrows (am_u1 S (8 + 4 * c + 2).toNat 0) c (xch S c 0) (xisg S c) (row + 1))) ?_ (ih58 _ (by omega) (row + 1) rfl (by omega)))
                  show xh h0 X (xkrow (xkrows (am_u1 S (8 + 4 * c + 2).toNat 0) c (xch S c 0) (xisg S c) row) c (xch S c 0) (xisg S c) row) = _
                  unfold xkrow
                  (repeat' split) <;> first | contradiction | (exfalso; omega) | rfl | (congr 2; omega) | (simp_all; done)
            · -- 76f
              refine sx_aload_n dX3_kills_79 rfl ?_
              refine sx_iload dX3_kills_80 rfl ?_
              refine sx_iconst dX3_kills_82 ?_
              refine sx_callVv dX3_kills_83 ml_X3_110 mv3_falls (tx_falls _ _ hWr (by omega) (Or.inl rfl) (by omega)) rfl am_obX rfl (Nat.le_of_ble_eq_true rfl) (Nat.le_of_ble_eq_true rfl) ?_
              refine sx_iload dX3_kills_86 rfl ?_
              refine sx_ifB_eq (tgt := 114) dX3_kills_88 (by decide) (fun c88 => ?_) (fun c88 => ?_)
              · -- 88t
                refine sx_iinc dX3_kills_114 rfl (by decide) ?_
                refine sx_goto (tgt := 58) dX3_kills_117 (by decide) ?_
                refine sx_forget 6 (sx_heq (xh h0 X (xkrows (am_u1 S (8 + 4 * c + 2).toNat 0) c (xch S c 0) (xisg S c) (row + 1))) ?_ (ih58 _ (by omega) (row + 1) rfl (by omega)))
                show xh h0 X (xkrow (xkrows (am_u1 S (8 + 4 * c + 2).toNat 0) c (xch S c 0) (xisg S c) row) c (xch S c 0) (xisg S c) row) = _
                unfold xkrow
                (repeat' split) <;> first | contradiction | (exfalso; omega) | rfl | (congr 2; omega) | (simp_all; done)
              · -- 88f
                refine sx_aload_n dX3_kills_91 rfl ?_
                refine sx_iload_n dX3_kills_92 rfl ?_
                refine sx_iload dX3_kills_93 rfl ?_
                refine sx_callVi dX3_kills_95 ml_X3_62 mv3_waiting (tx_waiting _ _ (by first | exact hWr | exact hWf (by omega)) (by first | omega | assumption | (with_reducible first | exact hR2 _ | exact xch_R hR2 _ _ | exact am_R_or _ _ | exact xkept_R hWr _ _ | exact xwait_R hWr _ _) | (with_reducible exact xwait_R (hWf (by omega)) _ _) | (exact ⟨by omega, by omega⟩)) (by first | omega | assumption | (with_reducible first | exact hR2 _ | exact xch_R hR2 _ _ | exact am_R_or _ _ | exact xkept_R hWr _ _ | exact xwait_R hWr _ _) | (with_reducible exact xwait_R (hWf (by omega)) _ _) | (exact ⟨by omega, by omega⟩))) rfl am_obX rfl (Nat.le_of_ble_eq_true rfl) (Nat.le_of_ble_eq_true rfl) ?_
                refine sx_if_lt (tgt := 114) dX3_kills_98 (by decide) (by first | omega | assumption | (with_reducible first | exact hR _ | exact xch_R hR _ _ | exact am_R_or _ _ | exact xkept_R hWr _ _ | exact xwait_R hWr _ _) | (with_reducible exact xwait_R (hWf (by omega)) _ _) | (exact ⟨by omega, by omega⟩)) (fun c98 => ?_) (fun c98 => ?_)
                · -- 98t
                  refine sx_iinc dX3_kills_114 rfl (by decide) ?_
                  refine sx_goto (tgt := 58) dX3_kills_117 (by decide) ?_
                  refine sx_forget 6 (sx_heq (xh h0 X (xkrows (am_u1 S (8 + 4 * c + 2).toNat 0) c (xch S c 0) (xisg S c) (row + 1))) ?_ (ih58 _ (by omega) (row + 1) rfl (by omega)))
                  show xh h0 X (xkrow (xkrows (am_u1 S (8 + 4 * c + 2).toNat 0) c (xch S c 0) (xisg S c) row) c (xch S c 0) (xisg S c) row) = _
                  unfold xkrow
                  (repeat' split) <;> first | contradiction | (exfalso; omega) | rfl | (congr 2; omega) | (simp_all; done)
                · -- 98f
                  refine sx_aload_n dX3_kills_101 rfl ?_
                  refine sx_aload_n dX3_kills_102 rfl ?_
                  refine sx_iload_n dX3_kills_103 rfl ?_
                  refine sx_iload dX3_kills_104 rfl ?_
                  refine sx_callVi dX3_kills_106 ml_X3_62 mv3_waiting (tx_waiting _ _ (by first | exact hWr | exact hWf (by omega)) (by first | omega | assumption | (with_reducible first | exact hR2 _ | exact xch_R hR2 _ _ | exact am_R_or _ _ | exact xkept_R hWr _ _ | exact xwait_R hWr _ _) | (with_reducible exact xwait_R (hWf (by omega)) _ _) | (exact ⟨by omega, by omega⟩)) (by first | omega | assumption | (with_reducible first | exact hR2 _ | exact xch_R hR2 _ _ | exact am_R_or _ _ | exact xkept_R hWr _ _ | exact xwait_R hWr _ _) | (with_reducible exact xwait_R (hWf (by omega)) _ _) | (exact ⟨by omega, by omega⟩))) rfl am_obX rfl (Nat.le_of_ble_eq_true rfl) (Nat.le_of_ble_eq_true rfl) ?_
                  refine sx_iconst dX3_kills_109 ?_
                  refine sx_iconst dX3_kills_110 ?_
                  refine sx_callVv dX3_kills_111 ml_X3_72 mv3_lays (tx_lays _ _ _ (by first | (have q1 := xwait_b hWr (xch S c 0) row; omega) | (have q1 := xwait_b (hWf (by omega)) (xch S c 0) row; omega)) (by decide) ⟨by decide, by decide⟩) rfl am_obX rfl (Nat.le_of_ble_eq_true rfl) (Nat.le_of_ble_eq_true rfl) ?_
                  refine sx_iinc dX3_kills_114 rfl (by decide) ?_
                  refine sx_goto (tgt := 58) dX3_kills_117 (by decide) ?_
                  refine sx_forget 6 (sx_heq (xh h0 X (xkrows (am_u1 S (8 + 4 * c + 2).toNat 0) c (xch S c 0) (xisg S c) (row + 1))) ?_ (ih58 _ (by omega) (row + 1) rfl (by omega)))
                  show xh h0 X (xkrow (xkrows (am_u1 S (8 + 4 * c + 2).toNat 0) c (xch S c 0) (xisg S c) row) c (xch S c 0) (xisg S c) row) = _
                  unfold xkrow
                  (repeat' split) <;> first | contradiction | (exfalso; omega) | rfl | (congr 2; omega) | (simp_all; done)
      exact loop58 _ 0 rfl (by omega)
    · -- 16f
      refine sx_ldc dX3_kills_19 kc_X3_96 ?_
      exact sx_iret dX3_kills_21 rfl (by unfold xkills; (repeat' split) <;> first | contradiction | (exfalso; omega) | rfl | (congr 2; omega) | (simp_all; done)) (by unfold xkills; (repeat' split) <;> first | contradiction | (exfalso; omega) | rfl | (congr 2; omega) | (simp_all; done))
  · -- 5f
    refine sx_ldc dX3_kills_8 kc_X3_40 ?_
    exact sx_iret dX3_kills_10 rfl (by unfold xkills; (repeat' split) <;> first | contradiction | (exfalso; omega) | rfl | (congr 2; omega) | (simp_all; done)) (by unfold xkills; (repeat' split) <;> first | contradiction | (exfalso; omega) | rfl | (congr 2; omega) | (simp_all; done))
end
section
/-! ===== bounds, ticks, emptying, history: the reference's words ===== -/
def BX (S : Nat → Int) (n : Int) : Prop := S 2 ≤ n ∧ S 3 ≤ n ∧ S 4 ≤ n ∧ ∀ w : Int, 0 ≤ w → w < 24 → xwd S w 6 ≤ n
theorem xsits_6 {S : Nat → Int} {w c row a : Int} (hw : 0 ≤ w) (ha : 0 ≤ a) : xwd (xsits S w c row) a 6 = xwd S a 6 := by
  unfold xsits
  rw [xlay_ne ⟨hw, by decide, by decide⟩ ⟨ha, by decide, by decide⟩ (Or.inr (by decide)), xlay_ne ⟨hw, by decide, by decide⟩ ⟨ha, by decide, by decide⟩ (Or.inr (by decide)), xlay_ne ⟨hw, by decide, by decide⟩ ⟨ha, by decide, by decide⟩ (Or.inr (by decide)), xlay_ne ⟨hw, by decide, by decide⟩ ⟨ha, by decide, by decide⟩ (Or.inr (by decide))]
theorem xsits_lo {S : Nat → Int} {w c row : Int} {m : Nat} (hw : 0 ≤ w) (hm : m < 40) : xsits S w c row m = S m := by
  unfold xsits
  rw [xlay_lo hw (by decide) hm, xlay_lo hw (by decide) hm, xlay_lo hw (by decide) hm, xlay_lo hw (by decide) hm]
theorem xsits_wn {S : Nat → Int} {w c row a k : Int} (hw : 0 ≤ w) (ha : 0 ≤ a) (hk : 0 ≤ k ∧ k < 7) (hne : a ≠ w) : xwd (xsits S w c row) a k = xwd S a k := by
  unfold xsits
  rw [xlay_ne ⟨hw, by decide, by decide⟩ ⟨ha, hk⟩ (Or.inl hne), xlay_ne ⟨hw, by decide, by decide⟩ ⟨ha, hk⟩ (Or.inl hne), xlay_ne ⟨hw, by decide, by decide⟩ ⟨ha, hk⟩ (Or.inl hne), xlay_ne ⟨hw, by decide, by decide⟩ ⟨ha, hk⟩ (Or.inl hne)]
theorem BX_lay {S : Nat → Int} {w k v n : Int} (hB : BX S n) (hw : 0 ≤ w) (hk : 0 ≤ k ∧ k < 7) (h6 : k = 6 → v ≤ n) : BX (xlay S w k v) n := by
  obtain ⟨h2, h3, h4, hh⟩ := hB
  refine ⟨by rw [xlay_lo hw hk.1 (by decide)]; exact h2, by rw [xlay_lo hw hk.1 (by decide)]; exact h3, by rw [xlay_lo hw hk.1 (by decide)]; exact h4, fun a h0 h9 => ?_⟩
  by_cases h : a ≠ w ∨ (6 : Int) ≠ k
  · rw [xlay_ne ⟨hw, hk⟩ ⟨h0, by decide⟩ h]; exact hh a h0 h9
  · have ha : a = w := by omega
    have hk6 : k = 6 := by omega
    subst ha; subst hk6
    rw [xlay_at]; exact h6 rfl
theorem BX_sits {S : Nat → Int} {w c row n : Int} (hB : BX S n) (hw : 0 ≤ w) : BX (xsits S w c row) n :=
  BX_lay (BX_lay (BX_lay (BX_lay hB hw (by decide) (by omega)) hw (by decide) (by omega)) hw (by decide) (by omega)) hw (by decide) (by omega)
theorem BX_mono {S : Nat → Int} {m n : Int} (hB : BX S m) (h : m ≤ n) : BX S n := ⟨by have := hB.1; omega, by have := hB.2.1; omega, by have := hB.2.2.1; omega, fun w h0 h9 => by have := hB.2.2.2 w h0 h9; omega⟩
theorem BX_n {S : Nat → Int} {v n : Int} {m : Nat} (hB : BX S n) (hm : m < 40) (hv : v ≤ n) : BX (am_u1 S m v) n := by
  obtain ⟨h2, h3, h4, hh⟩ := hB
  have key : ∀ i, S i ≤ n → am_u1 S m v i ≤ n := by
    intro i hi
    unfold am_u1
    split
    · exact hv
    · exact hi
  exact ⟨key _ h2, key _ h3, key _ h4, fun w h0 h9 => key _ (hh w h0 h9)⟩
theorem WX_ra {S : Nat → Int} {f : Int} (hW : WX S) : WX (xra S f) := by
  have hb := xfirst_b hW f
  unfold xra
  split
  · exact hW
  · have h1 : WX (xlay S (xfirst S f) 1 2) := WX_lay hW (by omega) (by decide) (by omega) (by omega)
    have ht := xtarget_b h1 f (-1)
    split
    · exact WX_lay h1 (by omega) (by decide) (by omega) (by omega)
    · have hp := xtarget_pl (S := xlay S (xfirst S f) 1 2) (f := f) (wt := -1) (by omega)
      have hl := xlow_lt hp.1
      have hl0 := xlow_0 (xlay S (xfirst S f) 1 2) (xtarget (xlay S (xfirst S f) 1 2) f (-1))
      exact WX_n (WX_lay (WX_sits h1 (by omega) (by omega) (by omega)) (by omega) (by decide) (by omega) (by omega)) (by omega)
theorem BX_ra {S : Nat → Int} {f n : Int} (hW : WX S) (hB : BX S n) : BX (xra S f) (n + 1) := by
  have hb := xfirst_b hW f
  have hB1 := BX_mono hB (show n ≤ n + 1 by omega)
  unfold xra
  split
  · exact hB1
  · split
    · exact BX_lay (BX_lay hB1 (by omega) (by decide) (by omega)) (by omega) (by decide) (by omega)
    · have h6 : xwd (xsits (xlay S (xfirst S f) 1 2) (xfirst S f) (xtarget (xlay S (xfirst S f) 1 2) f (-1)) (xlow (xlay S (xfirst S f) 1 2) (xtarget (xlay S (xfirst S f) 1 2) f (-1)))) (xfirst S f) 6 ≤ n := by
        rw [xsits_6 (by omega) (by omega), xlay_ne ⟨by omega, by decide, by decide⟩ ⟨by omega, by decide, by decide⟩ (Or.inr (by decide))]
        exact hB.2.2.2 _ (by omega) (by omega)
      have h3 : xraS S f 3 = S 3 := by
        unfold xraS
        rw [xlay_lo (by omega) (by decide) (by decide), xsits_lo (by omega) (by decide), xlay_lo (by omega) (by decide) (by decide)]
      refine BX_n (BX_lay (BX_sits (BX_lay hB1 (by omega) (by decide) (by omega)) (by omega)) (by omega) (by decide) (fun _ => by omega)) (by decide) ?_
      rw [h3]
      have := hB.2.1
      omega
theorem WX_t1 {S : Nat → Int} (hW : WX S) : WX (xt1 S) := WX_n (WX_ra (WX_ra (WX_ra hW))) (by omega)
theorem BX_t1 {S : Nat → Int} {n : Int} (hW : WX S) (hB : BX S n) : BX (xt1 S) (n + 4) := by
  have h3 : BX (xra (xra (xra S 0) 1) 2) (n + 1 + 1 + 1) := BX_ra (WX_ra (WX_ra hW)) (BX_ra (WX_ra hW) (BX_ra hW hB))
  refine BX_n (BX_mono h3 (by omega)) (by decide) ?_
  have := h3.1
  omega
theorem WX_tS {S : Nat → Int} (hW : WX S) (n : Nat) : WX (xtS S n) := by
  induction n with
  | zero => exact hW
  | succ n ih => exact WX_t1 ih
theorem BX_tS {S : Nat → Int} {b : Int} (hW : WX S) (hB : BX S b) (n : Nat) : BX (xtS S n) (b + 4 * n) := by
  induction n with
  | zero => exact BX_mono hB (by omega)
  | succ n ih => exact BX_mono (BX_t1 (WX_tS hW n) ih) (by omega)
theorem xt1n_b (S : Nat → Int) : 0 ≤ xt1n S ∧ xt1n S ≤ 3 := by
  unfold xt1n
  (repeat' split) <;> omega
theorem xtn_b (S : Nat → Int) (n : Nat) : 0 ≤ xtn S n ∧ xtn S n ≤ 3 * n := by
  induction n with
  | zero => exact ⟨Int.le_refl _, by show (0 : Int) ≤ 3 * ((0 : Nat) : Int); omega⟩
  | succ n ih =>
    have := xt1n_b (xtS S n)
    show 0 ≤ xtn S n + xt1n (xtS S n) ∧ xtn S n + xt1n (xtS S n) ≤ _
    omega
/-- emptying a chip, row by row -/
def xemS (S : Nat → Int) (c : Int) : Nat → (Nat → Int) × Int × Bool
  | 0 => (S, 0, true)
  | r + 1 => if (xemS S c r).2.2 = true then (if xkept (xemS S c r).1 c r < 0 then xemS S c r else if xtarget (xemS S c r).1 (xch (xemS S c r).1 c 0) c < 0 then ((xemS S c r).1, (xemS S c r).2.1, false) else (xsits (xemS S c r).1 (xkept (xemS S c r).1 c r) (xtarget (xemS S c r).1 (xch (xemS S c r).1 c 0) c) (xlow (xemS S c r).1 (xtarget (xemS S c r).1 (xch (xemS S c r).1 c 0) c)), (xemS S c r).2.1 + 1, true)) else xemS S c r
def xempt (S : Nat → Int) (c : Int) : Int × (Nat → Int) := if 0 ≤ c ∧ c ≤ S 0 - 1 then (if xch S c 2 = 1 then (if xisg S c = true then (-1000002, S) else (if (xemS S c 6).2.2 = true then ((xemS S c 6).2.1, (xemS S c 6).1) else (-1000002, S))) else (-1000002, S)) else (-1000001, S)
def xemX (X : am_M) (S : Nat → Int) (c : Int) : am_M := if 0 ≤ c ∧ c ≤ S 0 - 1 then (if xch S c 2 = 1 then (if xisg S c = true then X else am_u3 X 5 S) else X) else X
def xemR (b : Bool) (S T : Nat → Int) (k : Nat) : Nat → Int := if b = true then T else am_mix S T k
theorem WX_emS {S : Nat → Int} {c : Int} (hW : WX S) (n : Nat) : WX (xemS S c n).1 ∧ (xemS S c n).1 0 = S 0 ∧ (xemS S c n).1 1 = S 1 := by
  induction n with
  | zero => exact ⟨hW, rfl, rfl⟩
  | succ n ih =>
    obtain ⟨hw, h0, h1⟩ := ih
    have hk := xkept_b hw c n
    have ht := xtarget_b hw (xch (xemS S c n).1 c 0) c
    unfold xemS
    split
    · split
      · exact ⟨hw, h0, h1⟩
      · split
        · exact ⟨hw, h0, h1⟩
        · have hp := xtarget_pl (S := (xemS S c n).1) (f := xch (xemS S c n).1 c 0) (wt := c) (by omega)
          have hl := xlow_lt hp.1
          have hl0 := xlow_0 (xemS S c n).1 (xtarget (xemS S c n).1 (xch (xemS S c n).1 c 0) c)
          exact ⟨WX_sits hw (by omega) (by omega) (by omega), (xsits_lo (by omega) (by decide)).trans h0, (xsits_lo (by omega) (by decide)).trans h1⟩
    · exact ⟨hw, h0, h1⟩
def xshk (W : Nat → Int) (k : Nat) : Nat → Int := fun i => if i < k then W (i + 208) else W i
def xcpk (W B : Nat → Int) (n k : Nat) : Nat → Int := fun i => if 208 * n ≤ i ∧ i < 208 * n + k then B (i - 208 * n) else W i
theorem xshk_s (W : Nat → Int) (k : Nat) : am_u1 (xshk W k) k (xshk W k (k + 208)) = xshk W (k + 1) := by
  funext i
  unfold am_u1 xshk
  by_cases h : i = k
  · subst h; simp; intro h; omega
  · rw [if_neg h]
    by_cases h2 : i < k
    · rw [if_pos h2, if_pos (by omega)]
    · rw [if_neg h2, if_neg (by omega)]
theorem xcpk_s (W B : Nat → Int) (n k : Nat) : am_u1 (xcpk W B n k) (208 * n + k) (B k) = xcpk W B n (k + 1) := by
  funext i
  unfold am_u1 xcpk
  by_cases h : i = 208 * n + k
  · subst h
    rw [if_pos rfl, if_pos ⟨by omega, by omega⟩]
    congr 1
    omega
  · rw [if_neg h]
    by_cases h2 : 208 * n ≤ i ∧ i < 208 * n + k
    · rw [if_pos h2, if_pos ⟨h2.1, by omega⟩]
    · rw [if_neg h2, if_neg (by omega)]
def xac1 (X : am_M) : am_M := if X 0 5 = 4 then am_u2 (am_u3 X 2 (xshk (X 2) 624)) 0 5 3 else X
def xac2 (X : am_M) : am_M := am_u2 (am_u3 X 2 (xcpk (X 2) (X 3) (X 0 5).toNat 208)) 0 5 (X 0 5 + 1)
def xact (X : am_M) (r : Int) : am_M := if r ≤ -1000001 then X else xac2 (xac1 X)
end
section
set_option maxHeartbeats 4000000 in
set_option maxRecDepth 100000 in
theorem tx_breaksOne {h0 : am_H} {X : am_M} {S : Nat → Int} (c row : Int) (hW : WX S) (hc : am_R c) (hr : am_R row) (hN : S 4 ≤ 1000000000)  : Ct 4 Y3_breaksOne [.inr (7, 0), .inl c, .inl row] (some (.inl (xbreaks S c row).1)) (xh h0 X S) (xh h0 X (xbreaks S c row).2) := by
  refine Ct_of (by decide +kernel) (Nat.le_of_ble_eq_true rfl) ?_
  show Sx 4 Y3_breaksOne (xh h0 X (xbreaks S c row).2) (some (.inl (xbreaks S c row).1)) 0 [some (.inr (7, 0)), some (.inl c), some (.inl row), none, none, none, none] [] (xh h0 X S)
  refine xs_vh (fun hR hRX => ?_)
  obtain ⟨w0, w1, wg, wf, wo⟩ := id hW
  refine sx_aload_n dX3_breaksOne_0 rfl ?_
  refine sx_iload_n dX3_breaksOne_1 rfl ?_
  refine sx_callVi dX3_breaksOne_2 ml_X3_90 mv3_isChip (tx_isChip _ hW (by first | omega | assumption | (with_reducible first | exact hR _ | exact xwd_R hR _ _ | exact xch_R hR _ _ | exact am_R_and _ _ | exact am_R_or _ _ | exact am_R_xor _ _ | exact am_R_shl _ _ | exact am_R_shr _ _ | exact bit_R _ _ | exact xpls_R _ _ | exact xkept_R hW _ _ | exact xwait_R hW _ _ | exact xwords_R _ _) | (exact ⟨by omega, by omega⟩) | exact wf _ (by omega) (by omega) | exact wg _ (by omega) (by omega))) rfl am_obX rfl (Nat.le_of_ble_eq_true rfl) (Nat.le_of_ble_eq_true rfl) ?_
  refine sx_ifB_eq (tgt := 17) dX3_breaksOne_5 (by decide) (fun c5 => ?_) (fun c5 => ?_)
  · -- 5t
    refine sx_ldc dX3_breaksOne_17 kc_X3_40 ?_
    exact sx_iret dX3_breaksOne_19 rfl (by unfold xbreaks; (repeat' split) <;> first | contradiction | (exfalso; omega) | rfl | (congr 2; omega) | (simp_all; done)) (by unfold xbreaks; (repeat' split) <;> first | contradiction | (exfalso; omega) | rfl | (congr 2; omega) | (simp_all; done))
  · -- 5f
    refine sx_iload_n dX3_breaksOne_8 rfl ?_
    refine sx_iconst dX3_breaksOne_9 ?_
    refine sx_iconst dX3_breaksOne_10 ?_
    refine sx_callSi dX3_breaksOne_11 ml_X3_32 ms3_in (tx_in _ _ _ (by first | omega | assumption | (with_reducible first | exact hR _ | exact xwd_R hR _ _ | exact xch_R hR _ _ | exact am_R_and _ _ | exact am_R_or _ _ | exact am_R_xor _ _ | exact am_R_shl _ _ | exact am_R_shr _ _ | exact bit_R _ _ | exact xpls_R _ _ | exact xkept_R hW _ _ | exact xwait_R hW _ _ ) | (exact ⟨by omega, by omega⟩) | exact wf _ (by omega) (by omega) | exact wg _ (by omega) (by omega)) (by first | omega | assumption | (with_reducible first | exact hR _ | exact xwd_R hR _ _ | exact xch_R hR _ _ | exact am_R_and _ _ | exact am_R_or _ _ | exact am_R_xor _ _ | exact am_R_shl _ _ | exact am_R_shr _ _ | exact bit_R _ _ | exact xpls_R _ _ | exact xkept_R hW _ _ | exact xwait_R hW _ _ ) | (exact ⟨by omega, by omega⟩) | exact wf _ (by omega) (by omega) | exact wg _ (by omega) (by omega)) (by first | omega | assumption | (with_reducible first | exact hR _ | exact xwd_R hR _ _ | exact xch_R hR _ _ | exact am_R_and _ _ | exact am_R_or _ _ | exact am_R_xor _ _ | exact am_R_shl _ _ | exact am_R_shr _ _ | exact bit_R _ _ | exact xpls_R _ _ | exact xkept_R hW _ _ | exact xwait_R hW _ _ ) | (exact ⟨by omega, by omega⟩) | exact wf _ (by omega) (by omega) | exact wg _ (by omega) (by omega))) rfl rfl (Nat.le_of_ble_eq_true rfl) (Nat.le_of_ble_eq_true rfl) ?_
    refine sx_ifB_ne (tgt := 20) dX3_breaksOne_14 (by decide) (fun c14 => ?_) (fun c14 => ?_)
    · -- 14t
      have hc8 : 0 ≤ c ∧ c < 8 := ⟨c5.1, by omega⟩
      obtain ⟨hf0, hf2⟩ := wf c hc8.1 hc8.2
      refine sx_aload_n dX3_breaksOne_20 rfl ?_
      refine sx_iload_n dX3_breaksOne_21 rfl ?_
      refine sx_callVi dX3_breaksOne_22 ml_X3_52 mv3_lives (tx_lives _ (by first | omega | assumption | (with_reducible first | exact hR2 _ | exact hR _ | exact xch_R hR _ _ | exact am_R_or _ _ | exact am_R_shl _ _ | exact xkept_R hW _ _ | exact xwait_R hW _ _) | (exact ⟨by omega, by omega⟩))) rfl am_obX rfl (Nat.le_of_ble_eq_true rfl) (Nat.le_of_ble_eq_true rfl) ?_
      refine sx_ifB_eq (tgt := 37) dX3_breaksOne_25 (by decide) (fun c25 => ?_) (fun c25 => ?_)
      · -- 25t
        refine sx_ldc dX3_breaksOne_37 kc_X3_96 ?_
        exact sx_iret dX3_breaksOne_39 rfl (by unfold xbreaks; (repeat' split) <;> first | contradiction | (exfalso; omega) | rfl | (congr 2; omega) | (simp_all; done)) (by unfold xbreaks; (repeat' split) <;> first | contradiction | (exfalso; omega) | rfl | (congr 2; omega) | (simp_all; done))
      · -- 25f
        refine sx_aload_n dX3_breaksOne_28 rfl ?_
        refine sx_iload_n dX3_breaksOne_29 rfl ?_
        refine sx_iload_n dX3_breaksOne_30 rfl ?_
        refine sx_callVi dX3_breaksOne_31 ml_X3_48 mv3_isWhole (tx_isWhole _ _ (by first | omega | assumption | (with_reducible first | exact hR2 _ | exact hR _ | exact xch_R hR _ _ | exact am_R_or _ _ | exact am_R_shl _ _ | exact xkept_R hW _ _ | exact xwait_R hW _ _) | (exact ⟨by omega, by omega⟩)) (by first | omega | assumption | (with_reducible first | exact hR2 _ | exact hR _ | exact xch_R hR _ _ | exact am_R_or _ _ | exact am_R_shl _ _ | exact xkept_R hW _ _ | exact xwait_R hW _ _) | (exact ⟨by omega, by omega⟩))) rfl am_obX rfl (Nat.le_of_ble_eq_true rfl) (Nat.le_of_ble_eq_true rfl) ?_
        refine sx_ifB_ne (tgt := 40) dX3_breaksOne_34 (by decide) (fun c34 => ?_) (fun c34 => ?_)
        · -- 34t
          refine sx_aload_n dX3_breaksOne_40 rfl ?_
          refine sx_callVi dX3_breaksOne_41 ml_X3_106 mv3_lost (tx_lost hW) rfl am_obX rfl (Nat.le_of_ble_eq_true rfl) (Nat.le_of_ble_eq_true rfl) ?_
          refine sx_istore_n dX3_breaksOne_44 (by decide) ?_
          refine sx_aload_n dX3_breaksOne_45 rfl ?_
          refine sx_iload_n dX3_breaksOne_46 rfl ?_
          refine sx_iload_n dX3_breaksOne_47 rfl ?_
          refine sx_callVi dX3_breaksOne_48 ml_X3_59 mv3_kept (tx_kept _ _ hW (by first | omega | assumption | (with_reducible first | exact hR2 _ | exact hR _ | exact xch_R hR _ _ | exact am_R_or _ _ | exact am_R_shl _ _ | exact xkept_R hW _ _ | exact xwait_R hW _ _) | (exact ⟨by omega, by omega⟩)) (by first | omega | assumption | (with_reducible first | exact hR2 _ | exact hR _ | exact xch_R hR _ _ | exact am_R_or _ _ | exact am_R_shl _ _ | exact xkept_R hW _ _ | exact xwait_R hW _ _) | (exact ⟨by omega, by omega⟩))) rfl am_obX rfl (Nat.le_of_ble_eq_true rfl) (Nat.le_of_ble_eq_true rfl) ?_
          refine sx_istore dX3_breaksOne_51 (by decide) ?_
          refine sx_aload_n dX3_breaksOne_53 rfl ?_
          refine sx_iload_n dX3_breaksOne_54 rfl ?_
          refine sx_iconst dX3_breaksOne_55 ?_
          refine sx_callVi dX3_breaksOne_56 ml_X3_36 mv3_ch (tx_ch _ _ (by first | omega | assumption | (with_reducible first | exact hR2 _ | exact hR _ | exact xch_R hR _ _ | exact am_R_or _ _ | exact am_R_shl _ _ | exact xkept_R hW _ _ | exact xwait_R hW _ _) | (exact ⟨by omega, by omega⟩)) (by first | omega | assumption | (with_reducible first | exact hR2 _ | exact hR _ | exact xch_R hR _ _ | exact am_R_or _ _ | exact am_R_shl _ _ | exact xkept_R hW _ _ | exact xwait_R hW _ _) | (exact ⟨by omega, by omega⟩))) rfl am_obX rfl (Nat.le_of_ble_eq_true rfl) (Nat.le_of_ble_eq_true rfl) ?_
          refine sx_if_le (tgt := 66) dX3_breaksOne_59 (by decide) (by first | omega | assumption | (with_reducible first | exact hR2 _ | exact hR _ | exact xch_R hR _ _ | exact am_R_or _ _ | exact am_R_shl _ _ | exact xkept_R hW _ _ | exact xwait_R hW _ _) | (exact ⟨by omega, by omega⟩)) (fun c59 => ?_) (fun c59 => ?_)
          · -- 59t
            refine sx_iconst dX3_breaksOne_66 ?_
            refine sx_istore dX3_breaksOne_67 (by decide) ?_
            refine sx_aload_n dX3_breaksOne_69 rfl ?_
            refine sx_iload_n dX3_breaksOne_70 rfl ?_
            refine sx_callVi dX3_breaksOne_71 ml_X3_56 mv3_isGodfather (tx_isGodfather _ hW (by first | omega | assumption | (with_reducible first | exact hR2 _ | exact hR _ | exact xch_R hR _ _ | exact am_R_or _ _ | exact am_R_shl _ _ | exact xkept_R hW _ _ | exact xwait_R hW _ _) | (exact ⟨by omega, by omega⟩)) (by first | omega | assumption | (with_reducible first | exact hR2 _ | exact hR _ | exact xch_R hR _ _ | exact am_R_or _ _ | exact am_R_shl _ _ | exact xkept_R hW _ _ | exact xwait_R hW _ _) | (exact ⟨by omega, by omega⟩))) rfl am_obX rfl (Nat.le_of_ble_eq_true rfl) (Nat.le_of_ble_eq_true rfl) ?_
            refine sx_ifB_eq (tgt := 106) dX3_breaksOne_74 (by decide) (fun c74 => ?_) (fun c74 => ?_)
            · -- 74t
              refine sx_iload dX3_breaksOne_106 rfl ?_
              refine sx_if_lt (tgt := 119) dX3_breaksOne_108 (by decide) (by first | omega | assumption | (with_reducible first | exact hR2 _ | exact hR _ | exact xch_R hR _ _ | exact am_R_or _ _ | exact am_R_shl _ _ | exact xkept_R hW _ _ | exact xwait_R hW _ _) | (exact ⟨by omega, by omega⟩)) (fun c108 => ?_) (fun c108 => ?_)
              · -- 108t
                obtain ⟨T1, hT1⟩ : ∃ T1, T1 = xbr1 S c row := ⟨_, rfl⟩
                refine sx_heq (xh h0 X T1) (by rw [hT1]; unfold xbr1; (repeat' split) <;> first | contradiction | (exfalso; omega) | rfl | (congr 2; omega) | (simp_all; done)) ?_
                have hlo : ∀ m, m < 40 → m ≠ 4 → T1 m = S m := fun m h h4 => by rw [hT1]; exact xbr1_lo hW h h4
                refine xs_vh (fun hR2 _ => ?_)
                refine sx_aload_n dX3_breaksOne_119 rfl ?_
                refine xs_getr (j := 1) dX3_breaksOne_120 fl_X3_7 (by decide) rfl ?_
                refine sx_bipush dX3_breaksOne_123 rfl ?_
                refine sx_iconst dX3_breaksOne_125 ?_
                refine sx_iload_n dX3_breaksOne_126 rfl ?_
                refine sx_imul dX3_breaksOne_127 ?_
                refine sx_iadd dX3_breaksOne_128 ?_
                refine sx_iconst dX3_breaksOne_129 ?_
                refine sx_iadd dX3_breaksOne_130 ?_
                refine sx_dup2 dX3_breaksOne_131 ?_
                refine xs_ild (n := 208) dX3_breaksOne_132 rfl (by decide) (by first | omega | assumption | (with_reducible first | exact hR2 _ | exact hR _ | exact xch_R hR _ _ | exact am_R_or _ _ | exact am_R_shl _ _ | exact xkept_R hW _ _ | exact xwait_R hW _ _) | (exact ⟨by omega, by omega⟩)) (by first | omega | assumption | (with_reducible first | exact hR2 _ | exact hR _ | exact xch_R hR _ _ | exact am_R_or _ _ | exact am_R_shl _ _ | exact xkept_R hW _ _ | exact xwait_R hW _ _) | (exact ⟨by omega, by omega⟩)) rfl (fun r132 => ?_)
                refine sx_iload dX3_breaksOne_133 rfl ?_
                refine sx_if_eq (tgt := 142) dX3_breaksOne_135 (by decide) ⟨by decide, by decide⟩ (fun _ => ?_) (fun q => absurd q (by decide))
                refine sx_iconst dX3_breaksOne_142 ?_
                refine sx_isub dX3_breaksOne_143 ?_
                refine xs_ist (n := 208) dX3_breaksOne_144 rfl (by decide) (by omega) (by omega) rfl (by rw [hlo _ (by omega) (by omega)]; have q9 := hR (8 + 4 * c + 1).toNat; first | exact ⟨by have := q9.1; omega, by have := q9.2; omega⟩ | (have q8 : 0 < S (8 + 4 * c + 1).toNat := c59; exact ⟨by omega, by have := q9.2; omega⟩)) ?_
                obtain ⟨T2, hT2⟩ : ∃ T2, T2 = xbr2 S c row := ⟨_, rfl⟩
                refine sx_heq (xh h0 X T2) (by rw [hT2]; unfold xbr2; rw [← hT1]; (repeat' split) <;> first | contradiction | (exfalso; omega) | rfl | (congr 2; omega) | (simp_all; done)) ?_
                refine xs_vh (fun hR2 _ => ?_)
                refine sx_aload_n dX3_breaksOne_145 rfl ?_
                refine xs_getr (j := 1) dX3_breaksOne_146 fl_X3_7 (by decide) rfl ?_
                refine sx_bipush dX3_breaksOne_149 rfl ?_
                refine sx_iconst dX3_breaksOne_151 ?_
                refine sx_iload_n dX3_breaksOne_152 rfl ?_
                refine sx_imul dX3_breaksOne_153 ?_
                refine sx_iadd dX3_breaksOne_154 ?_
                refine sx_iconst dX3_breaksOne_155 ?_
                refine sx_iadd dX3_breaksOne_156 ?_
                refine sx_dup2 dX3_breaksOne_157 ?_
                refine xs_ild (n := 208) dX3_breaksOne_158 rfl (by decide) (by first | omega | assumption | (with_reducible first | exact hR2 _ | exact hR _ | exact xch_R hR _ _ | exact am_R_or _ _ | exact am_R_shl _ _ | exact xkept_R hW _ _ | exact xwait_R hW _ _) | (exact ⟨by omega, by omega⟩)) (by first | omega | assumption | (with_reducible first | exact hR2 _ | exact hR _ | exact xch_R hR _ _ | exact am_R_or _ _ | exact am_R_shl _ _ | exact xkept_R hW _ _ | exact xwait_R hW _ _) | (exact ⟨by omega, by omega⟩)) rfl (fun r158 => ?_)
                refine sx_iload dX3_breaksOne_159 rfl ?_
                refine sx_if_eq (tgt := 168) dX3_breaksOne_161 (by decide) ⟨by decide, by decide⟩ (fun _ => ?_) (fun q => absurd q (by decide))
                refine sx_iconst dX3_breaksOne_168 ?_
                refine sx_iload_n dX3_breaksOne_169 rfl ?_
                refine sx_ishl dX3_breaksOne_170 ?_
                refine sx_ior dX3_breaksOne_171 ?_
                refine xs_ist (n := 208) dX3_breaksOne_172 rfl (by decide) (by first | omega | assumption | (with_reducible first | exact hR2 _ | exact hR _ | exact xch_R hR _ _ | exact am_R_or _ _ | exact am_R_shl _ _ | exact xkept_R hW _ _ | exact xwait_R hW _ _) | (exact ⟨by omega, by omega⟩)) (by first | omega | assumption | (with_reducible first | exact hR2 _ | exact hR _ | exact xch_R hR _ _ | exact am_R_or _ _ | exact am_R_shl _ _ | exact xkept_R hW _ _ | exact xwait_R hW _ _) | (exact ⟨by omega, by omega⟩)) rfl (by first | omega | assumption | (with_reducible first | exact hR2 _ | exact hR _ | exact xch_R hR _ _ | exact am_R_or _ _ | exact am_R_shl _ _ | exact xkept_R hW _ _ | exact xwait_R hW _ _) | (exact ⟨by omega, by omega⟩)) ?_
                refine sx_heq (xh h0 X (xbrS S c row)) (by unfold xbrS; rw [← hT2]; (repeat' split) <;> first | contradiction | (exfalso; omega) | rfl | (congr 2; omega) | (simp_all; done)) ?_
                have hWk : WX (xbrS S c row) := WX_brS hW hc8
                refine sx_aload_n dX3_breaksOne_173 rfl ?_
                refine sx_callVi dX3_breaksOne_174 ml_X3_106 mv3_lost (tx_lost hWk) rfl am_obX rfl (Nat.le_of_ble_eq_true rfl) (Nat.le_of_ble_eq_true rfl) ?_
                refine sx_iload_n dX3_breaksOne_177 rfl ?_
                refine sx_isub dX3_breaksOne_178 ?_
                exact sx_iret dX3_breaksOne_179 rfl (by unfold xbreaks; (repeat' split) <;> first | contradiction | (exfalso; omega) | rfl | (congr 2; omega) | (simp_all; done)) (by unfold xbreaks; (repeat' split) <;> first | contradiction | (exfalso; omega) | rfl | (congr 2; omega) | (simp_all; done))
              · -- 108f
                refine sx_aload_n dX3_breaksOne_111 rfl ?_
                refine sx_iload dX3_breaksOne_112 rfl ?_
                refine sx_iload dX3_breaksOne_114 rfl ?_
                refine sx_callVv dX3_breaksOne_116 ml_X3_110 mv3_falls (tx_falls _ _ hW (by have q1 := xkept_b hW c row; omega) (by first | exact Or.inl rfl | exact Or.inr rfl) (by omega)) rfl am_obX rfl (Nat.le_of_ble_eq_true rfl) (Nat.le_of_ble_eq_true rfl) ?_
                obtain ⟨T1, hT1⟩ : ∃ T1, T1 = xbr1 S c row := ⟨_, rfl⟩
                refine sx_heq (xh h0 X T1) (by rw [hT1]; unfold xbr1; (repeat' split) <;> first | contradiction | (exfalso; omega) | rfl | (congr 2; omega) | (simp_all; done)) ?_
                have hlo : ∀ m, m < 40 → m ≠ 4 → T1 m = S m := fun m h h4 => by rw [hT1]; exact xbr1_lo hW h h4
                refine xs_vh (fun hR2 _ => ?_)
                refine sx_aload_n dX3_breaksOne_119 rfl ?_
                refine xs_getr (j := 1) dX3_breaksOne_120 fl_X3_7 (by decide) rfl ?_
                refine sx_bipush dX3_breaksOne_123 rfl ?_
                refine sx_iconst dX3_breaksOne_125 ?_
                refine sx_iload_n dX3_breaksOne_126 rfl ?_
                refine sx_imul dX3_breaksOne_127 ?_
                refine sx_iadd dX3_breaksOne_128 ?_
                refine sx_iconst dX3_breaksOne_129 ?_
                refine sx_iadd dX3_breaksOne_130 ?_
                refine sx_dup2 dX3_breaksOne_131 ?_
                refine xs_ild (n := 208) dX3_breaksOne_132 rfl (by decide) (by first | omega | assumption | (with_reducible first | exact hR2 _ | exact hR _ | exact xch_R hR _ _ | exact am_R_or _ _ | exact am_R_shl _ _ | exact xkept_R hW _ _ | exact xwait_R hW _ _) | (exact ⟨by omega, by omega⟩)) (by first | omega | assumption | (with_reducible first | exact hR2 _ | exact hR _ | exact xch_R hR _ _ | exact am_R_or _ _ | exact am_R_shl _ _ | exact xkept_R hW _ _ | exact xwait_R hW _ _) | (exact ⟨by omega, by omega⟩)) rfl (fun r132 => ?_)
                refine sx_iload dX3_breaksOne_133 rfl ?_
                refine sx_if_eq (tgt := 142) dX3_breaksOne_135 (by decide) ⟨by decide, by decide⟩ (fun _ => ?_) (fun q => absurd q (by decide))
                refine sx_iconst dX3_breaksOne_142 ?_
                refine sx_isub dX3_breaksOne_143 ?_
                refine xs_ist (n := 208) dX3_breaksOne_144 rfl (by decide) (by omega) (by omega) rfl (by rw [hlo _ (by omega) (by omega)]; have q9 := hR (8 + 4 * c + 1).toNat; first | exact ⟨by have := q9.1; omega, by have := q9.2; omega⟩ | (have q8 : 0 < S (8 + 4 * c + 1).toNat := c59; exact ⟨by omega, by have := q9.2; omega⟩)) ?_
                obtain ⟨T2, hT2⟩ : ∃ T2, T2 = xbr2 S c row := ⟨_, rfl⟩
                refine sx_heq (xh h0 X T2) (by rw [hT2]; unfold xbr2; rw [← hT1]; (repeat' split) <;> first | contradiction | (exfalso; omega) | rfl | (congr 2; omega) | (simp_all; done)) ?_
                refine xs_vh (fun hR2 _ => ?_)
                refine sx_aload_n dX3_breaksOne_145 rfl ?_
                refine xs_getr (j := 1) dX3_breaksOne_146 fl_X3_7 (by decide) rfl ?_
                refine sx_bipush dX3_breaksOne_149 rfl ?_
                refine sx_iconst dX3_breaksOne_151 ?_
                refine sx_iload_n dX3_breaksOne_152 rfl ?_
                refine sx_imul dX3_breaksOne_153 ?_
                refine sx_iadd dX3_breaksOne_154 ?_
                refine sx_iconst dX3_breaksOne_155 ?_
                refine sx_iadd dX3_breaksOne_156 ?_
                refine sx_dup2 dX3_breaksOne_157 ?_
                refine xs_ild (n := 208) dX3_breaksOne_158 rfl (by decide) (by first | omega | assumption | (with_reducible first | exact hR2 _ | exact hR _ | exact xch_R hR _ _ | exact am_R_or _ _ | exact am_R_shl _ _ | exact xkept_R hW _ _ | exact xwait_R hW _ _) | (exact ⟨by omega, by omega⟩)) (by first | omega | assumption | (with_reducible first | exact hR2 _ | exact hR _ | exact xch_R hR _ _ | exact am_R_or _ _ | exact am_R_shl _ _ | exact xkept_R hW _ _ | exact xwait_R hW _ _) | (exact ⟨by omega, by omega⟩)) rfl (fun r158 => ?_)
                refine sx_iload dX3_breaksOne_159 rfl ?_
                refine sx_if_eq (tgt := 168) dX3_breaksOne_161 (by decide) ⟨by decide, by decide⟩ (fun _ => ?_) (fun q => absurd q (by decide))
                refine sx_iconst dX3_breaksOne_168 ?_
                refine sx_iload_n dX3_breaksOne_169 rfl ?_
                refine sx_ishl dX3_breaksOne_170 ?_
                refine sx_ior dX3_breaksOne_171 ?_
                refine xs_ist (n := 208) dX3_breaksOne_172 rfl (by decide) (by first | omega | assumption | (with_reducible first | exact hR2 _ | exact hR _ | exact xch_R hR _ _ | exact am_R_or _ _ | exact am_R_shl _ _ | exact xkept_R hW _ _ | exact xwait_R hW _ _) | (exact ⟨by omega, by omega⟩)) (by first | omega | assumption | (with_reducible first | exact hR2 _ | exact hR _ | exact xch_R hR _ _ | exact am_R_or _ _ | exact am_R_shl _ _ | exact xkept_R hW _ _ | exact xwait_R hW _ _) | (exact ⟨by omega, by omega⟩)) rfl (by first | omega | assumption | (with_reducible first | exact hR2 _ | exact hR _ | exact xch_R hR _ _ | exact am_R_or _ _ | exact am_R_shl _ _ | exact xkept_R hW _ _ | exact xwait_R hW _ _) | (exact ⟨by omega, by omega⟩)) ?_
                refine sx_heq (xh h0 X (xbrS S c row)) (by unfold xbrS; rw [← hT2]; (repeat' split) <;> first | contradiction | (exfalso; omega) | rfl | (congr 2; omega) | (simp_all; done)) ?_
                have hWk : WX (xbrS S c row) := WX_brS hW hc8
                refine sx_aload_n dX3_breaksOne_173 rfl ?_
                refine sx_callVi dX3_breaksOne_174 ml_X3_106 mv3_lost (tx_lost hWk) rfl am_obX rfl (Nat.le_of_ble_eq_true rfl) (Nat.le_of_ble_eq_true rfl) ?_
                refine sx_iload_n dX3_breaksOne_177 rfl ?_
                refine sx_isub dX3_breaksOne_178 ?_
                exact sx_iret dX3_breaksOne_179 rfl (by unfold xbreaks; (repeat' split) <;> first | contradiction | (exfalso; omega) | rfl | (congr 2; omega) | (simp_all; done)) (by unfold xbreaks; (repeat' split) <;> first | contradiction | (exfalso; omega) | rfl | (congr 2; omega) | (simp_all; done))
            · -- 74f
              refine sx_aload_n dX3_breaksOne_77 rfl ?_
              refine sx_aload_n dX3_breaksOne_78 rfl ?_
              refine sx_iload_n dX3_breaksOne_79 rfl ?_
              refine sx_iconst dX3_breaksOne_80 ?_
              refine sx_callVi dX3_breaksOne_81 ml_X3_36 mv3_ch (tx_ch _ _ (by first | omega | assumption | (with_reducible first | exact hR2 _ | exact hR _ | exact xch_R hR _ _ | exact am_R_or _ _ | exact am_R_shl _ _ | exact xkept_R hW _ _ | exact xwait_R hW _ _) | (exact ⟨by omega, by omega⟩)) (by first | omega | assumption | (with_reducible first | exact hR2 _ | exact hR _ | exact xch_R hR _ _ | exact am_R_or _ _ | exact am_R_shl _ _ | exact xkept_R hW _ _ | exact xwait_R hW _ _) | (exact ⟨by omega, by omega⟩))) rfl am_obX rfl (Nat.le_of_ble_eq_true rfl) (Nat.le_of_ble_eq_true rfl) ?_
              refine sx_iload_n dX3_breaksOne_84 rfl ?_
              refine sx_callVi dX3_breaksOne_85 ml_X3_62 mv3_waiting (tx_waiting _ _ hW (by first | omega | assumption | (with_reducible first | exact hR2 _ | exact hR _ | exact xch_R hR _ _ | exact am_R_or _ _ | exact am_R_shl _ _ | exact xkept_R hW _ _ | exact xwait_R hW _ _) | (exact ⟨by omega, by omega⟩)) (by first | omega | assumption | (with_reducible first | exact hR2 _ | exact hR _ | exact xch_R hR _ _ | exact am_R_or _ _ | exact am_R_shl _ _ | exact xkept_R hW _ _ | exact xwait_R hW _ _) | (exact ⟨by omega, by omega⟩))) rfl am_obX rfl (Nat.le_of_ble_eq_true rfl) (Nat.le_of_ble_eq_true rfl) ?_
              refine sx_istore dX3_breaksOne_88 (by decide) ?_
              refine sx_iload dX3_breaksOne_90 rfl ?_
              refine sx_if_lt (tgt := 103) dX3_breaksOne_92 (by decide) (by first | omega | assumption | (with_reducible first | exact hR2 _ | exact hR _ | exact xch_R hR _ _ | exact am_R_or _ _ | exact am_R_shl _ _ | exact xkept_R hW _ _ | exact xwait_R hW _ _) | (exact ⟨by omega, by omega⟩)) (fun c92 => ?_) (fun c92 => ?_)
              · -- 92t
                refine sx_goto (tgt := 119) dX3_breaksOne_103 (by decide) ?_
                obtain ⟨T1, hT1⟩ : ∃ T1, T1 = xbr1 S c row := ⟨_, rfl⟩
                refine sx_heq (xh h0 X T1) (by rw [hT1]; unfold xbr1; (repeat' split) <;> first | contradiction | (exfalso; omega) | rfl | (congr 2; omega) | (simp_all; done)) ?_
                have hlo : ∀ m, m < 40 → m ≠ 4 → T1 m = S m := fun m h h4 => by rw [hT1]; exact xbr1_lo hW h h4
                refine xs_vh (fun hR2 _ => ?_)
                refine sx_aload_n dX3_breaksOne_119 rfl ?_
                refine xs_getr (j := 1) dX3_breaksOne_120 fl_X3_7 (by decide) rfl ?_
                refine sx_bipush dX3_breaksOne_123 rfl ?_
                refine sx_iconst dX3_breaksOne_125 ?_
                refine sx_iload_n dX3_breaksOne_126 rfl ?_
                refine sx_imul dX3_breaksOne_127 ?_
                refine sx_iadd dX3_breaksOne_128 ?_
                refine sx_iconst dX3_breaksOne_129 ?_
                refine sx_iadd dX3_breaksOne_130 ?_
                refine sx_dup2 dX3_breaksOne_131 ?_
                refine xs_ild (n := 208) dX3_breaksOne_132 rfl (by decide) (by first | omega | assumption | (with_reducible first | exact hR2 _ | exact hR _ | exact xch_R hR _ _ | exact am_R_or _ _ | exact am_R_shl _ _ | exact xkept_R hW _ _ | exact xwait_R hW _ _) | (exact ⟨by omega, by omega⟩)) (by first | omega | assumption | (with_reducible first | exact hR2 _ | exact hR _ | exact xch_R hR _ _ | exact am_R_or _ _ | exact am_R_shl _ _ | exact xkept_R hW _ _ | exact xwait_R hW _ _) | (exact ⟨by omega, by omega⟩)) rfl (fun r132 => ?_)
                refine sx_iload dX3_breaksOne_133 rfl ?_
                refine sx_if_eq (tgt := 142) dX3_breaksOne_135 (by decide) ⟨by decide, by decide⟩ (fun _ => ?_) (fun q => absurd q (by decide))
                refine sx_iconst dX3_breaksOne_142 ?_
                refine sx_isub dX3_breaksOne_143 ?_
                refine xs_ist (n := 208) dX3_breaksOne_144 rfl (by decide) (by omega) (by omega) rfl (by rw [hlo _ (by omega) (by omega)]; have q9 := hR (8 + 4 * c + 1).toNat; first | exact ⟨by have := q9.1; omega, by have := q9.2; omega⟩ | (have q8 : 0 < S (8 + 4 * c + 1).toNat := c59; exact ⟨by omega, by have := q9.2; omega⟩)) ?_
                obtain ⟨T2, hT2⟩ : ∃ T2, T2 = xbr2 S c row := ⟨_, rfl⟩
                refine sx_heq (xh h0 X T2) (by rw [hT2]; unfold xbr2; rw [← hT1]; (repeat' split) <;> first | contradiction | (exfalso; omega) | rfl | (congr 2; omega) | (simp_all; done)) ?_
                refine xs_vh (fun hR2 _ => ?_)
                refine sx_aload_n dX3_breaksOne_145 rfl ?_
                refine xs_getr (j := 1) dX3_breaksOne_146 fl_X3_7 (by decide) rfl ?_
                refine sx_bipush dX3_breaksOne_149 rfl ?_
                refine sx_iconst dX3_breaksOne_151 ?_
                refine sx_iload_n dX3_breaksOne_152 rfl ?_
                refine sx_imul dX3_breaksOne_153 ?_
                refine sx_iadd dX3_breaksOne_154 ?_
                refine sx_iconst dX3_breaksOne_155 ?_
                refine sx_iadd dX3_breaksOne_156 ?_
                refine sx_dup2 dX3_breaksOne_157 ?_
                refine xs_ild (n := 208) dX3_breaksOne_158 rfl (by decide) (by first | omega | assumption | (with_reducible first | exact hR2 _ | exact hR _ | exact xch_R hR _ _ | exact am_R_or _ _ | exact am_R_shl _ _ | exact xkept_R hW _ _ | exact xwait_R hW _ _) | (exact ⟨by omega, by omega⟩)) (by first | omega | assumption | (with_reducible first | exact hR2 _ | exact hR _ | exact xch_R hR _ _ | exact am_R_or _ _ | exact am_R_shl _ _ | exact xkept_R hW _ _ | exact xwait_R hW _ _) | (exact ⟨by omega, by omega⟩)) rfl (fun r158 => ?_)
                refine sx_iload dX3_breaksOne_159 rfl ?_
                refine sx_if_eq (tgt := 168) dX3_breaksOne_161 (by decide) ⟨by decide, by decide⟩ (fun _ => ?_) (fun q => absurd q (by decide))
                refine sx_iconst dX3_breaksOne_168 ?_
                refine sx_iload_n dX3_breaksOne_169 rfl ?_
                refine sx_ishl dX3_breaksOne_170 ?_
                refine sx_ior dX3_breaksOne_171 ?_
                refine xs_ist (n := 208) dX3_breaksOne_172 rfl (by decide) (by first | omega | assumption | (with_reducible first | exact hR2 _ | exact hR _ | exact xch_R hR _ _ | exact am_R_or _ _ | exact am_R_shl _ _ | exact xkept_R hW _ _ | exact xwait_R hW _ _) | (exact ⟨by omega, by omega⟩)) (by first | omega | assumption | (with_reducible first | exact hR2 _ | exact hR _ | exact xch_R hR _ _ | exact am_R_or _ _ | exact am_R_shl _ _ | exact xkept_R hW _ _ | exact xwait_R hW _ _) | (exact ⟨by omega, by omega⟩)) rfl (by first | omega | assumption | (with_reducible first | exact hR2 _ | exact hR _ | exact xch_R hR _ _ | exact am_R_or _ _ | exact am_R_shl _ _ | exact xkept_R hW _ _ | exact xwait_R hW _ _) | (exact ⟨by omega, by omega⟩)) ?_
                refine sx_heq (xh h0 X (xbrS S c row)) (by unfold xbrS; rw [← hT2]; (repeat' split) <;> first | contradiction | (exfalso; omega) | rfl | (congr 2; omega) | (simp_all; done)) ?_
                have hWk : WX (xbrS S c row) := WX_brS hW hc8
                refine sx_aload_n dX3_breaksOne_173 rfl ?_
                refine sx_callVi dX3_breaksOne_174 ml_X3_106 mv3_lost (tx_lost hWk) rfl am_obX rfl (Nat.le_of_ble_eq_true rfl) (Nat.le_of_ble_eq_true rfl) ?_
                refine sx_iload_n dX3_breaksOne_177 rfl ?_
                refine sx_isub dX3_breaksOne_178 ?_
                exact sx_iret dX3_breaksOne_179 rfl (by unfold xbreaks; (repeat' split) <;> first | contradiction | (exfalso; omega) | rfl | (congr 2; omega) | (simp_all; done)) (by unfold xbreaks; (repeat' split) <;> first | contradiction | (exfalso; omega) | rfl | (congr 2; omega) | (simp_all; done))
              · -- 92f
                refine sx_aload_n dX3_breaksOne_95 rfl ?_
                refine sx_iload dX3_breaksOne_96 rfl ?_
                refine sx_iconst dX3_breaksOne_98 ?_
                refine sx_iconst dX3_breaksOne_99 ?_
                refine sx_callVv dX3_breaksOne_100 ml_X3_72 mv3_lays (tx_lays _ _ _ (by have q1 := xwait_b hW (xch S c 0) row; omega) (by decide) ⟨by decide, by decide⟩) rfl am_obX rfl (Nat.le_of_ble_eq_true rfl) (Nat.le_of_ble_eq_true rfl) ?_
                refine sx_goto (tgt := 119) dX3_breaksOne_103 (by decide) ?_
                obtain ⟨T1, hT1⟩ : ∃ T1, T1 = xbr1 S c row := ⟨_, rfl⟩
                refine sx_heq (xh h0 X T1) (by rw [hT1]; unfold xbr1; (repeat' split) <;> first | contradiction | (exfalso; omega) | rfl | (congr 2; omega) | (simp_all; done)) ?_
                have hlo : ∀ m, m < 40 → m ≠ 4 → T1 m = S m := fun m h h4 => by rw [hT1]; exact xbr1_lo hW h h4
                refine xs_vh (fun hR2 _ => ?_)
                refine sx_aload_n dX3_breaksOne_119 rfl ?_
                refine xs_getr (j := 1) dX3_breaksOne_120 fl_X3_7 (by decide) rfl ?_
                refine sx_bipush dX3_breaksOne_123 rfl ?_
                refine sx_iconst dX3_breaksOne_125 ?_
                refine sx_iload_n dX3_breaksOne_126 rfl ?_
                refine sx_imul dX3_breaksOne_127 ?_
                refine sx_iadd dX3_breaksOne_128 ?_
                refine sx_iconst dX3_breaksOne_129 ?_
                refine sx_iadd dX3_breaksOne_130 ?_
                refine sx_dup2 dX3_breaksOne_131 ?_
                refine xs_ild (n := 208) dX3_breaksOne_132 rfl (by decide) (by first | omega | assumption | (with_reducible first | exact hR2 _ | exact hR _ | exact xch_R hR _ _ | exact am_R_or _ _ | exact am_R_shl _ _ | exact xkept_R hW _ _ | exact xwait_R hW _ _) | (exact ⟨by omega, by omega⟩)) (by first | omega | assumption | (with_reducible first | exact hR2 _ | exact hR _ | exact xch_R hR _ _ | exact am_R_or _ _ | exact am_R_shl _ _ | exact xkept_R hW _ _ | exact xwait_R hW _ _) | (exact ⟨by omega, by omega⟩)) rfl (fun r132 => ?_)
                refine sx_iload dX3_breaksOne_133 rfl ?_
                refine sx_if_eq (tgt := 142) dX3_breaksOne_135 (by decide) ⟨by decide, by decide⟩ (fun _ => ?_) (fun q => absurd q (by decide))
                refine sx_iconst dX3_breaksOne_142 ?_
                refine sx_isub dX3_breaksOne_143 ?_
                refine xs_ist (n := 208) dX3_breaksOne_144 rfl (by decide) (by omega) (by omega) rfl (by rw [hlo _ (by omega) (by omega)]; have q9 := hR (8 + 4 * c + 1).toNat; first | exact ⟨by have := q9.1; omega, by have := q9.2; omega⟩ | (have q8 : 0 < S (8 + 4 * c + 1).toNat := c59; exact ⟨by omega, by have := q9.2; omega⟩)) ?_
                obtain ⟨T2, hT2⟩ : ∃ T2, T2 = xbr2 S c row := ⟨_, rfl⟩
                refine sx_heq (xh h0 X T2) (by rw [hT2]; unfold xbr2; rw [← hT1]; (repeat' split) <;> first | contradiction | (exfalso; omega) | rfl | (congr 2; omega) | (simp_all; done)) ?_
                refine xs_vh (fun hR2 _ => ?_)
                refine sx_aload_n dX3_breaksOne_145 rfl ?_
                refine xs_getr (j := 1) dX3_breaksOne_146 fl_X3_7 (by decide) rfl ?_
                refine sx_bipush dX3_breaksOne_149 rfl ?_
                refine sx_iconst dX3_breaksOne_151 ?_
                refine sx_iload_n dX3_breaksOne_152 rfl ?_
                refine sx_imul dX3_breaksOne_153 ?_
                refine sx_iadd dX3_breaksOne_154 ?_
                refine sx_iconst dX3_breaksOne_155 ?_
                refine sx_iadd dX3_breaksOne_156 ?_
                refine sx_dup2 dX3_breaksOne_157 ?_
                refine xs_ild (n := 208) dX3_breaksOne_158 rfl (by decide) (by first | omega | assumption | (with_reducible first | exact hR2 _ | exact hR _ | exact xch_R hR _ _ | exact am_R_or _ _ | exact am_R_shl _ _ | exact xkept_R hW _ _ | exact xwait_R hW _ _) | (exact ⟨by omega, by omega⟩)) (by first | omega | assumption | (with_reducible first | exact hR2 _ | exact hR _ | exact xch_R hR _ _ | exact am_R_or _ _ | exact am_R_shl _ _ | exact xkept_R hW _ _ | exact xwait_R hW _ _) | (exact ⟨by omega, by omega⟩)) rfl (fun r158 => ?_)
                refine sx_iload dX3_breaksOne_159 rfl ?_
                refine sx_if_eq (tgt := 168) dX3_breaksOne_161 (by decide) ⟨by decide, by decide⟩ (fun _ => ?_) (fun q => absurd q (by decide))
                refine sx_iconst dX3_breaksOne_168 ?_
                refine sx_iload_n dX3_breaksOne_169 rfl ?_
                refine sx_ishl dX3_breaksOne_170 ?_
                refine sx_ior dX3_breaksOne_171 ?_
                refine xs_ist (n := 208) dX3_breaksOne_172 rfl (by decide) (by first | omega | assumption | (with_reducible first | exact hR2 _ | exact hR _ | exact xch_R hR _ _ | exact am_R_or _ _ | exact am_R_shl _ _ | exact xkept_R hW _ _ | exact xwait_R hW _ _) | (exact ⟨by omega, by omega⟩)) (by first | omega | assumption | (with_reducible first | exact hR2 _ | exact hR _ | exact xch_R hR _ _ | exact am_R_or _ _ | exact am_R_shl _ _ | exact xkept_R hW _ _ | exact xwait_R hW _ _) | (exact ⟨by omega, by omega⟩)) rfl (by first | omega | assumption | (with_reducible first | exact hR2 _ | exact hR _ | exact xch_R hR _ _ | exact am_R_or _ _ | exact am_R_shl _ _ | exact xkept_R hW _ _ | exact xwait_R hW _ _) | (exact ⟨by omega, by omega⟩)) ?_
                refine sx_heq (xh h0 X (xbrS S c row)) (by unfold xbrS; rw [← hT2]; (repeat' split) <;> first | contradiction | (exfalso; omega) | rfl | (congr 2; omega) | (simp_all; done)) ?_
                have hWk : WX (xbrS S c row) := WX_brS hW hc8
                refine sx_aload_n dX3_breaksOne_173 rfl ?_
                refine sx_callVi dX3_breaksOne_174 ml_X3_106 mv3_lost (tx_lost hWk) rfl am_obX rfl (Nat.le_of_ble_eq_true rfl) (Nat.le_of_ble_eq_true rfl) ?_
                refine sx_iload_n dX3_breaksOne_177 rfl ?_
                refine sx_isub dX3_breaksOne_178 ?_
                exact sx_iret dX3_breaksOne_179 rfl (by unfold xbreaks; (repeat' split) <;> first | contradiction | (exfalso; omega) | rfl | (congr 2; omega) | (simp_all; done)) (by unfold xbreaks; (repeat' split) <;> first | contradiction | (exfalso; omega) | rfl | (congr 2; omega) | (simp_all; done))
          · -- 59f
            refine sx_iconst dX3_breaksOne_62 ?_
            refine sx_goto (tgt := 67) dX3_breaksOne_63 (by decide) ?_
            refine sx_istore dX3_breaksOne_67 (by decide) ?_
            refine sx_aload_n dX3_breaksOne_69 rfl ?_
            refine sx_iload_n dX3_breaksOne_70 rfl ?_
            refine sx_callVi dX3_breaksOne_71 ml_X3_56 mv3_isGodfather (tx_isGodfather _ hW (by first | omega | assumption | (with_reducible first | exact hR2 _ | exact hR _ | exact xch_R hR _ _ | exact am_R_or _ _ | exact am_R_shl _ _ | exact xkept_R hW _ _ | exact xwait_R hW _ _) | (exact ⟨by omega, by omega⟩)) (by first | omega | assumption | (with_reducible first | exact hR2 _ | exact hR _ | exact xch_R hR _ _ | exact am_R_or _ _ | exact am_R_shl _ _ | exact xkept_R hW _ _ | exact xwait_R hW _ _) | (exact ⟨by omega, by omega⟩))) rfl am_obX rfl (Nat.le_of_ble_eq_true rfl) (Nat.le_of_ble_eq_true rfl) ?_
            refine sx_ifB_eq (tgt := 106) dX3_breaksOne_74 (by decide) (fun c74 => ?_) (fun c74 => ?_)
            · -- 74t
              refine sx_iload dX3_breaksOne_106 rfl ?_
              refine sx_if_lt (tgt := 119) dX3_breaksOne_108 (by decide) (by first | omega | assumption | (with_reducible first | exact hR2 _ | exact hR _ | exact xch_R hR _ _ | exact am_R_or _ _ | exact am_R_shl _ _ | exact xkept_R hW _ _ | exact xwait_R hW _ _) | (exact ⟨by omega, by omega⟩)) (fun c108 => ?_) (fun c108 => ?_)
              · -- 108t
                obtain ⟨T1, hT1⟩ : ∃ T1, T1 = xbr1 S c row := ⟨_, rfl⟩
                refine sx_heq (xh h0 X T1) (by rw [hT1]; unfold xbr1; (repeat' split) <;> first | contradiction | (exfalso; omega) | rfl | (congr 2; omega) | (simp_all; done)) ?_
                have hlo : ∀ m, m < 40 → m ≠ 4 → T1 m = S m := fun m h h4 => by rw [hT1]; exact xbr1_lo hW h h4
                refine xs_vh (fun hR2 _ => ?_)
                refine sx_aload_n dX3_breaksOne_119 rfl ?_
                refine xs_getr (j := 1) dX3_breaksOne_120 fl_X3_7 (by decide) rfl ?_
                refine sx_bipush dX3_breaksOne_123 rfl ?_
                refine sx_iconst dX3_breaksOne_125 ?_
                refine sx_iload_n dX3_breaksOne_126 rfl ?_
                refine sx_imul dX3_breaksOne_127 ?_
                refine sx_iadd dX3_breaksOne_128 ?_
                refine sx_iconst dX3_breaksOne_129 ?_
                refine sx_iadd dX3_breaksOne_130 ?_
                refine sx_dup2 dX3_breaksOne_131 ?_
                refine xs_ild (n := 208) dX3_breaksOne_132 rfl (by decide) (by first | omega | assumption | (with_reducible first | exact hR2 _ | exact hR _ | exact xch_R hR _ _ | exact am_R_or _ _ | exact am_R_shl _ _ | exact xkept_R hW _ _ | exact xwait_R hW _ _) | (exact ⟨by omega, by omega⟩)) (by first | omega | assumption | (with_reducible first | exact hR2 _ | exact hR _ | exact xch_R hR _ _ | exact am_R_or _ _ | exact am_R_shl _ _ | exact xkept_R hW _ _ | exact xwait_R hW _ _) | (exact ⟨by omega, by omega⟩)) rfl (fun r132 => ?_)
                refine sx_iload dX3_breaksOne_133 rfl ?_
                refine sx_if_eq (tgt := 142) dX3_breaksOne_135 (by decide) ⟨by decide, by decide⟩ (fun q => absurd q (by decide)) (fun _ => ?_)
                refine sx_iconst dX3_breaksOne_138 ?_
                refine sx_goto (tgt := 143) dX3_breaksOne_139 (by decide) ?_
                refine sx_isub dX3_breaksOne_143 ?_
                refine xs_ist (n := 208) dX3_breaksOne_144 rfl (by decide) (by omega) (by omega) rfl (by rw [hlo _ (by omega) (by omega)]; have q9 := hR (8 + 4 * c + 1).toNat; first | exact ⟨by have := q9.1; omega, by have := q9.2; omega⟩ | (have q8 : 0 < S (8 + 4 * c + 1).toNat := c59; exact ⟨by omega, by have := q9.2; omega⟩)) ?_
                obtain ⟨T2, hT2⟩ : ∃ T2, T2 = xbr2 S c row := ⟨_, rfl⟩
                refine sx_heq (xh h0 X T2) (by rw [hT2]; unfold xbr2; rw [← hT1]; (repeat' split) <;> first | contradiction | (exfalso; omega) | rfl | (congr 2; omega) | (simp_all; done)) ?_
                refine xs_vh (fun hR2 _ => ?_)
                refine sx_aload_n dX3_breaksOne_145 rfl ?_
                refine xs_getr (j := 1) dX3_breaksOne_146 fl_X3_7 (by decide) rfl ?_
                refine sx_bipush dX3_breaksOne_149 rfl ?_
                refine sx_iconst dX3_breaksOne_151 ?_
                refine sx_iload_n dX3_breaksOne_152 rfl ?_
                refine sx_imul dX3_breaksOne_153 ?_
                refine sx_iadd dX3_breaksOne_154 ?_
                refine sx_iconst dX3_breaksOne_155 ?_
                refine sx_iadd dX3_breaksOne_156 ?_
                refine sx_dup2 dX3_breaksOne_157 ?_
                refine xs_ild (n := 208) dX3_breaksOne_158 rfl (by decide) (by first | omega | assumption | (with_reducible first | exact hR2 _ | exact hR _ | exact xch_R hR _ _ | exact am_R_or _ _ | exact am_R_shl _ _ | exact xkept_R hW _ _ | exact xwait_R hW _ _) | (exact ⟨by omega, by omega⟩)) (by first | omega | assumption | (with_reducible first | exact hR2 _ | exact hR _ | exact xch_R hR _ _ | exact am_R_or _ _ | exact am_R_shl _ _ | exact xkept_R hW _ _ | exact xwait_R hW _ _) | (exact ⟨by omega, by omega⟩)) rfl (fun r158 => ?_)
                refine sx_iload dX3_breaksOne_159 rfl ?_
                refine sx_if_eq (tgt := 168) dX3_breaksOne_161 (by decide) ⟨by decide, by decide⟩ (fun q => absurd q (by decide)) (fun _ => ?_)
                refine sx_iconst dX3_breaksOne_164 ?_
                refine sx_goto (tgt := 171) dX3_breaksOne_165 (by decide) ?_
                refine sx_ior dX3_breaksOne_171 ?_
                refine xs_ist (n := 208) dX3_breaksOne_172 rfl (by decide) (by first | omega | assumption | (with_reducible first | exact hR2 _ | exact hR _ | exact xch_R hR _ _ | exact am_R_or _ _ | exact am_R_shl _ _ | exact xkept_R hW _ _ | exact xwait_R hW _ _) | (exact ⟨by omega, by omega⟩)) (by first | omega | assumption | (with_reducible first | exact hR2 _ | exact hR _ | exact xch_R hR _ _ | exact am_R_or _ _ | exact am_R_shl _ _ | exact xkept_R hW _ _ | exact xwait_R hW _ _) | (exact ⟨by omega, by omega⟩)) rfl (by first | omega | assumption | (with_reducible first | exact hR2 _ | exact hR _ | exact xch_R hR _ _ | exact am_R_or _ _ | exact am_R_shl _ _ | exact xkept_R hW _ _ | exact xwait_R hW _ _) | (exact ⟨by omega, by omega⟩)) ?_
                refine sx_heq (xh h0 X (xbrS S c row)) (by unfold xbrS; rw [← hT2]; (repeat' split) <;> first | contradiction | (exfalso; omega) | rfl | (congr 2; omega) | (simp_all; done)) ?_
                have hWk : WX (xbrS S c row) := WX_brS hW hc8
                refine sx_aload_n dX3_breaksOne_173 rfl ?_
                refine sx_callVi dX3_breaksOne_174 ml_X3_106 mv3_lost (tx_lost hWk) rfl am_obX rfl (Nat.le_of_ble_eq_true rfl) (Nat.le_of_ble_eq_true rfl) ?_
                refine sx_iload_n dX3_breaksOne_177 rfl ?_
                refine sx_isub dX3_breaksOne_178 ?_
                exact sx_iret dX3_breaksOne_179 rfl (by unfold xbreaks; (repeat' split) <;> first | contradiction | (exfalso; omega) | rfl | (congr 2; omega) | (simp_all; done)) (by unfold xbreaks; (repeat' split) <;> first | contradiction | (exfalso; omega) | rfl | (congr 2; omega) | (simp_all; done))
              · -- 108f
                refine sx_aload_n dX3_breaksOne_111 rfl ?_
                refine sx_iload dX3_breaksOne_112 rfl ?_
                refine sx_iload dX3_breaksOne_114 rfl ?_
                refine sx_callVv dX3_breaksOne_116 ml_X3_110 mv3_falls (tx_falls _ _ hW (by have q1 := xkept_b hW c row; omega) (by first | exact Or.inl rfl | exact Or.inr rfl) (by omega)) rfl am_obX rfl (Nat.le_of_ble_eq_true rfl) (Nat.le_of_ble_eq_true rfl) ?_
                obtain ⟨T1, hT1⟩ : ∃ T1, T1 = xbr1 S c row := ⟨_, rfl⟩
                refine sx_heq (xh h0 X T1) (by rw [hT1]; unfold xbr1; (repeat' split) <;> first | contradiction | (exfalso; omega) | rfl | (congr 2; omega) | (simp_all; done)) ?_
                have hlo : ∀ m, m < 40 → m ≠ 4 → T1 m = S m := fun m h h4 => by rw [hT1]; exact xbr1_lo hW h h4
                refine xs_vh (fun hR2 _ => ?_)
                refine sx_aload_n dX3_breaksOne_119 rfl ?_
                refine xs_getr (j := 1) dX3_breaksOne_120 fl_X3_7 (by decide) rfl ?_
                refine sx_bipush dX3_breaksOne_123 rfl ?_
                refine sx_iconst dX3_breaksOne_125 ?_
                refine sx_iload_n dX3_breaksOne_126 rfl ?_
                refine sx_imul dX3_breaksOne_127 ?_
                refine sx_iadd dX3_breaksOne_128 ?_
                refine sx_iconst dX3_breaksOne_129 ?_
                refine sx_iadd dX3_breaksOne_130 ?_
                refine sx_dup2 dX3_breaksOne_131 ?_
                refine xs_ild (n := 208) dX3_breaksOne_132 rfl (by decide) (by first | omega | assumption | (with_reducible first | exact hR2 _ | exact hR _ | exact xch_R hR _ _ | exact am_R_or _ _ | exact am_R_shl _ _ | exact xkept_R hW _ _ | exact xwait_R hW _ _) | (exact ⟨by omega, by omega⟩)) (by first | omega | assumption | (with_reducible first | exact hR2 _ | exact hR _ | exact xch_R hR _ _ | exact am_R_or _ _ | exact am_R_shl _ _ | exact xkept_R hW _ _ | exact xwait_R hW _ _) | (exact ⟨by omega, by omega⟩)) rfl (fun r132 => ?_)
                refine sx_iload dX3_breaksOne_133 rfl ?_
                refine sx_if_eq (tgt := 142) dX3_breaksOne_135 (by decide) ⟨by decide, by decide⟩ (fun q => absurd q (by decide)) (fun _ => ?_)
                refine sx_iconst dX3_breaksOne_138 ?_
                refine sx_goto (tgt := 143) dX3_breaksOne_139 (by decide) ?_
                refine sx_isub dX3_breaksOne_143 ?_
                refine xs_ist (n := 208) dX3_breaksOne_144 rfl (by decide) (by omega) (by omega) rfl (by rw [hlo _ (by omega) (by omega)]; have q9 := hR (8 + 4 * c + 1).toNat; first | exact ⟨by have := q9.1; omega, by have := q9.2; omega⟩ | (have q8 : 0 < S (8 + 4 * c + 1).toNat := c59; exact ⟨by omega, by have := q9.2; omega⟩)) ?_
                obtain ⟨T2, hT2⟩ : ∃ T2, T2 = xbr2 S c row := ⟨_, rfl⟩
                refine sx_heq (xh h0 X T2) (by rw [hT2]; unfold xbr2; rw [← hT1]; (repeat' split) <;> first | contradiction | (exfalso; omega) | rfl | (congr 2; omega) | (simp_all; done)) ?_
                refine xs_vh (fun hR2 _ => ?_)
                refine sx_aload_n dX3_breaksOne_145 rfl ?_
                refine xs_getr (j := 1) dX3_breaksOne_146 fl_X3_7 (by decide) rfl ?_
                refine sx_bipush dX3_breaksOne_149 rfl ?_
                refine sx_iconst dX3_breaksOne_151 ?_
                refine sx_iload_n dX3_breaksOne_152 rfl ?_
                refine sx_imul dX3_breaksOne_153 ?_
                refine sx_iadd dX3_breaksOne_154 ?_
                refine sx_iconst dX3_breaksOne_155 ?_
                refine sx_iadd dX3_breaksOne_156 ?_
                refine sx_dup2 dX3_breaksOne_157 ?_
                refine xs_ild (n := 208) dX3_breaksOne_158 rfl (by decide) (by first | omega | assumption | (with_reducible first | exact hR2 _ | exact hR _ | exact xch_R hR _ _ | exact am_R_or _ _ | exact am_R_shl _ _ | exact xkept_R hW _ _ | exact xwait_R hW _ _) | (exact ⟨by omega, by omega⟩)) (by first | omega | assumption | (with_reducible first | exact hR2 _ | exact hR _ | exact xch_R hR _ _ | exact am_R_or _ _ | exact am_R_shl _ _ | exact xkept_R hW _ _ | exact xwait_R hW _ _) | (exact ⟨by omega, by omega⟩)) rfl (fun r158 => ?_)
                refine sx_iload dX3_breaksOne_159 rfl ?_
                refine sx_if_eq (tgt := 168) dX3_breaksOne_161 (by decide) ⟨by decide, by decide⟩ (fun q => absurd q (by decide)) (fun _ => ?_)
                refine sx_iconst dX3_breaksOne_164 ?_
                refine sx_goto (tgt := 171) dX3_breaksOne_165 (by decide) ?_
                refine sx_ior dX3_breaksOne_171 ?_
                refine xs_ist (n := 208) dX3_breaksOne_172 rfl (by decide) (by first | omega | assumption | (with_reducible first | exact hR2 _ | exact hR _ | exact xch_R hR _ _ | exact am_R_or _ _ | exact am_R_shl _ _ | exact xkept_R hW _ _ | exact xwait_R hW _ _) | (exact ⟨by omega, by omega⟩)) (by first | omega | assumption | (with_reducible first | exact hR2 _ | exact hR _ | exact xch_R hR _ _ | exact am_R_or _ _ | exact am_R_shl _ _ | exact xkept_R hW _ _ | exact xwait_R hW _ _) | (exact ⟨by omega, by omega⟩)) rfl (by first | omega | assumption | (with_reducible first | exact hR2 _ | exact hR _ | exact xch_R hR _ _ | exact am_R_or _ _ | exact am_R_shl _ _ | exact xkept_R hW _ _ | exact xwait_R hW _ _) | (exact ⟨by omega, by omega⟩)) ?_
                refine sx_heq (xh h0 X (xbrS S c row)) (by unfold xbrS; rw [← hT2]; (repeat' split) <;> first | contradiction | (exfalso; omega) | rfl | (congr 2; omega) | (simp_all; done)) ?_
                have hWk : WX (xbrS S c row) := WX_brS hW hc8
                refine sx_aload_n dX3_breaksOne_173 rfl ?_
                refine sx_callVi dX3_breaksOne_174 ml_X3_106 mv3_lost (tx_lost hWk) rfl am_obX rfl (Nat.le_of_ble_eq_true rfl) (Nat.le_of_ble_eq_true rfl) ?_
                refine sx_iload_n dX3_breaksOne_177 rfl ?_
                refine sx_isub dX3_breaksOne_178 ?_
                exact sx_iret dX3_breaksOne_179 rfl (by unfold xbreaks; (repeat' split) <;> first | contradiction | (exfalso; omega) | rfl | (congr 2; omega) | (simp_all; done)) (by unfold xbreaks; (repeat' split) <;> first | contradiction | (exfalso; omega) | rfl | (congr 2; omega) | (simp_all; done))
            · -- 74f
              refine sx_aload_n dX3_breaksOne_77 rfl ?_
              refine sx_aload_n dX3_breaksOne_78 rfl ?_
              refine sx_iload_n dX3_breaksOne_79 rfl ?_
              refine sx_iconst dX3_breaksOne_80 ?_
              refine sx_callVi dX3_breaksOne_81 ml_X3_36 mv3_ch (tx_ch _ _ (by first | omega | assumption | (with_reducible first | exact hR2 _ | exact hR _ | exact xch_R hR _ _ | exact am_R_or _ _ | exact am_R_shl _ _ | exact xkept_R hW _ _ | exact xwait_R hW _ _) | (exact ⟨by omega, by omega⟩)) (by first | omega | assumption | (with_reducible first | exact hR2 _ | exact hR _ | exact xch_R hR _ _ | exact am_R_or _ _ | exact am_R_shl _ _ | exact xkept_R hW _ _ | exact xwait_R hW _ _) | (exact ⟨by omega, by omega⟩))) rfl am_obX rfl (Nat.le_of_ble_eq_true rfl) (Nat.le_of_ble_eq_true rfl) ?_
              refine sx_iload_n dX3_breaksOne_84 rfl ?_
              refine sx_callVi dX3_breaksOne_85 ml_X3_62 mv3_waiting (tx_waiting _ _ hW (by first | omega | assumption | (with_reducible first | exact hR2 _ | exact hR _ | exact xch_R hR _ _ | exact am_R_or _ _ | exact am_R_shl _ _ | exact xkept_R hW _ _ | exact xwait_R hW _ _) | (exact ⟨by omega, by omega⟩)) (by first | omega | assumption | (with_reducible first | exact hR2 _ | exact hR _ | exact xch_R hR _ _ | exact am_R_or _ _ | exact am_R_shl _ _ | exact xkept_R hW _ _ | exact xwait_R hW _ _) | (exact ⟨by omega, by omega⟩))) rfl am_obX rfl (Nat.le_of_ble_eq_true rfl) (Nat.le_of_ble_eq_true rfl) ?_
              refine sx_istore dX3_breaksOne_88 (by decide) ?_
              refine sx_iload dX3_breaksOne_90 rfl ?_
              refine sx_if_lt (tgt := 103) dX3_breaksOne_92 (by decide) (by first | omega | assumption | (with_reducible first | exact hR2 _ | exact hR _ | exact xch_R hR _ _ | exact am_R_or _ _ | exact am_R_shl _ _ | exact xkept_R hW _ _ | exact xwait_R hW _ _) | (exact ⟨by omega, by omega⟩)) (fun c92 => ?_) (fun c92 => ?_)
              · -- 92t
                refine sx_goto (tgt := 119) dX3_breaksOne_103 (by decide) ?_
                obtain ⟨T1, hT1⟩ : ∃ T1, T1 = xbr1 S c row := ⟨_, rfl⟩
                refine sx_heq (xh h0 X T1) (by rw [hT1]; unfold xbr1; (repeat' split) <;> first | contradiction | (exfalso; omega) | rfl | (congr 2; omega) | (simp_all; done)) ?_
                have hlo : ∀ m, m < 40 → m ≠ 4 → T1 m = S m := fun m h h4 => by rw [hT1]; exact xbr1_lo hW h h4
                refine xs_vh (fun hR2 _ => ?_)
                refine sx_aload_n dX3_breaksOne_119 rfl ?_
                refine xs_getr (j := 1) dX3_breaksOne_120 fl_X3_7 (by decide) rfl ?_
                refine sx_bipush dX3_breaksOne_123 rfl ?_
                refine sx_iconst dX3_breaksOne_125 ?_
                refine sx_iload_n dX3_breaksOne_126 rfl ?_
                refine sx_imul dX3_breaksOne_127 ?_
                refine sx_iadd dX3_breaksOne_128 ?_
                refine sx_iconst dX3_breaksOne_129 ?_
                refine sx_iadd dX3_breaksOne_130 ?_
                refine sx_dup2 dX3_breaksOne_131 ?_
                refine xs_ild (n := 208) dX3_breaksOne_132 rfl (by decide) (by first | omega | assumption | (with_reducible first | exact hR2 _ | exact hR _ | exact xch_R hR _ _ | exact am_R_or _ _ | exact am_R_shl _ _ | exact xkept_R hW _ _ | exact xwait_R hW _ _) | (exact ⟨by omega, by omega⟩)) (by first | omega | assumption | (with_reducible first | exact hR2 _ | exact hR _ | exact xch_R hR _ _ | exact am_R_or _ _ | exact am_R_shl _ _ | exact xkept_R hW _ _ | exact xwait_R hW _ _) | (exact ⟨by omega, by omega⟩)) rfl (fun r132 => ?_)
                refine sx_iload dX3_breaksOne_133 rfl ?_
                refine sx_if_eq (tgt := 142) dX3_breaksOne_135 (by decide) ⟨by decide, by decide⟩ (fun q => absurd q (by decide)) (fun _ => ?_)
                refine sx_iconst dX3_breaksOne_138 ?_
                refine sx_goto (tgt := 143) dX3_breaksOne_139 (by decide) ?_
                refine sx_isub dX3_breaksOne_143 ?_
                refine xs_ist (n := 208) dX3_breaksOne_144 rfl (by decide) (by omega) (by omega) rfl (by rw [hlo _ (by omega) (by omega)]; have q9 := hR (8 + 4 * c + 1).toNat; first | exact ⟨by have := q9.1; omega, by have := q9.2; omega⟩ | (have q8 : 0 < S (8 + 4 * c + 1).toNat := c59; exact ⟨by omega, by have := q9.2; omega⟩)) ?_
                obtain ⟨T2, hT2⟩ : ∃ T2, T2 = xbr2 S c row := ⟨_, rfl⟩
                refine sx_heq (xh h0 X T2) (by rw [hT2]; unfold xbr2; rw [← hT1]; (repeat' split) <;> first | contradiction | (exfalso; omega) | rfl | (congr 2; omega) | (simp_all; done)) ?_
                refine xs_vh (fun hR2 _ => ?_)
                refine sx_aload_n dX3_breaksOne_145 rfl ?_
                refine xs_getr (j := 1) dX3_breaksOne_146 fl_X3_7 (by decide) rfl ?_
                refine sx_bipush dX3_breaksOne_149 rfl ?_
                refine sx_iconst dX3_breaksOne_151 ?_
                refine sx_iload_n dX3_breaksOne_152 rfl ?_
                refine sx_imul dX3_breaksOne_153 ?_
                refine sx_iadd dX3_breaksOne_154 ?_
                refine sx_iconst dX3_breaksOne_155 ?_
                refine sx_iadd dX3_breaksOne_156 ?_
                refine sx_dup2 dX3_breaksOne_157 ?_
                refine xs_ild (n := 208) dX3_breaksOne_158 rfl (by decide) (by first | omega | assumption | (with_reducible first | exact hR2 _ | exact hR _ | exact xch_R hR _ _ | exact am_R_or _ _ | exact am_R_shl _ _ | exact xkept_R hW _ _ | exact xwait_R hW _ _) | (exact ⟨by omega, by omega⟩)) (by first | omega | assumption | (with_reducible first | exact hR2 _ | exact hR _ | exact xch_R hR _ _ | exact am_R_or _ _ | exact am_R_shl _ _ | exact xkept_R hW _ _ | exact xwait_R hW _ _) | (exact ⟨by omega, by omega⟩)) rfl (fun r158 => ?_)
                refine sx_iload dX3_breaksOne_159 rfl ?_
                refine sx_if_eq (tgt := 168) dX3_breaksOne_161 (by decide) ⟨by decide, by decide⟩ (fun q => absurd q (by decide)) (fun _ => ?_)
                refine sx_iconst dX3_breaksOne_164 ?_
                refine sx_goto (tgt := 171) dX3_breaksOne_165 (by decide) ?_
                refine sx_ior dX3_breaksOne_171 ?_
                refine xs_ist (n := 208) dX3_breaksOne_172 rfl (by decide) (by first | omega | assumption | (with_reducible first | exact hR2 _ | exact hR _ | exact xch_R hR _ _ | exact am_R_or _ _ | exact am_R_shl _ _ | exact xkept_R hW _ _ | exact xwait_R hW _ _) | (exact ⟨by omega, by omega⟩)) (by first | omega | assumption | (with_reducible first | exact hR2 _ | exact hR _ | exact xch_R hR _ _ | exact am_R_or _ _ | exact am_R_shl _ _ | exact xkept_R hW _ _ | exact xwait_R hW _ _) | (exact ⟨by omega, by omega⟩)) rfl (by first | omega | assumption | (with_reducible first | exact hR2 _ | exact hR _ | exact xch_R hR _ _ | exact am_R_or _ _ | exact am_R_shl _ _ | exact xkept_R hW _ _ | exact xwait_R hW _ _) | (exact ⟨by omega, by omega⟩)) ?_
                refine sx_heq (xh h0 X (xbrS S c row)) (by unfold xbrS; rw [← hT2]; (repeat' split) <;> first | contradiction | (exfalso; omega) | rfl | (congr 2; omega) | (simp_all; done)) ?_
                have hWk : WX (xbrS S c row) := WX_brS hW hc8
                refine sx_aload_n dX3_breaksOne_173 rfl ?_
                refine sx_callVi dX3_breaksOne_174 ml_X3_106 mv3_lost (tx_lost hWk) rfl am_obX rfl (Nat.le_of_ble_eq_true rfl) (Nat.le_of_ble_eq_true rfl) ?_
                refine sx_iload_n dX3_breaksOne_177 rfl ?_
                refine sx_isub dX3_breaksOne_178 ?_
                exact sx_iret dX3_breaksOne_179 rfl (by unfold xbreaks; (repeat' split) <;> first | contradiction | (exfalso; omega) | rfl | (congr 2; omega) | (simp_all; done)) (by unfold xbreaks; (repeat' split) <;> first | contradiction | (exfalso; omega) | rfl | (congr 2; omega) | (simp_all; done))
              · -- 92f
                refine sx_aload_n dX3_breaksOne_95 rfl ?_
                refine sx_iload dX3_breaksOne_96 rfl ?_
                refine sx_iconst dX3_breaksOne_98 ?_
                refine sx_iconst dX3_breaksOne_99 ?_
                refine sx_callVv dX3_breaksOne_100 ml_X3_72 mv3_lays (tx_lays _ _ _ (by have q1 := xwait_b hW (xch S c 0) row; omega) (by decide) ⟨by decide, by decide⟩) rfl am_obX rfl (Nat.le_of_ble_eq_true rfl) (Nat.le_of_ble_eq_true rfl) ?_
                refine sx_goto (tgt := 119) dX3_breaksOne_103 (by decide) ?_
                obtain ⟨T1, hT1⟩ : ∃ T1, T1 = xbr1 S c row := ⟨_, rfl⟩
                refine sx_heq (xh h0 X T1) (by rw [hT1]; unfold xbr1; (repeat' split) <;> first | contradiction | (exfalso; omega) | rfl | (congr 2; omega) | (simp_all; done)) ?_
                have hlo : ∀ m, m < 40 → m ≠ 4 → T1 m = S m := fun m h h4 => by rw [hT1]; exact xbr1_lo hW h h4
                refine xs_vh (fun hR2 _ => ?_)
                refine sx_aload_n dX3_breaksOne_119 rfl ?_
                refine xs_getr (j := 1) dX3_breaksOne_120 fl_X3_7 (by decide) rfl ?_
                refine sx_bipush dX3_breaksOne_123 rfl ?_
                refine sx_iconst dX3_breaksOne_125 ?_
                refine sx_iload_n dX3_breaksOne_126 rfl ?_
                refine sx_imul dX3_breaksOne_127 ?_
                refine sx_iadd dX3_breaksOne_128 ?_
                refine sx_iconst dX3_breaksOne_129 ?_
                refine sx_iadd dX3_breaksOne_130 ?_
                refine sx_dup2 dX3_breaksOne_131 ?_
                refine xs_ild (n := 208) dX3_breaksOne_132 rfl (by decide) (by first | omega | assumption | (with_reducible first | exact hR2 _ | exact hR _ | exact xch_R hR _ _ | exact am_R_or _ _ | exact am_R_shl _ _ | exact xkept_R hW _ _ | exact xwait_R hW _ _) | (exact ⟨by omega, by omega⟩)) (by first | omega | assumption | (with_reducible first | exact hR2 _ | exact hR _ | exact xch_R hR _ _ | exact am_R_or _ _ | exact am_R_shl _ _ | exact xkept_R hW _ _ | exact xwait_R hW _ _) | (exact ⟨by omega, by omega⟩)) rfl (fun r132 => ?_)
                refine sx_iload dX3_breaksOne_133 rfl ?_
                refine sx_if_eq (tgt := 142) dX3_breaksOne_135 (by decide) ⟨by decide, by decide⟩ (fun q => absurd q (by decide)) (fun _ => ?_)
                refine sx_iconst dX3_breaksOne_138 ?_
                refine sx_goto (tgt := 143) dX3_breaksOne_139 (by decide) ?_
                refine sx_isub dX3_breaksOne_143 ?_
                refine xs_ist (n := 208) dX3_breaksOne_144 rfl (by decide) (by omega) (by omega) rfl (by rw [hlo _ (by omega) (by omega)]; have q9 := hR (8 + 4 * c + 1).toNat; first | exact ⟨by have := q9.1; omega, by have := q9.2; omega⟩ | (have q8 : 0 < S (8 + 4 * c + 1).toNat := c59; exact ⟨by omega, by have := q9.2; omega⟩)) ?_
                obtain ⟨T2, hT2⟩ : ∃ T2, T2 = xbr2 S c row := ⟨_, rfl⟩
                refine sx_heq (xh h0 X T2) (by rw [hT2]; unfold xbr2; rw [← hT1]; (repeat' split) <;> first | contradiction | (exfalso; omega) | rfl | (congr 2; omega) | (simp_all; done)) ?_
                refine xs_vh (fun hR2 _ => ?_)
                refine sx_aload_n dX3_breaksOne_145 rfl ?_
                refine xs_getr (j := 1) dX3_breaksOne_146 fl_X3_7 (by decide) rfl ?_
                refine sx_bipush dX3_breaksOne_149 rfl ?_
                refine sx_iconst dX3_breaksOne_151 ?_
                refine sx_iload_n dX3_breaksOne_152 rfl ?_
                refine sx_imul dX3_breaksOne_153 ?_
                refine sx_iadd dX3_breaksOne_154 ?_
                refine sx_iconst dX3_breaksOne_155 ?_
                refine sx_iadd dX3_breaksOne_156 ?_
                refine sx_dup2 dX3_breaksOne_157 ?_
                refine xs_ild (n := 208) dX3_breaksOne_158 rfl (by decide) (by first | omega | assumption | (with_reducible first | exact hR2 _ | exact hR _ | exact xch_R hR _ _ | exact am_R_or _ _ | exact am_R_shl _ _ | exact xkept_R hW _ _ | exact xwait_R hW _ _) | (exact ⟨by omega, by omega⟩)) (by first | omega | assumption | (with_reducible first | exact hR2 _ | exact hR _ | exact xch_R hR _ _ | exact am_R_or _ _ | exact am_R_shl _ _ | exact xkept_R hW _ _ | exact xwait_R hW _ _) | (exact ⟨by omega, by omega⟩)) rfl (fun r158 => ?_)
                refine sx_iload dX3_breaksOne_159 rfl ?_
                refine sx_if_eq (tgt := 168) dX3_breaksOne_161 (by decide) ⟨by decide, by decide⟩ (fun q => absurd q (by decide)) (fun _ => ?_)
                refine sx_iconst dX3_breaksOne_164 ?_
                refine sx_goto (tgt := 171) dX3_breaksOne_165 (by decide) ?_
                refine sx_ior dX3_breaksOne_171 ?_
                refine xs_ist (n := 208) dX3_breaksOne_172 rfl (by decide) (by first | omega | assumption | (with_reducible first | exact hR2 _ | exact hR _ | exact xch_R hR _ _ | exact am_R_or _ _ | exact am_R_shl _ _ | exact xkept_R hW _ _ | exact xwait_R hW _ _) | (exact ⟨by omega, by omega⟩)) (by first | omega | assumption | (with_reducible first | exact hR2 _ | exact hR _ | exact xch_R hR _ _ | exact am_R_or _ _ | exact am_R_shl _ _ | exact xkept_R hW _ _ | exact xwait_R hW _ _) | (exact ⟨by omega, by omega⟩)) rfl (by first | omega | assumption | (with_reducible first | exact hR2 _ | exact hR _ | exact xch_R hR _ _ | exact am_R_or _ _ | exact am_R_shl _ _ | exact xkept_R hW _ _ | exact xwait_R hW _ _) | (exact ⟨by omega, by omega⟩)) ?_
                refine sx_heq (xh h0 X (xbrS S c row)) (by unfold xbrS; rw [← hT2]; (repeat' split) <;> first | contradiction | (exfalso; omega) | rfl | (congr 2; omega) | (simp_all; done)) ?_
                have hWk : WX (xbrS S c row) := WX_brS hW hc8
                refine sx_aload_n dX3_breaksOne_173 rfl ?_
                refine sx_callVi dX3_breaksOne_174 ml_X3_106 mv3_lost (tx_lost hWk) rfl am_obX rfl (Nat.le_of_ble_eq_true rfl) (Nat.le_of_ble_eq_true rfl) ?_
                refine sx_iload_n dX3_breaksOne_177 rfl ?_
                refine sx_isub dX3_breaksOne_178 ?_
                exact sx_iret dX3_breaksOne_179 rfl (by unfold xbreaks; (repeat' split) <;> first | contradiction | (exfalso; omega) | rfl | (congr 2; omega) | (simp_all; done)) (by unfold xbreaks; (repeat' split) <;> first | contradiction | (exfalso; omega) | rfl | (congr 2; omega) | (simp_all; done))
        · -- 34f
          refine sx_ldc dX3_breaksOne_37 kc_X3_96 ?_
          exact sx_iret dX3_breaksOne_39 rfl (by unfold xbreaks; (repeat' split) <;> first | contradiction | (exfalso; omega) | rfl | (congr 2; omega) | (simp_all; done)) (by unfold xbreaks; (repeat' split) <;> first | contradiction | (exfalso; omega) | rfl | (congr 2; omega) | (simp_all; done))
    · -- 14f
      refine sx_ldc dX3_breaksOne_17 kc_X3_40 ?_
      exact sx_iret dX3_breaksOne_19 rfl (by unfold xbreaks; (repeat' split) <;> first | contradiction | (exfalso; omega) | rfl | (congr 2; omega) | (simp_all; done)) (by unfold xbreaks; (repeat' split) <;> first | contradiction | (exfalso; omega) | rfl | (congr 2; omega) | (simp_all; done))
end
