section
-- ===== PART A: goes FIRST, ahead of the names: the tables' words, and 'selects' of the private methods out of them =====
/-- a private method of a class that the tables say can be made, by its rows of tables_1 -/
def lw_okq (q : MethodName × Nat) : Prop := (q.1.cls ≠ "java/lang/invoke/MethodHandle" ∧ q.1.cls ≠ "java/lang/invoke/VarHandle") ∧ Cond.instantiable q.1.cls q.2 ∈ tables_1 ∧ Cond.privateMethod q.1 ∈ tables_1 ∧ Cond.instanceMethod q.1 ∈ tables_1
theorem lw_p0 : lw_okq (⟨"BiscuitLess", "putFourBytes", "(I)V"⟩, 12) := ⟨⟨by decide +kernel, by decide +kernel⟩, List.mem_of_getElem? (i := 25) (by decide +kernel), List.mem_of_getElem? (i := 391) (by decide +kernel), List.mem_of_getElem? (i := 392) (by decide +kernel)⟩
theorem lw_p1 : lw_okq (⟨"BiscuitLess", "refuse", "(I)I"⟩, 12) := ⟨⟨by decide +kernel, by decide +kernel⟩, List.mem_of_getElem? (i := 25) (by decide +kernel), List.mem_of_getElem? (i := 399) (by decide +kernel), List.mem_of_getElem? (i := 400) (by decide +kernel)⟩
theorem lw_p2 : lw_okq (⟨"BiscuitLess$Tokens", "advanceOverLetters", "()V"⟩, 7) := ⟨⟨by decide +kernel, by decide +kernel⟩, List.mem_of_getElem? (i := 226) (by decide +kernel), List.mem_of_getElem? (i := 426) (by decide +kernel), List.mem_of_getElem? (i := 427) (by decide +kernel)⟩
theorem lw_p3 : lw_okq (⟨"BiscuitLess$Tokens", "advanceOverDigits", "()V"⟩, 7) := ⟨⟨by decide +kernel, by decide +kernel⟩, List.mem_of_getElem? (i := 226) (by decide +kernel), List.mem_of_getElem? (i := 430) (by decide +kernel), List.mem_of_getElem? (i := 431) (by decide +kernel)⟩
theorem lw_p4 : lw_okq (⟨"BiscuitLess$Tokens", "advanceOverSign", "()V"⟩, 7) := ⟨⟨by decide +kernel, by decide +kernel⟩, List.mem_of_getElem? (i := 226) (by decide +kernel), List.mem_of_getElem? (i := 434) (by decide +kernel), List.mem_of_getElem? (i := 435) (by decide +kernel)⟩
theorem lw_p5 : lw_okq (⟨"BiscuitLess$Reader", "readsLine", "()Z"⟩, 7) := ⟨⟨by decide +kernel, by decide +kernel⟩, List.mem_of_getElem? (i := 200) (by decide +kernel), List.mem_of_getElem? (i := 438) (by decide +kernel), List.mem_of_getElem? (i := 439) (by decide +kernel)⟩
theorem lw_p6 : lw_okq (⟨"BiscuitLess$Reader", "readsMonths", "()Z"⟩, 7) := ⟨⟨by decide +kernel, by decide +kernel⟩, List.mem_of_getElem? (i := 200) (by decide +kernel), List.mem_of_getElem? (i := 443) (by decide +kernel), List.mem_of_getElem? (i := 444) (by decide +kernel)⟩
theorem lw_p7 : lw_okq (⟨"BiscuitLess$Reader", "fails", "(I)Z"⟩, 7) := ⟨⟨by decide +kernel, by decide +kernel⟩, List.mem_of_getElem? (i := 200) (by decide +kernel), List.mem_of_getElem? (i := 447) (by decide +kernel), List.mem_of_getElem? (i := 448) (by decide +kernel)⟩
theorem lw_p8 : lw_okq (⟨"BiscuitLess$Reader", "takesWhole", "(II)Z"⟩, 7) := ⟨⟨by decide +kernel, by decide +kernel⟩, List.mem_of_getElem? (i := 200) (by decide +kernel), List.mem_of_getElem? (i := 452) (by decide +kernel), List.mem_of_getElem? (i := 453) (by decide +kernel)⟩
theorem lw_p9 : lw_okq (⟨"BiscuitLess$Reader", "readsGroup", "()Z"⟩, 7) := ⟨⟨by decide +kernel, by decide +kernel⟩, List.mem_of_getElem? (i := 200) (by decide +kernel), List.mem_of_getElem? (i := 457) (by decide +kernel), List.mem_of_getElem? (i := 458) (by decide +kernel)⟩
theorem lw_p10 : lw_okq (⟨"BiscuitLess$Reader", "tellsName", "(II)Z"⟩, 7) := ⟨⟨by decide +kernel, by decide +kernel⟩, List.mem_of_getElem? (i := 200) (by decide +kernel), List.mem_of_getElem? (i := 461) (by decide +kernel), List.mem_of_getElem? (i := 462) (by decide +kernel)⟩
theorem lw_p11 : lw_okq (⟨"BiscuitLess$Reader", "isName", "()Z"⟩, 7) := ⟨⟨by decide +kernel, by decide +kernel⟩, List.mem_of_getElem? (i := 200) (by decide +kernel), List.mem_of_getElem? (i := 465) (by decide +kernel), List.mem_of_getElem? (i := 466) (by decide +kernel)⟩
theorem lw_p12 : lw_okq (⟨"BiscuitLess$Reader", "readsThing", "()Z"⟩, 7) := ⟨⟨by decide +kernel, by decide +kernel⟩, List.mem_of_getElem? (i := 200) (by decide +kernel), List.mem_of_getElem? (i := 480) (by decide +kernel), List.mem_of_getElem? (i := 481) (by decide +kernel)⟩
theorem lw_p13 : lw_okq (⟨"BiscuitLess$Reader", "takesWord", "(J)Z"⟩, 7) := ⟨⟨by decide +kernel, by decide +kernel⟩, List.mem_of_getElem? (i := 200) (by decide +kernel), List.mem_of_getElem? (i := 485) (by decide +kernel), List.mem_of_getElem? (i := 486) (by decide +kernel)⟩
theorem lw_p14 : lw_okq (⟨"BiscuitLess$Reader", "usesName", "(I)Z"⟩, 7) := ⟨⟨by decide +kernel, by decide +kernel⟩, List.mem_of_getElem? (i := 200) (by decide +kernel), List.mem_of_getElem? (i := 489) (by decide +kernel), List.mem_of_getElem? (i := 490) (by decide +kernel)⟩
theorem lw_p15 : lw_okq (⟨"BiscuitLess$Reader", "isToldName", "(I)Z"⟩, 7) := ⟨⟨by decide +kernel, by decide +kernel⟩, List.mem_of_getElem? (i := 200) (by decide +kernel), List.mem_of_getElem? (i := 493) (by decide +kernel), List.mem_of_getElem? (i := 494) (by decide +kernel)⟩
def lw_privs_1 : List (MethodName × Nat) := [(⟨"BiscuitLess", "putFourBytes", "(I)V"⟩, 12), (⟨"BiscuitLess", "refuse", "(I)I"⟩, 12), (⟨"BiscuitLess$Tokens", "advanceOverLetters", "()V"⟩, 7), (⟨"BiscuitLess$Tokens", "advanceOverDigits", "()V"⟩, 7), (⟨"BiscuitLess$Tokens", "advanceOverSign", "()V"⟩, 7), (⟨"BiscuitLess$Reader", "readsLine", "()Z"⟩, 7), (⟨"BiscuitLess$Reader", "readsMonths", "()Z"⟩, 7), (⟨"BiscuitLess$Reader", "fails", "(I)Z"⟩, 7), (⟨"BiscuitLess$Reader", "takesWhole", "(II)Z"⟩, 7), (⟨"BiscuitLess$Reader", "readsGroup", "()Z"⟩, 7), (⟨"BiscuitLess$Reader", "tellsName", "(II)Z"⟩, 7), (⟨"BiscuitLess$Reader", "isName", "()Z"⟩, 7), (⟨"BiscuitLess$Reader", "readsThing", "()Z"⟩, 7), (⟨"BiscuitLess$Reader", "takesWord", "(J)Z"⟩, 7), (⟨"BiscuitLess$Reader", "usesName", "(I)Z"⟩, 7), (⟨"BiscuitLess$Reader", "isToldName", "(I)Z"⟩, 7)]
theorem lw_r1 : ∀ q ∈ lw_privs_1, lw_okq q := List.forall_mem_cons.mpr ⟨lw_p0, List.forall_mem_cons.mpr ⟨lw_p1, List.forall_mem_cons.mpr ⟨lw_p2, List.forall_mem_cons.mpr ⟨lw_p3, List.forall_mem_cons.mpr ⟨lw_p4, List.forall_mem_cons.mpr ⟨lw_p5, List.forall_mem_cons.mpr ⟨lw_p6, List.forall_mem_cons.mpr ⟨lw_p7, List.forall_mem_cons.mpr ⟨lw_p8, List.forall_mem_cons.mpr ⟨lw_p9, List.forall_mem_cons.mpr ⟨lw_p10, List.forall_mem_cons.mpr ⟨lw_p11, List.forall_mem_cons.mpr ⟨lw_p12, List.forall_mem_cons.mpr ⟨lw_p13, List.forall_mem_cons.mpr ⟨lw_p14, List.forall_mem_cons.mpr ⟨lw_p15, fun _ h => absurd h List.not_mem_nil⟩⟩⟩⟩⟩⟩⟩⟩⟩⟩⟩⟩⟩⟩⟩⟩
theorem lw_p16 : lw_okq (⟨"BiscuitLess$Reader", "readsChange", "()Z"⟩, 7) := ⟨⟨by decide +kernel, by decide +kernel⟩, List.mem_of_getElem? (i := 200) (by decide +kernel), List.mem_of_getElem? (i := 505) (by decide +kernel), List.mem_of_getElem? (i := 506) (by decide +kernel)⟩
theorem lw_p17 : lw_okq (⟨"BiscuitLess$Reader", "takesOneOf", "([J)Z"⟩, 7) := ⟨⟨by decide +kernel, by decide +kernel⟩, List.mem_of_getElem? (i := 200) (by decide +kernel), List.mem_of_getElem? (i := 512) (by decide +kernel), List.mem_of_getElem? (i := 513) (by decide +kernel)⟩
theorem lw_p18 : lw_okq (⟨"BiscuitLess$Reader", "readsHouse", "()Z"⟩, 7) := ⟨⟨by decide +kernel, by decide +kernel⟩, List.mem_of_getElem? (i := 200) (by decide +kernel), List.mem_of_getElem? (i := 521) (by decide +kernel), List.mem_of_getElem? (i := 522) (by decide +kernel)⟩
theorem lw_p19 : lw_okq (⟨"BiscuitLess$Reader", "readsWants", "(LBiscuitLess$House;)Z"⟩, 7) := ⟨⟨by decide +kernel, by decide +kernel⟩, List.mem_of_getElem? (i := 200) (by decide +kernel), List.mem_of_getElem? (i := 528) (by decide +kernel), List.mem_of_getElem? (i := 529) (by decide +kernel)⟩
theorem lw_p20 : lw_okq (⟨"BiscuitLess$Reader", "readsOffice", "()Z"⟩, 7) := ⟨⟨by decide +kernel, by decide +kernel⟩, List.mem_of_getElem? (i := 200) (by decide +kernel), List.mem_of_getElem? (i := 533) (by decide +kernel), List.mem_of_getElem? (i := 534) (by decide +kernel)⟩
theorem lw_p21 : lw_okq (⟨"BiscuitLess$Reader", "isWhole", "()Z"⟩, 7) := ⟨⟨by decide +kernel, by decide +kernel⟩, List.mem_of_getElem? (i := 200) (by decide +kernel), List.mem_of_getElem? (i := 543) (by decide +kernel), List.mem_of_getElem? (i := 544) (by decide +kernel)⟩
theorem lw_p22 : lw_okq (⟨"BiscuitLess$Course", "followThing", "(I)V"⟩, 9) := ⟨⟨by decide +kernel, by decide +kernel⟩, List.mem_of_getElem? (i := 280) (by decide +kernel), List.mem_of_getElem? (i := 563) (by decide +kernel), List.mem_of_getElem? (i := 564) (by decide +kernel)⟩
theorem lw_p23 : lw_okq (⟨"BiscuitLess$Course", "applyChanges", "(II)V"⟩, 9) := ⟨⟨by decide +kernel, by decide +kernel⟩, List.mem_of_getElem? (i := 280) (by decide +kernel), List.mem_of_getElem? (i := 571) (by decide +kernel), List.mem_of_getElem? (i := 572) (by decide +kernel)⟩
theorem lw_p24 : lw_okq (⟨"BiscuitLess$Course", "applyChange", "(LBiscuitLess$Change;)V"⟩, 9) := ⟨⟨by decide +kernel, by decide +kernel⟩, List.mem_of_getElem? (i := 280) (by decide +kernel), List.mem_of_getElem? (i := 575) (by decide +kernel), List.mem_of_getElem? (i := 576) (by decide +kernel)⟩
theorem lw_p25 : lw_okq (⟨"BiscuitLess$Course", "followWant", "(II)V"⟩, 9) := ⟨⟨by decide +kernel, by decide +kernel⟩, List.mem_of_getElem? (i := 280) (by decide +kernel), List.mem_of_getElem? (i := 587) (by decide +kernel), List.mem_of_getElem? (i := 588) (by decide +kernel)⟩
theorem lw_p26 : lw_okq (⟨"BiscuitLess$Course", "staysWith", "(III)Z"⟩, 9) := ⟨⟨by decide +kernel, by decide +kernel⟩, List.mem_of_getElem? (i := 280) (by decide +kernel), List.mem_of_getElem? (i := 594) (by decide +kernel), List.mem_of_getElem? (i := 595) (by decide +kernel)⟩
theorem lw_p27 : lw_okq (⟨"BiscuitLess$Course", "bestOf", "(III)I"⟩, 9) := ⟨⟨by decide +kernel, by decide +kernel⟩, List.mem_of_getElem? (i := 280) (by decide +kernel), List.mem_of_getElem? (i := 598) (by decide +kernel), List.mem_of_getElem? (i := 599) (by decide +kernel)⟩
theorem lw_p28 : lw_okq (⟨"BiscuitLess$Course", "piecesFor", "(III)I"⟩, 9) := ⟨⟨by decide +kernel, by decide +kernel⟩, List.mem_of_getElem? (i := 280) (by decide +kernel), List.mem_of_getElem? (i := 602) (by decide +kernel), List.mem_of_getElem? (i := 603) (by decide +kernel)⟩
theorem lw_p29 : lw_okq (⟨"BiscuitLess$Course", "addUpPieces", "(I)V"⟩, 9) := ⟨⟨by decide +kernel, by decide +kernel⟩, List.mem_of_getElem? (i := 280) (by decide +kernel), List.mem_of_getElem? (i := 609) (by decide +kernel), List.mem_of_getElem? (i := 610) (by decide +kernel)⟩
theorem lw_p30 : lw_okq (⟨"BiscuitLess$Tally", "numberOf", "(II)I"⟩, 5) := ⟨⟨by decide +kernel, by decide +kernel⟩, List.mem_of_getElem? (i := 326) (by decide +kernel), List.mem_of_getElem? (i := 617) (by decide +kernel), List.mem_of_getElem? (i := 618) (by decide +kernel)⟩
theorem lw_p31 : lw_okq (⟨"BiscuitLess$Tally", "countOf", "(III)J"⟩, 5) := ⟨⟨by decide +kernel, by decide +kernel⟩, List.mem_of_getElem? (i := 326) (by decide +kernel), List.mem_of_getElem? (i := 629) (by decide +kernel), List.mem_of_getElem? (i := 630) (by decide +kernel)⟩
def lw_privs_2 : List (MethodName × Nat) := [(⟨"BiscuitLess$Reader", "readsChange", "()Z"⟩, 7), (⟨"BiscuitLess$Reader", "takesOneOf", "([J)Z"⟩, 7), (⟨"BiscuitLess$Reader", "readsHouse", "()Z"⟩, 7), (⟨"BiscuitLess$Reader", "readsWants", "(LBiscuitLess$House;)Z"⟩, 7), (⟨"BiscuitLess$Reader", "readsOffice", "()Z"⟩, 7), (⟨"BiscuitLess$Reader", "isWhole", "()Z"⟩, 7), (⟨"BiscuitLess$Course", "followThing", "(I)V"⟩, 9), (⟨"BiscuitLess$Course", "applyChanges", "(II)V"⟩, 9), (⟨"BiscuitLess$Course", "applyChange", "(LBiscuitLess$Change;)V"⟩, 9), (⟨"BiscuitLess$Course", "followWant", "(II)V"⟩, 9), (⟨"BiscuitLess$Course", "staysWith", "(III)Z"⟩, 9), (⟨"BiscuitLess$Course", "bestOf", "(III)I"⟩, 9), (⟨"BiscuitLess$Course", "piecesFor", "(III)I"⟩, 9), (⟨"BiscuitLess$Course", "addUpPieces", "(I)V"⟩, 9), (⟨"BiscuitLess$Tally", "numberOf", "(II)I"⟩, 5), (⟨"BiscuitLess$Tally", "countOf", "(III)J"⟩, 5)]
theorem lw_r2 : ∀ q ∈ lw_privs_2, lw_okq q := List.forall_mem_cons.mpr ⟨lw_p16, List.forall_mem_cons.mpr ⟨lw_p17, List.forall_mem_cons.mpr ⟨lw_p18, List.forall_mem_cons.mpr ⟨lw_p19, List.forall_mem_cons.mpr ⟨lw_p20, List.forall_mem_cons.mpr ⟨lw_p21, List.forall_mem_cons.mpr ⟨lw_p22, List.forall_mem_cons.mpr ⟨lw_p23, List.forall_mem_cons.mpr ⟨lw_p24, List.forall_mem_cons.mpr ⟨lw_p25, List.forall_mem_cons.mpr ⟨lw_p26, List.forall_mem_cons.mpr ⟨lw_p27, List.forall_mem_cons.mpr ⟨lw_p28, List.forall_mem_cons.mpr ⟨lw_p29, List.forall_mem_cons.mpr ⟨lw_p30, List.forall_mem_cons.mpr ⟨lw_p31, fun _ h => absurd h List.not_mem_nil⟩⟩⟩⟩⟩⟩⟩⟩⟩⟩⟩⟩⟩⟩⟩⟩
theorem lw_p32 : lw_okq (⟨"BiscuitLess$Tally", "isLeftOut", "(III)Z"⟩, 5) := ⟨⟨by decide +kernel, by decide +kernel⟩, List.mem_of_getElem? (i := 326) (by decide +kernel), List.mem_of_getElem? (i := 633) (by decide +kernel), List.mem_of_getElem? (i := 634) (by decide +kernel)⟩
theorem lw_p33 : lw_okq (⟨"BiscuitLess$Tally", "seenInstead", "(III)I"⟩, 5) := ⟨⟨by decide +kernel, by decide +kernel⟩, List.mem_of_getElem? (i := 326) (by decide +kernel), List.mem_of_getElem? (i := 638) (by decide +kernel), List.mem_of_getElem? (i := 639) (by decide +kernel)⟩
theorem lw_p34 : lw_okq (⟨"BiscuitLess$Tally", "seenPrice", "(III)J"⟩, 5) := ⟨⟨by decide +kernel, by decide +kernel⟩, List.mem_of_getElem? (i := 326) (by decide +kernel), List.mem_of_getElem? (i := 645) (by decide +kernel), List.mem_of_getElem? (i := 646) (by decide +kernel)⟩
theorem lw_p35 : lw_okq (⟨"BiscuitLess$Tally", "partInOwnMonth", "(IIII)J"⟩, 5) := ⟨⟨by decide +kernel, by decide +kernel⟩, List.mem_of_getElem? (i := 326) (by decide +kernel), List.mem_of_getElem? (i := 651) (by decide +kernel), List.mem_of_getElem? (i := 652) (by decide +kernel)⟩
theorem lw_p36 : lw_okq (⟨"BiscuitLess", "found", "(Z)Z"⟩, 12) := ⟨⟨by decide +kernel, by decide +kernel⟩, List.mem_of_getElem? (i := 25) (by decide +kernel), List.mem_of_getElem? (i := 699) (by decide +kernel), List.mem_of_getElem? (i := 700) (by decide +kernel)⟩
theorem lw_p37 : lw_okq (⟨"BiscuitLess", "isHouseMonth", "(II)Z"⟩, 12) := ⟨⟨by decide +kernel, by decide +kernel⟩, List.mem_of_getElem? (i := 25) (by decide +kernel), List.mem_of_getElem? (i := 708) (by decide +kernel), List.mem_of_getElem? (i := 709) (by decide +kernel)⟩
theorem lw_p38 : lw_okq (⟨"BiscuitLess$Course", "costOfBasket", "(III)J"⟩, 9) := ⟨⟨by decide +kernel, by decide +kernel⟩, List.mem_of_getElem? (i := 280) (by decide +kernel), List.mem_of_getElem? (i := 716) (by decide +kernel), List.mem_of_getElem? (i := 717) (by decide +kernel)⟩
theorem lw_p39 : lw_okq (⟨"BiscuitLess", "isOfficeMonth", "(II)Z"⟩, 12) := ⟨⟨by decide +kernel, by decide +kernel⟩, List.mem_of_getElem? (i := 25) (by decide +kernel), List.mem_of_getElem? (i := 750) (by decide +kernel), List.mem_of_getElem? (i := 751) (by decide +kernel)⟩
theorem lw_p40 : lw_okq (⟨"BiscuitLess$Course", "isAsAtFirst", "(II)Z"⟩, 9) := ⟨⟨by decide +kernel, by decide +kernel⟩, List.mem_of_getElem? (i := 280) (by decide +kernel), List.mem_of_getElem? (i := 778) (by decide +kernel), List.mem_of_getElem? (i := 779) (by decide +kernel)⟩
theorem lw_p41 : lw_okq (⟨"BiscuitLess$Course", "isWorth", "(IIIII)Z"⟩, 9) := ⟨⟨by decide +kernel, by decide +kernel⟩, List.mem_of_getElem? (i := 280) (by decide +kernel), List.mem_of_getElem? (i := 855) (by decide +kernel), List.mem_of_getElem? (i := 856) (by decide +kernel)⟩
theorem lw_p42 : lw_okq (⟨"BiscuitLess", "whyNoTrial", "(IIIZ)I"⟩, 12) := ⟨⟨by decide +kernel, by decide +kernel⟩, List.mem_of_getElem? (i := 25) (by decide +kernel), List.mem_of_getElem? (i := 872) (by decide +kernel), List.mem_of_getElem? (i := 873) (by decide +kernel)⟩
theorem lw_p43 : lw_okq (⟨"BiscuitLess", "tryOut", "(IIII)V"⟩, 12) := ⟨⟨by decide +kernel, by decide +kernel⟩, List.mem_of_getElem? (i := 25) (by decide +kernel), List.mem_of_getElem? (i := 880) (by decide +kernel), List.mem_of_getElem? (i := 881) (by decide +kernel)⟩
theorem lw_p44 : lw_okq (⟨"BiscuitLess", "trialGain", "(IIII)I"⟩, 12) := ⟨⟨by decide +kernel, by decide +kernel⟩, List.mem_of_getElem? (i := 25) (by decide +kernel), List.mem_of_getElem? (i := 892) (by decide +kernel), List.mem_of_getElem? (i := 893) (by decide +kernel)⟩
theorem lw_p45 : lw_okq (⟨"BiscuitLess", "isHidden", "(III)Z"⟩, 12) := ⟨⟨by decide +kernel, by decide +kernel⟩, List.mem_of_getElem? (i := 25) (by decide +kernel), List.mem_of_getElem? (i := 896) (by decide +kernel), List.mem_of_getElem? (i := 897) (by decide +kernel)⟩
theorem lw_p46 : lw_okq (⟨"BiscuitLess$Tally", "sumOver", "(I[J)J"⟩, 5) := ⟨⟨by decide +kernel, by decide +kernel⟩, List.mem_of_getElem? (i := 326) (by decide +kernel), List.mem_of_getElem? (i := 919) (by decide +kernel), List.mem_of_getElem? (i := 920) (by decide +kernel)⟩
theorem lw_p47 : lw_okq (⟨"BiscuitLess$Course", "isLedIn", "(II)Z"⟩, 9) := ⟨⟨by decide +kernel, by decide +kernel⟩, List.mem_of_getElem? (i := 280) (by decide +kernel), List.mem_of_getElem? (i := 951) (by decide +kernel), List.mem_of_getElem? (i := 952) (by decide +kernel)⟩
def lw_privs_3 : List (MethodName × Nat) := [(⟨"BiscuitLess$Tally", "isLeftOut", "(III)Z"⟩, 5), (⟨"BiscuitLess$Tally", "seenInstead", "(III)I"⟩, 5), (⟨"BiscuitLess$Tally", "seenPrice", "(III)J"⟩, 5), (⟨"BiscuitLess$Tally", "partInOwnMonth", "(IIII)J"⟩, 5), (⟨"BiscuitLess", "found", "(Z)Z"⟩, 12), (⟨"BiscuitLess", "isHouseMonth", "(II)Z"⟩, 12), (⟨"BiscuitLess$Course", "costOfBasket", "(III)J"⟩, 9), (⟨"BiscuitLess", "isOfficeMonth", "(II)Z"⟩, 12), (⟨"BiscuitLess$Course", "isAsAtFirst", "(II)Z"⟩, 9), (⟨"BiscuitLess$Course", "isWorth", "(IIIII)Z"⟩, 9), (⟨"BiscuitLess", "whyNoTrial", "(IIIZ)I"⟩, 12), (⟨"BiscuitLess", "tryOut", "(IIII)V"⟩, 12), (⟨"BiscuitLess", "trialGain", "(IIII)I"⟩, 12), (⟨"BiscuitLess", "isHidden", "(III)Z"⟩, 12), (⟨"BiscuitLess$Tally", "sumOver", "(I[J)J"⟩, 5), (⟨"BiscuitLess$Course", "isLedIn", "(II)Z"⟩, 9)]
theorem lw_r3 : ∀ q ∈ lw_privs_3, lw_okq q := List.forall_mem_cons.mpr ⟨lw_p32, List.forall_mem_cons.mpr ⟨lw_p33, List.forall_mem_cons.mpr ⟨lw_p34, List.forall_mem_cons.mpr ⟨lw_p35, List.forall_mem_cons.mpr ⟨lw_p36, List.forall_mem_cons.mpr ⟨lw_p37, List.forall_mem_cons.mpr ⟨lw_p38, List.forall_mem_cons.mpr ⟨lw_p39, List.forall_mem_cons.mpr ⟨lw_p40, List.forall_mem_cons.mpr ⟨lw_p41, List.forall_mem_cons.mpr ⟨lw_p42, List.forall_mem_cons.mpr ⟨lw_p43, List.forall_mem_cons.mpr ⟨lw_p44, List.forall_mem_cons.mpr ⟨lw_p45, List.forall_mem_cons.mpr ⟨lw_p46, List.forall_mem_cons.mpr ⟨lw_p47, fun _ h => absurd h List.not_mem_nil⟩⟩⟩⟩⟩⟩⟩⟩⟩⟩⟩⟩⟩⟩⟩⟩
theorem lw_p48 : lw_okq (⟨"java/lang/Throwable", "fillInStackTrace", "(I)Ljava/lang/Throwable;"⟩, 6) := ⟨⟨by decide +kernel, by decide +kernel⟩, List.mem_of_getElem? (i := 991) (by decide +kernel), List.mem_of_getElem? (i := 989) (by decide +kernel), List.mem_of_getElem? (i := 990) (by decide +kernel)⟩
theorem lw_p49 : lw_okq (⟨"BiscuitLessModel", "refused", "(I)I"⟩, 22) := ⟨⟨by decide +kernel, by decide +kernel⟩, List.mem_of_getElem? (i := 1021) (by decide +kernel), List.mem_of_getElem? (i := 1107) (by decide +kernel), List.mem_of_getElem? (i := 1108) (by decide +kernel)⟩
theorem lw_p50 : lw_okq (⟨"BiscuitLessModel", "goesOn", "()V"⟩, 22) := ⟨⟨by decide +kernel, by decide +kernel⟩, List.mem_of_getElem? (i := 1021) (by decide +kernel), List.mem_of_getElem? (i := 1211) (by decide +kernel), List.mem_of_getElem? (i := 1212) (by decide +kernel)⟩
theorem lw_p51 : lw_okq (⟨"BiscuitLessModel", "byteAt", "(I)I"⟩, 22) := ⟨⟨by decide +kernel, by decide +kernel⟩, List.mem_of_getElem? (i := 1021) (by decide +kernel), List.mem_of_getElem? (i := 1215) (by decide +kernel), List.mem_of_getElem? (i := 1216) (by decide +kernel)⟩
theorem lw_p52 : lw_okq (⟨"BiscuitLessModel", "readLand", "()V"⟩, 22) := ⟨⟨by decide +kernel, by decide +kernel⟩, List.mem_of_getElem? (i := 1021) (by decide +kernel), List.mem_of_getElem? (i := 1226) (by decide +kernel), List.mem_of_getElem? (i := 1227) (by decide +kernel)⟩
theorem lw_p53 : lw_okq (⟨"BiscuitLessModel", "readLine", "()V"⟩, 22) := ⟨⟨by decide +kernel, by decide +kernel⟩, List.mem_of_getElem? (i := 1021) (by decide +kernel), List.mem_of_getElem? (i := 1230) (by decide +kernel), List.mem_of_getElem? (i := 1231) (by decide +kernel)⟩
theorem lw_p54 : lw_okq (⟨"BiscuitLessModel", "isWord", "(Ljava/lang/String;)Z"⟩, 22) := ⟨⟨by decide +kernel, by decide +kernel⟩, List.mem_of_getElem? (i := 1021) (by decide +kernel), List.mem_of_getElem? (i := 1235) (by decide +kernel), List.mem_of_getElem? (i := 1236) (by decide +kernel)⟩
theorem lw_p55 : lw_okq (⟨"BiscuitLessModel", "readMonths", "()V"⟩, 22) := ⟨⟨by decide +kernel, by decide +kernel⟩, List.mem_of_getElem? (i := 1021) (by decide +kernel), List.mem_of_getElem? (i := 1290) (by decide +kernel), List.mem_of_getElem? (i := 1291) (by decide +kernel)⟩
theorem lw_p56 : lw_okq (⟨"BiscuitLessModel", "wrong", "(I)V"⟩, 22) := ⟨⟨by decide +kernel, by decide +kernel⟩, List.mem_of_getElem? (i := 1021) (by decide +kernel), List.mem_of_getElem? (i := 1294) (by decide +kernel), List.mem_of_getElem? (i := 1295) (by decide +kernel)⟩
theorem lw_p57 : lw_okq (⟨"BiscuitLessModel", "readWhole", "(II)I"⟩, 22) := ⟨⟨by decide +kernel, by decide +kernel⟩, List.mem_of_getElem? (i := 1021) (by decide +kernel), List.mem_of_getElem? (i := 1298) (by decide +kernel), List.mem_of_getElem? (i := 1299) (by decide +kernel)⟩
theorem lw_p58 : lw_okq (⟨"BiscuitLessModel", "readGroup", "()V"⟩, 22) := ⟨⟨by decide +kernel, by decide +kernel⟩, List.mem_of_getElem? (i := 1021) (by decide +kernel), List.mem_of_getElem? (i := 1306) (by decide +kernel), List.mem_of_getElem? (i := 1307) (by decide +kernel)⟩
theorem lw_p59 : lw_okq (⟨"BiscuitLessModel", "readNamed", "(III)V"⟩, 22) := ⟨⟨by decide +kernel, by decide +kernel⟩, List.mem_of_getElem? (i := 1021) (by decide +kernel), List.mem_of_getElem? (i := 1310) (by decide +kernel), List.mem_of_getElem? (i := 1311) (by decide +kernel)⟩
theorem lw_p60 : lw_okq (⟨"BiscuitLessModel", "isName", "()Z"⟩, 22) := ⟨⟨by decide +kernel, by decide +kernel⟩, List.mem_of_getElem? (i := 1021) (by decide +kernel), List.mem_of_getElem? (i := 1314) (by decide +kernel), List.mem_of_getElem? (i := 1315) (by decide +kernel)⟩
theorem lw_p61 : lw_okq (⟨"BiscuitLessModel", "readThing", "()V"⟩, 22) := ⟨⟨by decide +kernel, by decide +kernel⟩, List.mem_of_getElem? (i := 1021) (by decide +kernel), List.mem_of_getElem? (i := 1328) (by decide +kernel), List.mem_of_getElem? (i := 1329) (by decide +kernel)⟩
theorem lw_p62 : lw_okq (⟨"BiscuitLessModel", "known", "(I)I"⟩, 22) := ⟨⟨by decide +kernel, by decide +kernel⟩, List.mem_of_getElem? (i := 1021) (by decide +kernel), List.mem_of_getElem? (i := 1333) (by decide +kernel), List.mem_of_getElem? (i := 1334) (by decide +kernel)⟩
theorem lw_p63 : lw_okq (⟨"BiscuitLessModel", "readPart", "(Ljava/lang/String;II)I"⟩, 22) := ⟨⟨by decide +kernel, by decide +kernel⟩, List.mem_of_getElem? (i := 1021) (by decide +kernel), List.mem_of_getElem? (i := 1338) (by decide +kernel), List.mem_of_getElem? (i := 1339) (by decide +kernel)⟩
def lw_privs_4 : List (MethodName × Nat) := [(⟨"java/lang/Throwable", "fillInStackTrace", "(I)Ljava/lang/Throwable;"⟩, 6), (⟨"BiscuitLessModel", "refused", "(I)I"⟩, 22), (⟨"BiscuitLessModel", "goesOn", "()V"⟩, 22), (⟨"BiscuitLessModel", "byteAt", "(I)I"⟩, 22), (⟨"BiscuitLessModel", "readLand", "()V"⟩, 22), (⟨"BiscuitLessModel", "readLine", "()V"⟩, 22), (⟨"BiscuitLessModel", "isWord", "(Ljava/lang/String;)Z"⟩, 22), (⟨"BiscuitLessModel", "readMonths", "()V"⟩, 22), (⟨"BiscuitLessModel", "wrong", "(I)V"⟩, 22), (⟨"BiscuitLessModel", "readWhole", "(II)I"⟩, 22), (⟨"BiscuitLessModel", "readGroup", "()V"⟩, 22), (⟨"BiscuitLessModel", "readNamed", "(III)V"⟩, 22), (⟨"BiscuitLessModel", "isName", "()Z"⟩, 22), (⟨"BiscuitLessModel", "readThing", "()V"⟩, 22), (⟨"BiscuitLessModel", "known", "(I)I"⟩, 22), (⟨"BiscuitLessModel", "readPart", "(Ljava/lang/String;II)I"⟩, 22)]
theorem lw_r4 : ∀ q ∈ lw_privs_4, lw_okq q := List.forall_mem_cons.mpr ⟨lw_p48, List.forall_mem_cons.mpr ⟨lw_p49, List.forall_mem_cons.mpr ⟨lw_p50, List.forall_mem_cons.mpr ⟨lw_p51, List.forall_mem_cons.mpr ⟨lw_p52, List.forall_mem_cons.mpr ⟨lw_p53, List.forall_mem_cons.mpr ⟨lw_p54, List.forall_mem_cons.mpr ⟨lw_p55, List.forall_mem_cons.mpr ⟨lw_p56, List.forall_mem_cons.mpr ⟨lw_p57, List.forall_mem_cons.mpr ⟨lw_p58, List.forall_mem_cons.mpr ⟨lw_p59, List.forall_mem_cons.mpr ⟨lw_p60, List.forall_mem_cons.mpr ⟨lw_p61, List.forall_mem_cons.mpr ⟨lw_p62, List.forall_mem_cons.mpr ⟨lw_p63, fun _ h => absurd h List.not_mem_nil⟩⟩⟩⟩⟩⟩⟩⟩⟩⟩⟩⟩⟩⟩⟩⟩
theorem lw_p64 : lw_okq (⟨"BiscuitLessModel", "readChange", "()V"⟩, 22) := ⟨⟨by decide +kernel, by decide +kernel⟩, List.mem_of_getElem? (i := 1021) (by decide +kernel), List.mem_of_getElem? (i := 1344) (by decide +kernel), List.mem_of_getElem? (i := 1345) (by decide +kernel)⟩
theorem lw_p65 : lw_okq (⟨"BiscuitLessModel", "readHouse", "()V"⟩, 22) := ⟨⟨by decide +kernel, by decide +kernel⟩, List.mem_of_getElem? (i := 1021) (by decide +kernel), List.mem_of_getElem? (i := 1354) (by decide +kernel), List.mem_of_getElem? (i := 1355) (by decide +kernel)⟩
theorem lw_p66 : lw_okq (⟨"BiscuitLessModel", "eatsSign", "(I)Z"⟩, 22) := ⟨⟨by decide +kernel, by decide +kernel⟩, List.mem_of_getElem? (i := 1021) (by decide +kernel), List.mem_of_getElem? (i := 1361) (by decide +kernel), List.mem_of_getElem? (i := 1362) (by decide +kernel)⟩
theorem lw_p67 : lw_okq (⟨"BiscuitLessModel", "readOffice", "()V"⟩, 22) := ⟨⟨by decide +kernel, by decide +kernel⟩, List.mem_of_getElem? (i := 1021) (by decide +kernel), List.mem_of_getElem? (i := 1365) (by decide +kernel), List.mem_of_getElem? (i := 1366) (by decide +kernel)⟩
theorem lw_p68 : lw_okq (⟨"BiscuitLessModel", "readOne", "(Ljava/lang/String;Ljava/lang/String;Ljava/lang/String;)I"⟩, 22) := ⟨⟨by decide +kernel, by decide +kernel⟩, List.mem_of_getElem? (i := 1021) (by decide +kernel), List.mem_of_getElem? (i := 1372) (by decide +kernel), List.mem_of_getElem? (i := 1373) (by decide +kernel)⟩
theorem lw_p69 : lw_okq (⟨"BiscuitLessModel", "lays", "()V"⟩, 22) := ⟨⟨by decide +kernel, by decide +kernel⟩, List.mem_of_getElem? (i := 1021) (by decide +kernel), List.mem_of_getElem? (i := 1380) (by decide +kernel), List.mem_of_getElem? (i := 1381) (by decide +kernel)⟩
theorem lw_p70 : lw_okq (⟨"BiscuitLessModel", "laysThing", "(I)V"⟩, 22) := ⟨⟨by decide +kernel, by decide +kernel⟩, List.mem_of_getElem? (i := 1021) (by decide +kernel), List.mem_of_getElem? (i := 1384) (by decide +kernel), List.mem_of_getElem? (i := 1385) (by decide +kernel)⟩
theorem lw_p71 : lw_okq (⟨"BiscuitLessModel", "hasCome", "(I)Z"⟩, 22) := ⟨⟨by decide +kernel, by decide +kernel⟩, List.mem_of_getElem? (i := 1021) (by decide +kernel), List.mem_of_getElem? (i := 1388) (by decide +kernel), List.mem_of_getElem? (i := 1389) (by decide +kernel)⟩
theorem lw_p72 : lw_okq (⟨"BiscuitLessModel", "buysAll", "(II)V"⟩, 22) := ⟨⟨by decide +kernel, by decide +kernel⟩, List.mem_of_getElem? (i := 1021) (by decide +kernel), List.mem_of_getElem? (i := 1398) (by decide +kernel), List.mem_of_getElem? (i := 1399) (by decide +kernel)⟩
theorem lw_p73 : lw_okq (⟨"BiscuitLessModel", "isBoughtAgain", "(III)Z"⟩, 22) := ⟨⟨by decide +kernel, by decide +kernel⟩, List.mem_of_getElem? (i := 1021) (by decide +kernel), List.mem_of_getElem? (i := 1405) (by decide +kernel), List.mem_of_getElem? (i := 1406) (by decide +kernel)⟩
theorem lw_p74 : lw_okq (⟨"BiscuitLessModel", "bestOf", "(III)I"⟩, 22) := ⟨⟨by decide +kernel, by decide +kernel⟩, List.mem_of_getElem? (i := 1021) (by decide +kernel), List.mem_of_getElem? (i := 1409) (by decide +kernel), List.mem_of_getElem? (i := 1410) (by decide +kernel)⟩
theorem lw_p75 : lw_okq (⟨"BiscuitLessModel", "piecesOf", "(III)I"⟩, 22) := ⟨⟨by decide +kernel, by decide +kernel⟩, List.mem_of_getElem? (i := 1021) (by decide +kernel), List.mem_of_getElem? (i := 1413) (by decide +kernel), List.mem_of_getElem? (i := 1414) (by decide +kernel)⟩
theorem lw_p76 : lw_okq (⟨"BiscuitLessModel", "worthOf", "(II)I"⟩, 22) := ⟨⟨by decide +kernel, by decide +kernel⟩, List.mem_of_getElem? (i := 1021) (by decide +kernel), List.mem_of_getElem? (i := 1417) (by decide +kernel), List.mem_of_getElem? (i := 1418) (by decide +kernel)⟩
theorem lw_p77 : lw_okq (⟨"BiscuitLessModel", "done", "(I)I"⟩, 22) := ⟨⟨by decide +kernel, by decide +kernel⟩, List.mem_of_getElem? (i := 1021) (by decide +kernel), List.mem_of_getElem? (i := 1421) (by decide +kernel), List.mem_of_getElem? (i := 1422) (by decide +kernel)⟩
theorem lw_p78 : lw_okq (⟨"BiscuitLessModel", "isThing", "(I)Z"⟩, 22) := ⟨⟨by decide +kernel, by decide +kernel⟩, List.mem_of_getElem? (i := 1021) (by decide +kernel), List.mem_of_getElem? (i := 1437) (by decide +kernel), List.mem_of_getElem? (i := 1438) (by decide +kernel)⟩
theorem lw_p79 : lw_okq (⟨"BiscuitLessModel", "isMonth", "(I)Z"⟩, 22) := ⟨⟨by decide +kernel, by decide +kernel⟩, List.mem_of_getElem? (i := 1021) (by decide +kernel), List.mem_of_getElem? (i := 1441) (by decide +kernel), List.mem_of_getElem? (i := 1442) (by decide +kernel)⟩
def lw_privs_5 : List (MethodName × Nat) := [(⟨"BiscuitLessModel", "readChange", "()V"⟩, 22), (⟨"BiscuitLessModel", "readHouse", "()V"⟩, 22), (⟨"BiscuitLessModel", "eatsSign", "(I)Z"⟩, 22), (⟨"BiscuitLessModel", "readOffice", "()V"⟩, 22), (⟨"BiscuitLessModel", "readOne", "(Ljava/lang/String;Ljava/lang/String;Ljava/lang/String;)I"⟩, 22), (⟨"BiscuitLessModel", "lays", "()V"⟩, 22), (⟨"BiscuitLessModel", "laysThing", "(I)V"⟩, 22), (⟨"BiscuitLessModel", "hasCome", "(I)Z"⟩, 22), (⟨"BiscuitLessModel", "buysAll", "(II)V"⟩, 22), (⟨"BiscuitLessModel", "isBoughtAgain", "(III)Z"⟩, 22), (⟨"BiscuitLessModel", "bestOf", "(III)I"⟩, 22), (⟨"BiscuitLessModel", "piecesOf", "(III)I"⟩, 22), (⟨"BiscuitLessModel", "worthOf", "(II)I"⟩, 22), (⟨"BiscuitLessModel", "done", "(I)I"⟩, 22), (⟨"BiscuitLessModel", "isThing", "(I)Z"⟩, 22), (⟨"BiscuitLessModel", "isMonth", "(I)Z"⟩, 22)]
theorem lw_r5 : ∀ q ∈ lw_privs_5, lw_okq q := List.forall_mem_cons.mpr ⟨lw_p64, List.forall_mem_cons.mpr ⟨lw_p65, List.forall_mem_cons.mpr ⟨lw_p66, List.forall_mem_cons.mpr ⟨lw_p67, List.forall_mem_cons.mpr ⟨lw_p68, List.forall_mem_cons.mpr ⟨lw_p69, List.forall_mem_cons.mpr ⟨lw_p70, List.forall_mem_cons.mpr ⟨lw_p71, List.forall_mem_cons.mpr ⟨lw_p72, List.forall_mem_cons.mpr ⟨lw_p73, List.forall_mem_cons.mpr ⟨lw_p74, List.forall_mem_cons.mpr ⟨lw_p75, List.forall_mem_cons.mpr ⟨lw_p76, List.forall_mem_cons.mpr ⟨lw_p77, List.forall_mem_cons.mpr ⟨lw_p78, List.forall_mem_cons.mpr ⟨lw_p79, fun _ h => absurd h List.not_mem_nil⟩⟩⟩⟩⟩⟩⟩⟩⟩⟩⟩⟩⟩⟩⟩⟩
theorem lw_p80 : lw_okq (⟨"BiscuitLessModel", "isHouse", "(I)Z"⟩, 22) := ⟨⟨by decide +kernel, by decide +kernel⟩, List.mem_of_getElem? (i := 1021) (by decide +kernel), List.mem_of_getElem? (i := 1449) (by decide +kernel), List.mem_of_getElem? (i := 1450) (by decide +kernel)⟩
theorem lw_p81 : lw_okq (⟨"BiscuitLessModel", "isGroup", "(I)Z"⟩, 22) := ⟨⟨by decide +kernel, by decide +kernel⟩, List.mem_of_getElem? (i := 1021) (by decide +kernel), List.mem_of_getElem? (i := 1453) (by decide +kernel), List.mem_of_getElem? (i := 1454) (by decide +kernel)⟩
theorem lw_p82 : lw_okq (⟨"BiscuitLessModel", "costs", "(III)I"⟩, 22) := ⟨⟨by decide +kernel, by decide +kernel⟩, List.mem_of_getElem? (i := 1021) (by decide +kernel), List.mem_of_getElem? (i := 1461) (by decide +kernel), List.mem_of_getElem? (i := 1462) (by decide +kernel)⟩
theorem lw_p83 : lw_okq (⟨"BiscuitLessModel", "isWanted", "(II)Z"⟩, 22) := ⟨⟨by decide +kernel, by decide +kernel⟩, List.mem_of_getElem? (i := 1021) (by decide +kernel), List.mem_of_getElem? (i := 1465) (by decide +kernel), List.mem_of_getElem? (i := 1466) (by decide +kernel)⟩
theorem lw_p84 : lw_okq (⟨"BiscuitLessModel", "trulyOf", "(II)I"⟩, 22) := ⟨⟨by decide +kernel, by decide +kernel⟩, List.mem_of_getElem? (i := 1021) (by decide +kernel), List.mem_of_getElem? (i := 1477) (by decide +kernel), List.mem_of_getElem? (i := 1478) (by decide +kernel)⟩
theorem lw_p85 : lw_okq (⟨"BiscuitLessModel", "liveOf", "(II)I"⟩, 22) := ⟨⟨by decide +kernel, by decide +kernel⟩, List.mem_of_getElem? (i := 1021) (by decide +kernel), List.mem_of_getElem? (i := 1485) (by decide +kernel), List.mem_of_getElem? (i := 1486) (by decide +kernel)⟩
theorem lw_p86 : lw_okq (⟨"BiscuitLessModel", "isOffice", "(I)Z"⟩, 22) := ⟨⟨by decide +kernel, by decide +kernel⟩, List.mem_of_getElem? (i := 1021) (by decide +kernel), List.mem_of_getElem? (i := 1499) (by decide +kernel), List.mem_of_getElem? (i := 1500) (by decide +kernel)⟩
theorem lw_p87 : lw_okq (⟨"BiscuitLessModel", "numberOf", "(II)I"⟩, 22) := ⟨⟨by decide +kernel, by decide +kernel⟩, List.mem_of_getElem? (i := 1021) (by decide +kernel), List.mem_of_getElem? (i := 1503) (by decide +kernel), List.mem_of_getElem? (i := 1504) (by decide +kernel)⟩
theorem lw_p88 : lw_okq (⟨"BiscuitLessModel", "everything", "()I"⟩, 22) := ⟨⟨by decide +kernel, by decide +kernel⟩, List.mem_of_getElem? (i := 1021) (by decide +kernel), List.mem_of_getElem? (i := 1507) (by decide +kernel), List.mem_of_getElem? (i := 1508) (by decide +kernel)⟩
theorem lw_p89 : lw_okq (⟨"BiscuitLessModel", "sumOf", "(IIIIZ)J"⟩, 22) := ⟨⟨by decide +kernel, by decide +kernel⟩, List.mem_of_getElem? (i := 1021) (by decide +kernel), List.mem_of_getElem? (i := 1511) (by decide +kernel), List.mem_of_getElem? (i := 1512) (by decide +kernel)⟩
theorem lw_p90 : lw_okq (⟨"BiscuitLessModel", "givesOf", "(IIII)J"⟩, 22) := ⟨⟨by decide +kernel, by decide +kernel⟩, List.mem_of_getElem? (i := 1021) (by decide +kernel), List.mem_of_getElem? (i := 1515) (by decide +kernel), List.mem_of_getElem? (i := 1516) (by decide +kernel)⟩
theorem lw_p91 : lw_okq (⟨"BiscuitLessModel", "countOf", "(III)J"⟩, 22) := ⟨⟨by decide +kernel, by decide +kernel⟩, List.mem_of_getElem? (i := 1021) (by decide +kernel), List.mem_of_getElem? (i := 1519) (by decide +kernel), List.mem_of_getElem? (i := 1520) (by decide +kernel)⟩
theorem lw_p92 : lw_okq (⟨"BiscuitLessModel", "seen", "(III)J"⟩, 22) := ⟨⟨by decide +kernel, by decide +kernel⟩, List.mem_of_getElem? (i := 1021) (by decide +kernel), List.mem_of_getElem? (i := 1523) (by decide +kernel), List.mem_of_getElem? (i := 1524) (by decide +kernel)⟩
theorem lw_p93 : lw_okq (⟨"BiscuitLessModel", "nearTo", "(II)I"⟩, 22) := ⟨⟨by decide +kernel, by decide +kernel⟩, List.mem_of_getElem? (i := 1021) (by decide +kernel), List.mem_of_getElem? (i := 1528) (by decide +kernel), List.mem_of_getElem? (i := 1529) (by decide +kernel)⟩
theorem lw_p94 : lw_okq (⟨"BiscuitLessModel", "lastOf", "(II)I"⟩, 22) := ⟨⟨by decide +kernel, by decide +kernel⟩, List.mem_of_getElem? (i := 1021) (by decide +kernel), List.mem_of_getElem? (i := 1532) (by decide +kernel), List.mem_of_getElem? (i := 1533) (by decide +kernel)⟩
theorem lw_p95 : lw_okq (⟨"BiscuitLessModel", "listOf", "(II)I"⟩, 22) := ⟨⟨by decide +kernel, by decide +kernel⟩, List.mem_of_getElem? (i := 1021) (by decide +kernel), List.mem_of_getElem? (i := 1540) (by decide +kernel), List.mem_of_getElem? (i := 1541) (by decide +kernel)⟩
def lw_privs_6 : List (MethodName × Nat) := [(⟨"BiscuitLessModel", "isHouse", "(I)Z"⟩, 22), (⟨"BiscuitLessModel", "isGroup", "(I)Z"⟩, 22), (⟨"BiscuitLessModel", "costs", "(III)I"⟩, 22), (⟨"BiscuitLessModel", "isWanted", "(II)Z"⟩, 22), (⟨"BiscuitLessModel", "trulyOf", "(II)I"⟩, 22), (⟨"BiscuitLessModel", "liveOf", "(II)I"⟩, 22), (⟨"BiscuitLessModel", "isOffice", "(I)Z"⟩, 22), (⟨"BiscuitLessModel", "numberOf", "(II)I"⟩, 22), (⟨"BiscuitLessModel", "everything", "()I"⟩, 22), (⟨"BiscuitLessModel", "sumOf", "(IIIIZ)J"⟩, 22), (⟨"BiscuitLessModel", "givesOf", "(IIII)J"⟩, 22), (⟨"BiscuitLessModel", "countOf", "(III)J"⟩, 22), (⟨"BiscuitLessModel", "seen", "(III)J"⟩, 22), (⟨"BiscuitLessModel", "nearTo", "(II)I"⟩, 22), (⟨"BiscuitLessModel", "lastOf", "(II)I"⟩, 22), (⟨"BiscuitLessModel", "listOf", "(II)I"⟩, 22)]
theorem lw_r6 : ∀ q ∈ lw_privs_6, lw_okq q := List.forall_mem_cons.mpr ⟨lw_p80, List.forall_mem_cons.mpr ⟨lw_p81, List.forall_mem_cons.mpr ⟨lw_p82, List.forall_mem_cons.mpr ⟨lw_p83, List.forall_mem_cons.mpr ⟨lw_p84, List.forall_mem_cons.mpr ⟨lw_p85, List.forall_mem_cons.mpr ⟨lw_p86, List.forall_mem_cons.mpr ⟨lw_p87, List.forall_mem_cons.mpr ⟨lw_p88, List.forall_mem_cons.mpr ⟨lw_p89, List.forall_mem_cons.mpr ⟨lw_p90, List.forall_mem_cons.mpr ⟨lw_p91, List.forall_mem_cons.mpr ⟨lw_p92, List.forall_mem_cons.mpr ⟨lw_p93, List.forall_mem_cons.mpr ⟨lw_p94, List.forall_mem_cons.mpr ⟨lw_p95, fun _ h => absurd h List.not_mem_nil⟩⟩⟩⟩⟩⟩⟩⟩⟩⟩⟩⟩⟩⟩⟩⟩
theorem lw_p96 : lw_okq (⟨"BiscuitLessModel", "lost", "(I)I"⟩, 22) := ⟨⟨by decide +kernel, by decide +kernel⟩, List.mem_of_getElem? (i := 1021) (by decide +kernel), List.mem_of_getElem? (i := 1548) (by decide +kernel), List.mem_of_getElem? (i := 1549) (by decide +kernel)⟩
theorem lw_p97 : lw_okq (⟨"BiscuitLessModel", "isBack", "(I)Z"⟩, 22) := ⟨⟨by decide +kernel, by decide +kernel⟩, List.mem_of_getElem? (i := 1021) (by decide +kernel), List.mem_of_getElem? (i := 1557) (by decide +kernel), List.mem_of_getElem? (i := 1558) (by decide +kernel)⟩
theorem lw_p98 : lw_okq (⟨"BiscuitLessModel", "isSame", "(I)Z"⟩, 22) := ⟨⟨by decide +kernel, by decide +kernel⟩, List.mem_of_getElem? (i := 1021) (by decide +kernel), List.mem_of_getElem? (i := 1569) (by decide +kernel), List.mem_of_getElem? (i := 1570) (by decide +kernel)⟩
theorem lw_p99 : lw_okq (⟨"BiscuitLessModel", "isSeen", "(I)Z"⟩, 22) := ⟨⟨by decide +kernel, by decide +kernel⟩, List.mem_of_getElem? (i := 1021) (by decide +kernel), List.mem_of_getElem? (i := 1573) (by decide +kernel), List.mem_of_getElem? (i := 1574) (by decide +kernel)⟩
theorem lw_p100 : lw_okq (⟨"BiscuitLessModel", "isNeverBelow", "(I)Z"⟩, 22) := ⟨⟨by decide +kernel, by decide +kernel⟩, List.mem_of_getElem? (i := 1021) (by decide +kernel), List.mem_of_getElem? (i := 1577) (by decide +kernel), List.mem_of_getElem? (i := 1578) (by decide +kernel)⟩
theorem lw_p101 : lw_okq (⟨"BiscuitLessModel", "pensionOf", "(III)I"⟩, 22) := ⟨⟨by decide +kernel, by decide +kernel⟩, List.mem_of_getElem? (i := 1021) (by decide +kernel), List.mem_of_getElem? (i := 1589) (by decide +kernel), List.mem_of_getElem? (i := 1590) (by decide +kernel)⟩
theorem lw_p102 : lw_okq (⟨"BiscuitLessModel", "lets", "(IIIII)Z"⟩, 22) := ⟨⟨by decide +kernel, by decide +kernel⟩, List.mem_of_getElem? (i := 1021) (by decide +kernel), List.mem_of_getElem? (i := 1605) (by decide +kernel), List.mem_of_getElem? (i := 1606) (by decide +kernel)⟩
theorem lw_p103 : lw_okq (⟨"BiscuitLessModel", "refusesHide", "(III)I"⟩, 22) := ⟨⟨by decide +kernel, by decide +kernel⟩, List.mem_of_getElem? (i := 1021) (by decide +kernel), List.mem_of_getElem? (i := 1617) (by decide +kernel), List.mem_of_getElem? (i := 1618) (by decide +kernel)⟩
theorem lw_p104 : lw_okq (⟨"BiscuitLessModel", "isHidden", "(IIIII)Z"⟩, 22) := ⟨⟨by decide +kernel, by decide +kernel⟩, List.mem_of_getElem? (i := 1021) (by decide +kernel), List.mem_of_getElem? (i := 1621) (by decide +kernel), List.mem_of_getElem? (i := 1622) (by decide +kernel)⟩
theorem lw_p105 : lw_okq (⟨"BiscuitLessModel", "piecesBought", "(III)I"⟩, 22) := ⟨⟨by decide +kernel, by decide +kernel⟩, List.mem_of_getElem? (i := 1021) (by decide +kernel), List.mem_of_getElem? (i := 1625) (by decide +kernel), List.mem_of_getElem? (i := 1626) (by decide +kernel)⟩
theorem lw_p106 : lw_okq (⟨"BiscuitLessModel", "comes", "(IIII)V"⟩, 22) := ⟨⟨by decide +kernel, by decide +kernel⟩, List.mem_of_getElem? (i := 1021) (by decide +kernel), List.mem_of_getElem? (i := 1632) (by decide +kernel), List.mem_of_getElem? (i := 1633) (by decide +kernel)⟩
theorem lw_p107 : lw_okq (⟨"BiscuitLessModel", "goes", "()V"⟩, 22) := ⟨⟨by decide +kernel, by decide +kernel⟩, List.mem_of_getElem? (i := 1021) (by decide +kernel), List.mem_of_getElem? (i := 1636) (by decide +kernel), List.mem_of_getElem? (i := 1637) (by decide +kernel)⟩
theorem lw_p108 : lw_okq (⟨"BiscuitLessModel", "gainOf", "(IIII)I"⟩, 22) := ⟨⟨by decide +kernel, by decide +kernel⟩, List.mem_of_getElem? (i := 1021) (by decide +kernel), List.mem_of_getElem? (i := 1640) (by decide +kernel), List.mem_of_getElem? (i := 1641) (by decide +kernel)⟩
theorem lw_p109 : lw_okq (⟨"BiscuitLessModel", "isOther", "(II)Z"⟩, 22) := ⟨⟨by decide +kernel, by decide +kernel⟩, List.mem_of_getElem? (i := 1021) (by decide +kernel), List.mem_of_getElem? (i := 1667) (by decide +kernel), List.mem_of_getElem? (i := 1668) (by decide +kernel)⟩
def lw_privs_7 : List (MethodName × Nat) := [(⟨"BiscuitLessModel", "lost", "(I)I"⟩, 22), (⟨"BiscuitLessModel", "isBack", "(I)Z"⟩, 22), (⟨"BiscuitLessModel", "isSame", "(I)Z"⟩, 22), (⟨"BiscuitLessModel", "isSeen", "(I)Z"⟩, 22), (⟨"BiscuitLessModel", "isNeverBelow", "(I)Z"⟩, 22), (⟨"BiscuitLessModel", "pensionOf", "(III)I"⟩, 22), (⟨"BiscuitLessModel", "lets", "(IIIII)Z"⟩, 22), (⟨"BiscuitLessModel", "refusesHide", "(III)I"⟩, 22), (⟨"BiscuitLessModel", "isHidden", "(IIIII)Z"⟩, 22), (⟨"BiscuitLessModel", "piecesBought", "(III)I"⟩, 22), (⟨"BiscuitLessModel", "comes", "(IIII)V"⟩, 22), (⟨"BiscuitLessModel", "goes", "()V"⟩, 22), (⟨"BiscuitLessModel", "gainOf", "(IIII)I"⟩, 22), (⟨"BiscuitLessModel", "isOther", "(II)Z"⟩, 22)]
theorem lw_r7 : ∀ q ∈ lw_privs_7, lw_okq q := List.forall_mem_cons.mpr ⟨lw_p96, List.forall_mem_cons.mpr ⟨lw_p97, List.forall_mem_cons.mpr ⟨lw_p98, List.forall_mem_cons.mpr ⟨lw_p99, List.forall_mem_cons.mpr ⟨lw_p100, List.forall_mem_cons.mpr ⟨lw_p101, List.forall_mem_cons.mpr ⟨lw_p102, List.forall_mem_cons.mpr ⟨lw_p103, List.forall_mem_cons.mpr ⟨lw_p104, List.forall_mem_cons.mpr ⟨lw_p105, List.forall_mem_cons.mpr ⟨lw_p106, List.forall_mem_cons.mpr ⟨lw_p107, List.forall_mem_cons.mpr ⟨lw_p108, List.forall_mem_cons.mpr ⟨lw_p109, fun _ h => absurd h List.not_mem_nil⟩⟩⟩⟩⟩⟩⟩⟩⟩⟩⟩⟩⟩⟩
def lw_privs : List (MethodName × Nat) := lw_privs_1 ++ (lw_privs_2 ++ (lw_privs_3 ++ (lw_privs_4 ++ (lw_privs_5 ++ (lw_privs_6 ++ (lw_privs_7))))))
def lw_tbl : List Cond := k2_sels lw_privs ++ tables_1
theorem lw_privs_ok : ∀ q ∈ lw_privs, lw_okq q := by
  show ∀ q ∈ lw_privs_1 ++ (lw_privs_2 ++ (lw_privs_3 ++ (lw_privs_4 ++ (lw_privs_5 ++ (lw_privs_6 ++ (lw_privs_7)))))), lw_okq q
  exact List.forall_mem_append.mpr ⟨lw_r1, List.forall_mem_append.mpr ⟨lw_r2, List.forall_mem_append.mpr ⟨lw_r3, List.forall_mem_append.mpr ⟨lw_r4, List.forall_mem_append.mpr ⟨lw_r5, List.forall_mem_append.mpr ⟨lw_r6, lw_r7⟩⟩⟩⟩⟩⟩
-- ===== end of PART A; then your names; then what follows =====
end
section
def ax_T0 : u_T := fun k => match k with
  | 0 => ("BiscuitLess$Change", "thing", "I", false)
  | 1 => ("BiscuitLess$Change", "month", "I", false)
  | 2 => ("BiscuitLess$Change", "how", "I", false)
  | _ => ("BiscuitLess$Change", "by", "I", false)
def ax_T1 : u_T := fun k => match k with
  | 0 => ("BiscuitLess$Course", "sizes", "[[I", true)
  | 1 => ("BiscuitLess$Course", "stuffs", "[[I", true)
  | 2 => ("BiscuitLess$Course", "prices", "[[I", true)
  | 3 => ("BiscuitLess$Course", "lastThere", "[[I", true)
  | 4 => ("BiscuitLess$Course", "piecesOfAll", "[[I", true)
  | 5 => ("BiscuitLess$Course", "presence", "[[I", true)
  | 6 => ("BiscuitLess$Course", "bought", "[[I", true)
  | 7 => ("BiscuitLess$Course", "pieces", "[[I", true)
  | _ => ("BiscuitLess$Course", "land", "LBiscuitLess$Land;", false)
def ax_T2 : u_T := fun k => match k with
  | 0 => ("BiscuitLess$House", "wants", "[I", true)
  | 1 => ("BiscuitLess$House", "notices", "I", false)
  | _ => ("BiscuitLess$House", "pension", "I", false)
def ax_T3 : u_T := fun k => match k with
  | 0 => ("BiscuitLess$Land", "goods", "[LBiscuitLess$Thing;", true)
  | 1 => ("BiscuitLess$Land", "news", "[LBiscuitLess$Change;", true)
  | 2 => ("BiscuitLess$Land", "people", "[LBiscuitLess$House;", true)
  | 3 => ("BiscuitLess$Land", "desks", "[LBiscuitLess$Office;", true)
  | 4 => ("BiscuitLess$Land", "months", "I", false)
  | 5 => ("BiscuitLess$Land", "groups", "I", false)
  | 6 => ("BiscuitLess$Land", "things", "I", false)
  | 7 => ("BiscuitLess$Land", "changes", "I", false)
  | 8 => ("BiscuitLess$Land", "textChanges", "I", false)
  | 9 => ("BiscuitLess$Land", "houses", "I", false)
  | _ => ("BiscuitLess$Land", "offices", "I", false)
def ax_T4 : u_T := fun k => match k with
  | 0 => ("BiscuitLess$Names", "letters", "[J", true)
  | 1 => ("BiscuitLess$Names", "sorts", "[I", true)
  | 2 => ("BiscuitLess$Names", "numbers", "[I", true)
  | _ => ("BiscuitLess$Names", "count", "I", false)
def ax_T5 : u_T := fun k => match k with
  | 0 => ("BiscuitLess$Office", "missing", "I", false)
  | 1 => ("BiscuitLess$Office", "sees", "I", false)
  | _ => ("BiscuitLess$Office", "basket", "I", false)
def ax_T6 : u_T := fun k => match k with
  | 0 => ("BiscuitLess$Reader", "tokens", "LBiscuitLess$Tokens;", true)
  | 1 => ("BiscuitLess$Reader", "names", "LBiscuitLess$Names;", true)
  | 2 => ("BiscuitLess$Reader", "into", "LBiscuitLess$Land;", false)
  | 3 => ("BiscuitLess$Reader", "named", "I", false)
  | 4 => ("BiscuitLess$Reader", "amount", "I", false)
  | 5 => ("BiscuitLess$Reader", "failure", "I", false)
  | _ => ("BiscuitLess$Reader", "failurePlace", "I", false)
def ax_T7 : u_T := fun k => match k with
  | 0 => ("BiscuitLess$Tally", "numbers", "[[I", true)
  | 1 => ("BiscuitLess$Tally", "partsThen", "[J", true)
  | 2 => ("BiscuitLess$Tally", "partsAtFirst", "[J", true)
  | 3 => ("BiscuitLess$Tally", "course", "LBiscuitLess$Course;", true)
  | _ => ("BiscuitLess$Tally", "land", "LBiscuitLess$Land;", false)
def ax_T8 : u_T := fun k => match k with
  | 0 => ("BiscuitLess$Thing", "group", "I", false)
  | 1 => ("BiscuitLess$Thing", "size", "I", false)
  | 2 => ("BiscuitLess$Thing", "stuff", "I", false)
  | _ => ("BiscuitLess$Thing", "price", "I", false)
def ax_T9 : u_T := fun k => match k with
  | 0 => ("BiscuitLess$Tokens", "bytes", "[I", true)
  | 1 => ("BiscuitLess$Tokens", "end", "I", false)
  | 2 => ("BiscuitLess$Tokens", "stop", "I", false)
  | 3 => ("BiscuitLess$Tokens", "kind", "I", false)
  | 4 => ("BiscuitLess$Tokens", "start", "I", false)
  | 5 => ("BiscuitLess$Tokens", "letters", "J", false)
  | _ => ("BiscuitLess$Tokens", "whole", "I", false)
def ax_T10 : u_T := fun k => match k with
  | 0 => ("BiscuitLess", "tape", "[I", true)
  | 1 => ("BiscuitLess", "told", "LBiscuitLess$Land;", false)
  | 2 => ("BiscuitLess", "spare", "LBiscuitLess$Land;", false)
  | 3 => ("BiscuitLess", "reader", "LBiscuitLess$Reader;", true)
  | 4 => ("BiscuitLess", "course", "LBiscuitLess$Course;", true)
  | 5 => ("BiscuitLess", "tally", "LBiscuitLess$Tally;", true)
  | 6 => ("BiscuitLess", "trialCourse", "LBiscuitLess$Course;", true)
  | 7 => ("BiscuitLess", "trialTally", "LBiscuitLess$Tally;", true)
  | 8 => ("BiscuitLess", "tapeLength", "I", false)
  | 9 => ("BiscuitLess", "refusal", "I", false)
  | 10 => ("BiscuitLess", "faultNumber", "I", false)
  | _ => ("BiscuitLess", "faultPlace", "I", false)
def ax_T11 : u_T := fun k => match k with
  | 0 => ("BiscuitLessModel$Land", "months", "I", false)
  | 1 => ("BiscuitLessModel$Land", "groups", "I", false)
  | 2 => ("BiscuitLessModel$Land", "things", "I", false)
  | 3 => ("BiscuitLessModel$Land", "changes", "I", false)
  | 4 => ("BiscuitLessModel$Land", "told", "I", false)
  | 5 => ("BiscuitLessModel$Land", "houses", "I", false)
  | 6 => ("BiscuitLessModel$Land", "offices", "I", false)
  | 7 => ("BiscuitLessModel$Land", "names", "I", false)
  | 8 => ("BiscuitLessModel$Land", "group", "[I", true)
  | 9 => ("BiscuitLessModel$Land", "size", "[I", true)
  | 10 => ("BiscuitLessModel$Land", "stuff", "[I", true)
  | 11 => ("BiscuitLessModel$Land", "price", "[I", true)
  | 12 => ("BiscuitLessModel$Land", "changed", "[I", true)
  | 13 => ("BiscuitLessModel$Land", "month", "[I", true)
  | 14 => ("BiscuitLessModel$Land", "how", "[I", true)
  | 15 => ("BiscuitLessModel$Land", "by", "[I", true)
  | 16 => ("BiscuitLessModel$Land", "notices", "[I", true)
  | 17 => ("BiscuitLessModel$Land", "pension", "[I", true)
  | 18 => ("BiscuitLessModel$Land", "wants", "[I", true)
  | 19 => ("BiscuitLessModel$Land", "missing", "[I", true)
  | 20 => ("BiscuitLessModel$Land", "isWeight", "[Z", true)
  | 21 => ("BiscuitLessModel$Land", "isChained", "[Z", true)
  | 22 => ("BiscuitLessModel$Land", "name", "[J", true)
  | 23 => ("BiscuitLessModel$Land", "nameSort", "[I", true)
  | _ => ("BiscuitLessModel$Land", "nameNumber", "[I", true)
def ax_T12 : u_T := fun k => match k with
  | 0 => ("BiscuitLessModel", "thrown", "I", false)
  | 1 => ("BiscuitLessModel", "trouble", "I", false)
  | 2 => ("BiscuitLessModel", "where", "I", false)
  | 3 => ("BiscuitLessModel", "land", "LBiscuitLessModel$Land;", false)
  | 4 => ("BiscuitLessModel", "read", "LBiscuitLessModel$Land;", false)
  | 5 => ("BiscuitLessModel", "tape", "[B", true)
  | 6 => ("BiscuitLessModel", "taped", "I", false)
  | 7 => ("BiscuitLessModel", "size", "I", false)
  | 8 => ("BiscuitLessModel", "at", "I", false)
  | 9 => ("BiscuitLessModel", "sort", "I", false)
  | 10 => ("BiscuitLessModel", "place", "I", false)
  | 11 => ("BiscuitLessModel", "mark", "I", false)
  | 12 => ("BiscuitLessModel", "number", "I", false)
  | 13 => ("BiscuitLessModel", "fault", "I", false)
  | 14 => ("BiscuitLessModel", "wrongAt", "I", false)
  | 15 => ("BiscuitLessModel", "word", "J", false)
  | 16 => ("BiscuitLessModel", "sizes", "[I", true)
  | 17 => ("BiscuitLessModel", "stuffs", "[I", true)
  | 18 => ("BiscuitLessModel", "prices", "[I", true)
  | 19 => ("BiscuitLessModel", "isThere", "[Z", true)
  | 20 => ("BiscuitLessModel", "bought", "[I", true)
  | _ => ("BiscuitLessModel", "pieces", "[I", true)
/-- the classes whose objects are made, by their numbers -/
def ax_cl : List vw_C := [("BiscuitLess$Change", ax_T0, 4), ("BiscuitLess$Course", ax_T1, 9), ("BiscuitLess$House", ax_T2, 3), ("BiscuitLess$Land", ax_T3, 11), ("BiscuitLess$Names", ax_T4, 4), ("BiscuitLess$Office", ax_T5, 3), ("BiscuitLess$Reader", ax_T6, 7), ("BiscuitLess$Tally", ax_T7, 5), ("BiscuitLess$Thing", ax_T8, 4), ("BiscuitLess$Tokens", ax_T9, 7), ("BiscuitLess", ax_T10, 12), ("BiscuitLessModel$Land", ax_T11, 25), ("BiscuitLessModel", ax_T12, 22)]
/-- the fields of each: 0 an int, 1 a long, 2 a reference -/
def ax_fl : List (List Nat) := [[0, 0, 0, 0], [2, 2, 2, 2, 2, 2, 2, 2, 2], [2, 0, 0], [2, 2, 2, 2, 0, 0, 0, 0, 0, 0, 0], [2, 2, 2, 0], [0, 0, 0], [2, 2, 2, 0, 0, 0, 0], [2, 2, 2, 2, 2], [0, 0, 0, 0], [2, 0, 0, 0, 0, 1, 0], [2, 2, 2, 2, 2, 2, 2, 2, 0, 0, 0, 0], [0, 0, 0, 0, 0, 0, 0, 0, 2, 2, 2, 2, 2, 2, 2, 2, 2, 2, 2, 2, 2, 2, 2, 2, 2], [0, 0, 0, 2, 2, 2, 0, 0, 0, 0, 0, 0, 0, 0, 0, 1, 2, 2, 2, 2, 2, 2]]
def ax_fd : List (List FieldType) := [[.int, .int, .int, .int], [.array (.array .int), .array (.array .int), .array (.array .int), .array (.array .int), .array (.array .int), .array (.array .int), .array (.array .int), .array (.array .int), .object "BiscuitLess$Land"], [.array .int, .int, .int], [.array (.object "BiscuitLess$Thing"), .array (.object "BiscuitLess$Change"), .array (.object "BiscuitLess$House"), .array (.object "BiscuitLess$Office"), .int, .int, .int, .int, .int, .int, .int], [.array .long, .array .int, .array .int, .int], [.int, .int, .int], [.object "BiscuitLess$Tokens", .object "BiscuitLess$Names", .object "BiscuitLess$Land", .int, .int, .int, .int], [.array (.array .int), .array .long, .array .long, .object "BiscuitLess$Course", .object "BiscuitLess$Land"], [.int, .int, .int, .int], [.array .int, .int, .int, .int, .int, .long, .int], [.array .int, .object "BiscuitLess$Land", .object "BiscuitLess$Land", .object "BiscuitLess$Reader", .object "BiscuitLess$Course", .object "BiscuitLess$Tally", .object "BiscuitLess$Course", .object "BiscuitLess$Tally", .int, .int, .int, .int], [.int, .int, .int, .int, .int, .int, .int, .int, .array .int, .array .int, .array .int, .array .int, .array .int, .array .int, .array .int, .array .int, .array .int, .array .int, .array .int, .array .int, .array .boolean, .array .boolean, .array .long, .array .int, .array .int], [.int, .int, .int, .object "BiscuitLessModel$Land", .object "BiscuitLessModel$Land", .array .byte, .int, .int, .int, .int, .int, .int, .int, .int, .int, .long, .array .int, .array .int, .array .int, .array .boolean, .array .int, .array .int]]
/-- the component types of the arrays of kind 20 and on -/
def ax_al : List FieldType := [.byte, .int, .long, .boolean, .object "BiscuitLess$Change", .object "BiscuitLess$House", .object "BiscuitLess$Office", .object "BiscuitLess$Thing", .array .int]
/-- all classes that have code here, by their numbers -/
def ax_cn : List String := ["BiscuitLess$Change", "BiscuitLess$Course", "BiscuitLess$House", "BiscuitLess$Land", "BiscuitLess$Names", "BiscuitLess$Office", "BiscuitLess$Reader", "BiscuitLess$Tally", "BiscuitLess$Thing", "BiscuitLess$Tokens", "BiscuitLess", "BiscuitLessModel$Land", "BiscuitLessModel", "BiscuitLessLaw", "java/lang/Math", "java/lang/Integer", "java/lang/String", "java/lang/StringLatin1", "java/lang/StringUTF16", "jdk/internal/util/Preconditions"]
end
section
/-! values and memory of the abstract machine: an int, a long, or a reference by its number; a cell has a kind, a length, ints, longs and references -/
abbrev ax_V : Type := Int32 ⊕ (Int64 ⊕ Option Nat)
abbrev ax_i (x : Int32) : ax_V := .inl x
abbrev ax_l (x : Int64) : ax_V := .inr (.inl x)
abbrev ax_r (x : Option Nat) : ax_V := .inr (.inr x)
abbrev ax_M : Type := Nat × (Nat → Nat × Nat) × (Nat → Nat → Int32) × (Nat → Nat → Int64) × (Nat → Nat → Option Nat)
def mN (μ : ax_M) : Nat := μ.1
def mK (μ : ax_M) (a : Nat) : Nat := (μ.2.1 a).1
def mZ (μ : ax_M) (a : Nat) : Nat := (μ.2.1 a).2
def gI (μ : ax_M) (a k : Nat) : Int32 := μ.2.2.1 a k
def gL (μ : ax_M) (a k : Nat) : Int64 := μ.2.2.2.1 a k
def gR (μ : ax_M) (a k : Nat) : Option Nat := μ.2.2.2.2 a k
def ax_u2 {α : Type} (f : Nat → Nat → α) (a k : Nat) (v : α) : Nat → Nat → α := fun b j => if b = a ∧ j = k then v else f b j
def sI (μ : ax_M) (a k : Nat) (v : Int32) : ax_M := (μ.1, μ.2.1, ax_u2 μ.2.2.1 a k v, μ.2.2.2.1, μ.2.2.2.2)
def sL (μ : ax_M) (a k : Nat) (v : Int64) : ax_M := (μ.1, μ.2.1, μ.2.2.1, ax_u2 μ.2.2.2.1 a k v, μ.2.2.2.2)
def sR (μ : ax_M) (a k : Nat) (v : Option Nat) : ax_M := (μ.1, μ.2.1, μ.2.2.1, μ.2.2.2.1, ax_u2 μ.2.2.2.2 a k v)
/-- a new cell of kind k and length z -/
def nC (μ : ax_M) (k z : Nat) : ax_M := (μ.1 + 1, (fun b => if b = μ.1 then (k, z) else μ.2.1 b), (fun b j => if b = μ.1 then 0 else μ.2.2.1 b j), (fun b j => if b = μ.1 then 0 else μ.2.2.2.1 b j), (fun b j => if b = μ.1 then none else μ.2.2.2.2 b j))
/-- a new array of n rows of z ints each -/
def nG (μ : ax_M) (n z : Nat) : ax_M := (μ.1 + 1 + n, (fun b => if b = μ.1 then (28, n) else if μ.1 < b ∧ b < μ.1 + 1 + n then (21, z) else μ.2.1 b), (fun b j => if μ.1 ≤ b ∧ b < μ.1 + 1 + n then 0 else μ.2.2.1 b j), (fun b j => if μ.1 ≤ b ∧ b < μ.1 + 1 + n then 0 else μ.2.2.2.1 b j), (fun b j => if b = μ.1 then (if j < n then some (μ.1 + 1 + j) else none) else if μ.1 < b ∧ b < μ.1 + 1 + n then none else μ.2.2.2.2 b j))
/-! where the cells lie: class numbers and slots; array classes; the first new address; constants' addresses; the heap at the law's start; the one reference of which nothing is known; the constants' cells -/
abbrev ax_G : Type := va_G × (Nat → ClassId) × Nat × (Nat → Nat) × Heap × Option Nat × ax_M
abbrev ax_D (G : ax_G) : va_G := G.1
abbrev ax_Y (G : ax_G) : Nat → ClassId := G.2.1
abbrev ax_B (G : ax_G) : Nat := G.2.2.1
abbrev ax_C (G : ax_G) : Nat → Nat := G.2.2.2.1
abbrev ax_Hb (G : ax_G) : Heap := G.2.2.2.2.1
abbrev ax_F (G : ax_G) : Option Nat := G.2.2.2.2.2.1
abbrev ax_0 (G : ax_G) : ax_M := G.2.2.2.2.2.2
/-- the address of a cell: those below 64 are constants -/
def ax_ad (G : ax_G) (a : Nat) : Nat := if a < 64 then ax_C G a else ax_B G + (a - 64)
def ax_ao (G : ax_G) (x : Option Nat) : Option Nat := match x with
  | none => none
  | some a => if a = 6 then ax_F G else some (ax_ad G a)
def ax_cv (G : ax_G) (v : ax_V) : Value := match v with
  | .inl x => .int x
  | .inr (.inl x) => .long x
  | .inr (.inr x) => va_rf (ax_ao G x)
theorem ax_cv_i (G : ax_G) (x : Int32) : ax_cv G (ax_i x) = .int x := rfl
theorem ax_cv_l (G : ax_G) (x : Int64) : ax_cv G (ax_l x) = .long x := rfl
theorem ax_cv_r (G : ax_G) (x : Option Nat) : ax_cv G (ax_r x) = va_rf (ax_ao G x) := rfl
def ax_nf (c : Nat) : Nat := ((ax_cl.getD c ("", fun _ => ("", "", "", false), 0)).2.2)
def ax_Tb (c : Nat) : u_T := (ax_cl.getD c ("", fun _ => ("", "", "", false), 0)).2.1
def ax_Cn (c : Nat) : String := (ax_cl.getD c ("", fun _ => ("", "", "", false), 0)).1
def ax_ft (c k : Nat) : Nat := (ax_fl.getD c []).getD k 0
def ax_fy (c k : Nat) : FieldType := (ax_fd.getD c []).getD k .int
def ax_aT (k : Nat) : FieldType := ax_al.getD (k - 20) .int
/-- what field j of cell a holds, by its sort -/
def ax_fv (G : ax_G) (μ : ax_M) (a j t : Nat) : Value := match t with
  | 0 => .int (gI μ a j)
  | 1 => .long (gL μ a j)
  | _ => va_rf (ax_ao G (gR μ a j))
def ax_av (G : ax_G) (μ : ax_M) (k a j : Nat) : Value := if k = 22 then .long (gL μ a j) else if k < 24 then .int (gI μ a j) else va_rf (ax_ao G (gR μ a j))
/-- the heap holds cell a -/
def ax_at (G : ax_G) (μ : ax_M) (a : Nat) (H : Heap) : Prop :=
  (mK μ a < 13 → t_OB (ax_ad G a) ((ax_D G).1 (mK μ a)) (ax_nf (mK μ a)) ((ax_D G).2 (mK μ a)) H (fun j => ax_fv G μ a j (ax_ft (mK μ a) j))) ∧
  (20 ≤ mK μ a → mK μ a ≤ 28 → H[ax_ad G a]? = some (arrV (ax_Y G (mK μ a)) (mZ μ a) (fun j => ax_av G μ (mK μ a) a j))) ∧ mK μ a ≠ 13
/-- the heap is what the memory says -/
def ax_Hd (G : ax_G) (μ : ax_M) (H : Heap) : Prop :=
  64 ≤ mN μ ∧ H.size = ax_B G + (mN μ - 64) ∧ (∀ q : Nat, q < ax_B G → H[q]? = (ax_Hb G)[q]?) ∧ (∀ a : Nat, mN μ ≤ a → mK μ a = 99) ∧ (∀ a : Nat, 64 ≤ a → ax_at G μ a H) ∧
  (∀ a : Nat, a < 64 → μ.2.1 a = (ax_0 G).2.1 a ∧ (∀ j, gI μ a j = gI (ax_0 G) a j) ∧ (∀ j, gL μ a j = gL (ax_0 G) a j) ∧ (∀ j, gR μ a j = gR (ax_0 G) a j))
/-- the constants in the heap at the start -/
def ax_cf (G : ax_G) (a : Nat) (U : State) : Prop :=
  (mK (ax_0 G) a = 13 → va_O "java/lang/String" (ax_C G a) (fun q => ax_B G ≤ q) U (ax_Hb G) ∧ va_OF "java/lang/String" "coder" "B" (.int (gI (ax_0 G) a 1)) (ax_C G a) (fun q => ax_B G ≤ q) U (ax_Hb G) ∧ va_OF "java/lang/String" "value" "[B" (va_rf (ax_ao G (gR (ax_0 G) a 0))) (ax_C G a) (fun q => ax_B G ≤ q) U (ax_Hb G)) ∧
  (20 ≤ mK (ax_0 G) a → mK (ax_0 G) a ≤ 22 → va_T (ax_aT (mK (ax_0 G) a)) (ax_C G a) (mZ (ax_0 G) a) (fun j => ax_av G (ax_0 G) (mK (ax_0 G) a) a j) (fun q => ax_B G ≤ q) U (ax_Hb G)) ∧
  (mK (ax_0 G) a = 13 ∨ (20 ≤ mK (ax_0 G) a ∧ mK (ax_0 G) a ≤ 22) ∨ mK (ax_0 G) a = 99)
end
section
/-! a method's head: name, bytes, locals, answer; frames and locals' words that it needs, cells and slots that it may make; its parameters, its class (by ax_cn), the sort of its answer (0 int, 1 long, 2 none) -/
abbrev ax_H : Type := (MethodName × ByteArray × Nat × Option FieldType) × (Nat × Nat × Nat × Nat) × (Nat × Nat × Nat)
abbrev ax_nm (h : ax_H) : MethodName := h.1.1
abbrev ax_by (h : ax_H) : ByteArray := h.1.2.1
abbrev ax_ml (h : ax_H) : Nat := h.1.2.2.1
abbrev ax_rt (h : ax_H) : Option FieldType := h.1.2.2.2
abbrev ax_mc (h : ax_H) : Nat := h.2.1.2.2.1
abbrev ax_ms (h : ax_H) : Nat := h.2.1.2.2.2
abbrev ax_np (h : ax_H) : Nat := h.2.2.1
abbrev ax_oc (h : ax_H) : Nat := h.2.2.2.1
abbrev ax_rc (h : ax_H) : Nat := h.2.2.2.2
abbrev ax_rm (h : ax_H) : Room := { frames := h.2.1.1, cells := h.2.1.2.2.1, slots := h.2.1.2.2.2, locals := h.2.1.2.1 }
/-- an instruction: what it decodes to, its length, what its numbers stand for, the constant that it pushes -/
abbrev ax_X : Type := Instr × Nat × List Nat × ax_V
abbrev ax_p (E : ax_X) (n : Nat) : Nat := E.2.2.1.getD n 0
abbrev ax_L : Type := List (Nat × ax_V)
abbrev ax_K : Type := Nat → ax_L → List ax_V → Nat → Nat → ax_M → Prop
def ax_lk : ax_L → Nat → Option ax_V
  | [], _ => none
  | q :: l, i => if q.1 = i then some q.2 else ax_lk l i
def ax_cat (v : ax_V) : Nat := match v with
  | .inr (.inl _) => 2
  | _ => 1
def ax_sto (lv : ax_L) (i : Nat) (v : ax_V) : ax_L := match v with
  | .inr (.inl x) => (i, ax_l x) :: lv.filter (fun q => !(q.1 == i) && (!(q.1 == i + 1) && !(q.1 + 1 == i && ax_cat q.2 == 2)))
  | w => (i, w) :: lv.filter (fun q => !(q.1 == i) && !(q.1 + 1 == i && ax_cat q.2 == 2))
/-- the locals at a method's entry -/
def ax_ent : Nat → List ax_V → ax_L
  | _, [] => []
  | i, v :: vs => (i, v) :: ax_ent (i + ax_cat v) vs
def ax_sum : List ax_V → Nat
  | [] => 0
  | v :: vs => ax_cat v + ax_sum vs
/-- a reference that isn't null -/
def ax_wr (x : Option Nat) (f : Nat → Prop) : Prop := match x with
  | some a => f a
  | none => False
def ax_br (c A B : Prop) : Prop := (c → A) ∧ (¬ c → B)
/-- the room is there -/
def ax_gd (a b c d : Nat) (P : Prop) : Prop := cond (Nat.ble a b && Nat.ble c d) P False
theorem ax_gd.of {a b c d : Nat} {P : Prop} (h : ax_gd a b c d P) : (a ≤ b ∧ c ≤ d) ∧ P := by
  unfold ax_gd at h
  cases h1 : Nat.ble a b with
  | false => rw [h1] at h; exact h.elim
  | true =>
    cases h2 : Nat.ble c d with
    | false => rw [h1, h2] at h; exact h.elim
    | true => rw [h1, h2] at h; exact ⟨⟨Nat.le_of_ble_eq_true h1, Nat.le_of_ble_eq_true h2⟩, h⟩
theorem ax_gd.mk {a b c d : Nat} {P : Prop} (h1 : a ≤ b) (h2 : c ≤ d) (h : P) : ax_gd a b c d P := by
  unfold ax_gd
  rw [Nat.ble_eq_true_of_le h1, Nat.ble_eq_true_of_le h2]
  exact h
/-- a switch: the first value that fits -/
def ax_sw (x : Int32) (d : Nat) (k : Nat → Prop) : Nat → List Nat → Prop
  | _, [] => k d
  | v, t :: ts => ax_br (x = nI v) (k t) (ax_sw x d k (v + 1) ts)
/-- the first n of a stack, turned, and the rest -/
def ax_pop : Nat → List ax_V → List ax_V → Option (List ax_V × List ax_V)
  | 0, acc, st => some (acc, st)
  | n + 1, acc, v :: st => ax_pop n (v :: acc) st
  | _ + 1, _, [] => none
def ax_ty (k : ArrayType) : Nat := match k with
  | .byte => 20
  | .int => 21
  | .long => 22
  | .boolean => 23
  | _ => 99
section Step
variable (C : Nat → List ax_V → ax_M → (Option ax_V → ax_M → Prop) → Prop) (tb : Nat → ax_H)
/-- a call's answer, by its sort, on the stack -/
def ax_ans (t : Nat) (st : List ax_V) (K : List ax_V → ax_M → Prop) : Option ax_V → ax_M → Prop := fun x μ => match t with
  | 0 => ∃ y : Int32, x = some (ax_i y) ∧ K (ax_i y :: st) μ
  | 1 => ∃ y : Int64, x = some (ax_l y) ∧ K (ax_l y :: st) μ
  | _ => x = none ∧ K st μ
def ax_call (h : ax_H) (y : Nat) (as st : List ax_V) (cl sl : Nat) (μ : ax_M) (K : List ax_V → Nat → Nat → ax_M → Prop) : Prop :=
  cond (Nat.ble (ax_sum st) 8) (ax_gd (cl + ax_mc (tb y)) (ax_mc h) (sl + ax_ms (tb y)) (ax_ms h) (C y as μ (ax_ans (ax_rc (tb y)) st (fun st' μ' => K st' (cl + ax_mc (tb y)) (sl + ax_ms (tb y)) μ')))) False
/-- one instruction, goal first: K is what must hold at the next, Z what must hold of the answer -/
def ax_step (h : ax_H) (E : ax_X) (pc : Nat) (lv : ax_L) (st : List ax_V) (cl sl : Nat) (μ : ax_M) (K : ax_K) (Z : Option ax_V → ax_M → Prop) : Prop :=
  match E.1 with
  | .iconst _ | .bipush _ | .sipush _ | .lconst _ | .ldc _ | .ldc_w _ | .ldc2_w _ | .getstatic _ => K (pc + E.2.1) lv (E.2.2.2 :: st) cl sl μ
  | .iload _ | .iload_n _ => (match ax_lk lv (ax_p E 0) with
    | some (.inl x) => K (pc + E.2.1) lv (ax_i x :: st) cl sl μ
    | _ => False)
  | .lload _ | .lload_n _ => (match ax_lk lv (ax_p E 0) with
    | some (.inr (.inl x)) => K (pc + E.2.1) lv (ax_l x :: st) cl sl μ
    | _ => False)
  | .aload _ | .aload_n _ => (match ax_lk lv (ax_p E 0) with
    | some (.inr (.inr x)) => K (pc + E.2.1) lv (ax_r x :: st) cl sl μ
    | _ => False)
  | .istore _ | .istore_n _ => (match st with
    | .inl x :: st => cond (Nat.beq (ax_p E 1) 1) (∀ z : Int32, z = x → K (pc + E.2.1) (ax_sto lv (ax_p E 0) (ax_i z)) st cl sl μ) (K (pc + E.2.1) (ax_sto lv (ax_p E 0) (ax_i x)) st cl sl μ)
    | _ => False)
  | .lstore _ | .lstore_n _ => (match st with
    | .inr (.inl x) :: st => cond (Nat.beq (ax_p E 1) 1) (∀ z : Int64, z = x → K (pc + E.2.1) (ax_sto lv (ax_p E 0) (ax_l z)) st cl sl μ) (K (pc + E.2.1) (ax_sto lv (ax_p E 0) (ax_l x)) st cl sl μ)
    | _ => False)
  | .astore _ | .astore_n _ => (match st with
    | .inr (.inr x) :: st => K (pc + E.2.1) (ax_sto lv (ax_p E 0) (ax_r x)) st cl sl μ
    | _ => False)
  | .iinc _ _ => (match ax_lk lv (ax_p E 0), E.2.2.2 with
    | some (.inl x), .inl d => K (pc + E.2.1) (ax_sto lv (ax_p E 0) (ax_i (x + d))) st cl sl μ
    | _, _ => False)
  | .iadd => (match st with
    | .inl y :: .inl x :: st => K (pc + E.2.1) lv (ax_i (x + y) :: st) cl sl μ
    | _ => False)
  | .isub => (match st with
    | .inl y :: .inl x :: st => K (pc + E.2.1) lv (ax_i (x - y) :: st) cl sl μ
    | _ => False)
  | .imul => (match st with
    | .inl y :: .inl x :: st => K (pc + E.2.1) lv (ax_i (x * y) :: st) cl sl μ
    | _ => False)
  | .idiv => (match st with
    | .inl y :: .inl x :: st => ¬ y = 0 ∧ K (pc + E.2.1) lv (ax_i (x / y) :: st) cl sl μ
    | _ => False)
  | .irem => (match st with
    | .inl y :: .inl x :: st => ¬ y = 0 ∧ K (pc + E.2.1) lv (ax_i (x - x / y * y) :: st) cl sl μ
    | _ => False)
  | .ineg => (match st with
    | .inl x :: st => K (pc + E.2.1) lv (ax_i (-x) :: st) cl sl μ
    | _ => False)
  | .iand => (match st with
    | .inl y :: .inl x :: st => K (pc + E.2.1) lv (ax_i (x &&& y) :: st) cl sl μ
    | _ => False)
  | .ishl => (match st with
    | .inl y :: .inl x :: st => K (pc + E.2.1) lv (ax_i (x <<< (y &&& 31)) :: st) cl sl μ
    | _ => False)
  | .ishr => (match st with
    | .inl y :: .inl x :: st => K (pc + E.2.1) lv (ax_i (x >>> (y &&& 31)) :: st) cl sl μ
    | _ => False)
  | .iushr => (match st with
    | .inl y :: .inl x :: st => K (pc + E.2.1) lv (ax_i ((x.toUInt32 >>> (y.toUInt32 &&& Int32.toUInt32 31)).toInt32) :: st) cl sl μ
    | _ => False)
  | .ladd => (match st with
    | .inr (.inl y) :: .inr (.inl x) :: st => K (pc + E.2.1) lv (ax_l (x + y) :: st) cl sl μ
    | _ => False)
  | .lmul => (match st with
    | .inr (.inl y) :: .inr (.inl x) :: st => K (pc + E.2.1) lv (ax_l (x * y) :: st) cl sl μ
    | _ => False)
  | .ldiv => (match st with
    | .inr (.inl y) :: .inr (.inl x) :: st => ¬ y = 0 ∧ K (pc + E.2.1) lv (ax_l (x / y) :: st) cl sl μ
    | _ => False)
  | .lor => (match st with
    | .inr (.inl y) :: .inr (.inl x) :: st => K (pc + E.2.1) lv (ax_l (x ||| y) :: st) cl sl μ
    | _ => False)
  | .lshl => (match st with
    | .inl y :: .inr (.inl x) :: st => K (pc + E.2.1) lv (ax_l (x <<< (y.toInt64 &&& 63)) :: st) cl sl μ
    | _ => False)
  | .lcmp => (match st with
    | .inr (.inl y) :: .inr (.inl x) :: st => K (pc + E.2.1) lv (ax_i (lg_cmp x y) :: st) cl sl μ
    | _ => False)
  | .i2l => (match st with
    | .inl x :: st => K (pc + E.2.1) lv (ax_l x.toInt64 :: st) cl sl μ
    | _ => False)
  | .l2i => (match st with
    | .inr (.inl x) :: st => K (pc + E.2.1) lv (ax_i x.toInt32 :: st) cl sl μ
    | _ => False)
  | .i2b => (match st with
    | .inl x :: st => K (pc + E.2.1) lv (ax_i x.toInt8.toInt32 :: st) cl sl μ
    | _ => False)
  | .i2c => (match st with
    | .inl x :: st => K (pc + E.2.1) lv (ax_i (x.toUInt32 % 65536).toInt32 :: st) cl sl μ
    | _ => False)
  | .dup => (match st with
    | .inl x :: st => K (pc + E.2.1) lv (ax_i x :: ax_i x :: st) cl sl μ
    | .inr (.inr x) :: st => K (pc + E.2.1) lv (ax_r x :: ax_r x :: st) cl sl μ
    | _ => False)
  | .dup2 => (match st with
    | .inl y :: .inr (.inr x) :: st => K (pc + E.2.1) lv (ax_i y :: ax_r x :: ax_i y :: ax_r x :: st) cl sl μ
    | _ => False)
  | .pop => (match st with
    | .inl _ :: st => K (pc + E.2.1) lv st cl sl μ
    | .inr (.inr _) :: st => K (pc + E.2.1) lv st cl sl μ
    | _ => False)
  | .goto _ => K (ax_p E 0) lv st cl sl μ
  | .ifCond .eq _ => (match st with
    | .inl x :: st => ax_br (x = 0) (K (ax_p E 0) lv st cl sl μ) (K (pc + 3) lv st cl sl μ)
    | _ => False)
  | .ifCond .ne _ => (match st with
    | .inl x :: st => ax_br (x = 0) (K (pc + 3) lv st cl sl μ) (K (ax_p E 0) lv st cl sl μ)
    | _ => False)
  | .ifCond .lt _ => (match st with
    | .inl x :: st => ax_br (x < 0) (K (ax_p E 0) lv st cl sl μ) (K (pc + 3) lv st cl sl μ)
    | _ => False)
  | .ifCond .ge _ => (match st with
    | .inl x :: st => ax_br (x < 0) (K (pc + 3) lv st cl sl μ) (K (ax_p E 0) lv st cl sl μ)
    | _ => False)
  | .ifCond .gt _ => (match st with
    | .inl x :: st => ax_br (x ≤ 0) (K (pc + 3) lv st cl sl μ) (K (ax_p E 0) lv st cl sl μ)
    | _ => False)
  | .ifCond .le _ => (match st with
    | .inl x :: st => ax_br (x ≤ 0) (K (ax_p E 0) lv st cl sl μ) (K (pc + 3) lv st cl sl μ)
    | _ => False)
  | .if_icmp .eq _ => (match st with
    | .inl y :: .inl x :: st => ax_br (x = y) (K (ax_p E 0) lv st cl sl μ) (K (pc + 3) lv st cl sl μ)
    | _ => False)
  | .if_icmp .ne _ => (match st with
    | .inl y :: .inl x :: st => ax_br (x = y) (K (pc + 3) lv st cl sl μ) (K (ax_p E 0) lv st cl sl μ)
    | _ => False)
  | .if_icmp .lt _ => (match st with
    | .inl y :: .inl x :: st => ax_br (x < y) (K (ax_p E 0) lv st cl sl μ) (K (pc + 3) lv st cl sl μ)
    | _ => False)
  | .if_icmp .ge _ => (match st with
    | .inl y :: .inl x :: st => ax_br (x < y) (K (pc + 3) lv st cl sl μ) (K (ax_p E 0) lv st cl sl μ)
    | _ => False)
  | .if_icmp .gt _ => (match st with
    | .inl y :: .inl x :: st => ax_br (x ≤ y) (K (pc + 3) lv st cl sl μ) (K (ax_p E 0) lv st cl sl μ)
    | _ => False)
  | .if_icmp .le _ => (match st with
    | .inl y :: .inl x :: st => ax_br (x ≤ y) (K (ax_p E 0) lv st cl sl μ) (K (pc + 3) lv st cl sl μ)
    | _ => False)
  | .ifnull _ => (match st with
    | .inr (.inr x) :: st => ax_br (x = none) (K (ax_p E 0) lv st cl sl μ) (x ≠ some 6 ∧ K (pc + 3) lv st cl sl μ)
    | _ => False)
  | .ifnonnull _ => (match st with
    | .inr (.inr x) :: st => ax_br (x = none) (K (pc + 3) lv st cl sl μ) (x ≠ some 6 ∧ K (ax_p E 0) lv st cl sl μ)
    | _ => False)
  | .tableswitch _ _ _ _ => (match st with
    | .inl x :: st => ax_sw x (ax_p E 0) (fun t => K t lv st cl sl μ) (ax_p E 1) (E.2.2.1.drop 2)
    | _ => False)
  | .getfield _ => (match st with
    | .inr (.inr x) :: st => ax_wr x (fun a => mK μ a = ax_p E 1 ∧ (match ax_p E 3 with
      | 0 => K (pc + 3) lv (ax_i (gI μ a (ax_p E 2)) :: st) cl sl μ
      | 1 => K (pc + 3) lv (ax_l (gL μ a (ax_p E 2)) :: st) cl sl μ
      | _ => K (pc + 3) lv (ax_r (gR μ a (ax_p E 2)) :: st) cl sl μ))
    | _ => False)
  | .putfield _ => (match st with
    | .inl v :: .inr (.inr x) :: st => ax_wr x (fun a => (64 ≤ a ∧ mK μ a = ax_p E 1) ∧ cond (Nat.beq (ax_p E 3) 0) (K (pc + 3) lv st cl sl (sI μ a (ax_p E 2) v)) False)
    | .inr (.inl v) :: .inr (.inr x) :: st => ax_wr x (fun a => (64 ≤ a ∧ mK μ a = ax_p E 1) ∧ cond (Nat.beq (ax_p E 3) 1) (K (pc + 3) lv st cl sl (sL μ a (ax_p E 2) v)) False)
    | .inr (.inr v) :: .inr (.inr x) :: st => ax_wr x (fun a => (64 ≤ a ∧ mK μ a = ax_p E 1) ∧ cond (Nat.beq (ax_p E 3) 2) (K (pc + 3) lv st cl sl (sR μ a (ax_p E 2) v)) False)
    | _ => False)
  | .iaload => (match st with
    | .inl i :: .inr (.inr x) :: st => ax_wr x (fun a => (mK μ a = 21 ∧ vp_in i (mZ μ a)) ∧ K (pc + 1) lv (ax_i (gI μ a i.toNatClampNeg) :: st) cl sl μ)
    | _ => False)
  | .laload => (match st with
    | .inl i :: .inr (.inr x) :: st => ax_wr x (fun a => (mK μ a = 22 ∧ vp_in i (mZ μ a)) ∧ K (pc + 1) lv (ax_l (gL μ a i.toNatClampNeg) :: st) cl sl μ)
    | _ => False)
  | .baload => (match st with
    | .inl i :: .inr (.inr x) :: st => ax_wr x (fun a => (mK μ a = ax_p E 0 ∧ vp_in i (mZ μ a)) ∧ K (pc + 1) lv (ax_i (gI μ a i.toNatClampNeg) :: st) cl sl μ)
    | _ => False)
  | .aaload => (match st with
    | .inl i :: .inr (.inr x) :: st => ax_wr x (fun a => (mK μ a = ax_p E 0 ∧ vp_in i (mZ μ a)) ∧ K (pc + 1) lv (ax_r (gR μ a i.toNatClampNeg) :: st) cl sl μ)
    | _ => False)
  | .iastore => (match st with
    | .inl v :: .inl i :: .inr (.inr x) :: st => ax_wr x (fun a => (64 ≤ a ∧ mK μ a = 21 ∧ vp_in i (mZ μ a)) ∧ K (pc + 1) lv st cl sl (sI μ a i.toNatClampNeg v))
    | _ => False)
  | .lastore => (match st with
    | .inr (.inl v) :: .inl i :: .inr (.inr x) :: st => ax_wr x (fun a => (64 ≤ a ∧ mK μ a = 22 ∧ vp_in i (mZ μ a)) ∧ K (pc + 1) lv st cl sl (sL μ a i.toNatClampNeg v))
    | _ => False)
  | .bastore => (match st with
    | .inl v :: .inl i :: .inr (.inr x) :: st => ax_wr x (fun a => (64 ≤ a ∧ mK μ a = ax_p E 0 ∧ vp_in i (mZ μ a)) ∧ cond (Nat.beq (ax_p E 0) 20) (K (pc + 1) lv st cl sl (sI μ a i.toNatClampNeg v.toInt8.toInt32)) ((v = 0 ∨ v = 1) ∧ K (pc + 1) lv st cl sl (sI μ a i.toNatClampNeg v)))
    | _ => False)
  | .aastore => (match st with
    | .inr (.inr v) :: .inl i :: .inr (.inr x) :: st => ax_wr x (fun a => ax_wr v (fun b => (64 ≤ a ∧ mK μ a = ax_p E 0 ∧ vp_in i (mZ μ a) ∧ 64 ≤ b ∧ mK μ b = ax_p E 1) ∧ K (pc + 1) lv st cl sl (sR μ a i.toNatClampNeg (some b))))
    | _ => False)
  | .arraylength => (match st with
    | .inr (.inr x) :: st => ax_wr x (fun a => (20 ≤ mK μ a ∧ mK μ a ≤ 28) ∧ K (pc + 1) lv (ax_i (nI (mZ μ a)) :: st) cl sl μ)
    | _ => False)
  | .new _ => ax_gd (cl + 1) (ax_mc h) (sl + ax_nf (ax_p E 1)) (ax_ms h) (K (pc + 3) lv (ax_r (some (mN μ)) :: st) (cl + 1) (sl + ax_nf (ax_p E 1)) (nC μ (ax_p E 1) 0))
  | .newarray _ => (match st with
    | .inl n :: st => (¬ n < 0 ∧ n.toNatClampNeg ≤ 1000) ∧ ax_gd (cl + 1) (ax_mc h) (sl + n.toNatClampNeg) (ax_ms h) (K (pc + 2) lv (ax_r (some (mN μ)) :: st) (cl + 1) (sl + n.toNatClampNeg) (nC μ (ax_p E 0) n.toNatClampNeg))
    | _ => False)
  | .anewarray _ => (match st with
    | .inl n :: st => (¬ n < 0 ∧ n.toNatClampNeg ≤ 1000) ∧ ax_gd (cl + 1) (ax_mc h) (sl + n.toNatClampNeg) (ax_ms h) (K (pc + 3) lv (ax_r (some (mN μ)) :: st) (cl + 1) (sl + n.toNatClampNeg) (nC μ (ax_p E 1) n.toNatClampNeg))
    | _ => False)
  | .invokevirtual _ => (match ax_pop (ax_np (tb (ax_p E 1))) [] st with
    | some (as, .inr (.inr x) :: st) => ax_wr x (fun a => mK μ a = ax_p E 2 ∧ ax_call C tb h (ax_p E 1) (ax_r (some a) :: as) st cl sl μ (K (pc + 3) lv))
    | _ => False)
  | .invokestatic _ => cond (Nat.ble 9990 (ax_p E 1))
    (cond (Nat.beq (ax_p E 1) 9990)
      (match st with
        | .inl x :: st => cond (Nat.ble (ax_sum st) 8) (ax_gd cl (ax_mc h) sl (ax_ms h) (K (pc + 3) lv (ax_i (if 0 ≤ x then x else 0 - x) :: st) cl sl μ)) False
        | _ => False)
      (cond (Nat.beq (ax_p E 1) 9993)
        (match st with
          | .inr (.inl y) :: .inr (.inl x) :: st => cond (Nat.ble (ax_sum st) 8) (ax_gd cl (ax_mc h) sl (ax_ms h) (K (pc + 3) lv (ax_l (if y < x then y else x) :: st) cl sl μ)) False
          | _ => False)
        (match st with
          | .inl y :: .inl x :: st => cond (Nat.ble (ax_sum st) 8) (ax_gd cl (ax_mc h) sl (ax_ms h) (K (pc + 3) lv (ax_i (cond (Nat.beq (ax_p E 1) 9991) (if x < y then y else x) (if y < x then y else x)) :: st) cl sl μ)) False
          | _ => False)))
    (match ax_pop (ax_np (tb (ax_p E 1))) [] st with
      | some (as, st) => ax_call C tb h (ax_p E 1) as st cl sl μ (K (pc + 3) lv)
      | _ => False)
  | .invokespecial _ => cond (Nat.beq (ax_p E 1) 9999)
    (match st with
      | .inr (.inr (some a)) :: st => 64 ≤ a ∧ cond (Nat.ble (ax_sum st) 8) (K (pc + 3) lv st cl sl μ) False
      | _ => False)
    (match ax_pop (ax_np (tb (ax_p E 1))) [] st with
      | some (as, .inr (.inr (some a)) :: st) => 64 ≤ a ∧ ax_call C tb h (ax_p E 1) (ax_r (some a) :: as) st cl sl μ (K (pc + 3) lv)
      | _ => False)
  | .ireturn => (match st with
    | [.inl x] => ax_gd cl (ax_mc h) sl (ax_ms h) (match ax_rt h with
      | some .boolean => (x = 0 ∨ x = 1) ∧ Z (some (ax_i x)) μ
      | some .char => (¬ x < 0 ∧ x ≤ 65535) ∧ Z (some (ax_i x)) μ
      | some .byte => x.toInt8.toInt32 = x ∧ Z (some (ax_i x)) μ
      | some .int => Z (some (ax_i x)) μ
      | _ => False)
    | _ => False)
  | .lreturn => (match st with
    | [.inr (.inl x)] => ax_gd cl (ax_mc h) sl (ax_ms h) (Z (some (ax_l x)) μ)
    | _ => False)
  | .return_ => (match st with
    | [] => ax_gd cl (ax_mc h) sl (ax_ms h) (Z none μ)
    | _ => False)
  | _ => False
end Step
end
section
/-! the methods, by their numbers: first those that call none -/
def ax_h0 : ax_H := ((⟨"BiscuitLess", "changeOfWay", "(I)I"⟩, prog_1_method_40_code, 1, (some .int)), (0, 0, 0, 0), (1, 10, 0))
def ax_h1 : ax_H := ((⟨"BiscuitLess", "downwards", "(JJJ)J"⟩, prog_1_method_44_code, 6, (some .long)), (0, 0, 0, 0), (3, 10, 1))
def ax_h2 : ax_H := ((⟨"BiscuitLess", "fault", "()I"⟩, prog_1_method_4_code, 1, (some .int)), (0, 0, 0, 0), (0, 10, 0))
def ax_h3 : ax_H := ((⟨"BiscuitLess", "found", "(Z)Z"⟩, prog_1_method_33_code, 2, (some .boolean)), (0, 0, 0, 0), (1, 10, 0))
def ax_h4 : ax_H := ((⟨"BiscuitLess", "putFourBytes", "(I)V"⟩, prog_1_method_38_code, 3, none), (0, 0, 0, 0), (1, 10, 2))
def ax_h5 : ax_H := ((⟨"BiscuitLess", "refuse", "(I)I"⟩, prog_1_method_32_code, 2, (some .int)), (0, 0, 0, 0), (1, 10, 0))
def ax_h6 : ax_H := ((⟨"BiscuitLess", "rowOf", "(II)I"⟩, prog_1_method_43_code, 2, (some .int)), (0, 0, 0, 0), (2, 10, 0))
def ax_h7 : ax_H := ((⟨"BiscuitLess", "size", "(I)I"⟩, prog_1_method_30_code, 2, (some .int)), (0, 0, 0, 0), (1, 10, 0))
def ax_h8 : ax_H := ((⟨"BiscuitLess", "trouble", "()I"⟩, prog_1_method_31_code, 1, (some .int)), (0, 0, 0, 0), (0, 10, 0))
def ax_h9 : ax_H := ((⟨"BiscuitLess", "where", "()I"⟩, prog_1_method_5_code, 1, (some .int)), (0, 0, 0, 0), (0, 10, 0))
def ax_h10 : ax_H := ((⟨"BiscuitLess", "whyNoWorths", "(ZI)I"⟩, prog_1_method_36_code, 2, (some .int)), (0, 0, 0, 0), (2, 10, 0))
def ax_h11 : ax_H := ((⟨"BiscuitLess$Change", "<init>", "()V"⟩, prog_2_method_1_code, 1, none), (1, 20, 0, 0), (0, 0, 2))
def ax_h12 : ax_H := ((⟨"BiscuitLess$Course", "<init>", "(LBiscuitLess$Land;)V"⟩, prog_3_method_1_code, 2, none), (1, 20, 80, 936), (1, 1, 2))
def ax_h13 : ax_H := ((⟨"BiscuitLess$Course", "applyChange", "(LBiscuitLess$Change;)V"⟩, prog_3_method_5_code, 4, none), (1, 23, 0, 0), (1, 1, 2))
def ax_h14 : ax_H := ((⟨"BiscuitLess$Course", "isThere", "(II)Z"⟩, prog_3_method_8_code, 3, (some .boolean)), (0, 0, 0, 0), (2, 1, 0))
def ax_h15 : ax_H := ((⟨"BiscuitLess$House", "<init>", "()V"⟩, prog_4_method_1_code, 1, none), (1, 20, 1, 4), (0, 2, 2))
def ax_h16 : ax_H := ((⟨"BiscuitLess$Land", "addChange", "(IIII)V"⟩, prog_5_method_9_code, 6, none), (0, 0, 0, 0), (4, 3, 2))
def ax_h17 : ax_H := ((⟨"BiscuitLess$Land", "dropChange", "()V"⟩, prog_5_method_10_code, 1, none), (0, 0, 0, 0), (0, 3, 2))
def ax_h18 : ax_H := ((⟨"BiscuitLess$Land", "empty", "()V"⟩, prog_5_method_2_code, 1, none), (0, 0, 0, 0), (0, 3, 2))
def ax_h19 : ax_H := ((⟨"BiscuitLess$Land", "hasCome", "(I)Z"⟩, prog_5_method_11_code, 3, (some .boolean)), (0, 0, 0, 0), (1, 3, 0))
def ax_h20 : ax_H := ((⟨"BiscuitLess$Land", "isGroup", "(I)Z"⟩, prog_5_method_5_code, 2, (some .boolean)), (0, 0, 0, 0), (1, 3, 0))
def ax_h21 : ax_H := ((⟨"BiscuitLess$Land", "isHouse", "(I)Z"⟩, prog_5_method_7_code, 2, (some .boolean)), (0, 0, 0, 0), (1, 3, 0))
def ax_h22 : ax_H := ((⟨"BiscuitLess$Land", "isLaterMonth", "(I)Z"⟩, prog_5_method_4_code, 2, (some .boolean)), (0, 0, 0, 0), (1, 3, 0))
def ax_h23 : ax_H := ((⟨"BiscuitLess$Land", "isMonth", "(I)Z"⟩, prog_5_method_3_code, 2, (some .boolean)), (0, 0, 0, 0), (1, 3, 0))
def ax_h24 : ax_H := ((⟨"BiscuitLess$Land", "isOffice", "(I)Z"⟩, prog_5_method_8_code, 2, (some .boolean)), (0, 0, 0, 0), (1, 3, 0))
def ax_h25 : ax_H := ((⟨"BiscuitLess$Land", "isThing", "(I)Z"⟩, prog_5_method_6_code, 2, (some .boolean)), (0, 0, 0, 0), (1, 3, 0))
def ax_h26 : ax_H := ((⟨"BiscuitLess$Names", "<init>", "()V"⟩, prog_6_method_1_code, 1, none), (1, 20, 3, 54), (0, 4, 2))
def ax_h27 : ax_H := ((⟨"BiscuitLess$Names", "add", "(JII)V"⟩, prog_6_method_3_code, 5, none), (0, 0, 0, 0), (3, 4, 2))
def ax_h28 : ax_H := ((⟨"BiscuitLess$Names", "empty", "()V"⟩, prog_6_method_2_code, 1, none), (0, 0, 0, 0), (0, 4, 2))
def ax_h29 : ax_H := ((⟨"BiscuitLess$Names", "knows", "(J)Z"⟩, prog_6_method_4_code, 4, (some .boolean)), (0, 0, 0, 0), (1, 4, 0))
def ax_h30 : ax_H := ((⟨"BiscuitLess$Names", "numberOf", "(JI)I"⟩, prog_6_method_5_code, 5, (some .int)), (0, 0, 0, 0), (2, 4, 0))
def ax_h31 : ax_H := ((⟨"BiscuitLess$Office", "<init>", "()V"⟩, prog_7_method_1_code, 1, none), (1, 20, 0, 0), (0, 5, 2))
def ax_h32 : ax_H := ((⟨"BiscuitLess$Reader", "fails", "(I)Z"⟩, prog_8_method_6_code, 2, (some .boolean)), (0, 0, 0, 0), (1, 6, 0))
def ax_h33 : ax_H := ((⟨"BiscuitLess$Reader", "faultNumber", "()I"⟩, prog_8_method_2_code, 1, (some .int)), (0, 0, 0, 0), (0, 6, 0))
def ax_h34 : ax_H := ((⟨"BiscuitLess$Reader", "faultPlace", "()I"⟩, prog_8_method_3_code, 1, (some .int)), (0, 0, 0, 0), (0, 6, 0))
def ax_h35 : ax_H := ((⟨"BiscuitLess$Reader", "isName", "()Z"⟩, prog_8_method_19_code, 2, (some .boolean)), (0, 0, 0, 0), (0, 6, 0))
def ax_h36 : ax_H := ((⟨"BiscuitLess$Reader", "isWhole", "()Z"⟩, prog_8_method_5_code, 1, (some .boolean)), (0, 0, 0, 0), (0, 6, 0))
def ax_h37 : ax_H := ((⟨"BiscuitLess$Tally", "<init>", "(LBiscuitLess$Course;LBiscuitLess$Land;)V"⟩, prog_9_method_1_code, 3, none), (1, 20, 6, 55), (2, 7, 2))
def ax_h38 : ax_H := ((⟨"BiscuitLess$Tally", "countOf", "(III)J"⟩, prog_9_method_5_code, 6, (some .long)), (0, 0, 0, 0), (3, 7, 1))
def ax_h39 : ax_H := ((⟨"BiscuitLess$Tally", "listMonth", "(II)I"⟩, prog_9_method_4_code, 3, (some .int)), (0, 0, 0, 0), (2, 7, 0))
def ax_h40 : ax_H := ((⟨"BiscuitLess$Tally", "pensionPaid", "(III)I"⟩, prog_9_method_14_code, 6, (some .int)), (0, 0, 0, 0), (3, 7, 0))
def ax_h41 : ax_H := ((⟨"BiscuitLess$Tally", "sumOver", "(I[J)J"⟩, prog_9_method_18_code, 6, (some .long)), (0, 0, 0, 0), (2, 7, 1))
def ax_h42 : ax_H := ((⟨"BiscuitLess$Thing", "<init>", "()V"⟩, prog_10_method_1_code, 1, none), (1, 20, 0, 0), (0, 8, 2))
def ax_h43 : ax_H := ((⟨"BiscuitLess$Tokens", "<init>", "([I)V"⟩, prog_11_method_1_code, 2, none), (1, 20, 0, 0), (1, 9, 2))
def ax_h44 : ax_H := ((⟨"BiscuitLess$Tokens", "advanceOverDigits", "()V"⟩, prog_11_method_5_code, 3, none), (0, 0, 0, 0), (0, 9, 2))
def ax_h45 : ax_H := ((⟨"BiscuitLess$Tokens", "advanceOverLetters", "()V"⟩, prog_11_method_4_code, 4, none), (0, 0, 0, 0), (0, 9, 2))
def ax_h46 : ax_H := ((⟨"BiscuitLess$Tokens", "advanceOverSign", "()V"⟩, prog_11_method_6_code, 1, none), (0, 0, 0, 0), (0, 9, 2))
def ax_h47 : ax_H := ((⟨"BiscuitLessModel", "<init>", "()V"⟩, prog_13_method_1_code, 1, none), (1, 20, 7, 1572), (0, 12, 2))
def ax_h48 : ax_H := ((⟨"BiscuitLessModel", "bits", "(I)I"⟩, prog_13_method_96_code, 3, (some .int)), (0, 0, 0, 0), (1, 12, 0))
def ax_h49 : ax_H := ((⟨"BiscuitLessModel", "byteAt", "(I)I"⟩, prog_13_method_8_code, 2, (some .int)), (0, 0, 0, 0), (1, 12, 0))
def ax_h50 : ax_H := ((⟨"BiscuitLessModel", "cell", "(II)I"⟩, prog_13_method_34_code, 2, (some .int)), (0, 0, 0, 0), (2, 12, 0))
def ax_h51 : ax_H := ((⟨"BiscuitLessModel", "done", "(I)I"⟩, prog_13_method_5_code, 2, (some .int)), (0, 0, 0, 0), (1, 12, 0))
def ax_h52 : ax_H := ((⟨"BiscuitLessModel", "everything", "()I"⟩, prog_13_method_66_code, 1, (some .int)), (0, 0, 0, 0), (0, 12, 0))
def ax_h53 : ax_H := ((⟨"BiscuitLessModel", "fault", "()I"⟩, prog_13_method_32_code, 1, (some .int)), (0, 0, 0, 0), (0, 12, 0))
def ax_h54 : ax_H := ((⟨"BiscuitLessModel", "feed", "(IIIII)I"⟩, prog_13_method_30_code, 8, (some .int)), (0, 0, 0, 0), (5, 12, 0))
def ax_h55 : ax_H := ((⟨"BiscuitLessModel", "hasCome", "(I)Z"⟩, prog_13_method_37_code, 3, (some .boolean)), (0, 0, 0, 0), (1, 12, 0))
def ax_h56 : ax_H := ((⟨"BiscuitLessModel", "hiding", "(I)I"⟩, prog_13_method_90_code, 1, (some .int)), (0, 0, 0, 0), (1, 12, 0))
def ax_h57 : ax_H := ((⟨"BiscuitLessModel", "in", "(III)Z"⟩, prog_13_method_6_code, 3, (some .boolean)), (0, 0, 0, 0), (3, 12, 0))
def ax_h58 : ax_H := ((⟨"BiscuitLessModel", "isDigit", "(I)Z"⟩, prog_13_method_10_code, 1, (some .boolean)), (0, 0, 0, 0), (1, 12, 0))
def ax_h59 : ax_H := ((⟨"BiscuitLessModel", "isGroup", "(I)Z"⟩, prog_13_method_48_code, 2, (some .boolean)), (0, 0, 0, 0), (1, 12, 0))
def ax_h60 : ax_H := ((⟨"BiscuitLessModel", "isHouse", "(I)Z"⟩, prog_13_method_46_code, 2, (some .boolean)), (0, 0, 0, 0), (1, 12, 0))
def ax_h61 : ax_H := ((⟨"BiscuitLessModel", "isLetter", "(I)Z"⟩, prog_13_method_9_code, 1, (some .boolean)), (0, 0, 0, 0), (1, 12, 0))
def ax_h62 : ax_H := ((⟨"BiscuitLessModel", "isMonth", "(I)Z"⟩, prog_13_method_45_code, 2, (some .boolean)), (0, 0, 0, 0), (1, 12, 0))
def ax_h63 : ax_H := ((⟨"BiscuitLessModel", "isOffice", "(I)Z"⟩, prog_13_method_47_code, 2, (some .boolean)), (0, 0, 0, 0), (1, 12, 0))
def ax_h64 : ax_H := ((⟨"BiscuitLessModel", "isThing", "(I)Z"⟩, prog_13_method_44_code, 2, (some .boolean)), (0, 0, 0, 0), (1, 12, 0))
def ax_h65 : ax_H := ((⟨"BiscuitLessModel", "isWanted", "(II)Z"⟩, prog_13_method_51_code, 3, (some .boolean)), (0, 0, 0, 0), (2, 12, 0))
def ax_h66 : ax_H := ((⟨"BiscuitLessModel", "kept", "(III)I"⟩, prog_13_method_7_code, 3, (some .int)), (0, 0, 0, 0), (3, 12, 0))
def ax_h67 : ax_H := ((⟨"BiscuitLessModel", "listOf", "(II)I"⟩, prog_13_method_69_code, 3, (some .int)), (0, 0, 0, 0), (2, 12, 0))
def ax_h68 : ax_H := ((⟨"BiscuitLessModel", "refused", "(I)I"⟩, prog_13_method_3_code, 2, (some .int)), (0, 0, 0, 0), (1, 12, 0))
def ax_h69 : ax_H := ((⟨"BiscuitLessModel", "share", "(JJ)I"⟩, prog_13_method_57_code, 6, (some .int)), (0, 0, 0, 0), (2, 12, 0))
def ax_h70 : ax_H := ((⟨"BiscuitLessModel", "thrown", "()I"⟩, prog_13_method_2_code, 1, (some .int)), (0, 0, 0, 0), (0, 12, 0))
def ax_h71 : ax_H := ((⟨"BiscuitLessModel", "trouble", "()I"⟩, prog_13_method_103_code, 1, (some .int)), (0, 0, 0, 0), (0, 12, 0))
def ax_h72 : ax_H := ((⟨"BiscuitLessModel", "want", "(III)I"⟩, prog_13_method_35_code, 3, (some .int)), (0, 0, 0, 0), (3, 12, 0))
def ax_h73 : ax_H := ((⟨"BiscuitLessModel", "where", "()I"⟩, prog_13_method_33_code, 1, (some .int)), (0, 0, 0, 0), (0, 12, 0))
def ax_h74 : ax_H := ((⟨"BiscuitLessModel", "wrong", "(I)V"⟩, prog_13_method_13_code, 2, none), (0, 0, 0, 0), (1, 12, 2))
def ax_h75 : ax_H := ((⟨"BiscuitLessModel$Land", "<init>", "()V"⟩, prog_14_method_1_code, 1, none), (1, 20, 17, 197), (0, 11, 2))
def ax_h76 : ax_H := ((⟨"BiscuitLessModel$Land", "find", "(J)I"⟩, prog_14_method_2_code, 4, (some .int)), (0, 0, 0, 0), (1, 11, 0))
def ax_h77 : ax_H := ((⟨"java/lang/Integer", "bitCount", "(I)I"⟩, prog_19_method_49_code, 1, (some .int)), (0, 0, 0, 0), (1, 15, 0))
def ax_h78 : ax_H := ((⟨"java/lang/String", "coder", "()B"⟩, prog_22_method_152_code, 1, (some .byte)), (0, 0, 0, 0), (0, 16, 0))
def ax_h79 : ax_H := ((⟨"java/lang/String", "isLatin1", "()Z"⟩, prog_22_method_154_code, 1, (some .boolean)), (0, 0, 0, 0), (0, 16, 0))
def ax_h80 : ax_H := ((⟨"jdk/internal/util/Preconditions", "checkIndex", "(IILjava/util/function/BiFunction;)I"⟩, prog_29_method_11_code, 3, (some .int)), (0, 0, 0, 0), (3, 19, 0))
def ax_h81 : ax_H := ((⟨"BiscuitLess", "buys", "(IIII)I"⟩, prog_1_method_7_code, 7, (some .int)), (1, 21, 0, 0), (4, 10, 0))
def ax_h82 : ax_H := ((⟨"BiscuitLess", "feed", "(IIIII)I"⟩, prog_1_method_2_code, 6, (some .int)), (1, 22, 0, 0), (5, 10, 0))
def ax_h83 : ax_H := ((⟨"BiscuitLess", "isHouseMonth", "(II)Z"⟩, prog_1_method_34_code, 3, (some .boolean)), (1, 21, 0, 0), (2, 10, 0))
def ax_h84 : ax_H := ((⟨"BiscuitLess", "isOfficeMonth", "(II)Z"⟩, prog_1_method_35_code, 3, (some .boolean)), (1, 21, 0, 0), (2, 10, 0))
def ax_h85 : ax_H := ((⟨"BiscuitLess", "ratio", "(JJ)I"⟩, prog_1_method_45_code, 4, (some .int)), (1, 25, 0, 0), (2, 10, 0))
def ax_h86 : ax_H := ((⟨"BiscuitLess", "thing", "(III)I"⟩, prog_1_method_6_code, 4, (some .int)), (1, 22, 0, 0), (3, 10, 0))
def ax_h87 : ax_H := ((⟨"BiscuitLess", "trialGain", "(IIII)I"⟩, prog_1_method_41_code, 8, (some .int)), (1, 25, 0, 0), (4, 10, 0))
def ax_h88 : ax_H := ((⟨"BiscuitLess", "whyNoTrial", "(IIIZ)I"⟩, prog_1_method_37_code, 6, (some .int)), (1, 22, 0, 0), (4, 10, 0))
def ax_h89 : ax_H := ((⟨"BiscuitLess$Course", "applyChanges", "(II)V"⟩, prog_3_method_4_code, 5, none), (2, 46, 0, 0), (2, 1, 2))
def ax_h90 : ax_H := ((⟨"BiscuitLess$Course", "costOfBasket", "(III)J"⟩, prog_3_method_12_code, 9, (some .long)), (1, 21, 0, 0), (3, 1, 1))
def ax_h91 : ax_H := ((⟨"BiscuitLess$Course", "isAsAtFirst", "(II)Z"⟩, prog_3_method_21_code, 4, (some .boolean)), (1, 22, 0, 0), (2, 1, 0))
def ax_h92 : ax_H := ((⟨"BiscuitLess$Course", "isLedIn", "(II)Z"⟩, prog_3_method_23_code, 5, (some .boolean)), (1, 21, 0, 0), (2, 1, 0))
def ax_h93 : ax_H := ((⟨"BiscuitLess$Course", "isWorth", "(IIIII)Z"⟩, prog_3_method_26_code, 8, (some .boolean)), (1, 23, 0, 0), (5, 1, 0))
def ax_h94 : ax_H := ((⟨"BiscuitLess$Course", "piecesFor", "(III)I"⟩, prog_3_method_9_code, 5, (some .int)), (1, 25, 0, 0), (3, 1, 0))
def ax_h95 : ax_H := ((⟨"BiscuitLess$Course", "piecesOf", "(III)I"⟩, prog_3_method_18_code, 5, (some .int)), (1, 21, 0, 0), (3, 1, 0))
def ax_h96 : ax_H := ((⟨"BiscuitLess$Course", "shortfall", "(II)I"⟩, prog_3_method_13_code, 8, (some .int)), (1, 23, 0, 0), (2, 1, 0))
def ax_h97 : ax_H := ((⟨"BiscuitLess$Course", "staysWith", "(III)Z"⟩, prog_3_method_7_code, 9, (some .boolean)), (1, 22, 0, 0), (3, 1, 0))
def ax_h98 : ax_H := ((⟨"BiscuitLess$Land", "<init>", "()V"⟩, prog_5_method_1_code, 2, none), (2, 40, 41, 176), (0, 3, 2))
def ax_h99 : ax_H := ((⟨"BiscuitLess$Reader", "<init>", "([ILBiscuitLess$Land;)V"⟩, prog_8_method_1_code, 3, none), (2, 41, 5, 65), (2, 6, 2))
def ax_h100 : ax_H := ((⟨"BiscuitLess$Reader", "isToldName", "(I)Z"⟩, prog_8_method_20_code, 2, (some .boolean)), (1, 24, 0, 0), (1, 6, 0))
def ax_h101 : ax_H := ((⟨"BiscuitLess$Tally", "isLeftOut", "(III)Z"⟩, prog_9_method_7_code, 4, (some .boolean)), (1, 22, 0, 0), (3, 7, 0))
def ax_h102 : ax_H := ((⟨"BiscuitLess$Tally", "seenInstead", "(III)I"⟩, prog_9_method_10_code, 9, (some .int)), (1, 23, 0, 0), (3, 7, 0))
def ax_h103 : ax_H := ((⟨"BiscuitLess$Tally", "seenPrice", "(III)J"⟩, prog_9_method_6_code, 5, (some .long)), (1, 25, 0, 0), (3, 7, 1))
def ax_h104 : ax_H := ((⟨"BiscuitLess$Tally", "seesAll", "(I)Z"⟩, prog_9_method_12_code, 5, (some .boolean)), (1, 22, 0, 0), (1, 7, 0))
def ax_h105 : ax_H := ((⟨"BiscuitLess$Tokens", "advance", "()V"⟩, prog_11_method_3_code, 1, none), (1, 23, 0, 0), (0, 9, 2))
def ax_h106 : ax_H := ((⟨"BiscuitLessModel", "buys", "(IIII)I"⟩, prog_13_method_50_code, 5, (some .int)), (1, 22, 0, 0), (4, 12, 0))
def ax_h107 : ax_H := ((⟨"BiscuitLessModel", "costs", "(III)I"⟩, prog_13_method_53_code, 7, (some .int)), (1, 22, 0, 0), (3, 12, 0))
def ax_h108 : ax_H := ((⟨"BiscuitLessModel", "countOf", "(III)J"⟩, prog_13_method_60_code, 8, (some .long)), (1, 22, 0, 0), (3, 12, 1))
def ax_h109 : ax_H := ((⟨"BiscuitLessModel", "goesOn", "()V"⟩, prog_13_method_12_code, 3, none), (1, 21, 0, 0), (0, 12, 2))
def ax_h110 : ax_H := ((⟨"BiscuitLessModel", "isBack", "(I)Z"⟩, prog_13_method_72_code, 5, (some .boolean)), (1, 21, 0, 0), (1, 12, 0))
def ax_h111 : ax_H := ((⟨"BiscuitLessModel", "isBoughtAgain", "(III)Z"⟩, prog_13_method_42_code, 6, (some .boolean)), (1, 21, 0, 0), (3, 12, 0))
def ax_h112 : ax_H := ((⟨"BiscuitLessModel", "isOther", "(II)Z"⟩, prog_13_method_100_code, 4, (some .boolean)), (1, 22, 0, 0), (2, 12, 0))
def ax_h113 : ax_H := ((⟨"BiscuitLessModel", "lastOf", "(II)I"⟩, prog_13_method_62_code, 4, (some .int)), (1, 21, 0, 0), (2, 12, 0))
def ax_h114 : ax_H := ((⟨"BiscuitLessModel", "laysThing", "(I)V"⟩, prog_13_method_38_code, 10, none), (1, 22, 0, 0), (1, 12, 2))
def ax_h115 : ax_H := ((⟨"BiscuitLessModel", "lets", "(IIIII)Z"⟩, prog_13_method_84_code, 8, (some .boolean)), (1, 21, 0, 0), (5, 12, 0))
def ax_h116 : ax_H := ((⟨"BiscuitLessModel", "lost", "(I)I"⟩, prog_13_method_4_code, 2, (some .int)), (1, 21, 0, 0), (1, 12, 0))
def ax_h117 : ax_H := ((⟨"BiscuitLessModel", "piecesBought", "(III)I"⟩, prog_13_method_91_code, 6, (some .int)), (1, 22, 0, 0), (3, 12, 0))
def ax_h118 : ax_H := ((⟨"BiscuitLessModel", "refusesHide", "(III)I"⟩, prog_13_method_87_code, 4, (some .int)), (1, 22, 0, 0), (3, 12, 0))
def ax_h119 : ax_H := ((⟨"BiscuitLessModel", "seen", "(III)J"⟩, prog_13_method_61_code, 4, (some .long)), (1, 21, 0, 0), (3, 12, 1))
def ax_h120 : ax_H := ((⟨"BiscuitLessModel", "size", "(I)I"⟩, prog_13_method_102_code, 2, (some .int)), (1, 22, 0, 0), (1, 12, 0))
def ax_h121 : ax_H := ((⟨"BiscuitLessModel", "thing", "(III)I"⟩, prog_13_method_49_code, 5, (some .int)), (1, 22, 0, 0), (3, 12, 0))
def ax_h122 : ax_H := ((⟨"BiscuitLessModel", "worthOf", "(II)I"⟩, prog_13_method_39_code, 3, (some .int)), (1, 21, 0, 0), (2, 12, 0))
def ax_h123 : ax_H := ((⟨"java/lang/String", "checkIndex", "(II)V"⟩, prog_22_method_155_code, 2, none), (1, 22, 0, 0), (2, 16, 2))
def ax_h124 : ax_H := ((⟨"java/lang/String", "length", "()I"⟩, prog_22_method_54_code, 1, (some .int)), (1, 20, 0, 0), (0, 16, 0))
def ax_h125 : ax_H := ((⟨"BiscuitLess", "<init>", "()V"⟩, prog_1_method_1_code, 1, none), (3, 63, 267, 3356), (0, 10, 2))
def ax_h126 : ax_H := ((⟨"BiscuitLess", "isHidden", "(III)Z"⟩, prog_1_method_42_code, 5, (some .boolean)), (2, 45, 0, 0), (3, 10, 0))
def ax_h127 : ax_H := ((⟨"BiscuitLess", "missed", "(II)I"⟩, prog_1_method_9_code, 3, (some .int)), (2, 50, 0, 0), (2, 10, 0))
def ax_h128 : ax_H := ((⟨"BiscuitLess", "number", "(II)I"⟩, prog_1_method_12_code, 3, (some .int)), (2, 43, 0, 0), (2, 10, 0))
def ax_h129 : ax_H := ((⟨"BiscuitLess", "pension", "(III)I"⟩, prog_1_method_19_code, 4, (some .int)), (2, 43, 0, 0), (3, 10, 0))
def ax_h130 : ax_H := ((⟨"BiscuitLess$Course", "addUpPieces", "(I)V"⟩, prog_3_method_19_code, 4, none), (2, 45, 0, 0), (1, 1, 2))
def ax_h131 : ax_H := ((⟨"BiscuitLess$Course", "bestOf", "(III)I"⟩, prog_3_method_10_code, 8, (some .int)), (2, 49, 0, 0), (3, 1, 0))
def ax_h132 : ax_H := ((⟨"BiscuitLess$Course", "countWorths", "(III)I"⟩, prog_3_method_24_code, 7, (some .int)), (2, 50, 0, 0), (3, 1, 0))
def ax_h133 : ax_H := ((⟨"BiscuitLess$Course", "endOfWorths", "(IIIIZ)I"⟩, prog_3_method_25_code, 11, (some .int)), (2, 50, 0, 0), (5, 1, 0))
def ax_h134 : ax_H := ((⟨"BiscuitLess$Course", "firstBasketNumber", "(II)I"⟩, prog_3_method_16_code, 3, (some .int)), (2, 49, 0, 0), (2, 1, 0))
def ax_h135 : ax_H := ((⟨"BiscuitLess$Course", "followThing", "(I)V"⟩, prog_3_method_3_code, 4, none), (3, 70, 0, 0), (1, 1, 2))
def ax_h136 : ax_H := ((⟨"BiscuitLess$Course", "isBack", "(I)Z"⟩, prog_3_method_20_code, 3, (some .boolean)), (2, 45, 0, 0), (1, 1, 0))
def ax_h137 : ax_H := ((⟨"BiscuitLess$Course", "latestBasketNumber", "(II)I"⟩, prog_3_method_17_code, 3, (some .int)), (2, 49, 0, 0), (2, 1, 0))
def ax_h138 : ax_H := ((⟨"BiscuitLess$Course", "monthLed", "(II)I"⟩, prog_3_method_22_code, 5, (some .int)), (2, 45, 0, 0), (2, 1, 0))
def ax_h139 : ax_H := ((⟨"BiscuitLess$Course", "spending", "(II)I"⟩, prog_3_method_11_code, 3, (some .int)), (2, 49, 0, 0), (2, 1, 0))
def ax_h140 : ax_H := ((⟨"BiscuitLess$Reader", "takesOneOf", "([J)Z"⟩, prog_8_method_15_code, 3, (some .boolean)), (2, 43, 0, 0), (1, 6, 0))
def ax_h141 : ax_H := ((⟨"BiscuitLess$Reader", "takesWhole", "(II)Z"⟩, prog_8_method_17_code, 3, (some .boolean)), (2, 43, 0, 0), (2, 6, 0))
def ax_h142 : ax_H := ((⟨"BiscuitLess$Reader", "takesWord", "(J)Z"⟩, prog_8_method_16_code, 3, (some .boolean)), (2, 43, 0, 0), (1, 6, 0))
def ax_h143 : ax_H := ((⟨"BiscuitLess$Reader", "tellsName", "(II)Z"⟩, prog_8_method_18_code, 3, (some .boolean)), (2, 43, 0, 0), (2, 6, 0))
def ax_h144 : ax_H := ((⟨"BiscuitLess$Reader", "usesName", "(I)Z"⟩, prog_8_method_21_code, 2, (some .boolean)), (2, 45, 0, 0), (1, 6, 0))
def ax_h145 : ax_H := ((⟨"BiscuitLess$Tally", "partInOwnMonth", "(IIII)J"⟩, prog_9_method_9_code, 5, (some .long)), (2, 49, 0, 0), (4, 7, 1))
def ax_h146 : ax_H := ((⟨"BiscuitLess$Tally", "partThen", "(IIII)J"⟩, prog_9_method_8_code, 9, (some .long)), (2, 51, 0, 0), (4, 7, 1))
def ax_h147 : ax_H := ((⟨"BiscuitLess$Tokens", "open", "(I)V"⟩, prog_11_method_2_code, 2, none), (2, 43, 0, 0), (1, 9, 2))
def ax_h148 : ax_H := ((⟨"BiscuitLessModel", "back", "(I)I"⟩, prog_13_method_73_code, 2, (some .int)), (2, 45, 0, 0), (1, 12, 0))
def ax_h149 : ax_H := ((⟨"BiscuitLessModel", "eatsSign", "(I)Z"⟩, prog_13_method_15_code, 3, (some .boolean)), (2, 43, 0, 0), (1, 12, 0))
def ax_h150 : ax_H := ((⟨"BiscuitLessModel", "instead", "(III)I"⟩, prog_13_method_79_code, 7, (some .int)), (2, 48, 0, 0), (3, 12, 0))
def ax_h151 : ax_H := ((⟨"BiscuitLessModel", "isSeen", "(I)Z"⟩, prog_13_method_76_code, 4, (some .boolean)), (2, 49, 0, 0), (1, 12, 0))
def ax_h152 : ax_H := ((⟨"BiscuitLessModel", "led", "(II)I"⟩, prog_13_method_101_code, 5, (some .int)), (2, 45, 0, 0), (2, 12, 0))
def ax_h153 : ax_H := ((⟨"BiscuitLessModel", "missed", "(II)I"⟩, prog_13_method_54_code, 7, (some .int)), (2, 43, 0, 0), (2, 12, 0))
def ax_h154 : ax_H := ((⟨"BiscuitLessModel", "nearTo", "(II)I"⟩, prog_13_method_63_code, 8, (some .int)), (2, 44, 0, 0), (2, 12, 0))
def ax_h155 : ax_H := ((⟨"BiscuitLessModel", "piecesOf", "(III)I"⟩, prog_13_method_40_code, 4, (some .int)), (2, 43, 0, 0), (3, 12, 0))
def ax_h156 : ax_H := ((⟨"BiscuitLessModel", "readWhole", "(II)I"⟩, prog_13_method_16_code, 4, (some .int)), (2, 43, 0, 0), (2, 12, 0))
def ax_h157 : ax_H := ((⟨"BiscuitLessModel", "span", "(IIIIZ)I"⟩, prog_13_method_86_code, 10, (some .int)), (2, 48, 0, 0), (5, 12, 0))
def ax_h158 : ax_H := ((⟨"BiscuitLessModel", "spent", "(II)I"⟩, prog_13_method_52_code, 3, (some .int)), (2, 48, 0, 0), (2, 12, 0))
def ax_h159 : ax_H := ((⟨"BiscuitLessModel", "worths", "(III)I"⟩, prog_13_method_85_code, 7, (some .int)), (2, 48, 0, 0), (3, 12, 0))
def ax_h160 : ax_H := ((⟨"java/lang/StringLatin1", "charAt", "([BI)C"⟩, prog_23_method_2_code, 2, (some .char)), (2, 43, 0, 0), (2, 17, 0))
def ax_h161 : ax_H := ((⟨"BiscuitLess", "back", "(I)I"⟩, prog_1_method_15_code, 2, (some .int)), (3, 67, 0, 0), (1, 10, 0))
def ax_h162 : ax_H := ((⟨"BiscuitLess", "drift", "(II)I"⟩, prog_1_method_16_code, 3, (some .int)), (3, 67, 0, 0), (2, 10, 0))
def ax_h163 : ax_H := ((⟨"BiscuitLess", "gives", "(III)J"⟩, prog_1_method_13_code, 4, (some .long)), (3, 79, 0, 0), (3, 10, 1))
def ax_h164 : ax_H := ((⟨"BiscuitLess", "instead", "(III)I"⟩, prog_1_method_18_code, 4, (some .int)), (3, 71, 0, 0), (3, 10, 0))
def ax_h165 : ax_H := ((⟨"BiscuitLess", "led", "(II)I"⟩, prog_1_method_29_code, 4, (some .int)), (3, 69, 0, 0), (2, 10, 0))
def ax_h166 : ax_H := ((⟨"BiscuitLess", "span", "(IIIIZ)I"⟩, prog_1_method_23_code, 9, (some .int)), (3, 80, 0, 0), (5, 10, 0))
def ax_h167 : ax_H := ((⟨"BiscuitLess", "spent", "(II)I"⟩, prog_1_method_8_code, 3, (some .int)), (3, 71, 0, 0), (2, 10, 0))
def ax_h168 : ax_H := ((⟨"BiscuitLess", "worths", "(III)I"⟩, prog_1_method_22_code, 5, (some .int)), (3, 76, 0, 0), (3, 10, 0))
def ax_h169 : ax_H := ((⟨"BiscuitLess$Course", "followWant", "(II)V"⟩, prog_3_method_6_code, 8, none), (3, 76, 0, 0), (2, 1, 2))
def ax_h170 : ax_H := ((⟨"BiscuitLess$Course", "trueCost", "(II)I"⟩, prog_3_method_14_code, 7, (some .int)), (3, 76, 0, 0), (2, 1, 0))
def ax_h171 : ax_H := ((⟨"BiscuitLess$Reader", "readsChange", "()Z"⟩, prog_8_method_11_code, 4, (some .boolean)), (3, 66, 0, 0), (0, 6, 0))
def ax_h172 : ax_H := ((⟨"BiscuitLess$Reader", "readsGroup", "()Z"⟩, prog_8_method_9_code, 1, (some .boolean)), (3, 65, 0, 0), (0, 6, 0))
def ax_h173 : ax_H := ((⟨"BiscuitLess$Reader", "readsMonths", "()Z"⟩, prog_8_method_8_code, 1, (some .boolean)), (3, 65, 0, 0), (0, 6, 0))
def ax_h174 : ax_H := ((⟨"BiscuitLess$Reader", "readsOffice", "()Z"⟩, prog_8_method_14_code, 2, (some .boolean)), (3, 65, 0, 0), (0, 6, 0))
def ax_h175 : ax_H := ((⟨"BiscuitLess$Reader", "readsThing", "()Z"⟩, prog_8_method_10_code, 2, (some .boolean)), (3, 66, 0, 0), (0, 6, 0))
def ax_h176 : ax_H := ((⟨"BiscuitLess$Reader", "readsWants", "(LBiscuitLess$House;)Z"⟩, prog_8_method_13_code, 4, (some .boolean)), (3, 65, 0, 0), (1, 6, 0))
def ax_h177 : ax_H := ((⟨"BiscuitLess$Tally", "numberOf", "(II)I"⟩, prog_9_method_3_code, 9, (some .int)), (3, 79, 0, 0), (2, 7, 0))
def ax_h178 : ax_H := ((⟨"BiscuitLess$Tally", "staysSame", "(I)Z"⟩, prog_9_method_11_code, 3, (some .boolean)), (3, 67, 0, 0), (1, 7, 0))
def ax_h179 : ax_H := ((⟨"BiscuitLessModel", "bestOf", "(III)I"⟩, prog_13_method_41_code, 8, (some .int)), (3, 66, 0, 0), (3, 12, 0))
def ax_h180 : ax_H := ((⟨"BiscuitLessModel", "givesOf", "(IIII)J"⟩, prog_13_method_64_code, 8, (some .long)), (3, 71, 0, 0), (4, 12, 1))
def ax_h181 : ax_H := ((⟨"BiscuitLessModel", "readMonths", "()V"⟩, prog_13_method_24_code, 2, none), (3, 66, 0, 0), (0, 12, 2))
def ax_h182 : ax_H := ((⟨"java/lang/String", "charAt", "(I)C"⟩, prog_22_method_56_code, 2, (some .char)), (3, 64, 0, 0), (1, 16, 0))
def ax_h183 : ax_H := ((⟨"BiscuitLess", "truly", "(II)I"⟩, prog_1_method_10_code, 3, (some .int)), (4, 102, 0, 0), (2, 10, 0))
def ax_h184 : ax_H := ((⟨"BiscuitLess$Course", "follow", "(LBiscuitLess$Land;)V"⟩, prog_3_method_2_code, 4, none), (4, 103, 0, 0), (1, 1, 2))
def ax_h185 : ax_H := ((⟨"BiscuitLess$Course", "livingNumber", "(II)I"⟩, prog_3_method_15_code, 3, (some .int)), (4, 102, 0, 0), (2, 1, 0))
def ax_h186 : ax_H := ((⟨"BiscuitLess$Reader", "readsHouse", "()Z"⟩, prog_8_method_12_code, 2, (some .boolean)), (4, 88, 0, 0), (0, 6, 0))
def ax_h187 : ax_H := ((⟨"BiscuitLess$Tally", "shortUpTo", "(III)I"⟩, prog_9_method_15_code, 6, (some .int)), (4, 102, 0, 0), (3, 7, 0))
def ax_h188 : ax_H := ((⟨"BiscuitLessModel", "buysAll", "(II)V"⟩, prog_13_method_43_code, 6, none), (4, 93, 0, 0), (2, 12, 2))
def ax_h189 : ax_H := ((⟨"BiscuitLessModel", "gives", "(III)J"⟩, prog_13_method_70_code, 4, (some .long)), (4, 98, 0, 0), (3, 12, 1))
def ax_h190 : ax_H := ((⟨"BiscuitLessModel", "sumOf", "(IIIIZ)J"⟩, prog_13_method_65_code, 9, (some .long)), (4, 98, 0, 0), (5, 12, 1))
def ax_h191 : ax_H := ((⟨"BiscuitLessModel", "trulyOf", "(II)I"⟩, prog_13_method_55_code, 7, (some .int)), (4, 93, 0, 0), (2, 12, 0))
def ax_h192 : ax_H := ((⟨"BiscuitLessModel", "wordOf", "(Ljava/lang/String;)J"⟩, prog_13_method_11_code, 4, (some .long)), (4, 85, 0, 0), (1, 12, 1))
def ax_h193 : ax_H := ((⟨"BiscuitLess", "beside", "(III)I"⟩, prog_1_method_14_code, 4, (some .int)), (5, 124, 0, 0), (3, 10, 0))
def ax_h194 : ax_H := ((⟨"BiscuitLess", "lacks", "(III)I"⟩, prog_1_method_20_code, 4, (some .int)), (5, 127, 0, 0), (3, 10, 0))
def ax_h195 : ax_H := ((⟨"BiscuitLess", "live", "(II)I"⟩, prog_1_method_11_code, 3, (some .int)), (5, 124, 0, 0), (2, 10, 0))
def ax_h196 : ax_H := ((⟨"BiscuitLess$Reader", "readsLine", "()Z"⟩, prog_8_method_7_code, 1, (some .boolean)), (5, 109, 0, 0), (0, 6, 0))
def ax_h197 : ax_H := ((⟨"BiscuitLess$Tally", "closestOffice", "(II)I"⟩, prog_9_method_16_code, 8, (some .int)), (5, 124, 0, 0), (2, 7, 0))
def ax_h198 : ax_H := ((⟨"BiscuitLess$Tally", "closestSet", "(III)I"⟩, prog_9_method_17_code, 11, (some .int)), (5, 124, 0, 0), (3, 7, 0))
def ax_h199 : ax_H := ((⟨"BiscuitLess$Tally", "follow", "(LBiscuitLess$Land;)V"⟩, prog_9_method_2_code, 4, none), (5, 126, 0, 0), (1, 7, 2))
def ax_h200 : ax_H := ((⟨"BiscuitLess$Tally", "isNeverBelow", "(I)Z"⟩, prog_9_method_13_code, 4, (some .boolean)), (5, 124, 0, 0), (1, 7, 0))
def ax_h201 : ax_H := ((⟨"BiscuitLessModel", "isWord", "(Ljava/lang/String;)Z"⟩, prog_13_method_14_code, 2, (some .boolean)), (5, 108, 0, 0), (1, 12, 0))
def ax_h202 : ax_H := ((⟨"BiscuitLessModel", "lays", "()V"⟩, prog_13_method_36_code, 3, none), (5, 118, 0, 0), (0, 12, 2))
def ax_h203 : ax_H := ((⟨"BiscuitLessModel", "liveOf", "(II)I"⟩, prog_13_method_58_code, 3, (some .int)), (5, 119, 0, 0), (2, 12, 0))
def ax_h204 : ax_H := ((⟨"BiscuitLessModel", "numberOf", "(II)I"⟩, prog_13_method_67_code, 8, (some .int)), (5, 126, 0, 0), (2, 12, 0))
def ax_h205 : ax_H := ((⟨"BiscuitLessModel", "truly", "(II)I"⟩, prog_13_method_56_code, 3, (some .int)), (5, 119, 0, 0), (2, 12, 0))
def ax_h206 : ax_H := ((⟨"BiscuitLess", "change", "(IIII)I"⟩, prog_1_method_27_code, 5, (some .int)), (6, 149, 0, 0), (4, 10, 0))
def ax_h207 : ax_H := ((⟨"BiscuitLess", "has", "(II)I"⟩, prog_1_method_17_code, 4, (some .int)), (6, 147, 0, 0), (2, 10, 0))
def ax_h208 : ax_H := ((⟨"BiscuitLess", "look", "(III)I"⟩, prog_1_method_26_code, 4, (some .int)), (6, 154, 0, 0), (3, 10, 0))
def ax_h209 : ax_H := ((⟨"BiscuitLess", "nearest", "(II)I"⟩, prog_1_method_21_code, 3, (some .int)), (6, 151, 0, 0), (2, 10, 0))
def ax_h210 : ax_H := ((⟨"BiscuitLess", "tryOut", "(IIII)V"⟩, prog_1_method_39_code, 5, none), (6, 149, 0, 0), (4, 10, 2))
def ax_h211 : ax_H := ((⟨"BiscuitLess", "undo", "()Z"⟩, prog_1_method_28_code, 1, (some .boolean)), (6, 149, 0, 0), (0, 10, 0))
def ax_h212 : ax_H := ((⟨"BiscuitLess$Reader", "reads", "(LBiscuitLess$Land;I)Z"⟩, prog_8_method_4_code, 4, (some .boolean)), (6, 129, 0, 0), (2, 6, 0))
def ax_h213 : ax_H := ((⟨"BiscuitLessModel", "beside", "(III)I"⟩, prog_13_method_71_code, 4, (some .int)), (6, 153, 0, 0), (3, 12, 0))
def ax_h214 : ax_H := ((⟨"BiscuitLessModel", "comes", "(IIII)V"⟩, prog_13_method_88_code, 5, none), (6, 140, 0, 0), (4, 12, 2))
def ax_h215 : ax_H := ((⟨"BiscuitLessModel", "drift", "(II)I"⟩, prog_13_method_74_code, 3, (some .int)), (6, 153, 0, 0), (2, 12, 0))
def ax_h216 : ax_H := ((⟨"BiscuitLessModel", "goes", "()V"⟩, prog_13_method_89_code, 1, none), (6, 140, 0, 0), (0, 12, 2))
def ax_h217 : ax_H := ((⟨"BiscuitLessModel", "isName", "()Z"⟩, prog_13_method_18_code, 1, (some .boolean)), (6, 129, 0, 0), (0, 12, 0))
def ax_h218 : ax_H := ((⟨"BiscuitLessModel", "isNeverBelow", "(I)Z"⟩, prog_13_method_77_code, 4, (some .boolean)), (6, 153, 0, 0), (1, 12, 0))
def ax_h219 : ax_H := ((⟨"BiscuitLessModel", "isSame", "(I)Z"⟩, prog_13_method_75_code, 3, (some .boolean)), (6, 153, 0, 0), (1, 12, 0))
def ax_h220 : ax_H := ((⟨"BiscuitLessModel", "live", "(II)I"⟩, prog_13_method_59_code, 3, (some .int)), (6, 141, 0, 0), (2, 12, 0))
def ax_h221 : ax_H := ((⟨"BiscuitLessModel", "look", "(III)I"⟩, prog_13_method_97_code, 11, (some .int)), (6, 141, 0, 0), (3, 12, 0))
def ax_h222 : ax_H := ((⟨"BiscuitLessModel", "nearest", "(II)I"⟩, prog_13_method_83_code, 8, (some .int)), (6, 153, 0, 0), (2, 12, 0))
def ax_h223 : ax_H := ((⟨"BiscuitLessModel", "number", "(II)I"⟩, prog_13_method_68_code, 3, (some .int)), (6, 153, 0, 0), (2, 12, 0))
def ax_h224 : ax_H := ((⟨"BiscuitLessModel", "pensionOf", "(III)I"⟩, prog_13_method_80_code, 4, (some .int)), (6, 153, 0, 0), (3, 12, 0))
def ax_h225 : ax_H := ((⟨"BiscuitLessModel", "readOne", "(Ljava/lang/String;Ljava/lang/String;Ljava/lang/String;)I"⟩, prog_13_method_21_code, 5, (some .int)), (6, 129, 0, 0), (3, 12, 0))
def ax_h226 : ax_H := ((⟨"BiscuitLessModel", "readPart", "(Ljava/lang/String;II)I"⟩, prog_13_method_17_code, 4, (some .int)), (6, 129, 0, 0), (3, 12, 0))
def ax_h227 : ax_H := ((⟨"BiscuitLess", "gain", "(IIII)I"⟩, prog_1_method_25_code, 6, (some .int)), (7, 173, 0, 0), (4, 10, 0))
def ax_h228 : ax_H := ((⟨"BiscuitLess", "hides", "(IIII)I"⟩, prog_1_method_24_code, 10, (some .int)), (7, 173, 0, 0), (4, 10, 0))
def ax_h229 : ax_H := ((⟨"BiscuitLess", "land", "(I)I"⟩, prog_1_method_3_code, 3, (some .int)), (7, 152, 0, 0), (1, 10, 0))
def ax_h230 : ax_H := ((⟨"BiscuitLessModel", "change", "(IIII)I"⟩, prog_13_method_98_code, 5, (some .int)), (7, 164, 0, 0), (4, 12, 0))
def ax_h231 : ax_H := ((⟨"BiscuitLessModel", "gainOf", "(IIII)I"⟩, prog_13_method_92_code, 11, (some .int)), (7, 164, 0, 0), (4, 12, 0))
def ax_h232 : ax_H := ((⟨"BiscuitLessModel", "has", "(II)I"⟩, prog_13_method_78_code, 4, (some .int)), (7, 176, 0, 0), (2, 12, 0))
def ax_h233 : ax_H := ((⟨"BiscuitLessModel", "isHidden", "(IIIII)Z"⟩, prog_13_method_93_code, 10, (some .boolean)), (7, 164, 1, 3), (5, 12, 0))
def ax_h234 : ax_H := ((⟨"BiscuitLessModel", "known", "(I)I"⟩, prog_13_method_20_code, 3, (some .int)), (7, 149, 0, 0), (1, 12, 0))
def ax_h235 : ax_H := ((⟨"BiscuitLessModel", "lacks", "(III)I"⟩, prog_13_method_82_code, 7, (some .int)), (7, 176, 0, 0), (3, 12, 0))
def ax_h236 : ax_H := ((⟨"BiscuitLessModel", "pension", "(III)I"⟩, prog_13_method_81_code, 4, (some .int)), (7, 176, 0, 0), (3, 12, 0))
def ax_h237 : ax_H := ((⟨"BiscuitLessModel", "readNamed", "(III)V"⟩, prog_13_method_19_code, 4, none), (7, 149, 0, 0), (3, 12, 2))
def ax_h238 : ax_H := ((⟨"BiscuitLessModel", "undo", "()Z"⟩, prog_13_method_99_code, 1, (some .boolean)), (7, 160, 0, 0), (0, 12, 0))
def ax_h239 : ax_H := ((⟨"BiscuitLessModel", "gain", "(IIII)I"⟩, prog_13_method_95_code, 6, (some .int)), (8, 194, 0, 0), (4, 12, 0))
def ax_h240 : ax_H := ((⟨"BiscuitLessModel", "hides", "(IIII)I"⟩, prog_13_method_94_code, 10, (some .int)), (8, 194, 3, 9), (4, 12, 0))
def ax_h241 : ax_H := ((⟨"BiscuitLessModel", "readChange", "()V"⟩, prog_13_method_27_code, 5, none), (8, 171, 0, 0), (0, 12, 2))
def ax_h242 : ax_H := ((⟨"BiscuitLessModel", "readGroup", "()V"⟩, prog_13_method_25_code, 1, none), (8, 172, 0, 0), (0, 12, 2))
def ax_h243 : ax_H := ((⟨"BiscuitLessModel", "readHouse", "()V"⟩, prog_13_method_28_code, 6, none), (8, 172, 0, 0), (0, 12, 2))
def ax_h244 : ax_H := ((⟨"BiscuitLessModel", "readOffice", "()V"⟩, prog_13_method_29_code, 4, none), (8, 172, 0, 0), (0, 12, 2))
def ax_h245 : ax_H := ((⟨"BiscuitLessModel", "readThing", "()V"⟩, prog_13_method_26_code, 5, none), (8, 172, 0, 0), (0, 12, 2))
def ax_h246 : ax_H := ((⟨"BiscuitLessModel", "readLine", "()V"⟩, prog_13_method_23_code, 1, none), (9, 197, 0, 0), (0, 12, 2))
def ax_h247 : ax_H := ((⟨"BiscuitLessModel", "readLand", "()V"⟩, prog_13_method_22_code, 2, none), (10, 217, 0, 0), (0, 12, 2))
def ax_h248 : ax_H := ((⟨"BiscuitLessModel", "land", "(I)I"⟩, prog_13_method_31_code, 2, (some .int)), (11, 238, 18, 222), (1, 12, 0))
def ax_h249 : ax_H := ((⟨"BiscuitLessLaw", "law", "([I)Z"⟩, code, 7, (some .boolean)), (15, 562, 601024, 7293033), (1, 13, 0))
def ax_h250 : ax_H := ((⟨"BiscuitLessLaw", "led", "(LBiscuitLess;II[J)I"⟩, method_3_code, 5, some .int), (11, 420, 1, 6), (4, 13, 0))
def ax_tl : List ax_H := [ax_h0, ax_h1, ax_h2, ax_h3, ax_h4, ax_h5, ax_h6, ax_h7, ax_h8, ax_h9, ax_h10, ax_h11, ax_h12, ax_h13, ax_h14, ax_h15, ax_h16, ax_h17, ax_h18, ax_h19, ax_h20, ax_h21, ax_h22, ax_h23, ax_h24, ax_h25, ax_h26, ax_h27, ax_h28, ax_h29, ax_h30, ax_h31, ax_h32, ax_h33, ax_h34, ax_h35, ax_h36, ax_h37, ax_h38, ax_h39, ax_h40, ax_h41, ax_h42, ax_h43, ax_h44, ax_h45, ax_h46, ax_h47, ax_h48, ax_h49, ax_h50, ax_h51, ax_h52, ax_h53, ax_h54, ax_h55, ax_h56, ax_h57, ax_h58, ax_h59, ax_h60, ax_h61, ax_h62, ax_h63, ax_h64, ax_h65, ax_h66, ax_h67, ax_h68, ax_h69, ax_h70, ax_h71, ax_h72, ax_h73, ax_h74, ax_h75, ax_h76, ax_h77, ax_h78, ax_h79, ax_h80, ax_h81, ax_h82, ax_h83, ax_h84, ax_h85, ax_h86, ax_h87, ax_h88, ax_h89, ax_h90, ax_h91, ax_h92, ax_h93, ax_h94, ax_h95, ax_h96, ax_h97, ax_h98, ax_h99, ax_h100, ax_h101, ax_h102, ax_h103, ax_h104, ax_h105, ax_h106, ax_h107, ax_h108, ax_h109, ax_h110, ax_h111, ax_h112, ax_h113, ax_h114, ax_h115, ax_h116, ax_h117, ax_h118, ax_h119, ax_h120, ax_h121, ax_h122, ax_h123, ax_h124, ax_h125, ax_h126, ax_h127, ax_h128, ax_h129, ax_h130, ax_h131, ax_h132, ax_h133, ax_h134, ax_h135, ax_h136, ax_h137, ax_h138, ax_h139, ax_h140, ax_h141, ax_h142, ax_h143, ax_h144, ax_h145, ax_h146, ax_h147, ax_h148, ax_h149, ax_h150, ax_h151, ax_h152, ax_h153, ax_h154, ax_h155, ax_h156, ax_h157, ax_h158, ax_h159, ax_h160, ax_h161, ax_h162, ax_h163, ax_h164, ax_h165, ax_h166, ax_h167, ax_h168, ax_h169, ax_h170, ax_h171, ax_h172, ax_h173, ax_h174, ax_h175, ax_h176, ax_h177, ax_h178, ax_h179, ax_h180, ax_h181, ax_h182, ax_h183, ax_h184, ax_h185, ax_h186, ax_h187, ax_h188, ax_h189, ax_h190, ax_h191, ax_h192, ax_h193, ax_h194, ax_h195, ax_h196, ax_h197, ax_h198, ax_h199, ax_h200, ax_h201, ax_h202, ax_h203, ax_h204, ax_h205, ax_h206, ax_h207, ax_h208, ax_h209, ax_h210, ax_h211, ax_h212, ax_h213, ax_h214, ax_h215, ax_h216, ax_h217, ax_h218, ax_h219, ax_h220, ax_h221, ax_h222, ax_h223, ax_h224, ax_h225, ax_h226, ax_h227, ax_h228, ax_h229, ax_h230, ax_h231, ax_h232, ax_h233, ax_h234, ax_h235, ax_h236, ax_h237, ax_h238, ax_h239, ax_h240, ax_h241, ax_h242, ax_h243, ax_h244, ax_h245, ax_h246, ax_h247, ax_h248, ax_h249, ax_h250]
def ax_tb (y : Nat) : ax_H := ax_tl.getD y ax_h0
/-! links: class, entry, what it names -/
def ax_lf : List (Nat × Nat × Nat × Nat × Nat) := [(10, 76, 10, 10, 0), (10, 86, 10, 9, 0), (10, 9, 10, 0, 0), (10, 56, 10, 8, 0), (10, 16, 10, 1, 0), (10, 277, 3, 10, 0), (10, 274, 3, 9, 0), (10, 246, 3, 7, 0), (10, 89, 3, 6, 0), (10, 271, 3, 5, 0), (10, 268, 3, 4, 0), (10, 81, 10, 11, 0), (1, 11, 1, 0, 0), (1, 16, 1, 1, 0), (1, 19, 1, 2, 0), (1, 22, 1, 3, 0), (1, 25, 1, 4, 0), (1, 28, 1, 5, 0), (1, 31, 1, 6, 0), (1, 34, 1, 7, 0), (1, 37, 1, 8, 0), (1, 100, 0, 0, 0), (1, 105, 0, 1, 0), (1, 112, 0, 2, 0), (1, 115, 0, 3, 0), (2, 9, 2, 0, 0), (3, 49, 3, 7, 0), (3, 19, 3, 1, 0), (3, 61, 0, 0, 0), (3, 64, 0, 1, 0), (3, 67, 0, 2, 0), (3, 70, 0, 3, 0), (3, 39, 3, 4, 0), (3, 43, 3, 5, 0), (3, 46, 3, 6, 0), (3, 52, 3, 8, 0), (3, 55, 3, 9, 0), (3, 58, 3, 10, 0), (4, 9, 4, 0, 0), (4, 15, 4, 1, 0), (4, 19, 4, 2, 0), (4, 22, 4, 3, 0), (6, 31, 6, 5, 0), (6, 23, 6, 0, 0), (6, 83, 9, 4, 0), (6, 35, 6, 6, 0), (6, 52, 9, 3, 0), (6, 86, 9, 5, 0), (6, 27, 6, 2, 0), (6, 71, 3, 4, 0), (6, 74, 3, 6, 0), (6, 77, 3, 9, 0), (6, 80, 3, 10, 0), (7, 11, 7, 0, 0), (7, 16, 7, 1, 0), (7, 20, 7, 2, 0), (7, 23, 7, 3, 0), (7, 27, 7, 4, 0), (7, 88, 1, 4, 0), (7, 63, 3, 3, 0), (7, 91, 5, 1, 0), (7, 94, 1, 0, 0), (7, 67, 5, 2, 0), (7, 150, 3, 2, 0), (7, 154, 2, 2, 0), (7, 53, 3, 6, 0), (9, 7, 9, 0, 0), (9, 23, 9, 2, 0), (9, 19, 9, 1, 0), (9, 29, 9, 4, 0), (9, 39, 9, 3, 0), (9, 36, 9, 6, 0), (9, 32, 9, 5, 0), (12, 9, 12, 2, 0), (12, 13, 12, 5, 0), (12, 17, 12, 16, 0), (12, 21, 12, 17, 0), (12, 24, 12, 18, 0), (12, 27, 12, 19, 0), (12, 31, 12, 20, 0), (12, 34, 12, 21, 0), (12, 48, 12, 7, 0), (12, 40, 12, 1, 0), (12, 303, 12, 3, 0), (12, 172, 11, 2, 2), (12, 37, 12, 0, 0), (12, 92, 12, 13, 0), (12, 296, 12, 6, 0), (12, 228, 11, 3, 2), (12, 243, 11, 12, 2), (12, 248, 11, 14, 2), (12, 199, 11, 1, 2), (12, 175, 11, 5, 2), (12, 170, 11, 0, 2), (12, 178, 11, 6, 2), (12, 267, 11, 18, 2), (12, 293, 11, 21, 2), (12, 63, 12, 9, 0), (12, 72, 12, 10, 0), (12, 95, 12, 14, 0), (11, 9, 11, 8, 0), (11, 15, 11, 9, 0), (11, 18, 11, 10, 0), (11, 21, 11, 11, 0), (11, 24, 11, 12, 0), (11, 27, 11, 13, 0), (11, 30, 11, 14, 0), (11, 33, 11, 15, 0), (11, 36, 11, 16, 0), (11, 39, 11, 17, 0), (11, 42, 11, 18, 0), (11, 45, 11, 19, 0), (11, 48, 11, 20, 0), (11, 52, 11, 21, 0), (11, 55, 11, 22, 0), (11, 59, 11, 23, 0), (11, 62, 11, 24, 0), (11, 65, 11, 7, 0), (16, 15, 13, 1, 0), (10, 37, 10, 4, 0), (10, 148, 1, 7, 0), (10, 145, 1, 6, 0), (10, 128, 3, 2, 0), (10, 132, 2, 0, 0), (10, 113, 3, 0, 0), (10, 117, 8, 0, 0), (10, 106, 1, 2, 0), (10, 103, 1, 1, 0), (10, 99, 1, 0, 0), (10, 50, 10, 6, 0), (10, 283, 1, 4, 0), (1, 93, 3, 7, 0), (1, 96, 3, 1, 0), (1, 54, 3, 5, 0), (1, 41, 3, 6, 0), (1, 64, 3, 0, 0), (1, 158, 8, 0, 0), (1, 130, 3, 2, 0), (1, 134, 2, 0, 0), (1, 151, 2, 1, 0), (3, 11, 3, 0, 0), (3, 25, 3, 2, 0), (3, 31, 3, 3, 0), (6, 12, 6, 1, 0), (6, 146, 6, 3, 0), (7, 102, 5, 0, 0), (7, 121, 1, 3, 0), (7, 127, 3, 0, 0), (7, 131, 8, 0, 0), (7, 97, 1, 2, 0), (7, 43, 3, 4, 0), (12, 290, 11, 20, 2), (12, 66, 12, 8, 0), (12, 75, 12, 11, 0), (12, 89, 12, 12, 0), (12, 82, 12, 15, 0), (12, 263, 11, 16, 2), (12, 222, 11, 9, 2), (12, 224, 11, 10, 2), (12, 226, 11, 11, 2), (12, 246, 11, 13, 2), (12, 251, 11, 15, 2), (12, 220, 11, 8, 2), (16, 9, 13, 0, 0), (10, 20, 10, 2, 0), (10, 28, 10, 3, 0), (10, 46, 10, 5, 0), (10, 53, 10, 7, 0), (10, 169, 7, 0, 0), (1, 83, 3, 4, 0), (1, 51, 3, 9, 0), (1, 68, 8, 1, 0), (1, 73, 8, 2, 0), (1, 76, 8, 3, 0), (6, 124, 6, 4, 0), (6, 236, 9, 6, 0), (6, 55, 3, 7, 0), (6, 127, 3, 5, 0), (6, 212, 3, 3, 0), (6, 219, 5, 0, 0), (6, 227, 5, 1, 0), (6, 233, 5, 2, 0), (6, 133, 3, 0, 0), (6, 149, 8, 0, 0), (6, 156, 8, 1, 0), (6, 161, 8, 2, 0), (6, 166, 8, 3, 0), (6, 205, 2, 0, 0), (12, 287, 11, 19, 2), (12, 141, 12, 4, 0), (6, 183, 3, 2, 0), (6, 189, 2, 1, 0), (6, 196, 2, 2, 0), (7, 37, 3, 10, 0), (7, 144, 3, 9, 0), (10, 252, 3, 8, 0), (6, 58, 3, 8, 0), (12, 265, 11, 17, 2), (12, 161, 11, 24, 2), (12, 158, 11, 23, 2), (12, 151, 11, 22, 2), (12, 155, 11, 7, 2), (12, 254, 11, 4, 2)]
def ax_lfp : List Nat := [469, 468, 459, 467, 460, 285, 281, 273, 268, 264, 260, 470, 397, 400, 402, 405, 407, 410, 411, 413, 415, 186, 188, 190, 192, 208, 270, 246, 187, 189, 191, 193, 256, 261, 265, 274, 277, 283, 321, 322, 323, 324, 372, 367, 347, 373, 345, 349, 369, 259, 269, 279, 284, 442, 444, 445, 446, 447, 408, 254, 230, 398, 232, 252, 215, 267, 341, 343, 342, 346, 344, 350, 348, 1138, 1141, 1152, 1153, 1154, 1155, 1156, 1157, 1143, 1137, 1139, 1228, 1136, 1149, 1142, 1229, 1244, 1248, 1227, 1231, 1226, 1232, 1256, 1262, 1145, 1146, 1150, 1235, 1237, 1239, 1241, 1243, 1245, 1247, 1249, 1251, 1253, 1255, 1257, 1259, 1261, 1263, 1265, 1267, 1233, 1806, 463, 414, 412, 250, 210, 243, 161, 404, 401, 399, 465, 409, 271, 247, 262, 266, 242, 162, 249, 209, 212, 241, 248, 253, 368, 370, 228, 406, 245, 164, 403, 257, 1260, 1144, 1147, 1148, 1151, 1252, 1238, 1240, 1242, 1246, 1250, 1236, 1805, 461, 462, 464, 466, 443, 258, 278, 165, 167, 169, 371, 351, 272, 263, 255, 229, 231, 233, 244, 163, 166, 168, 170, 211, 1258, 1140, 251, 213, 214, 282, 280, 276, 275, 1254, 1268, 1266, 1264, 1234, 1230]
def ax_lm : List (Nat × Nat × Nat × Nat) := [(0, 1, 9999, 0), (1, 3, 9999, 0), (1, 118, 9992, 0), (1, 124, 9991, 0), (2, 3, 9999, 0), (4, 3, 9999, 0), (5, 1, 9999, 0), (7, 3, 9999, 0), (8, 1, 9999, 0), (9, 1, 9999, 0), (12, 1, 9999, 0), (11, 3, 9999, 0), (10, 122, 21, 0), (10, 137, 3, 0), (10, 141, 6, 0), (10, 96, 23, 0), (10, 125, 20, 0), (10, 60, 4, 0), (10, 185, 24, 0), (10, 286, 1, 0), (10, 297, 9993, 0), (10, 92, 25, 0), (10, 109, 14, 0), (10, 243, 22, 0), (1, 108, 13, 0), (1, 127, 6, 1), (1, 89, 14, 0), (1, 185, 9990, 0), (1, 154, 1, 1), (3, 3, 9999, 0), (3, 38, 31, 1), (3, 37, 15, 1), (3, 36, 11, 1), (3, 35, 42, 1), (6, 3, 9999, 0), (6, 11, 26, 1), (6, 20, 43, 0), (6, 239, 35, 0), (6, 252, 30, 0), (6, 64, 32, 0), (7, 105, 14, 0), (7, 136, 9990, 0), (7, 78, 1, 1), (7, 50, 39, 0), (9, 48, 46, 0), (9, 45, 44, 0), (9, 42, 45, 0), (12, 350, 60, 0), (12, 43, 68, 0), (12, 353, 59, 0), (12, 347, 62, 0), (12, 109, 57, 0), (12, 335, 72, 0), (12, 309, 51, 0), (12, 359, 65, 0), (12, 326, 50, 0), (12, 69, 49, 0), (12, 78, 61, 0), (12, 86, 58, 0), (12, 319, 55, 0), (12, 322, 66, 0), (12, 344, 64, 0), (16, 1059, 80, 0), (16, 335, 78, 0), (10, 3, 9999, 0), (10, 15, 98, 0), (10, 25, 99, 0), (10, 34, 12, 0), (10, 43, 37, 0), (10, 290, 95, 0), (10, 151, 83, 0), (10, 157, 96, 0), (10, 166, 84, 0), (10, 203, 40, 0), (1, 172, 95, 0), (1, 148, 94, 0), (1, 181, 93, 0), (1, 161, 90, 0), (1, 168, 85, 1), (1, 79, 19, 0), (1, 86, 89, 0), (1, 175, 91, 0), (1, 178, 92, 0), (6, 68, 105, 0), (6, 242, 29, 0), (6, 245, 27, 0), (6, 209, 100, 0), (7, 113, 101, 0), (7, 109, 38, 0), (7, 124, 103, 0), (7, 117, 102, 0), (9, 13, 9992, 0), (9, 26, 105, 0), (12, 416, 110, 0), (12, 102, 109, 0), (12, 356, 107, 0), (12, 371, 69, 0), (12, 380, 113, 0), (12, 410, 67, 0), (12, 383, 108, 0), (12, 461, 112, 0), (12, 329, 122, 0), (12, 105, 74, 0), (12, 431, 115, 0), (17, 9, 123, 0), (10, 182, 136, 0), (10, 174, 39, 0), (10, 177, 146, 0), (10, 200, 137, 0), (10, 197, 134, 0), (10, 258, 138, 0), (10, 213, 10, 0), (10, 220, 133, 0), (10, 64, 5, 0), (10, 154, 139, 0), (10, 217, 132, 0), (1, 144, 131, 0), (1, 140, 97, 0), (6, 143, 144, 0), (6, 139, 142, 0), (6, 120, 141, 0), (6, 175, 140, 0), (6, 179, 16, 0), (6, 130, 143, 0), (7, 82, 9993, 0), (7, 72, 85, 1), (7, 56, 146, 0), (7, 60, 145, 0), (7, 140, 136, 0), (12, 332, 155, 0), (12, 387, 119, 0), (12, 390, 154, 0), (12, 117, 156, 0), (16, 492, 79, 0), (16, 495, 160, 0), (10, 160, 170, 0), (1, 61, 130, 0), (1, 57, 169, 0), (1, 47, 135, 0), (1, 165, 170, 0), (6, 201, 176, 0), (7, 161, 170, 0), (7, 164, 40, 0), (7, 167, 9991, 0), (12, 341, 179, 0), (12, 338, 111, 0), (12, 404, 63, 0), (12, 393, 180, 0), (12, 51, 124, 0), (12, 59, 182, 0), (10, 163, 185, 0), (10, 207, 187, 0), (6, 117, 174, 0), (6, 112, 186, 0), (6, 107, 171, 0), (6, 102, 175, 0), (6, 97, 172, 0), (6, 92, 173, 0), (7, 147, 185, 0), (7, 170, 77, 0), (7, 175, 41, 0), (7, 31, 184, 0), (7, 46, 177, 0), (12, 98, 192, 0), (12, 315, 188, 0), (12, 312, 114, 0), (12, 363, 191, 0), (12, 397, 52, 0), (12, 400, 190, 0), (10, 249, 16, 0), (10, 83, 199, 0), (10, 194, 200, 0), (10, 191, 104, 0), (10, 188, 178, 0), (10, 240, 198, 0), (10, 210, 197, 0), (10, 280, 0, 0), (10, 255, 17, 0), (6, 38, 18, 0), (6, 43, 28, 0), (6, 44, 147, 0), (6, 48, 196, 0), (6, 61, 36, 0), (12, 413, 116, 0), (12, 407, 204, 0), (12, 375, 203, 0), (12, 306, 202, 0), (12, 113, 201, 0), (12, 458, 48, 0), (10, 224, 88, 0), (10, 228, 210, 0), (10, 232, 87, 0), (10, 236, 126, 0), (10, 68, 212, 0), (10, 72, 33, 0), (10, 78, 34, 0), (12, 438, 214, 0), (12, 435, 56, 0), (12, 445, 216, 0), (12, 442, 117, 0), (12, 425, 218, 0), (12, 422, 151, 0), (12, 419, 219, 0), (12, 137, 217, 0), (12, 145, 76, 0), (12, 428, 224, 0), (12, 448, 118, 0), (12, 454, 231, 0), (12, 451, 233, 0), (12, 208, 234, 0), (12, 212, 226, 0), (12, 202, 237, 0), (12, 167, 149, 0), (12, 275, 225, 0), (12, 196, 244, 0), (12, 193, 243, 0), (12, 190, 241, 0), (12, 187, 245, 0), (12, 184, 242, 0), (12, 181, 181, 0), (12, 164, 246, 0), (12, 299, 75, 2), (12, 300, 247, 0), (13, 15, 125, 0), (13, 18, 47, 0), (13, 148, 8, 0), (13, 151, 71, 0), (13, 144, 7, 0), (13, 147, 120, 0), (13, 135, 250, 0), (13, 140, 152, 0), (13, 141, 70, 0), (13, 130, 211, 0), (13, 134, 238, 0), (13, 126, 206, 0), (13, 129, 230, 0), (13, 122, 208, 0), (13, 125, 221, 0), (13, 118, 227, 0), (13, 121, 239, 0), (13, 114, 228, 0), (13, 117, 240, 0), (13, 109, 166, 0), (13, 113, 157, 0), (13, 105, 168, 0), (13, 108, 159, 0), (13, 101, 209, 0), (13, 104, 222, 0), (13, 97, 194, 0), (13, 100, 235, 0), (13, 93, 129, 0), (13, 96, 236, 0), (13, 89, 164, 0), (13, 92, 150, 0), (13, 85, 207, 0), (13, 88, 232, 0), (13, 81, 162, 0), (13, 84, 215, 0), (13, 77, 161, 0), (13, 80, 148, 0), (13, 73, 193, 0), (13, 76, 213, 0), (13, 68, 163, 0), (13, 72, 189, 0), (13, 64, 128, 0), (13, 67, 223, 0), (13, 60, 195, 0), (13, 63, 220, 0), (13, 56, 183, 0), (13, 59, 205, 0), (13, 52, 127, 0), (13, 55, 153, 0), (13, 48, 167, 0), (13, 51, 158, 0), (13, 43, 81, 0), (13, 47, 106, 0), (13, 38, 86, 0), (13, 42, 121, 0), (13, 34, 9, 0), (13, 37, 73, 0), (13, 29, 2, 0), (13, 33, 53, 0), (13, 24, 229, 0), (13, 28, 248, 0), (13, 19, 82, 0), (13, 23, 54, 0)]
def ax_lmp : List Nat := [185, 394, 688, 689, 207, 320, 227, 440, 160, 340, 1135, 1225, 800, 808, 812, 791, 804, 500, 863, 769, 770, 787, 795, 985, 684, 700, 692, 968, 715, 147, 224, 204, 182, 157, 314, 317, 337, 574, 606, 556, 746, 751, 759, 730, 543, 539, 535, 1558, 1216, 1562, 1550, 1411, 1511, 1530, 1574, 1504, 1324, 1328, 1332, 1497, 1501, 1546, 1377, 1355, 139, 144, 311, 391, 437, 1009, 817, 833, 859, 929, 722, 711, 964, 825, 854, 676, 680, 887, 1060, 560, 580, 584, 602, 742, 738, 754, 747, 528, 531, 1666, 1320, 1570, 1598, 1641, 1649, 1628, 1776, 1526, 1403, 1714, 1372, 883, 872, 873, 921, 917, 1056, 957, 973, 508, 821, 960, 707, 703, 598, 594, 561, 621, 625, 570, 774, 764, 734, 760, 903, 1522, 1632, 1637, 1407, 1365, 1369, 841, 718, 696, 672, 853, 637, 942, 943, 944, 1518, 1514, 1608, 1624, 1351, 1361, 849, 938, 642, 630, 614, 589, 566, 552, 912, 1022, 1028, 668, 726, 1348, 1507, 1493, 1586, 1616, 1620, 996, 664, 908, 904, 899, 1018, 949, 993, 997, 516, 520, 524, 547, 652, 1657, 1612, 1594, 1489, 1344, 1761, 981, 989, 1001, 1005, 512, 656, 660, 1741, 1738, 1745, 1734, 1686, 1682, 1678, 1423, 1433, 1698, 1726, 1749, 1730, 1442, 1447, 1419, 1470, 1481, 1474, 1463, 1453, 1437, 1415, 1399, 1339, 1222, 1335, 136, 1132, 1044, 1784, 1040, 1780, 1048, 1772, 1204, 1036, 1768, 1032, 1764, 1014, 1757, 1010, 1753, 977, 1722, 969, 1718, 953, 1710, 945, 1706, 934, 1702, 925, 1694, 913, 1690, 895, 1674, 891, 1670, 879, 1662, 874, 1653, 867, 1645, 855, 1604, 845, 1590, 837, 1582, 829, 1578, 813, 1566, 796, 1554, 783, 1542, 779, 1538, 775, 1534, 504, 1212, 496, 1208]
def ax_lc : List (Nat × Nat × Nat) := [(1, 9, 28), (7, 9, 28), (3, 9, 8), (3, 17, 0), (3, 23, 2), (3, 29, 5), (6, 9, 4), (6, 18, 9), (10, 13, 3), (10, 23, 6), (10, 32, 1), (10, 41, 7), (12, 146, 11), (13, 8, 10), (13, 16, 12)]
def ax_lcp : List Nat := [395, 441, 148, 150, 152, 154, 315, 335, 142, 309, 389, 435, 1220, 134, 1130]
def ax_ki : List (Nat × Nat × Int32) := [(12, 370, 1000000), (15, 265, 1431655765), (15, 266, 858993459), (15, 267, 252645135), (12, 47, (-1000000000)), (10, 181, (-1000000000))]
def ax_kip : List Nat := [1603, 1025, 1026, 1027, 1661, 878]
def ax_kl : List (Nat × Nat × Int64) := [(7, 159, 10000), (12, 366, 10000), (12, 368, 1000000), (10, 293, 1000000), (10, 295, 10000), (7, 100, 1000), (12, 57, 32), (12, 378, 1000), (10, 172, (-1)), (6, 169, 470020945000), (6, 137, 28518), (6, 154, 1936292453), (6, 159, 495875090022), (6, 164, 482955846501), (7, 76, 1000000), (6, 187, 31084793213183347), (6, 194, 31636722448691054), (6, 199, 512735736947), (6, 90, 120325361920115), (6, 95, 444301538672), (6, 100, 499967946343), (6, 105, 109299962373989), (6, 110, 448546567013), (6, 115, 122485595530085)]
def ax_klp : List Nat := [933, 1601, 1602, 767, 768, 758, 1331, 1636, 871, 618, 593, 610, 611, 612, 773, 634, 635, 636, 551, 565, 588, 613, 629, 641]
def ax_ks : List (Nat × Nat × Nat × String) := [(12, 121, 7, "months"), (12, 123, 8, "group"), (12, 125, 9, "thing"), (12, 127, 10, "change"), (12, 129, 11, "house"), (12, 131, 12, "office"), (12, 133, 13, "gone"), (12, 135, 14, "come"), (12, 231, 19, "month"), (12, 233, 20, "dearer"), (12, 235, 21, "cheaper"), (12, 237, 22, "smaller"), (12, 239, 23, "thinner"), (12, 241, 24, "better"), (12, 257, 25, "notices"), (12, 259, 26, "pension"), (12, 261, 27, "wants"), (12, 269, 28, "carry"), (12, 271, 29, "near"), (12, 273, 30, "drop"), (12, 279, 31, "piece"), (12, 281, 32, "weight"), (12, 283, 33, "fixed"), (12, 285, 34, "chained"), (12, 206, 15, "of"), (12, 211, 16, "size"), (12, 216, 17, "stuff"), (12, 218, 18, "price")]
def ax_ksp : List Nat := [1343, 1414, 1427, 1428, 1429, 1430, 1431, 1432, 1457, 1458, 1459, 1460, 1461, 1462, 1467, 1468, 1469, 1478, 1479, 1480, 1485, 1486, 1487, 1488, 1441, 1446, 1451, 1452]
def ax_ls : List (Nat × Nat × Nat) := [(6, 249, 0), (16, 38, 5), (16, 1053, 6), (6, 171, 1), (6, 216, 2), (6, 224, 3), (6, 230, 4)]
def ax_lsp : List Nat := [578, 1359, 1375, 619, 646, 648, 650]
/-- the static fields that are read: class, name, descriptor, what they hold -/
def ax_st : List (String × String × String × ax_V) := [("BiscuitLess$Reader", "NO_NAMES", "[J", ax_r (some 1)), ("BiscuitLess$Reader", "HOW_WORDS", "[J", ax_r (some 2)), ("BiscuitLess$Reader", "MISSING_WORDS", "[J", ax_r (some 3)), ("BiscuitLess$Reader", "SEES_WORDS", "[J", ax_r (some 4)), ("BiscuitLess$Reader", "BASKET_WORDS", "[J", ax_r (some 5)), ("java/lang/String", "COMPACT_STRINGS", "Z", ax_i 1), ("jdk/internal/util/Preconditions", "SIOOBE_FORMATTER", "Ljava/util/function/BiFunction;", ax_r (some 6))]
/-- where a method's words stand: its sort (1 static, 2 of an object, 3 a constructor), code, sort, selects, initialized -/
def ax_mp : List (Nat × Nat × Nat × Nat × Nat) := [(1, 995, 994, 0, 111), (1, 717, 716, 0, 111), (2, 778, 776, 777, 111), (2, 811, 810, 36, 111), (2, 503, 502, 0, 111), (2, 511, 510, 1, 111), (1, 702, 701, 0, 111), (2, 1043, 1041, 1042, 111), (2, 1047, 1045, 1046, 111), (2, 782, 780, 781, 111), (1, 959, 958, 0, 111), (3, 184, 183, 0, 114), (3, 393, 392, 0, 120), (2, 687, 686, 24, 120), (2, 695, 693, 694, 120), (3, 206, 205, 0, 115), (2, 628, 626, 627, 112), (2, 1000, 998, 999, 112), (2, 519, 517, 518, 112), (2, 679, 677, 678, 112), (2, 807, 805, 806, 112), (2, 803, 801, 802, 112), (2, 988, 986, 987, 112), (2, 794, 792, 793, 112), (2, 866, 864, 865, 112), (2, 790, 788, 789, 112), (3, 319, 318, 0, 118), (2, 587, 585, 586, 118), (2, 523, 521, 522, 118), (2, 583, 581, 582, 118), (2, 609, 607, 608, 118), (3, 226, 225, 0, 116), (2, 559, 558, 7, 117), (2, 659, 657, 658, 117), (2, 663, 661, 662, 117), (2, 577, 576, 11, 117), (2, 655, 654, 21, 117), (3, 439, 438, 0, 121), (2, 741, 740, 31, 121), (2, 733, 731, 732, 121), (2, 932, 930, 931, 121), (2, 1031, 1030, 46, 121), (3, 159, 158, 0, 113), (3, 339, 338, 0, 119), (2, 542, 541, 3, 119), (2, 538, 537, 2, 119), (2, 546, 545, 4, 119), (3, 1134, 1133, 0, 122), (1, 1763, 1762, 0, 122), (2, 1327, 1326, 51, 122), (1, 1506, 1505, 0, 122), (2, 1533, 1532, 77, 122), (2, 1619, 1618, 88, 122), (2, 1537, 1535, 1536, 122), (2, 1211, 1209, 1210, 122), (2, 1500, 1499, 71, 122), (1, 1740, 1739, 0, 122), (1, 1413, 1412, 0, 122), (1, 1334, 1333, 0, 122), (2, 1565, 1564, 81, 122), (2, 1561, 1560, 80, 122), (1, 1330, 1329, 0, 122), (2, 1553, 1552, 79, 122), (2, 1611, 1610, 86, 122), (2, 1549, 1548, 78, 122), (2, 1577, 1576, 83, 122), (1, 1503, 1502, 0, 122), (2, 1652, 1651, 95, 122), (2, 1219, 1218, 49, 122), (1, 1600, 1599, 0, 122), (2, 1207, 1205, 1206, 122), (2, 1787, 1785, 1786, 122), (1, 1513, 1512, 0, 122), (2, 1541, 1539, 1540, 122), (2, 1406, 1405, 56, 122), (3, 1224, 1223, 0, 124), (2, 1436, 1434, 1435, 124), (1, 1024, 1023, 0, 129), (2, 1358, 1356, 1357, 125), (2, 1368, 1366, 1367, 125), (1, 1379, 1378, 0, 127), (2, 799, 797, 798, 111), (2, 499, 497, 498, 111), (2, 820, 819, 37, 111), (2, 862, 861, 39, 111), (1, 766, 765, 0, 111), (2, 786, 784, 785, 111), (2, 1004, 1003, 44, 111), (2, 984, 983, 42, 111), (2, 683, 682, 23, 120), (2, 828, 827, 38, 120), (2, 890, 889, 40, 120), (2, 1063, 1062, 47, 120), (2, 967, 966, 41, 120), (2, 714, 713, 28, 120), (2, 725, 723, 724, 120), (2, 836, 834, 835, 120), (2, 706, 705, 26, 120), (3, 146, 145, 0, 112), (3, 313, 312, 0, 117), (2, 605, 604, 15, 117), (2, 745, 744, 32, 121), (2, 750, 749, 33, 121), (2, 757, 756, 34, 121), (2, 907, 905, 906, 121), (2, 534, 532, 533, 119), (2, 1557, 1555, 1556, 122), (2, 1573, 1572, 82, 122), (2, 1631, 1630, 91, 122), (2, 1323, 1322, 50, 122), (2, 1669, 1668, 97, 122), (2, 1517, 1516, 73, 122), (2, 1779, 1778, 109, 122), (2, 1644, 1643, 94, 122), (2, 1496, 1495, 70, 122), (2, 1717, 1716, 102, 122), (2, 1660, 1659, 96, 122), (2, 1737, 1736, 105, 122), (2, 1729, 1728, 103, 122), (2, 1635, 1634, 92, 122), (2, 1783, 1781, 1782, 122), (2, 1545, 1543, 1544, 122), (2, 1529, 1528, 76, 122), (1, 1374, 1373, 0, 125), (2, 1354, 1352, 1353, 125), (3, 138, 137, 0, 111), (2, 1008, 1007, 45, 111), (2, 832, 830, 831, 111), (2, 858, 856, 857, 111), (2, 928, 926, 927, 111), (2, 721, 720, 29, 120), (2, 710, 709, 27, 120), (2, 963, 961, 962, 120), (2, 976, 974, 975, 120), (2, 920, 918, 919, 120), (2, 675, 674, 22, 120), (2, 886, 884, 885, 120), (2, 924, 922, 923, 120), (2, 1059, 1057, 1058, 120), (2, 824, 822, 823, 120), (2, 624, 623, 17, 117), (2, 564, 563, 8, 117), (2, 597, 596, 13, 117), (2, 573, 572, 10, 117), (2, 601, 600, 14, 117), (2, 763, 762, 35, 121), (2, 737, 735, 736, 121), (2, 527, 525, 526, 119), (2, 1665, 1663, 1664, 122), (2, 1473, 1472, 66, 122), (2, 1693, 1691, 1692, 122), (2, 1685, 1684, 99, 122), (2, 1775, 1773, 1774, 122), (2, 1581, 1579, 1580, 122), (2, 1640, 1639, 93, 122), (2, 1525, 1524, 75, 122), (2, 1410, 1409, 57, 122), (2, 1721, 1719, 1720, 122), (2, 1569, 1567, 1568, 122), (2, 1713, 1711, 1712, 122), (1, 1371, 1370, 0, 126), (2, 882, 880, 881, 111), (2, 894, 892, 893, 111), (2, 870, 868, 869, 111), (2, 916, 914, 915, 111), (2, 1055, 1053, 1054, 111), (2, 972, 970, 971, 111), (2, 816, 814, 815, 111), (2, 956, 954, 955, 111), (2, 699, 698, 25, 120), (2, 844, 842, 843, 120), (2, 617, 616, 16, 117), (2, 569, 568, 9, 117), (2, 555, 554, 6, 117), (2, 645, 644, 20, 117), (2, 592, 591, 12, 117), (2, 640, 639, 19, 117), (2, 729, 728, 30, 121), (2, 902, 900, 901, 121), (2, 1521, 1520, 74, 122), (2, 1627, 1626, 90, 122), (2, 1402, 1401, 55, 122), (2, 1364, 1362, 1363, 125), (2, 840, 838, 839, 111), (2, 671, 669, 670, 120), (2, 852, 850, 851, 120), (2, 633, 632, 18, 117), (2, 941, 939, 940, 121), (2, 1510, 1509, 72, 122), (2, 1648, 1646, 1647, 122), (2, 1623, 1622, 89, 122), (2, 1589, 1588, 84, 122), (1, 1350, 1349, 0, 122), (2, 877, 875, 876, 111), (2, 937, 935, 936, 111), (2, 848, 846, 847, 111), (2, 550, 549, 5, 117), (2, 952, 950, 951, 121), (2, 1021, 1019, 1020, 121), (2, 667, 665, 666, 121), (2, 911, 909, 910, 121), (2, 1347, 1346, 54, 122), (2, 1492, 1491, 69, 122), (2, 1597, 1596, 85, 122), (2, 1615, 1614, 87, 122), (2, 1585, 1583, 1584, 122), (2, 1035, 1033, 1034, 111), (2, 898, 896, 897, 111), (2, 1017, 1015, 1016, 111), (2, 948, 946, 947, 111), (2, 992, 991, 43, 111), (2, 1039, 1037, 1038, 111), (2, 515, 513, 514, 117), (2, 1656, 1654, 1655, 122), (2, 1744, 1743, 106, 122), (2, 1673, 1671, 1672, 122), (2, 1748, 1747, 107, 122), (2, 1426, 1425, 60, 122), (2, 1689, 1688, 100, 122), (2, 1681, 1680, 98, 122), (2, 1593, 1591, 1592, 122), (2, 1760, 1758, 1759, 122), (2, 1709, 1707, 1708, 122), (2, 1607, 1605, 1606, 122), (2, 1701, 1700, 101, 122), (2, 1484, 1483, 68, 122), (2, 1450, 1449, 63, 122), (2, 1013, 1011, 1012, 111), (2, 980, 978, 979, 111), (2, 507, 505, 506, 111), (2, 1767, 1765, 1766, 122), (2, 1752, 1751, 108, 122), (2, 1677, 1675, 1676, 122), (2, 1733, 1732, 104, 122), (2, 1445, 1444, 62, 122), (2, 1705, 1703, 1704, 122), (2, 1697, 1695, 1696, 122), (2, 1422, 1421, 59, 122), (2, 1771, 1769, 1770, 122), (2, 1756, 1754, 1755, 122), (2, 1725, 1723, 1724, 122), (2, 1456, 1455, 64, 122), (2, 1418, 1417, 58, 122), (2, 1466, 1465, 65, 122), (2, 1477, 1476, 67, 122), (2, 1440, 1439, 61, 122), (2, 1342, 1341, 53, 122), (2, 1338, 1337, 52, 122), (2, 1215, 1213, 1214, 122), (0, 0, 0, 0, 0)]
def ax_cp : List Nat := [995, 717, 778, 811, 503, 511, 702, 1043, 1047, 782, 959, 184, 393, 687, 695, 206, 628, 1000, 519, 679, 807, 803, 988, 794, 866, 790, 319, 587, 523, 583, 609, 226, 559, 659, 663, 577, 655, 439, 741, 733, 932, 1031, 159, 339, 542, 538, 546, 1134, 1763, 1327, 1506, 1533, 1619, 1537, 1211, 1500, 1740, 1413, 1334, 1565, 1561, 1330, 1553, 1611, 1549, 1577, 1503, 1652, 1219, 1600, 1207, 1787, 1513, 1541, 1406, 1224, 1436, 1024, 1358, 1368, 1379, 799, 499, 820, 862, 766, 786, 1004, 984, 683, 828, 890, 1063, 967, 714, 725, 836, 706, 146, 313, 605, 745, 750, 757, 907, 534, 1557, 1573, 1631, 1323, 1669, 1517, 1779, 1644, 1496, 1717, 1660, 1737, 1729, 1635, 1783, 1545, 1529, 1374, 1354, 138, 1008, 832, 858, 928, 721, 710, 963, 976, 920, 675, 886, 924, 1059, 824, 624, 564, 597, 573, 601, 763, 737, 527, 1665, 1473, 1693, 1685, 1775, 1581, 1640, 1525, 1410, 1721, 1569, 1713, 1371, 882, 894, 870, 916, 1055, 972, 816, 956, 699, 844, 617, 569, 555, 645, 592, 640, 729, 902, 1521, 1627, 1402, 1364, 840, 671, 852, 633, 941, 1510, 1648, 1623, 1589, 1350, 877, 937, 848, 550, 952, 1021, 667, 911, 1347, 1492, 1597, 1615, 1585, 1035, 898, 1017, 948, 992, 1039, 515, 1656, 1744, 1673, 1748, 1426, 1689, 1681, 1593, 1760, 1709, 1607, 1701, 1484, 1450, 1013, 980, 507, 1767, 1752, 1677, 1733, 1445, 1705, 1697, 1422, 1771, 1756, 1725, 1456, 1418, 1466, 1477, 1440, 1342, 1338, 1215]
def ax_layp : List (List Nat) := [[194, 196, 198, 200], [416, 418, 420, 422, 424, 426, 428, 430, 432], [216, 218, 220], [286, 288, 290, 292, 294, 296, 298, 300, 302, 304, 306], [325, 327, 329, 331], [234, 236, 238], [374, 376, 378, 380, 382, 384, 386], [448, 450, 452, 454, 456], [171, 173, 175, 177], [352, 354, 356, 358, 360, 362, 364], [471, 473, 475, 477, 479, 481, 483, 485, 487, 489, 491, 493], [1269, 1271, 1273, 1275, 1277, 1279, 1281, 1283, 1285, 1287, 1289, 1291, 1293, 1295, 1297, 1299, 1301, 1303, 1305, 1307, 1309, 1311, 1313, 1315, 1317], [1158, 1160, 1162, 1164, 1166, 1168, 1170, 1172, 1174, 1176, 1178, 1180, 1182, 1184, 1186, 1188, 1190, 1192, 1194, 1196, 1198, 1200]]
def ax_insp : List Nat := [181, 390, 203, 143, 316, 223, 310, 436, 156, 336, 135, 1221, 1131]
def ax_inip : List Nat := [114, 120, 115, 112, 118, 116, 117, 121, 113, 119, 111, 124, 122]
end
section
/-- the words that hold at every state that the tables reach -/
def ax_gw : List Cond := lw_tbl.filter goodWord
theorem ax_gwi {w : Cond} {i : Nat} (h : lw_tbl[i]? = some w) (g : goodWord w = true) : w ∈ ax_gw := List.mem_filter.mpr ⟨List.mem_of_getElem? h, g⟩
def ax_host (n : Nat) : String := if n = 1 then "BiscuitLess" else "BiscuitLessModel"
def ax_fn (c k : Nat) : String × String × String := if c = 13 then (if k = 0 then ("java/lang/String", "value", "[B") else ("java/lang/String", "coder", "B")) else ((ax_Tb c k).1, (ax_Tb c k).2.1, (ax_Tb c k).2.2.1)
def ax_wf (q : Nat × Nat × Nat × Nat × Nat) : Cond := if q.2.2.2.2 = 0 then .fieldLink (ax_cn.getD q.1 "") q.2.1 (ax_fn q.2.2.1 q.2.2.2.1).1 (ax_fn q.2.2.1 q.2.2.2.1).2.1 (ax_fn q.2.2.1 q.2.2.2.1).2.2 else .fieldLinkNest (ax_cn.getD q.1 "") q.2.1 (ax_fn q.2.2.1 q.2.2.2.1).1 (ax_fn q.2.2.1 q.2.2.2.1).2.1 (ax_fn q.2.2.1 q.2.2.2.1).2.2 (ax_host q.2.2.2.2)
def ax_obj : MethodName := ⟨"java/lang/Object", "<init>", "()V"⟩
def ax_yn (y : Nat) : MethodName := if y = 9999 then ax_obj else if y = 9990 then ⟨"java/lang/Math", "abs", "(I)I"⟩ else if y = 9991 then ⟨"java/lang/Math", "max", "(II)I"⟩ else if y = 9992 then ⟨"java/lang/Math", "min", "(II)I"⟩ else if y = 9993 then ⟨"java/lang/Math", "min", "(JJ)J"⟩ else ax_nm (ax_tb y)
def ax_wm (q : Nat × Nat × Nat × Nat) : Cond := if q.2.2.2 = 0 then .methodLink (ax_cn.getD q.1 "") q.2.1 (ax_yn q.2.2.1) else .methodLinkNest (ax_cn.getD q.1 "") q.2.1 (ax_yn q.2.2.1) (ax_host q.2.2.2)
def ax_wc (q : Nat × Nat × Nat) : Cond := .classLink (ax_cn.getD q.1 "") q.2.1 (if q.2.2 = 28 then "[[I" else ax_Cn q.2.2)
def ax_wi (q : Nat × Nat × Int32) : Cond := .constant (ax_cn.getD q.1 "") q.2.1 q.2.2
def ax_wl (q : Nat × Nat × Int64) : Cond := .constantLong (ax_cn.getD q.1 "") q.2.1 q.2.2
def ax_ws (q : Nat × Nat × Nat × String) : Cond := .stringRef (ax_cn.getD q.1 "") q.2.1 q.2.2.2
def ax_sn (k : Nat) : String × String × String × ax_V := ax_st.getD k ("", "", "", ax_i 0)
def ax_wt (q : Nat × Nat × Nat) : Cond := .fieldLink (ax_cn.getD q.1 "") q.2.1 (ax_sn q.2.2).1 (ax_sn q.2.2).2.1 (ax_sn q.2.2).2.2.1
def ax_all {α : Type} (f : α → Cond) (l : List α) (ps : List Nat) : Bool := (l.zip ps).all (fun q => decide (lw_tbl[q.2]? = some (f q.1)))
theorem ax_lf_ok : ax_all ax_wf ax_lf ax_lfp = true := by decide +kernel
theorem ax_lm_ok : ax_all ax_wm ax_lm ax_lmp = true := by decide +kernel
theorem ax_lc_ok : ax_all ax_wc ax_lc ax_lcp = true := by decide +kernel
theorem ax_ki_ok : ax_all ax_wi ax_ki ax_kip = true := by decide +kernel
theorem ax_kl_ok : ax_all ax_wl ax_kl ax_klp = true := by decide +kernel
theorem ax_ks_ok : ax_all ax_ws ax_ks ax_ksp = true := by decide +kernel
theorem ax_ls_ok : ax_all ax_wt ax_ls ax_lsp = true := by decide +kernel
end
section
def ax_at? (i : Nat) (w : Cond) : Bool := decide (lw_tbl[i]? = some w) && goodWord w
/-- a method's words, and what its name and descriptor say -/
def ax_mok (h : ax_H) (q : Nat × Nat × Nat × Nat × Nat) : Bool :=
  decide (q.1 = 0) || (ax_at? q.2.2.2.2 (.initialized (ax_nm h).cls) &&
    (if q.1 = 1 then ax_at? q.2.2.1 (.static (ax_nm h)) else ax_at? q.2.2.1 (.instanceMethod (ax_nm h)) && (if q.1 = 2 then ax_at? q.2.2.2.1 (.selects (ax_nm h).cls (ax_nm h) (ax_nm h)) else decide ((ax_nm h).name = "<init>") && decide (ax_rt h = none))) &&
    decide ((ax_nm h).cls ≠ "java/lang/invoke/MethodHandle") && decide ((ax_nm h).cls ≠ "java/lang/invoke/VarHandle") && decide ((parseMethodDescriptor (ax_nm h).desc).map (fun d => d.parameters.length) = some (ax_np h)) && _root_.Jvm.plainName (ax_nm h).cls && decide (ax_cn.getD (ax_oc h) "" = (ax_nm h).cls) &&
    (match ax_rt h with
      | none => decide (ax_rc h = 2)
      | some .long => decide (ax_rc h = 1)
      | some .int => decide (ax_rc h = 0)
      | some .boolean => decide (ax_rc h = 0)
      | some .char => decide (ax_rc h = 0)
      | some .byte => decide (ax_rc h = 0)
      | _ => false))
def ax_cw (h : ax_H) : Cond := .code (ax_nm h) (ax_by h) (ax_ml h) (ax_rt h)
set_option maxRecDepth 100000 in
theorem ax_cd0 : ((ax_tl.drop 0).take 32).map (fun h => some (ax_cw h)) = ((ax_cp.drop 0).take 32).map (fun i => lw_tbl[i]?) := rfl
set_option maxRecDepth 100000 in
theorem ax_cd32 : ((ax_tl.drop 32).take 32).map (fun h => some (ax_cw h)) = ((ax_cp.drop 32).take 32).map (fun i => lw_tbl[i]?) := rfl
set_option maxRecDepth 100000 in
theorem ax_cd64 : ((ax_tl.drop 64).take 32).map (fun h => some (ax_cw h)) = ((ax_cp.drop 64).take 32).map (fun i => lw_tbl[i]?) := rfl
set_option maxRecDepth 100000 in
theorem ax_cd96 : ((ax_tl.drop 96).take 32).map (fun h => some (ax_cw h)) = ((ax_cp.drop 96).take 32).map (fun i => lw_tbl[i]?) := rfl
set_option maxRecDepth 100000 in
theorem ax_cd128 : ((ax_tl.drop 128).take 32).map (fun h => some (ax_cw h)) = ((ax_cp.drop 128).take 32).map (fun i => lw_tbl[i]?) := rfl
set_option maxRecDepth 100000 in
theorem ax_cd160 : ((ax_tl.drop 160).take 32).map (fun h => some (ax_cw h)) = ((ax_cp.drop 160).take 32).map (fun i => lw_tbl[i]?) := rfl
set_option maxRecDepth 100000 in
theorem ax_cd192 : ((ax_tl.drop 192).take 32).map (fun h => some (ax_cw h)) = ((ax_cp.drop 192).take 32).map (fun i => lw_tbl[i]?) := rfl
set_option maxRecDepth 100000 in
theorem ax_cd224 : ((ax_tl.drop 224).take 25).map (fun h => some (ax_cw h)) = ((ax_cp.drop 224).take 25).map (fun i => lw_tbl[i]?) := rfl
theorem ax_m_ok : (ax_tl.zip ax_mp).all (fun q => ax_mok q.1 q.2) = true := by decide +kernel
/-- a class's words -/
def ax_cok (c : Nat) : Bool :=
  ((List.range (ax_nf c)).all (fun k => ax_at? ((ax_layp.getD c []).getD k 0) (u_lay (ax_Cn c) (ax_Tb c) k) && decide (parseFieldDescriptor (ax_Tb c k).2.2.1 = some (ax_fy c k)) && decide ((ax_Tb c k).1 = ax_Cn c) &&
    (match ax_fy c k with
      | .int => decide (ax_ft c k = 0)
      | .long => decide (ax_ft c k = 1)
      | .array _ => decide (ax_ft c k = 2)
      | .object _ => decide (ax_ft c k = 2)
      | _ => false) &&
    (List.range (ax_nf c)).all (fun j => decide (k = j) || decide ((ax_Tb c k).2.1 ≠ (ax_Tb c j).2.1)))) &&
  ax_at? (ax_insp.getD c 0) (.instantiable (ax_Cn c) (ax_nf c)) && ax_at? (ax_inip.getD c 0) (.initialized (ax_Cn c))
theorem ax_c_ok : (List.range 13).all ax_cok = true := by decide +kernel
end
section
theorem ax_of_all {α : Type} {f : α → Cond} {l : List α} {ps : List Nat} (h : ax_all f l ps = true) (hl : l.length = ps.length) {j : Nat} {q : α} (hj : l[j]? = some q) : f q ∈ lw_tbl := by
  have hlt : j < l.length := (List.getElem?_eq_some_iff.mp hj).1
  have hp : ps[j]? = some (ps[j]'(by omega)) := List.getElem?_eq_getElem (by omega)
  have hz : (l.zip ps)[j]? = some (q, ps[j]'(by omega)) := by
    rw [List.getElem?_zip_eq_some]
    exact ⟨hj, hp⟩
  have h1 := List.all_eq_true.mp h _ (List.mem_of_getElem? hz)
  exact List.mem_of_getElem? (of_decide_eq_true h1)
theorem ax_at?_spec {i : Nat} {w : Cond} (h : ax_at? i w = true) : w ∈ ax_gw := by
  simp only [ax_at?, Bool.and_eq_true, decide_eq_true_eq] at h
  exact ax_gwi h.1 h.2
theorem ax_tl_len : ax_tl.length = 251 := by decide +kernel
theorem ax_mp_len : ax_mp.length = 250 := by decide +kernel
theorem ax_cp_len : ax_cp.length = 249 := by decide +kernel
theorem ax_tb_at {y : Nat} (hy : y < 251) : ax_tl[y]? = some (ax_tb y) := by
  have h : y < ax_tl.length := by rw [ax_tl_len]; exact hy
  rw [List.getElem?_eq_getElem h]
  simp [ax_tb, List.getD, List.getElem?_eq_getElem h]
def ax_mq (y : Nat) : Nat × Nat × Nat × Nat × Nat := ax_mp.getD y (0, 0, 0, 0, 0)
theorem ax_mok_at {y : Nat} (hy : y < 250) : ax_mok (ax_tb y) (ax_mq y) = true := by
  have h2 : y < ax_mp.length := by rw [ax_mp_len]; exact hy
  have hq : ax_mp[y]? = some (ax_mq y) := by
    rw [List.getElem?_eq_getElem h2]
    simp [ax_mq, List.getD, List.getElem?_eq_getElem h2]
  have hz : (ax_tl.zip ax_mp)[y]? = some (ax_tb y, ax_mq y) := by
    rw [List.getElem?_zip_eq_some]
    exact ⟨ax_tb_at (by omega), hq⟩
  exact List.all_eq_true.mp ax_m_ok _ (List.mem_of_getElem? hz)
theorem ax_cd_at {a n y : Nat} (h : ((ax_tl.drop a).take n).map (fun h => some (ax_cw h)) = ((ax_cp.drop a).take n).map (fun i => lw_tbl[i]?)) (h1 : a ≤ y) (h2 : y < a + n) (hy : y < 249) : ax_cw (ax_tb y) ∈ lw_tbl := by
  have e := congrArg (fun l => l[y - a]?) h
  simp only [List.getElem?_map, List.getElem?_take, List.getElem?_drop] at e
  rw [if_pos (by omega), if_pos (by omega), show a + (y - a) = y by omega, ax_tb_at (by omega)] at e
  have h3 : y < ax_cp.length := by rw [ax_cp_len]; exact hy
  rw [List.getElem?_eq_getElem h3] at e
  simp only [Option.map_some, Option.some.injEq] at e
  exact List.mem_of_getElem? e.symm
theorem ax_code_in {y : Nat} (hy : y < 249) : ax_cw (ax_tb y) ∈ ax_gw := by
  refine List.mem_filter.mpr ⟨?_, rfl⟩
  rcases Nat.lt_or_ge y 32 with h | h0
  · exact ax_cd_at ax_cd0 (by omega) (by omega) hy
  rcases Nat.lt_or_ge y 64 with h | h0
  · exact ax_cd_at ax_cd32 (by omega) (by omega) hy
  rcases Nat.lt_or_ge y 96 with h | h0
  · exact ax_cd_at ax_cd64 (by omega) (by omega) hy
  rcases Nat.lt_or_ge y 128 with h | h0
  · exact ax_cd_at ax_cd96 (by omega) (by omega) hy
  rcases Nat.lt_or_ge y 160 with h | h0
  · exact ax_cd_at ax_cd128 (by omega) (by omega) hy
  rcases Nat.lt_or_ge y 192 with h | h0
  · exact ax_cd_at ax_cd160 (by omega) (by omega) hy
  rcases Nat.lt_or_ge y 224 with h | h0
  · exact ax_cd_at ax_cd192 (by omega) (by omega) hy
  · exact ax_cd_at ax_cd224 (by omega) (by omega) hy
theorem ax_cok_at {c : Nat} (hc : c < 13) : ax_cok c = true := List.all_eq_true.mp ax_c_ok c (List.mem_range.mpr hc)
theorem ax_cl_at {c : Nat} (hc : c < 13) : ax_cl[c]? = some (ax_Cn c, ax_Tb c, ax_nf c) := by
  have h : c < ax_cl.length := hc
  rw [List.getElem?_eq_getElem h]
  simp [ax_Cn, ax_Tb, ax_nf, List.getD, List.getElem?_eq_getElem h]
/-- a class's fields: their words, their types, their sorts; they differ -/
theorem ax_cls_lay {c : Nat} (hc : c < 13) : ∀ w ∈ u_ws (ax_Cn c) (ax_Tb c) (ax_nf c), w ∈ ax_gw := by
  intro w hw
  obtain ⟨k, hk, rfl⟩ := List.mem_map.mp hw
  have h := ax_cok_at hc
  simp only [ax_cok, Bool.and_eq_true] at h
  have h1 := List.all_eq_true.mp h.1.1 k hk
  simp only [Bool.and_eq_true] at h1
  exact ax_at?_spec h1.1.1.1.1
theorem ax_cls_ty {c : Nat} (hc : c < 13) : ∀ k, k < ax_nf c → parseFieldDescriptor (ax_Tb c k).2.2.1 = some (ax_fy c k) := by
  intro k hk
  have h := ax_cok_at hc
  simp only [ax_cok, Bool.and_eq_true] at h
  have h1 := List.all_eq_true.mp h.1.1 k (List.mem_range.mpr hk)
  simp only [Bool.and_eq_true] at h1
  exact of_decide_eq_true h1.1.1.1.2
theorem ax_cls_own {c : Nat} (hc : c < 13) : ∀ k, k < ax_nf c → (ax_Tb c k).1 = ax_Cn c := by
  intro k hk
  have h := ax_cok_at hc
  simp only [ax_cok, Bool.and_eq_true] at h
  have h1 := List.all_eq_true.mp h.1.1 k (List.mem_range.mpr hk)
  simp only [Bool.and_eq_true] at h1
  exact of_decide_eq_true h1.1.1.2
theorem ax_cls_nm {c : Nat} (hc : c < 13) : ∀ a, a < ax_nf c → ∀ b, b < ax_nf c → a ≠ b → (ax_Tb c a).2.1 ≠ (ax_Tb c b).2.1 := by
  intro a ha b hb hab
  have h := ax_cok_at hc
  simp only [ax_cok, Bool.and_eq_true] at h
  have h1 := List.all_eq_true.mp h.1.1 a (List.mem_range.mpr ha)
  simp only [Bool.and_eq_true] at h1
  have h2 := List.all_eq_true.mp h1.2 b (List.mem_range.mpr hb)
  simp only [Bool.or_eq_true, decide_eq_true_eq] at h2
  rcases h2 with h2 | h2
  · exact absurd h2 hab
  · exact h2
theorem ax_cls_sort {c k : Nat} (hc : c < 13) (hk : k < ax_nf c) : (ax_fy c k = .int ∧ ax_ft c k = 0) ∨ (ax_fy c k = .long ∧ ax_ft c k = 1) ∨ ((∃ t, ax_fy c k = .array t) ∧ ax_ft c k = 2) ∨ ((∃ t, ax_fy c k = .object t) ∧ ax_ft c k = 2) := by
  have h := ax_cok_at hc
  simp only [ax_cok, Bool.and_eq_true] at h
  have h1 := List.all_eq_true.mp h.1.1 k (List.mem_range.mpr hk)
  simp only [Bool.and_eq_true] at h1
  have h2 := h1.1.2
  cases ht : ax_fy c k <;> rw [ht] at h2 <;> simp at h2 <;> simp [h2]
theorem ax_cls_new {c : Nat} (hc : c < 13) : Cond.instantiable (ax_Cn c) (ax_nf c) ∈ ax_gw ∧ Cond.initialized (ax_Cn c) ∈ ax_gw := by
  have h := ax_cok_at hc
  simp only [ax_cok, Bool.and_eq_true] at h
  exact ⟨ax_at?_spec h.1.2, ax_at?_spec h.2⟩
theorem ax_lfl : ax_lf.length = ax_lfp.length := by decide +kernel
theorem ax_lml : ax_lm.length = ax_lmp.length := by decide +kernel
theorem ax_lcl : ax_lc.length = ax_lcp.length := by decide +kernel
theorem ax_kil : ax_ki.length = ax_kip.length := by decide +kernel
theorem ax_kll : ax_kl.length = ax_klp.length := by decide +kernel
theorem ax_ksl : ax_ks.length = ax_ksp.length := by decide +kernel
theorem ax_lsl : ax_ls.length = ax_lsp.length := by decide +kernel
theorem ax_gwf {w : Cond} (h : w ∈ lw_tbl) (g : goodWord w = true) : w ∈ ax_gw := List.mem_filter.mpr ⟨h, g⟩
end
section
def ax_isN (w : Cond) : Bool := match w with
  | .fieldLinkNest .. => true
  | .methodLinkNest .. => true
  | .arrayOver (.array _) => true
  | _ => false
/-- what the tables and the heap at the start say, at every state that the law comes to -/
def ax_KK (G : ax_G) (U : State) : Prop :=
  (∀ c : Nat, c < 13 → u_Kn U (ax_Cn c) (ax_Tb c) (ax_nf c) ((ax_D G).1 c) ((ax_D G).2 c)) ∧
  (∀ k : Nat, 20 ≤ k → k ≤ 28 → ArrOfT U (ax_Y G k) (ax_aT k) ∧ va_RA U (ax_Y G k) (ax_aT k)) ∧
  (∀ w ∈ lw_tbl, ax_isN w = true → va_Nw w U) ∧
  (∀ q ∈ ax_ks, vk_R (ax_cn.getD q.1 "") q.2.1 q.2.2.2 (ax_C G q.2.2.1) U) ∧
  (∀ k : Nat, k < 7 → va_Z (ax_sn k).1 (ax_sn k).2.1 (ax_sn k).2.2.1 (ax_cv G (ax_sn k).2.2.2) (fun q => ax_B G ≤ q) U (ax_Hb G)) ∧
  (∀ a : Nat, a < 64 → ax_C G a < ax_B G ∧ ax_cf G a U) ∧
  (∀ k : Nat, 24 ≤ k → k ≤ 27 → ∀ c, c < 13 → ax_aT k = .object (ax_Cn c) → va_AO (ax_Cn c) U) ∧
  (ax_Hb G).size = ax_B G ∧ mK (ax_0 G) 6 = 99
theorem ax_cf.moved {G : ax_G} {a : Nat} {u U : State} (hvm : u.vm.Alike U.vm) (h : ax_cf G a u) : ax_cf G a U :=
  ⟨fun e => ⟨va_O.moved hvm (h.1 e).1, va_OF.moved hvm (h.1 e).2.1, va_OF.moved hvm (h.1 e).2.2⟩, fun e1 e2 => va_T.moved hvm (h.2.1 e1 e2), h.2.2⟩
theorem ax_KK.warm {G : ax_G} {s U : State} (hW : s.WarmedH U.vm) (h : ax_KK G s) : ax_KK G U := by
  obtain ⟨h1, h2, h3, h4, h5, h6, h7, h8⟩ := h
  refine ⟨fun c hc => u_Kn_moved hW.alike (h1 c hc), fun k a b => ⟨arrOfT_moved hW.alike (h2 k a b).1, (h2 k a b).2.moved hW.alike⟩, fun w hw hn => ?_, fun q hq => vk_R.warm hW (h4 q hq), fun k hk => va_Z.moved hW.alike (h5 k hk), fun a ha => ⟨(h6 a ha).1, (h6 a ha).2.moved hW.alike⟩, fun k a b c hc e => va_AO.moved hW.alike (h7 k a b c hc e), h8⟩
  have := h3 w hw hn
  cases w with
  | arrayOver t => cases t <;> first | exact over_moved hW.alike this | (exfalso; revert hn; simp [ax_isN])
  | methodLinkNest => first | exact va_Nw.warmM hW this | exact va_Nw.warmF hW this
  | fieldLinkNest => first | exact va_Nw.warmM hW this | exact va_Nw.warmF hW this
  | _ => exfalso; revert hn; simp [ax_isN]
theorem ax_KK.same {G : ax_G} {s U : State} (hv : s.vm = U.vm) (h : ax_KK G s) : ax_KK G U := by
  obtain ⟨h1, h2, h3, h4, h5, h6, h7, h8⟩ := h
  have hA : s.vm.Alike U.vm := by rw [hv]; exact Vm.Alike.refl _
  refine ⟨fun c hc => u_Kn_moved hA (h1 c hc), fun k a b => ⟨arrOfT_moved hA (h2 k a b).1, (h2 k a b).2.moved hA⟩, fun w hw hn => ?_, fun q hq => vk_R.same hv.symm (h4 q hq), fun k hk => va_Z.moved hA (h5 k hk), fun a ha => ⟨(h6 a ha).1, (h6 a ha).2.moved hA⟩, fun k a b c hc e => va_AO.moved hA (h7 k a b c hc e), h8⟩
  have := h3 w hw hn
  cases w with
  | arrayOver t => cases t <;> first | exact over_moved hA this | (exfalso; revert hn; simp [ax_isN])
  | methodLinkNest => exact va_Nw.same rfl hv this
  | fieldLinkNest => exact va_Nw.same rfl hv this
  | _ => exfalso; revert hn; simp [ax_isN]
def ax_gt (h : ax_H) : List Cond := ax_cw h :: ax_gw
/-- a method's start and end -/
def ax_Pc (G : ax_G) (as : List ax_V) (μ : ax_M) : Array Value → State → Prop := va_Pc (as.map (ax_cv G)) (fun U => ax_Hd G μ U.heap ∧ ax_KK G U)
def ax_Qc (G : ax_G) (Q : Option ax_V → ax_M → Prop) : Array Value → State → Outcome → State → Prop := fun _ _ oc t => ∃ (x : Option ax_V) (μ : ax_M), oc = .returned (x.map (ax_cv G)) ∧ Q x μ ∧ ax_Hd G μ t.heap
def ax_fr (G : ax_G) : Addr → Prop := fun q => ax_B G ≤ q
/-- method y, called with these arguments in this memory, comes back with Q -/
def ax_Ct (l : Launch) (G : ax_G) (y : Nat) (as : List ax_V) (μ : ax_M) (Q : Option ax_V → ax_M → Prop) : Prop :=
  Met l (ax_nm (ax_tb y)) (ax_gt (ax_tb y)) (ax_rm (ax_tb y)) (ax_Pc G as μ) (ax_Qc G Q) (ax_mc (ax_tb y)) (ax_ms (ax_tb y)) (ax_fr G)
/-- what holds inside a method -/
def ax_Cx (p : Program) (s : State) (m : MethodId) (args : Array Value) (meth : Method) (c : Code) (h : ax_H) (G : ax_G) : Prop :=
  p.tables.exec = Jvm.exec ∧ c.code = ax_by h ∧ meth.sig.returnType = ax_rt h ∧ meth.locks = false ∧ c.maxLocals = ax_ml h ∧ s.vm.findClass (ax_nm h).cls = some m.cls ∧ meth.name = (ax_nm h).name ∧ (∀ w ∈ ax_gw, w.before args s = true) ∧ ax_KK G s
def ax_c1 (G : ax_G) (q : Nat × ax_V) : Nat × Value := (q.1, ax_cv G q.2)
/-- the machine at a place of a method, with these locals, this stack, this memory, comes to an end E -/
def ax_Rw (l : Launch) (G : ax_G) (h : ax_H) (E : Program → Env → State → MethodId → Array Value → List Frame → Method → Code → State → Prop) (pc : Nat) (lv : ax_L) (st : List ax_V) (cl sl : Nat) (μ : ax_M) : Prop :=
  ∀ (p : Program) (e : Env) (s : State) (m : MethodId) (args : Array Value) (below : List Frame) (meth : Method) (c : Code), ax_Cx p s m args meth c h G → ∀ (H : Heap) (locs : List Loc) (ls : Array Slot), ax_Hd G μ H → lv_has ls (ax_ml h) (lv.map (ax_c1 G)) → (∀ q ∈ locs, ax_fr G q.base) →
    W p l e (ax_rm h) s m args below meth c H locs cl sl (E p e s m args below meth c) (F0 m pc ls (st.map (ax_cv G)))
/-- a method's own end -/
def ax_E (G : ax_G) (h : ax_H) (Q : Option ax_V → ax_M → Prop) : Program → Env → State → MethodId → Array Value → List Frame → Method → Code → State → Prop := fun _ _ s _ args below _ _ => MQ below (ax_Qc G Q) args s (ax_mc h) (ax_ms h) (ax_fr G)
theorem ax_cat_cv (G : ax_G) (v : ax_V) : (ax_cv G v).category = ax_cat v := by
  rcases v with x | x | x
  · rfl
  · rfl
  · show (va_rf (ax_ao G x)).category = 1
    cases ax_ao G x <;> rfl
theorem ax_sum_cv (G : ax_G) : ∀ st : List ax_V, ((st.map (ax_cv G)).map fun v => v.category).sum = ax_sum st
  | [] => rfl
  | v :: st => by
    show (ax_cv G v).category + ((st.map (ax_cv G)).map fun v => v.category).sum = ax_cat v + ax_sum st
    rw [ax_cat_cv, ax_sum_cv G st]
theorem ax_lk_mem : ∀ {lv : ax_L} {i : Nat} {v : ax_V}, ax_lk lv i = some v → (i, v) ∈ lv
  | [], _, _, h => by cases h
  | q :: l, i, v, h => by
    unfold ax_lk at h
    split at h
    · rename_i e
      cases h
      rw [← e]
      exact List.mem_cons_self
    · exact List.mem_cons_of_mem _ (ax_lk_mem h)
theorem ax_has {G : ax_G} {ls : Array Slot} {n : Nat} {lv : ax_L} (h : lv_has ls n (lv.map (ax_c1 G))) {i : Nat} {v : ax_V} (hk : ax_lk lv i = some v) : ls[i]? = some (.val (ax_cv G v)) := h.2.2 (i, ax_cv G v) (List.mem_map.mpr ⟨(i, v), ax_lk_mem hk, rfl⟩)
theorem ax_filt (G : ax_G) (f : Nat × Value → Bool) (g : Nat × ax_V → Bool) (h : ∀ q, f (ax_c1 G q) = g q) (lv : ax_L) : (lv.map (ax_c1 G)).filter f = (lv.filter g).map (ax_c1 G) := by
  rw [List.filter_map]
  congr 2
  funext q
  exact h q
theorem ax_sto1 (G : ax_G) (lv : ax_L) (i : Nat) (v : ax_V) (hv : ax_cat v = 1) : (i, ax_cv G v) :: (lv.map (ax_c1 G)).filter (fun q => !(q.1 == i) && !(q.1 + 1 == i && q.2.category == 2)) = (ax_sto lv i v).map (ax_c1 G) := by
  rw [ax_filt G _ (fun q => !(q.1 == i) && !(q.1 + 1 == i && ax_cat q.2 == 2)) (fun q => by simp [ax_c1, ax_cat_cv])]
  rcases v with x | x | x
  · rfl
  · simp [ax_cat] at hv
  · rfl
theorem ax_sto2 (G : ax_G) (lv : ax_L) (i : Nat) (x : Int64) : (i, Value.long x) :: (lv.map (ax_c1 G)).filter (fun q => !(q.1 == i) && (!(q.1 == i + 1) && !(q.1 + 1 == i && q.2.category == 2))) = (ax_sto lv i (ax_l x)).map (ax_c1 G) := by
  rw [ax_filt G _ (fun q => !(q.1 == i) && (!(q.1 == i + 1) && !(q.1 + 1 == i && ax_cat q.2 == 2))) (fun q => by simp [ax_c1, ax_cat_cv])]
  rfl
theorem ax_ent_cv (G : ax_G) : ∀ (as : List ax_V) (i : Nat), lv_args i (as.map (ax_cv G)) = (ax_ent i as).map (ax_c1 G)
  | [], _ => rfl
  | v :: as, i => by
    show (i, ax_cv G v) :: lv_args (if (ax_cv G v).category = 2 then i + 2 else i + 1) (as.map (ax_cv G)) = (i, ax_cv G v) :: (ax_ent (i + ax_cat v) as).map (ax_c1 G)
    rw [← ax_ent_cv G as (i + ax_cat v), ax_cat_cv]
    rcases v with x | x | x <;> rfl
theorem ax_len_cv (G : ax_G) : ∀ as : List ax_V, (lg_sl (as.map (ax_cv G))).length = ax_sum as
  | [] => rfl
  | v :: as => by
    have ih := ax_len_cv G as
    simp only [lg_sl] at ih ⊢
    rw [List.map_cons, List.flatMap_cons, List.length_append, ih, ax_cat_cv]
    rcases v with x | x | x <;> simp [ax_cat, ax_sum]
/-- a method's contract, out of its body's walk -/
theorem ax_Ct.of {l : Launch} {G : ax_G} {y : Nat} (hy : y < 249) {as : List ax_V} {μ : ax_M} {Q : Option ax_V → ax_M → Prop} (hs : ax_sum as ≤ ax_ml (ax_tb y)) (h : ax_Rw l G (ax_tb y) (ax_E G (ax_tb y) Q) 0 (ax_ent 0 as) [] 0 0 μ) : ax_Ct l G y as μ Q := by
  have hm := ax_mok_at (show y < 250 by omega)
  have hpn : _root_.Jvm.plainName (ax_nm (ax_tb y)).cls = true := by
    simp only [ax_mok, Bool.or_eq_true, Bool.and_eq_true, decide_eq_true_eq] at hm
    rcases hm with hm | hm
    · exact absurd hm ((show ∀ y, y < 249 → (ax_mq y).1 ≠ 0 by decide +kernel) y hy)
    · exact hm.1.1.2
  refine Met.ofW (cc := ax_by (ax_tb y)) (maxL := ax_ml (ax_tb y)) (ret := ax_rt (ax_tb y)) hpn rfl ?_
  intro p e s m args below meth c s₁ B hml hv
  obtain ⟨rfl, hH, hKK⟩ := hv
  have hts := atoms_spec (ws := ax_gt (ax_tb y)) B.pre
  have hl := lv_entry (as.map (ax_cv G)) (n := ax_ml (ax_tb y)) (by rw [ax_len_cv]; exact hs)
  rw [lg_entry_eq]
  rw [ax_ent_cv] at hl
  exact h p e s m _ below meth c ⟨B.exec, B.bytes, B.returns, B.notSynchronized, hml, findClass_of_methodNamed B.named, (name_of_methodNamed B.named B.method).1, fun w hw => hts w (List.mem_cons_of_mem _ hw), hKK⟩ s.heap [] _ hH hl (fun q hq => by cases hq)
end
section
theorem ax_ad_ge {G : ax_G} {a : Nat} (h : 64 ≤ a) : ax_ad G a = ax_B G + (a - 64) := by
  unfold ax_ad
  rw [if_neg (by omega)]
theorem ax_ad_lt {G : ax_G} {a : Nat} (h : a < 64) : ax_ad G a = ax_C G a := by
  unfold ax_ad
  rw [if_pos h]
theorem ax_ao_some {G : ax_G} {a : Nat} (h : a ≠ 6) : ax_ao G (some a) = some (ax_ad G a) := by
  show (if a = 6 then ax_F G else some (ax_ad G a)) = _
  rw [if_neg h]
theorem ax_cv_some {G : ax_G} {a : Nat} (h : a ≠ 6) : ax_cv G (ax_r (some a)) = .ref (ax_ad G a) := by
  rw [ax_cv_r, ax_ao_some h]
  rfl
section Mem
variable {G : ax_G} {μ : ax_M} {H : Heap}
theorem ax_Hd.lt (h : ax_Hd G μ H) {a : Nat} (ha : mK μ a ≠ 99) : a < mN μ := by
  rcases Nat.lt_or_ge a (mN μ) with q | q
  · exact q
  · exact absurd (h.2.2.2.1 a q) ha
theorem ax_Hd.k0 (h : ax_Hd G μ H) {a : Nat} (ha : a < 64) : mK μ a = mK (ax_0 G) a ∧ mZ μ a = mZ (ax_0 G) a := by
  have := (h.2.2.2.2.2 a ha).1
  unfold mK mZ
  rw [this]
  exact ⟨rfl, rfl⟩
theorem ax_Hd.n6 {s : State} (h : ax_Hd G μ H) (hK : ax_KK G s) {a : Nat} (ha : mK μ a ≠ 99) : a ≠ 6 := by
  intro e
  subst e
  exact ha ((h.k0 (by omega)).1.trans hK.2.2.2.2.2.2.2.2)
/-- one cell is written: the kinds, the lengths and the other cells stay -/
theorem ax_Hd.set (h : ax_Hd G μ H) {a : Nat} (ha : 64 ≤ a) {μ' : ax_M} {H1 : Heap} (hn : μ'.1 = μ.1) (hk : μ'.2.1 = μ.2.1) (hI : ∀ b j, b ≠ a → gI μ' b j = gI μ b j) (hL : ∀ b j, b ≠ a → gL μ' b j = gL μ b j) (hR : ∀ b j, b ≠ a → gR μ' b j = gR μ b j)
    (z : H1.size = H.size) (oq : ∀ q : Nat, q ≠ ax_ad G a → H1[q]? = H[q]?) (hat : ax_at G μ' a H1) : ax_Hd G μ' H1 := by
  obtain ⟨h1, h2, h3, h4, h5, h6⟩ := h
  have eN : mN μ' = mN μ := hn
  have eK : ∀ b, mK μ' b = mK μ b := fun b => by unfold mK; rw [hk]
  have eZ : ∀ b, mZ μ' b = mZ μ b := fun b => by unfold mZ; rw [hk]
  refine ⟨by rw [eN]; exact h1, by rw [eN, z]; exact h2, fun q hq => (oq q (by rw [ax_ad_ge ha]; omega)).trans (h3 q hq), fun b hb => (eK b).trans (h4 b (by rw [← eN]; exact hb)), fun b hb => ?_, fun b hb => ?_⟩
  · by_cases e : b = a
    · subst e; exact hat
    · have hne : ax_ad G b ≠ ax_ad G a := by rw [ax_ad_ge ha, ax_ad_ge hb]; omega
      have ho := oq _ hne
      obtain ⟨g1, g2, g13⟩ := h5 b hb
      refine ⟨fun q => ?_, fun q1 q2 => ?_, by rw [eK]; exact g13⟩
      · rw [eK] at q ⊢
        refine ((g1 q).kept ho).to (fun j _ => ?_)
        unfold ax_fv
        rw [hI b j e, hL b j e, hR b j e]
      · rw [eK] at q1 q2
        rw [ho, g2 q1 q2, eK, eZ]
        congr 2
        funext j
        unfold ax_av
        rw [hI b j e, hL b j e, hR b j e]
  · have hne : b ≠ a := by omega
    obtain ⟨g1, g2, g3, g4⟩ := h6 b hb
    exact ⟨by rw [hk]; exact g1, fun j => (hI b j hne).trans (g2 j), fun j => (hL b j hne).trans (g3 j), fun j => (hR b j hne).trans (g4 j)⟩
theorem ax_gI_sI (μ : ax_M) (a k : Nat) (v : Int32) (b j : Nat) : gI (sI μ a k v) b j = if b = a ∧ j = k then v else gI μ b j := rfl
theorem ax_gL_sL (μ : ax_M) (a k : Nat) (v : Int64) (b j : Nat) : gL (sL μ a k v) b j = if b = a ∧ j = k then v else gL μ b j := rfl
theorem ax_gR_sR (μ : ax_M) (a k : Nat) (v : Option Nat) (b j : Nat) : gR (sR μ a k v) b j = if b = a ∧ j = k then v else gR μ b j := rfl
/-- a field is written -/
theorem ax_Hd.putI (h : ax_Hd G μ H) {a k : Nat} {v : Int32} (ha : 64 ≤ a) (hK : mK μ a < 13) (hs : ax_ft (mK μ a) k = 0) {H1 : Heap} (z : H1.size = H.size) (oq : ∀ q : Nat, q ≠ ax_ad G a → H1[q]? = H[q]?) (hc : t_OB (ax_ad G a) ((ax_D G).1 (mK μ a)) (ax_nf (mK μ a)) ((ax_D G).2 (mK μ a)) H1 (updV (fun j => ax_fv G μ a j (ax_ft (mK μ a) j)) k (.int v))) : ax_Hd G (sI μ a k v) H1 := by
  refine h.set ha rfl rfl (fun b j e => by rw [ax_gI_sI, if_neg (fun q => e q.1)]) (fun _ _ _ => rfl) (fun _ _ _ => rfl) z oq ⟨fun _ => hc.to (fun j _ => ?_), fun q => ?_, fun q => ?_⟩
  · show updV _ k (.int v) j = ax_fv G (sI μ a k v) a j (ax_ft (mK μ a) j)
    by_cases e : j = k
    · subst e
      rw [hs]
      show (if j = j then Value.int v else _) = Value.int (gI (sI μ a j v) a j)
      rw [if_pos rfl, ax_gI_sI, if_pos ⟨rfl, rfl⟩]
    · show (if j = k then Value.int v else _) = _
      rw [if_neg e]
      unfold ax_fv
      rw [ax_gI_sI, if_neg (fun q => e q.2)]
      rfl
  · have : mK (sI μ a k v) a = mK μ a := rfl
    omega
  · have : mK (sI μ a k v) a = mK μ a := rfl
    omega
theorem ax_Hd.putL (h : ax_Hd G μ H) {a k : Nat} {v : Int64} (ha : 64 ≤ a) (hK : mK μ a < 13) (hs : ax_ft (mK μ a) k = 1) {H1 : Heap} (z : H1.size = H.size) (oq : ∀ q : Nat, q ≠ ax_ad G a → H1[q]? = H[q]?) (hc : t_OB (ax_ad G a) ((ax_D G).1 (mK μ a)) (ax_nf (mK μ a)) ((ax_D G).2 (mK μ a)) H1 (updV (fun j => ax_fv G μ a j (ax_ft (mK μ a) j)) k (.long v))) : ax_Hd G (sL μ a k v) H1 := by
  refine h.set ha rfl rfl (fun _ _ _ => rfl) (fun b j e => by rw [ax_gL_sL, if_neg (fun q => e q.1)]) (fun _ _ _ => rfl) z oq ⟨fun _ => hc.to (fun j _ => ?_), fun q => ?_, fun q => ?_⟩
  · show updV _ k (.long v) j = ax_fv G (sL μ a k v) a j (ax_ft (mK μ a) j)
    by_cases e : j = k
    · subst e
      rw [hs]
      show (if j = j then Value.long v else _) = Value.long (gL (sL μ a j v) a j)
      rw [if_pos rfl, ax_gL_sL, if_pos ⟨rfl, rfl⟩]
    · show (if j = k then Value.long v else _) = _
      rw [if_neg e]
      unfold ax_fv
      rw [ax_gL_sL, if_neg (fun q => e q.2)]
      rfl
  · have : mK (sL μ a k v) a = mK μ a := rfl
    omega
  · have : mK (sL μ a k v) a = mK μ a := rfl
    omega
theorem ax_Hd.putR (h : ax_Hd G μ H) {a k : Nat} {v : Option Nat} (ha : 64 ≤ a) (hK : mK μ a < 13) (hs : ax_ft (mK μ a) k = 2) {H1 : Heap} (z : H1.size = H.size) (oq : ∀ q : Nat, q ≠ ax_ad G a → H1[q]? = H[q]?) (hc : t_OB (ax_ad G a) ((ax_D G).1 (mK μ a)) (ax_nf (mK μ a)) ((ax_D G).2 (mK μ a)) H1 (updV (fun j => ax_fv G μ a j (ax_ft (mK μ a) j)) k (va_rf (ax_ao G v)))) : ax_Hd G (sR μ a k v) H1 := by
  refine h.set ha rfl rfl (fun _ _ _ => rfl) (fun _ _ _ => rfl) (fun b j e => by rw [ax_gR_sR, if_neg (fun q => e q.1)]) z oq ⟨fun _ => hc.to (fun j _ => ?_), fun q => ?_, fun q => ?_⟩
  · show updV _ k (va_rf (ax_ao G v)) j = ax_fv G (sR μ a k v) a j (ax_ft (mK μ a) j)
    by_cases e : j = k
    · subst e
      rw [hs]
      show (if j = j then va_rf (ax_ao G v) else _) = va_rf (ax_ao G (gR (sR μ a j v) a j))
      rw [if_pos rfl, ax_gR_sR, if_pos ⟨rfl, rfl⟩]
    · show (if j = k then va_rf (ax_ao G v) else _) = _
      rw [if_neg e]
      unfold ax_fv
      rw [ax_gR_sR, if_neg (fun q => e q.2)]
      rfl
  · have : mK (sR μ a k v) a = mK μ a := rfl
    omega
  · have : mK (sR μ a k v) a = mK μ a := rfl
    omega
/-- a place of an array is written -/
theorem ax_Hd.stI (h : ax_Hd G μ H) {a k : Nat} {v : Int32} (ha : 64 ≤ a) (hK : mK μ a = 20 ∨ mK μ a = 21 ∨ mK μ a = 23) {H1 : Heap} (z : H1.size = H.size) (oq : ∀ q : Nat, q ≠ ax_ad G a → H1[q]? = H[q]?) (hc : H1[ax_ad G a]? = some ((arrV (ax_Y G (mK μ a)) (mZ μ a) (fun j => ax_av G μ (mK μ a) a j)).setSlot k (.int v))) : ax_Hd G (sI μ a k v) H1 := by
  refine h.set ha rfl rfl (fun b j e => by rw [ax_gI_sI, if_neg (fun q => e q.1)]) (fun _ _ _ => rfl) (fun _ _ _ => rfl) z oq ⟨fun q => ?_, fun _ _ => ?_, fun q => ?_⟩
  · have : mK (sI μ a k v) a = mK μ a := rfl
    omega
  · rw [hc, arrV_store]
    show some (arrV (ax_Y G (mK μ a)) (mZ μ a) _) = some (arrV (ax_Y G (mK μ a)) (mZ μ a) _)
    congr 2
    funext j
    show (if j = k then Value.int v else ax_av G μ (mK μ a) a j) = ax_av G (sI μ a k v) (mK μ a) a j
    unfold ax_av
    rw [if_neg (show ¬ mK μ a = 22 by omega), if_pos (show mK μ a < 24 by omega), if_neg (show ¬ mK μ a = 22 by omega), if_pos (show mK μ a < 24 by omega), ax_gI_sI]
    by_cases e : j = k
    · subst e; rw [if_pos rfl, if_pos ⟨rfl, rfl⟩]
    · rw [if_neg e, if_neg (fun q => e q.2)]
  · have : mK (sI μ a k v) a = mK μ a := rfl
    omega
theorem ax_Hd.stL (h : ax_Hd G μ H) {a k : Nat} {v : Int64} (ha : 64 ≤ a) (hK : mK μ a = 22) {H1 : Heap} (z : H1.size = H.size) (oq : ∀ q : Nat, q ≠ ax_ad G a → H1[q]? = H[q]?) (hc : H1[ax_ad G a]? = some ((arrV (ax_Y G (mK μ a)) (mZ μ a) (fun j => ax_av G μ (mK μ a) a j)).setSlot k (.long v))) : ax_Hd G (sL μ a k v) H1 := by
  refine h.set ha rfl rfl (fun _ _ _ => rfl) (fun b j e => by rw [ax_gL_sL, if_neg (fun q => e q.1)]) (fun _ _ _ => rfl) z oq ⟨fun q => ?_, fun _ _ => ?_, fun q => ?_⟩
  · have : mK (sL μ a k v) a = mK μ a := rfl
    omega
  · rw [hc, arrV_store]
    show some (arrV (ax_Y G (mK μ a)) (mZ μ a) _) = some (arrV (ax_Y G (mK μ a)) (mZ μ a) _)
    congr 2
    funext j
    show (if j = k then Value.long v else ax_av G μ (mK μ a) a j) = ax_av G (sL μ a k v) (mK μ a) a j
    unfold ax_av
    rw [if_pos hK, if_pos hK, ax_gL_sL]
    by_cases e : j = k
    · subst e; rw [if_pos rfl, if_pos ⟨rfl, rfl⟩]
    · rw [if_neg e, if_neg (fun q => e q.2)]
  · have : mK (sL μ a k v) a = mK μ a := rfl
    omega
theorem ax_Hd.stR (h : ax_Hd G μ H) {a k : Nat} {v : Option Nat} (ha : 64 ≤ a) (hK : 24 ≤ mK μ a) (hK2 : mK μ a ≤ 28) {H1 : Heap} (z : H1.size = H.size) (oq : ∀ q : Nat, q ≠ ax_ad G a → H1[q]? = H[q]?) (hc : H1[ax_ad G a]? = some ((arrV (ax_Y G (mK μ a)) (mZ μ a) (fun j => ax_av G μ (mK μ a) a j)).setSlot k (va_rf (ax_ao G v)))) : ax_Hd G (sR μ a k v) H1 := by
  refine h.set ha rfl rfl (fun _ _ _ => rfl) (fun _ _ _ => rfl) (fun b j e => by rw [ax_gR_sR, if_neg (fun q => e q.1)]) z oq ⟨fun q => ?_, fun _ _ => ?_, fun q => ?_⟩
  · have : mK (sR μ a k v) a = mK μ a := rfl
    omega
  · rw [hc, arrV_store]
    show some (arrV (ax_Y G (mK μ a)) (mZ μ a) _) = some (arrV (ax_Y G (mK μ a)) (mZ μ a) _)
    congr 2
    funext j
    show (if j = k then va_rf (ax_ao G v) else ax_av G μ (mK μ a) a j) = ax_av G (sR μ a k v) (mK μ a) a j
    unfold ax_av
    rw [if_neg (show ¬ mK μ a = 22 by omega), if_neg (show ¬ mK μ a < 24 by omega), if_neg (show ¬ mK μ a = 22 by omega), if_neg (show ¬ mK μ a < 24 by omega), ax_gR_sR]
    by_cases e : j = k
    · subst e; rw [if_pos rfl, if_pos ⟨rfl, rfl⟩]
    · rw [if_neg e, if_neg (fun q => e q.2)]
  · have : mK (sR μ a k v) a = mK μ a := rfl
    omega
/-- a new cell -/
theorem ax_Hd.new (h : ax_Hd G μ H) (k z : Nat) {H1 : Heap} (hz : H1.size = H.size + 1) (oq : ∀ q : Nat, q < H.size → H1[q]? = H[q]?) (hat : ax_at G (nC μ k z) (mN μ) H1) : ax_Hd G (nC μ k z) H1 ∧ ax_ad G (mN μ) = H.size := by
  obtain ⟨h1, h2, h3, h4, h5, h6⟩ := h
  have ead : ax_ad G (mN μ) = H.size := by rw [ax_ad_ge h1, h2]
  have eN : mN (nC μ k z) = mN μ + 1 := rfl
  have eK : ∀ b, b ≠ mN μ → mK (nC μ k z) b = mK μ b := fun b hb => by
    show (if b = μ.1 then (k, z) else μ.2.1 b).1 = _
    rw [if_neg (show ¬ b = μ.1 from hb)]; rfl
  have eZ : ∀ b, b ≠ mN μ → mZ (nC μ k z) b = mZ μ b := fun b hb => by
    show (if b = μ.1 then (k, z) else μ.2.1 b).2 = _
    rw [if_neg (show ¬ b = μ.1 from hb)]; rfl
  have eI : ∀ b j, b ≠ mN μ → gI (nC μ k z) b j = gI μ b j := fun b j hb => by
    show (if b = μ.1 then 0 else μ.2.2.1 b j) = _
    rw [if_neg (show ¬ b = μ.1 from hb)]; rfl
  have eL : ∀ b j, b ≠ mN μ → gL (nC μ k z) b j = gL μ b j := fun b j hb => by
    show (if b = μ.1 then 0 else μ.2.2.2.1 b j) = _
    rw [if_neg (show ¬ b = μ.1 from hb)]; rfl
  have eR : ∀ b j, b ≠ mN μ → gR (nC μ k z) b j = gR μ b j := fun b j hb => by
    show (if b = μ.1 then none else μ.2.2.2.2 b j) = _
    rw [if_neg (show ¬ b = μ.1 from hb)]; rfl
  refine ⟨⟨by rw [eN]; omega, by rw [eN, hz, h2]; omega, fun q hq => (oq q (by omega)).trans (h3 q hq), fun b hb => ?_, fun b hb => ?_, fun b hb => ?_⟩, ead⟩
  · rw [eK b (by omega)]
    exact h4 b (by omega)
  · by_cases e : b = mN μ
    · subst e; exact hat
    · by_cases hlt : b < mN μ
      · have ho := oq (ax_ad G b) (by rw [ax_ad_ge hb, h2]; omega)
        obtain ⟨g1, g2, g13⟩ := h5 b hb
        refine ⟨fun q => ?_, fun q1 q2 => ?_, by rw [eK b e]; exact g13⟩
        · rw [eK b e] at q ⊢
          refine ((g1 q).kept ho).to (fun j _ => ?_)
          unfold ax_fv
          rw [eI b j e, eL b j e, eR b j e]
        · rw [eK b e] at q1 q2
          rw [ho, g2 q1 q2, eK b e, eZ b e]
          congr 2
          funext j
          unfold ax_av
          rw [eI b j e, eL b j e, eR b j e]
      · have hk := h4 b (by omega)
        exact ⟨fun q => by rw [eK b e] at q; omega, fun q1 q2 => by rw [eK b e] at q1 q2; omega, by rw [eK b e]; omega⟩
  · have hne : b ≠ mN μ := by omega
    obtain ⟨g1, g2, g3, g4⟩ := h6 b hb
    refine ⟨?_, fun j => (eI b j hne).trans (g2 j), fun j => (eL b j hne).trans (g3 j), fun j => (eR b j hne).trans (g4 j)⟩
    show (if b = μ.1 then (k, z) else μ.2.1 b) = _
    rw [if_neg (show ¬ b = μ.1 from hne)]
    exact g1
end Mem
end
section
/-- an instruction's numbers are what the tables say -/
def ax_room (h : ax_H) (y : Nat) : Bool := Nat.ble ((ax_tb y).2.1.1 + 1) h.2.1.1 && Nat.ble (8 + (ax_ml (ax_tb y) + 11) + (ax_tb y).2.1.2.1) h.2.1.2.1
def ax_chk (h : ax_H) (pc : Nat) (E : ax_X) : Bool := match E.1 with
  | .iconst n => decide (E.2.1 = 1) && decide (E.2.2.2 = ax_i (Int32.ofInt n))
  | .bipush n => decide (E.2.1 = 2) && decide (E.2.2.2 = ax_i (Int8.ofInt n).toInt32)
  | .sipush n => decide (E.2.1 = 3) && decide (E.2.2.2 = ax_i (Int16.ofInt n).toInt32)
  | .lconst n => decide (E.2.1 = 1) && decide (E.2.2.2 = ax_l (Int64.ofNat (n : Nat)))
  | .ldc i => decide (E.2.1 = 2) && (if ax_p E 1 = 0 then (match ax_ki[ax_p E 0]? with
      | some q => decide (q.1 = ax_oc h) && decide (q.2.1 = i) && decide (E.2.2.2 = ax_i q.2.2)
      | none => false)
    else (match ax_ks[ax_p E 0]? with
      | some q => decide (q.1 = ax_oc h) && decide (q.2.1 = i) && decide (E.2.2.2 = ax_r (some q.2.2.1)) && Nat.ble q.2.2.1 63 && Nat.ble 7 q.2.2.1
      | none => false))
  | .ldc_w i => decide (E.2.1 = 3) && (if ax_p E 1 = 0 then (match ax_ki[ax_p E 0]? with
      | some q => decide (q.1 = ax_oc h) && decide (q.2.1 = i) && decide (E.2.2.2 = ax_i q.2.2)
      | none => false)
    else (match ax_ks[ax_p E 0]? with
      | some q => decide (q.1 = ax_oc h) && decide (q.2.1 = i) && decide (E.2.2.2 = ax_r (some q.2.2.1)) && Nat.ble q.2.2.1 63 && Nat.ble 7 q.2.2.1
      | none => false))
  | .ldc2_w i => decide (E.2.1 = 3) && (match ax_kl[ax_p E 0]? with
      | some q => decide (q.1 = ax_oc h) && decide (q.2.1 = i) && decide (E.2.2.2 = ax_l q.2.2)
      | none => false)
  | .getstatic i => decide (E.2.1 = 3) && (match ax_ls[ax_p E 0]? with
      | some q => decide (q.1 = ax_oc h) && decide (q.2.1 = i) && Nat.ble q.2.2 6 && decide (E.2.2.2 = (ax_sn q.2.2).2.2.2)
      | none => false)
  | .iload i => decide (E.2.1 = 2) && decide (ax_p E 0 = i)
  | .lload i => decide (E.2.1 = 2) && decide (ax_p E 0 = i)
  | .aload i => decide (E.2.1 = 2) && decide (ax_p E 0 = i)
  | .iload_n i => decide (E.2.1 = 1) && decide (ax_p E 0 = i.val)
  | .lload_n i => decide (E.2.1 = 1) && decide (ax_p E 0 = i.val)
  | .aload_n i => decide (E.2.1 = 1) && decide (ax_p E 0 = i.val)
  | .istore i => decide (E.2.1 = 2) && decide (ax_p E 0 = i) && Nat.blt i (ax_ml h)
  | .lstore i => decide (E.2.1 = 2) && decide (ax_p E 0 = i) && Nat.blt (i + 1) (ax_ml h)
  | .astore i => decide (E.2.1 = 2) && decide (ax_p E 0 = i) && Nat.blt i (ax_ml h)
  | .istore_n i => decide (E.2.1 = 1) && decide (ax_p E 0 = i.val) && Nat.blt i.val (ax_ml h)
  | .lstore_n i => decide (E.2.1 = 1) && decide (ax_p E 0 = i.val) && Nat.blt (i.val + 1) (ax_ml h)
  | .astore_n i => decide (E.2.1 = 1) && decide (ax_p E 0 = i.val) && Nat.blt i.val (ax_ml h)
  | .iinc i n => decide (E.2.1 = 3) && decide (ax_p E 0 = i) && Nat.blt i (ax_ml h) && decide (E.2.2.2 = ax_i (Int32.ofInt n))
  | .iadd | .isub | .imul | .idiv | .irem | .ineg | .iand | .ishl | .ishr | .iushr | .ladd | .lmul | .ldiv | .lor | .lshl | .lcmp | .i2l | .l2i | .i2b | .i2c | .dup | .dup2 | .pop => decide (E.2.1 = 1)
  | .iaload | .laload | .iastore | .lastore | .arraylength | .ireturn => decide (E.2.1 = 1)
  | .lreturn => decide (E.2.1 = 1) && decide (ax_rt h = some .long)
  | .return_ => decide (E.2.1 = 1) && decide (ax_rt h = none)
  | .goto off => decide (E.2.1 = 3) && decide ((pc : Int) + off = (ax_p E 0 : Int))
  | .ifCond _ off => decide (E.2.1 = 3) && decide ((pc : Int) + off = (ax_p E 0 : Int))
  | .if_icmp _ off => decide (E.2.1 = 3) && decide ((pc : Int) + off = (ax_p E 0 : Int))
  | .ifnull off => decide (E.2.1 = 3) && decide ((pc : Int) + off = (ax_p E 0 : Int))
  | .ifnonnull off => decide (E.2.1 = 3) && decide ((pc : Int) + off = (ax_p E 0 : Int))
  | .tableswitch d lo hi offs => decide ((pc : Int) + d = (ax_p E 0 : Int)) && decide (lo = (ax_p E 1 : Int)) && decide (hi = (ax_p E 1 : Int) + (E.2.2.1.length - 3 : Int)) && decide (E.2.2.1.length = offs.size + 2) && Nat.ble 1 offs.size && Nat.ble (ax_p E 1 + offs.size) 100000 &&
      (List.range offs.size).all (fun k => decide ((offs[k]?).map (fun o => (pc : Int) + o) = some (ax_p E (2 + k) : Int)))
  | .getfield i => decide (E.2.1 = 3) && (match ax_lf[ax_p E 0]? with
      | some q => decide (q.1 = ax_oc h) && decide (q.2.1 = i) && decide (q.2.2.1 = ax_p E 1) && decide (q.2.2.2.1 = ax_p E 2) &&
          (if ax_p E 1 = 13 then decide (q.2.2.2.2 = 0) && (decide (ax_p E 2 = 0 ∧ ax_p E 3 = 2) || decide (ax_p E 2 = 1 ∧ ax_p E 3 = 0)) else Nat.blt (ax_p E 1) 13 && Nat.blt (ax_p E 2) (ax_nf (ax_p E 1)) && decide (ax_p E 3 = ax_ft (ax_p E 1) (ax_p E 2)))
      | none => false)
  | .putfield i => decide (E.2.1 = 3) && (match ax_lf[ax_p E 0]? with
      | some q => decide (q.1 = ax_oc h) && decide (q.2.1 = i) && decide (q.2.2.1 = ax_p E 1) && decide (q.2.2.2.1 = ax_p E 2) &&
          Nat.blt (ax_p E 1) 13 && Nat.blt (ax_p E 2) (ax_nf (ax_p E 1)) && decide (ax_p E 3 = ax_ft (ax_p E 1) (ax_p E 2)) &&
          (if (ax_Tb (ax_p E 1) (ax_p E 2)).2.2.2 = true then decide (q.2.2.2.2 = 0) && decide ((ax_nm h).name = "<init>") && decide (ax_Cn (ax_p E 1) = (ax_nm h).cls) else true)
      | none => false)
  | .baload => decide (E.2.1 = 1) && (decide (ax_p E 0 = 20) || decide (ax_p E 0 = 23))
  | .bastore => decide (E.2.1 = 1) && (decide (ax_p E 0 = 20) || decide (ax_p E 0 = 23))
  | .aaload => decide (E.2.1 = 1) && Nat.ble 24 (ax_p E 0) && Nat.ble (ax_p E 0) 28
  | .aastore => decide (E.2.1 = 1) && Nat.ble 24 (ax_p E 0) && Nat.ble (ax_p E 0) 27 && Nat.blt (ax_p E 1) 13 && decide (ax_aT (ax_p E 0) = .object (ax_Cn (ax_p E 1)))
  | .new i => decide (E.2.1 = 3) && (match ax_lc[ax_p E 0]? with
      | some q => decide (q.1 = ax_oc h) && decide (q.2.1 = i) && decide (q.2.2 = ax_p E 1) && Nat.blt (ax_p E 1) 13
      | none => false)
  | .newarray t => decide (E.2.1 = 2) && decide (ax_ty t = ax_p E 0) && Nat.ble (ax_p E 0) 23
  | .anewarray i => decide (E.2.1 = 3) && (match ax_lc[ax_p E 0]? with
      | some q => decide (q.1 = ax_oc h) && decide (q.2.1 = i) && Nat.blt q.2.2 13 && Nat.ble 24 (ax_p E 1) && Nat.ble (ax_p E 1) 27 && decide (ax_aT (ax_p E 1) = .object (ax_Cn q.2.2))
      | none => false)
  | .multianewarray _ _ => false
  | .invokevirtual i => decide (E.2.1 = 3) && (match ax_lm[ax_p E 0]? with
      | some q => decide (q.1 = ax_oc h) && decide (q.2.1 = i) && decide (q.2.2.1 = ax_p E 1) && Nat.blt (ax_p E 1) 249 && decide ((ax_mq (ax_p E 1)).1 = 2) && ax_room h (ax_p E 1) &&
          (if ax_p E 2 = 13 then decide ((ax_nm (ax_tb (ax_p E 1))).cls = "java/lang/String") && decide (q.2.2.2 = 0) else Nat.blt (ax_p E 2) 13 && decide (ax_Cn (ax_p E 2) = (ax_nm (ax_tb (ax_p E 1))).cls))
      | none => false)
  | .invokestatic i => decide (E.2.1 = 3) && (match ax_lm[ax_p E 0]? with
      | some q => decide (q.1 = ax_oc h) && decide (q.2.1 = i) && decide (q.2.2.1 = ax_p E 1) &&
          (if 9990 ≤ ax_p E 1 then (decide (ax_p E 1 = 9990) || decide (ax_p E 1 = 9991) || decide (ax_p E 1 = 9992) || decide (ax_p E 1 = 9993)) && decide (q.2.2.2 = 0) && Nat.ble 1 h.2.1.1 && Nat.ble 23 h.2.1.2.1
           else Nat.blt (ax_p E 1) 249 && decide ((ax_mq (ax_p E 1)).1 = 1) && ax_room h (ax_p E 1))
      | none => false)
  | .invokespecial i => decide (E.2.1 = 3) && (match ax_lm[ax_p E 0]? with
      | some q => decide (q.1 = ax_oc h) && decide (q.2.1 = i) && decide (q.2.2.1 = ax_p E 1) &&
          (if ax_p E 1 = 9999 then decide (q.2.2.2 = 0) && Nat.ble 1 h.2.1.1 && Nat.ble 20 h.2.1.2.1
           else Nat.blt (ax_p E 1) 249 && decide ((ax_mq (ax_p E 1)).1 = 3) && ax_room h (ax_p E 1))
      | none => false)
  | _ => true
/-- a method's whole code: each place decodes as written, and its numbers are right -/
def ax_okc (h : ax_H) (cd : Nat → Option ax_X) (n : Nat) : Bool := (List.range n).all (fun pc => match cd pc with
  | some E => (match decode (ax_by h) pc with
    | .ok q => decide (q = (E.1, E.2.1)) && ax_chk h pc E
    | .error _ => false)
  | none => true)
/-- a method's code: its places below n alone -/
def ax_cut (n : Nat) (cd : Nat → Option ax_X) (pc : Nat) : Option ax_X := cond (Nat.blt pc n) (cd pc) none
theorem ax_okc_at {h : ax_H} {cd : Nat → Option ax_X} {n : Nat} (hk : ax_okc h cd n = true) {pc : Nat} {E : ax_X} (he : ax_cut n cd pc = some E) : decode (ax_by h) pc = .ok (E.1, E.2.1) ∧ ax_chk h pc E = true := by
  unfold ax_cut at he
  cases hb : Nat.blt pc n with
  | false => rw [hb] at he; cases he
  | true =>
    rw [hb] at he
    have hlt : pc < n := Nat.le_of_ble_eq_true hb
    have h1 := List.all_eq_true.mp hk pc (List.mem_range.mpr hlt)
    simp only [cond] at he
    rw [he] at h1
    cases hd : decode (ax_by h) pc with
    | error x => simp [hd] at h1
    | ok q =>
      simp only [hd, Bool.and_eq_true, decide_eq_true_eq] at h1
      exact ⟨by rw [h1.1], h1.2⟩
end
section
section Snd
variable {l : Launch} {G : ax_G} {h : ax_H} {EE : Program → Env → State → MethodId → Array Value → List Frame → Method → Code → State → Prop} {pc : Nat} {lv : ax_L} {st : List ax_V} {cl sl : Nat} {μ : ax_M}
theorem ax_s_iconst {n : Int} {v : Int32} (hd : decode (ax_by h) pc = .ok (.iconst n, 1)) (hv : Int32.ofInt n = v) (k : ax_Rw l G h EE (pc + 1) lv (ax_i v :: st) cl sl μ) : ax_Rw l G h EE pc lv st cl sl μ := fun p e s m args below meth c hx H locs ls hH hl hq => lv_iconst hx.1 hx.2.1 hd hv (k p e s m args below meth c hx H locs ls hH hl hq)
theorem ax_s_bipush {n : Int} {v : Int32} (hd : decode (ax_by h) pc = .ok (.bipush n, 2)) (hv : (Int8.ofInt n).toInt32 = v) (k : ax_Rw l G h EE (pc + 2) lv (ax_i v :: st) cl sl μ) : ax_Rw l G h EE pc lv st cl sl μ := fun p e s m args below meth c hx H locs ls hH hl hq => lv_bipush hx.1 hx.2.1 hd hv (k p e s m args below meth c hx H locs ls hH hl hq)
theorem ax_s_sipush {n : Int} {v : Int32} (hd : decode (ax_by h) pc = .ok (.sipush n, 3)) (hv : (Int16.ofInt n).toInt32 = v) (k : ax_Rw l G h EE (pc + 3) lv (ax_i v :: st) cl sl μ) : ax_Rw l G h EE pc lv st cl sl μ := fun p e s m args below meth c hx H locs ls hH hl hq => lv_sipush hx.1 hx.2.1 hd hv (k p e s m args below meth c hx H locs ls hH hl hq)
theorem ax_s_lconst {n : Fin 2} {v : Int64} (hd : decode (ax_by h) pc = .ok (.lconst n, 1)) (hv : Int64.ofNat (n : Nat) = v) (k : ax_Rw l G h EE (pc + 1) lv (ax_l v :: st) cl sl μ) : ax_Rw l G h EE pc lv st cl sl μ := fun p e s m args below meth c hx H locs ls hH hl hq => lv_lconst hx.1 hx.2.1 hd hv (k p e s m args below meth c hx H locs ls hH hl hq)
theorem ax_s_iload {i : Nat} {x : Int32} (hd : decode (ax_by h) pc = .ok (.iload i, 2)) (hv : ax_lk lv i = some (ax_i x)) (k : ax_Rw l G h EE (pc + 2) lv (ax_i x :: st) cl sl μ) : ax_Rw l G h EE pc lv st cl sl μ := fun p e s m args below meth c hx H locs ls hH hl hq => lv_iload hx.1 hx.2.1 hd (ax_has hl hv) (k p e s m args below meth c hx H locs ls hH hl hq)
theorem ax_s_iload_n {i : Fin 4} {x : Int32} (hd : decode (ax_by h) pc = .ok (.iload_n i, 1)) (hv : ax_lk lv i.val = some (ax_i x)) (k : ax_Rw l G h EE (pc + 1) lv (ax_i x :: st) cl sl μ) : ax_Rw l G h EE pc lv st cl sl μ := fun p e s m args below meth c hx H locs ls hH hl hq => lv_iload_n hx.1 hx.2.1 hd rfl (ax_has hl hv) (k p e s m args below meth c hx H locs ls hH hl hq)
theorem ax_s_lload {i : Nat} {x : Int64} (hd : decode (ax_by h) pc = .ok (.lload i, 2)) (hv : ax_lk lv i = some (ax_l x)) (k : ax_Rw l G h EE (pc + 2) lv (ax_l x :: st) cl sl μ) : ax_Rw l G h EE pc lv st cl sl μ := fun p e s m args below meth c hx H locs ls hH hl hq => lv_lload hx.1 hx.2.1 hd (ax_has hl hv) (k p e s m args below meth c hx H locs ls hH hl hq)
theorem ax_s_lload_n {i : Fin 4} {x : Int64} (hd : decode (ax_by h) pc = .ok (.lload_n i, 1)) (hv : ax_lk lv i.val = some (ax_l x)) (k : ax_Rw l G h EE (pc + 1) lv (ax_l x :: st) cl sl μ) : ax_Rw l G h EE pc lv st cl sl μ := fun p e s m args below meth c hx H locs ls hH hl hq => lv_lload_n hx.1 hx.2.1 hd rfl (ax_has hl hv) (k p e s m args below meth c hx H locs ls hH hl hq)
theorem ax_s_aload {i : Nat} {x : Option Nat} (hd : decode (ax_by h) pc = .ok (.aload i, 2)) (hv : ax_lk lv i = some (ax_r x)) (k : ax_Rw l G h EE (pc + 2) lv (ax_r x :: st) cl sl μ) : ax_Rw l G h EE pc lv st cl sl μ := by
  intro p e s m args below meth c hx H locs ls hH hl hq
  have hg := ax_has hl hv
  have k1 := k p e s m args below meth c hx H locs ls hH hl hq
  rw [List.map_cons, ax_cv_r] at k1
  rw [ax_cv_r] at hg
  cases hr : ax_ao G x with
  | none => rw [hr] at hg k1; exact lv_aloadN hx.1 hx.2.1 hd hg k1
  | some a => rw [hr] at hg k1; exact lv_aload hx.1 hx.2.1 hd hg k1
theorem ax_s_aload_n {i : Fin 4} {x : Option Nat} (hd : decode (ax_by h) pc = .ok (.aload_n i, 1)) (hv : ax_lk lv i.val = some (ax_r x)) (k : ax_Rw l G h EE (pc + 1) lv (ax_r x :: st) cl sl μ) : ax_Rw l G h EE pc lv st cl sl μ := by
  intro p e s m args below meth c hx H locs ls hH hl hq
  have hg := ax_has hl hv
  have k1 := k p e s m args below meth c hx H locs ls hH hl hq
  rw [List.map_cons, ax_cv_r] at k1
  rw [ax_cv_r] at hg
  cases hr : ax_ao G x with
  | none => rw [hr] at hg k1; exact lv_aload_nN hx.1 hx.2.1 hd rfl hg k1
  | some a => rw [hr] at hg k1; exact lv_aload_n hx.1 hx.2.1 hd rfl hg k1
theorem ax_s_istore {i : Nat} {x : Int32} (hd : decode (ax_by h) pc = .ok (.istore i, 2)) (hn : i < ax_ml h) (k : ax_Rw l G h EE (pc + 2) (ax_sto lv i (ax_i x)) st cl sl μ) : ax_Rw l G h EE pc lv (ax_i x :: st) cl sl μ := fun p e s m args below meth c hx H locs ls hH hl hq => lv_istore hx.1 hx.2.1 hd hl hn (ax_sto1 G lv i (ax_i x) rfl) (fun ls hl => k p e s m args below meth c hx H locs ls hH hl hq)
theorem ax_s_istore_n {i : Fin 4} {x : Int32} (hd : decode (ax_by h) pc = .ok (.istore_n i, 1)) (hn : i.val < ax_ml h) (k : ax_Rw l G h EE (pc + 1) (ax_sto lv i.val (ax_i x)) st cl sl μ) : ax_Rw l G h EE pc lv (ax_i x :: st) cl sl μ := fun p e s m args below meth c hx H locs ls hH hl hq => lv_istore_n hx.1 hx.2.1 hd rfl hl hn (ax_sto1 G lv i.val (ax_i x) rfl) (fun ls hl => k p e s m args below meth c hx H locs ls hH hl hq)
theorem ax_s_lstore {i : Nat} {x : Int64} (hd : decode (ax_by h) pc = .ok (.lstore i, 2)) (hn : i + 1 < ax_ml h) (k : ax_Rw l G h EE (pc + 2) (ax_sto lv i (ax_l x)) st cl sl μ) : ax_Rw l G h EE pc lv (ax_l x :: st) cl sl μ := fun p e s m args below meth c hx H locs ls hH hl hq => lv_lstore hx.1 hx.2.1 hd hl hn (ax_sto2 G lv i x) (fun ls hl => k p e s m args below meth c hx H locs ls hH hl hq)
theorem ax_s_lstore_n {i : Fin 4} {x : Int64} (hd : decode (ax_by h) pc = .ok (.lstore_n i, 1)) (hn : i.val + 1 < ax_ml h) (k : ax_Rw l G h EE (pc + 1) (ax_sto lv i.val (ax_l x)) st cl sl μ) : ax_Rw l G h EE pc lv (ax_l x :: st) cl sl μ := fun p e s m args below meth c hx H locs ls hH hl hq => lv_lstore_n hx.1 hx.2.1 hd rfl hl hn (ax_sto2 G lv i.val x) (fun ls hl => k p e s m args below meth c hx H locs ls hH hl hq)
theorem ax_s_astore {i : Nat} {x : Option Nat} (hd : decode (ax_by h) pc = .ok (.astore i, 2)) (hn : i < ax_ml h) (k : ax_Rw l G h EE (pc + 2) (ax_sto lv i (ax_r x)) st cl sl μ) : ax_Rw l G h EE pc lv (ax_r x :: st) cl sl μ := by
  intro p e s m args below meth c hx H locs ls hH hl hq
  have e := ax_sto1 G lv i (ax_r x) rfl
  rw [List.map_cons]
  rw [ax_cv_r] at e ⊢
  cases hr : ax_ao G x with
  | none => rw [hr] at e; exact lv_astoreN hx.1 hx.2.1 hd hl hn e (fun ls hl => k p _ s m args below meth c hx H locs ls hH hl hq)
  | some a => rw [hr] at e; exact lv_astore hx.1 hx.2.1 hd hl hn e (fun ls hl => k p _ s m args below meth c hx H locs ls hH hl hq)
theorem ax_s_astore_n {i : Fin 4} {x : Option Nat} (hd : decode (ax_by h) pc = .ok (.astore_n i, 1)) (hn : i.val < ax_ml h) (k : ax_Rw l G h EE (pc + 1) (ax_sto lv i.val (ax_r x)) st cl sl μ) : ax_Rw l G h EE pc lv (ax_r x :: st) cl sl μ := by
  intro p e s m args below meth c hx H locs ls hH hl hq
  have e := ax_sto1 G lv i.val (ax_r x) rfl
  rw [List.map_cons]
  rw [ax_cv_r] at e ⊢
  cases hr : ax_ao G x with
  | none => rw [hr] at e; exact lv_astore_nN hx.1 hx.2.1 hd rfl hl hn e (fun ls hl => k p _ s m args below meth c hx H locs ls hH hl hq)
  | some a => rw [hr] at e; exact lv_astore_n hx.1 hx.2.1 hd rfl hl hn e (fun ls hl => k p _ s m args below meth c hx H locs ls hH hl hq)
theorem ax_s_iinc {i : Nat} {n : Int} {x d : Int32} (hd : decode (ax_by h) pc = .ok (.iinc i n, 3)) (hv : ax_lk lv i = some (ax_i x)) (hn : i < ax_ml h) (he : Int32.ofInt n = d) (k : ax_Rw l G h EE (pc + 3) (ax_sto lv i (ax_i (x + d))) st cl sl μ) : ax_Rw l G h EE pc lv st cl sl μ := by
  intro p e s m args below meth c hx H locs ls hH hl hq
  obtain ⟨q, hq1⟩ := List.getElem?_of_mem (List.mem_map.mpr ⟨(i, ax_i x), ax_lk_mem hv, rfl⟩ : (i, ax_cv G (ax_i x)) ∈ lv.map (ax_c1 G))
  exact lv_iinc hx.1 hx.2.1 hd hl hq1 (by rw [he]) hn (ax_sto1 G lv i (ax_i (x + d)) rfl) (fun ls hl => k p e s m args below meth c hx H locs ls hH hl hq)
theorem ax_s_iadd {x y : Int32} (hd : decode (ax_by h) pc = .ok (.iadd, 1)) (k : ax_Rw l G h EE (pc + 1) lv (ax_i (x + y) :: st) cl sl μ) : ax_Rw l G h EE pc lv (ax_i y :: ax_i x :: st) cl sl μ := fun p e s m args below meth c hx H locs ls hH hl hq => lv_iadd hx.1 hx.2.1 hd (k p e s m args below meth c hx H locs ls hH hl hq)
theorem ax_s_isub {x y : Int32} (hd : decode (ax_by h) pc = .ok (.isub, 1)) (k : ax_Rw l G h EE (pc + 1) lv (ax_i (x - y) :: st) cl sl μ) : ax_Rw l G h EE pc lv (ax_i y :: ax_i x :: st) cl sl μ := fun p e s m args below meth c hx H locs ls hH hl hq => lv_isub hx.1 hx.2.1 hd (k p e s m args below meth c hx H locs ls hH hl hq)
theorem ax_s_imul {x y : Int32} (hd : decode (ax_by h) pc = .ok (.imul, 1)) (k : ax_Rw l G h EE (pc + 1) lv (ax_i (x * y) :: st) cl sl μ) : ax_Rw l G h EE pc lv (ax_i y :: ax_i x :: st) cl sl μ := fun p e s m args below meth c hx H locs ls hH hl hq => lv_imul hx.1 hx.2.1 hd (k p e s m args below meth c hx H locs ls hH hl hq)
theorem ax_s_iand {x y : Int32} (hd : decode (ax_by h) pc = .ok (.iand, 1)) (k : ax_Rw l G h EE (pc + 1) lv (ax_i (x &&& y) :: st) cl sl μ) : ax_Rw l G h EE pc lv (ax_i y :: ax_i x :: st) cl sl μ := fun p e s m args below meth c hx H locs ls hH hl hq => lv_iand hx.1 hx.2.1 hd (k p e s m args below meth c hx H locs ls hH hl hq)
theorem ax_s_ishl {x y : Int32} (hd : decode (ax_by h) pc = .ok (.ishl, 1)) (k : ax_Rw l G h EE (pc + 1) lv (ax_i (x <<< (y &&& 31)) :: st) cl sl μ) : ax_Rw l G h EE pc lv (ax_i y :: ax_i x :: st) cl sl μ := fun p e s m args below meth c hx H locs ls hH hl hq => lv_ishl hx.1 hx.2.1 hd (k p e s m args below meth c hx H locs ls hH hl hq)
theorem ax_s_ishr {x y : Int32} (hd : decode (ax_by h) pc = .ok (.ishr, 1)) (k : ax_Rw l G h EE (pc + 1) lv (ax_i (x >>> (y &&& 31)) :: st) cl sl μ) : ax_Rw l G h EE pc lv (ax_i y :: ax_i x :: st) cl sl μ := fun p e s m args below meth c hx H locs ls hH hl hq => lv_ishr hx.1 hx.2.1 hd (k p e s m args below meth c hx H locs ls hH hl hq)
theorem ax_s_iushr {x y : Int32} (hd : decode (ax_by h) pc = .ok (.iushr, 1)) (k : ax_Rw l G h EE (pc + 1) lv (ax_i ((x.toUInt32 >>> (y.toUInt32 &&& Int32.toUInt32 31)).toInt32) :: st) cl sl μ) : ax_Rw l G h EE pc lv (ax_i y :: ax_i x :: st) cl sl μ := fun p e s m args below meth c hx H locs ls hH hl hq => lv_iushr hx.1 hx.2.1 hd rfl (k p e s m args below meth c hx H locs ls hH hl hq)
theorem ax_s_idiv {x y : Int32} (hd : decode (ax_by h) pc = .ok (.idiv, 1)) (hne : ¬ y = 0) (k : ax_Rw l G h EE (pc + 1) lv (ax_i (x / y) :: st) cl sl μ) : ax_Rw l G h EE pc lv (ax_i y :: ax_i x :: st) cl sl μ := fun p e s m args below meth c hx H locs ls hH hl hq => lv_idiv hx.1 hx.2.1 hd hne (k p e s m args below meth c hx H locs ls hH hl hq)
theorem ax_s_irem {x y : Int32} (hd : decode (ax_by h) pc = .ok (.irem, 1)) (hne : ¬ y = 0) (k : ax_Rw l G h EE (pc + 1) lv (ax_i (x - x / y * y) :: st) cl sl μ) : ax_Rw l G h EE pc lv (ax_i y :: ax_i x :: st) cl sl μ := fun p e s m args below meth c hx H locs ls hH hl hq => lv_irem hx.1 hx.2.1 hd hne (k p e s m args below meth c hx H locs ls hH hl hq)
theorem ax_s_ineg {x : Int32} (hd : decode (ax_by h) pc = .ok (.ineg, 1)) (k : ax_Rw l G h EE (pc + 1) lv (ax_i (-x) :: st) cl sl μ) : ax_Rw l G h EE pc lv (ax_i x :: st) cl sl μ := fun p e s m args below meth c hx H locs ls hH hl hq => lv_ineg hx.1 hx.2.1 hd (k p e s m args below meth c hx H locs ls hH hl hq)
theorem ax_s_ladd {x y : Int64} (hd : decode (ax_by h) pc = .ok (.ladd, 1)) (k : ax_Rw l G h EE (pc + 1) lv (ax_l (x + y) :: st) cl sl μ) : ax_Rw l G h EE pc lv (ax_l y :: ax_l x :: st) cl sl μ := fun p e s m args below meth c hx H locs ls hH hl hq => lv_ladd hx.1 hx.2.1 hd (k p e s m args below meth c hx H locs ls hH hl hq)
theorem ax_s_lmul {x y : Int64} (hd : decode (ax_by h) pc = .ok (.lmul, 1)) (k : ax_Rw l G h EE (pc + 1) lv (ax_l (x * y) :: st) cl sl μ) : ax_Rw l G h EE pc lv (ax_l y :: ax_l x :: st) cl sl μ := fun p e s m args below meth c hx H locs ls hH hl hq => lv_lmul hx.1 hx.2.1 hd (k p e s m args below meth c hx H locs ls hH hl hq)
theorem ax_s_lor {x y : Int64} (hd : decode (ax_by h) pc = .ok (.lor, 1)) (k : ax_Rw l G h EE (pc + 1) lv (ax_l (x ||| y) :: st) cl sl μ) : ax_Rw l G h EE pc lv (ax_l y :: ax_l x :: st) cl sl μ := fun p e s m args below meth c hx H locs ls hH hl hq => lv_lor hx.1 hx.2.1 hd (k p e s m args below meth c hx H locs ls hH hl hq)
theorem ax_s_ldiv {x y : Int64} (hd : decode (ax_by h) pc = .ok (.ldiv, 1)) (hne : ¬ y = 0) (k : ax_Rw l G h EE (pc + 1) lv (ax_l (x / y) :: st) cl sl μ) : ax_Rw l G h EE pc lv (ax_l y :: ax_l x :: st) cl sl μ := fun p e s m args below meth c hx H locs ls hH hl hq => lv_ldiv hx.1 hx.2.1 hd hne (k p e s m args below meth c hx H locs ls hH hl hq)
theorem ax_s_lshl {x : Int64} {y : Int32} (hd : decode (ax_by h) pc = .ok (.lshl, 1)) (k : ax_Rw l G h EE (pc + 1) lv (ax_l (x <<< (y.toInt64 &&& 63)) :: st) cl sl μ) : ax_Rw l G h EE pc lv (ax_i y :: ax_l x :: st) cl sl μ := fun p e s m args below meth c hx H locs ls hH hl hq => lv_lshl hx.1 hx.2.1 hd rfl (k p e s m args below meth c hx H locs ls hH hl hq)
theorem ax_s_lcmp {x y : Int64} (hd : decode (ax_by h) pc = .ok (.lcmp, 1)) (k : ax_Rw l G h EE (pc + 1) lv (ax_i (lg_cmp x y) :: st) cl sl μ) : ax_Rw l G h EE pc lv (ax_l y :: ax_l x :: st) cl sl μ := fun p e s m args below meth c hx H locs ls hH hl hq => W.lcmp hx.1 hx.2.1 hd (k p e s m args below meth c hx H locs ls hH hl hq)
theorem ax_s_i2l {x : Int32} (hd : decode (ax_by h) pc = .ok (.i2l, 1)) (k : ax_Rw l G h EE (pc + 1) lv (ax_l x.toInt64 :: st) cl sl μ) : ax_Rw l G h EE pc lv (ax_i x :: st) cl sl μ := fun p e s m args below meth c hx H locs ls hH hl hq => lv_i2l hx.1 hx.2.1 hd rfl (k p e s m args below meth c hx H locs ls hH hl hq)
theorem ax_s_l2i {x : Int64} (hd : decode (ax_by h) pc = .ok (.l2i, 1)) (k : ax_Rw l G h EE (pc + 1) lv (ax_i x.toInt32 :: st) cl sl μ) : ax_Rw l G h EE pc lv (ax_l x :: st) cl sl μ := fun p e s m args below meth c hx H locs ls hH hl hq => lv_l2i hx.1 hx.2.1 hd rfl (k p e s m args below meth c hx H locs ls hH hl hq)
theorem ax_s_i2b {x : Int32} (hd : decode (ax_by h) pc = .ok (.i2b, 1)) (k : ax_Rw l G h EE (pc + 1) lv (ax_i x.toInt8.toInt32 :: st) cl sl μ) : ax_Rw l G h EE pc lv (ax_i x :: st) cl sl μ := fun p e s m args below meth c hx H locs ls hH hl hq => lv_i2b hx.1 hx.2.1 hd rfl (k p e s m args below meth c hx H locs ls hH hl hq)
theorem ax_s_i2c {x : Int32} (hd : decode (ax_by h) pc = .ok (.i2c, 1)) (k : ax_Rw l G h EE (pc + 1) lv (ax_i (x.toUInt32 % 65536).toInt32 :: st) cl sl μ) : ax_Rw l G h EE pc lv (ax_i x :: st) cl sl μ := fun p e s m args below meth c hx H locs ls hH hl hq => lv_i2c hx.1 hx.2.1 hd rfl (k p e s m args below meth c hx H locs ls hH hl hq)
theorem ax_s_dup {v : ax_V} (hd : decode (ax_by h) pc = .ok (.dup, 1)) (hv : ax_cat v = 1) (k : ax_Rw l G h EE (pc + 1) lv (v :: v :: st) cl sl μ) : ax_Rw l G h EE pc lv (v :: st) cl sl μ := fun p e s m args below meth c hx H locs ls hH hl hq => lv_dup hx.1 hx.2.1 hd (by rw [ax_cat_cv]; exact hv) (k p e s m args below meth c hx H locs ls hH hl hq)
theorem ax_s_pop {v : ax_V} (hd : decode (ax_by h) pc = .ok (.pop, 1)) (hv : ax_cat v = 1) (k : ax_Rw l G h EE (pc + 1) lv st cl sl μ) : ax_Rw l G h EE pc lv (v :: st) cl sl μ := fun p e s m args below meth c hx H locs ls hH hl hq => lv_pop hx.1 hx.2.1 hd (by rw [ax_cat_cv]; exact hv) (k p e s m args below meth c hx H locs ls hH hl hq)
theorem ax_s_dup2 {v u : ax_V} (hd : decode (ax_by h) pc = .ok (.dup2, 1)) (hv : ax_cat v = 1) (hu : ax_cat u = 1) (k : ax_Rw l G h EE (pc + 1) lv (v :: u :: v :: u :: st) cl sl μ) : ax_Rw l G h EE pc lv (v :: u :: st) cl sl μ := fun p e s m args below meth c hx H locs ls hH hl hq => lv_dup2_11 hx.1 hx.2.1 hd (by rw [ax_cat_cv]; exact hv) (by rw [ax_cat_cv]; exact hu) (k p e s m args below meth c hx H locs ls hH hl hq)
theorem ax_s_goto {off : Int} {tgt : Nat} (hd : decode (ax_by h) pc = .ok (.goto off, 3)) (ht : (pc : Int) + off = (tgt : Int)) (k : ax_Rw l G h EE tgt lv st cl sl μ) : ax_Rw l G h EE pc lv st cl sl μ := fun p e s m args below meth c hx H locs ls hH hl hq => lv_goto hx.1 hx.2.1 hd ht (k p e s m args below meth c hx H locs ls hH hl hq)
theorem ax_s_if_eq {x : Int32} {off : Int} {tgt : Nat} (hd : decode (ax_by h) pc = .ok (.ifCond .eq off, 3)) (ht : (pc : Int) + off = (tgt : Int)) (k : ax_br (x = 0) (ax_Rw l G h EE tgt lv st cl sl μ) (ax_Rw l G h EE (pc + 3) lv st cl sl μ)) : ax_Rw l G h EE pc lv (ax_i x :: st) cl sl μ := fun p e s m args below meth c hx H locs ls hH hl hq => lv_if_eq hx.1 hx.2.1 hd ht (fun q => k.1 q p e s m args below meth c hx H locs ls hH hl hq) (fun q => k.2 q p e s m args below meth c hx H locs ls hH hl hq)
theorem ax_s_if_ne {x : Int32} {off : Int} {tgt : Nat} (hd : decode (ax_by h) pc = .ok (.ifCond .ne off, 3)) (ht : (pc : Int) + off = (tgt : Int)) (k : ax_br (x = 0) (ax_Rw l G h EE (pc + 3) lv st cl sl μ) (ax_Rw l G h EE tgt lv st cl sl μ)) : ax_Rw l G h EE pc lv (ax_i x :: st) cl sl μ := fun p e s m args below meth c hx H locs ls hH hl hq => lv_if_ne hx.1 hx.2.1 hd ht (fun q => k.2 q p e s m args below meth c hx H locs ls hH hl hq) (fun q => k.1 q p e s m args below meth c hx H locs ls hH hl hq)
theorem ax_s_if_lt {x : Int32} {off : Int} {tgt : Nat} (hd : decode (ax_by h) pc = .ok (.ifCond .lt off, 3)) (ht : (pc : Int) + off = (tgt : Int)) (k : ax_br (x < 0) (ax_Rw l G h EE tgt lv st cl sl μ) (ax_Rw l G h EE (pc + 3) lv st cl sl μ)) : ax_Rw l G h EE pc lv (ax_i x :: st) cl sl μ := fun p e s m args below meth c hx H locs ls hH hl hq => lv_if_lt hx.1 hx.2.1 hd ht (fun q => k.1 q p e s m args below meth c hx H locs ls hH hl hq) (fun q => k.2 q p e s m args below meth c hx H locs ls hH hl hq)
theorem ax_s_if_ge {x : Int32} {off : Int} {tgt : Nat} (hd : decode (ax_by h) pc = .ok (.ifCond .ge off, 3)) (ht : (pc : Int) + off = (tgt : Int)) (k : ax_br (x < 0) (ax_Rw l G h EE (pc + 3) lv st cl sl μ) (ax_Rw l G h EE tgt lv st cl sl μ)) : ax_Rw l G h EE pc lv (ax_i x :: st) cl sl μ := fun p e s m args below meth c hx H locs ls hH hl hq => lv_if_ge hx.1 hx.2.1 hd ht (fun q => k.2 (Int32.not_lt.mpr q) p e s m args below meth c hx H locs ls hH hl hq) (fun q => k.1 (Int32.not_le.mp q) p e s m args below meth c hx H locs ls hH hl hq)
theorem ax_s_if_gt {x : Int32} {off : Int} {tgt : Nat} (hd : decode (ax_by h) pc = .ok (.ifCond .gt off, 3)) (ht : (pc : Int) + off = (tgt : Int)) (k : ax_br (x ≤ 0) (ax_Rw l G h EE (pc + 3) lv st cl sl μ) (ax_Rw l G h EE tgt lv st cl sl μ)) : ax_Rw l G h EE pc lv (ax_i x :: st) cl sl μ := fun p e s m args below meth c hx H locs ls hH hl hq => lv_if_gt hx.1 hx.2.1 hd ht (fun q => k.2 (Int32.not_le.mpr q) p e s m args below meth c hx H locs ls hH hl hq) (fun q => k.1 (Int32.not_lt.mp q) p e s m args below meth c hx H locs ls hH hl hq)
theorem ax_s_if_le {x : Int32} {off : Int} {tgt : Nat} (hd : decode (ax_by h) pc = .ok (.ifCond .le off, 3)) (ht : (pc : Int) + off = (tgt : Int)) (k : ax_br (x ≤ 0) (ax_Rw l G h EE tgt lv st cl sl μ) (ax_Rw l G h EE (pc + 3) lv st cl sl μ)) : ax_Rw l G h EE pc lv (ax_i x :: st) cl sl μ := fun p e s m args below meth c hx H locs ls hH hl hq => lv_if_le hx.1 hx.2.1 hd ht (fun q => k.1 q p e s m args below meth c hx H locs ls hH hl hq) (fun q => k.2 q p e s m args below meth c hx H locs ls hH hl hq)
theorem ax_s_icmp_eq {x y : Int32} {off : Int} {tgt : Nat} (hd : decode (ax_by h) pc = .ok (.if_icmp .eq off, 3)) (ht : (pc : Int) + off = (tgt : Int)) (k : ax_br (x = y) (ax_Rw l G h EE tgt lv st cl sl μ) (ax_Rw l G h EE (pc + 3) lv st cl sl μ)) : ax_Rw l G h EE pc lv (ax_i y :: ax_i x :: st) cl sl μ := fun p e s m args below meth c hx H locs ls hH hl hq => lv_icmp_eq hx.1 hx.2.1 hd ht (fun q => k.1 q p e s m args below meth c hx H locs ls hH hl hq) (fun q => k.2 q p e s m args below meth c hx H locs ls hH hl hq)
theorem ax_s_icmp_ne {x y : Int32} {off : Int} {tgt : Nat} (hd : decode (ax_by h) pc = .ok (.if_icmp .ne off, 3)) (ht : (pc : Int) + off = (tgt : Int)) (k : ax_br (x = y) (ax_Rw l G h EE (pc + 3) lv st cl sl μ) (ax_Rw l G h EE tgt lv st cl sl μ)) : ax_Rw l G h EE pc lv (ax_i y :: ax_i x :: st) cl sl μ := fun p e s m args below meth c hx H locs ls hH hl hq => lv_icmp_ne hx.1 hx.2.1 hd ht (fun q => k.2 q p e s m args below meth c hx H locs ls hH hl hq) (fun q => k.1 q p e s m args below meth c hx H locs ls hH hl hq)
theorem ax_s_icmp_lt {x y : Int32} {off : Int} {tgt : Nat} (hd : decode (ax_by h) pc = .ok (.if_icmp .lt off, 3)) (ht : (pc : Int) + off = (tgt : Int)) (k : ax_br (x < y) (ax_Rw l G h EE tgt lv st cl sl μ) (ax_Rw l G h EE (pc + 3) lv st cl sl μ)) : ax_Rw l G h EE pc lv (ax_i y :: ax_i x :: st) cl sl μ := fun p e s m args below meth c hx H locs ls hH hl hq => lv_icmp_lt hx.1 hx.2.1 hd ht (fun q => k.1 q p e s m args below meth c hx H locs ls hH hl hq) (fun q => k.2 q p e s m args below meth c hx H locs ls hH hl hq)
theorem ax_s_icmp_ge {x y : Int32} {off : Int} {tgt : Nat} (hd : decode (ax_by h) pc = .ok (.if_icmp .ge off, 3)) (ht : (pc : Int) + off = (tgt : Int)) (k : ax_br (x < y) (ax_Rw l G h EE (pc + 3) lv st cl sl μ) (ax_Rw l G h EE tgt lv st cl sl μ)) : ax_Rw l G h EE pc lv (ax_i y :: ax_i x :: st) cl sl μ := fun p e s m args below meth c hx H locs ls hH hl hq => lv_icmp_ge hx.1 hx.2.1 hd ht (fun q => k.2 (Int32.not_lt.mpr q) p e s m args below meth c hx H locs ls hH hl hq) (fun q => k.1 (Int32.not_le.mp q) p e s m args below meth c hx H locs ls hH hl hq)
theorem ax_s_icmp_gt {x y : Int32} {off : Int} {tgt : Nat} (hd : decode (ax_by h) pc = .ok (.if_icmp .gt off, 3)) (ht : (pc : Int) + off = (tgt : Int)) (k : ax_br (x ≤ y) (ax_Rw l G h EE (pc + 3) lv st cl sl μ) (ax_Rw l G h EE tgt lv st cl sl μ)) : ax_Rw l G h EE pc lv (ax_i y :: ax_i x :: st) cl sl μ := fun p e s m args below meth c hx H locs ls hH hl hq => lv_icmp_gt hx.1 hx.2.1 hd ht (fun q => k.2 (Int32.not_le.mpr q) p e s m args below meth c hx H locs ls hH hl hq) (fun q => k.1 (Int32.not_lt.mp q) p e s m args below meth c hx H locs ls hH hl hq)
theorem ax_s_icmp_le {x y : Int32} {off : Int} {tgt : Nat} (hd : decode (ax_by h) pc = .ok (.if_icmp .le off, 3)) (ht : (pc : Int) + off = (tgt : Int)) (k : ax_br (x ≤ y) (ax_Rw l G h EE tgt lv st cl sl μ) (ax_Rw l G h EE (pc + 3) lv st cl sl μ)) : ax_Rw l G h EE pc lv (ax_i y :: ax_i x :: st) cl sl μ := fun p e s m args below meth c hx H locs ls hH hl hq => lv_icmp_le hx.1 hx.2.1 hd ht (fun q => k.1 q p e s m args below meth c hx H locs ls hH hl hq) (fun q => k.2 q p e s m args below meth c hx H locs ls hH hl hq)
end Snd
end
section
section Snd
variable {l : Launch} {G : ax_G} {h : ax_H} {EE : Program → Env → State → MethodId → Array Value → List Frame → Method → Code → State → Prop} {pc : Nat} {lv : ax_L} {st : List ax_V} {cl sl : Nat} {μ : ax_M}
theorem ax_s_ifnull {x : Option Nat} {off : Int} {tgt : Nat} (hd : decode (ax_by h) pc = .ok (.ifnull off, 3)) (ht : (pc : Int) + off = (tgt : Int)) (k : ax_br (x = none) (ax_Rw l G h EE tgt lv st cl sl μ) (x ≠ some 6 ∧ ax_Rw l G h EE (pc + 3) lv st cl sl μ)) : ax_Rw l G h EE pc lv (ax_r x :: st) cl sl μ := by
  intro p e s m args below meth c hx H locs ls hH hl hq
  cases x with
  | none => exact lv_ifnullN hx.1 hx.2.1 hd ht (k.1 rfl p e s m args below meth c hx H locs ls hH hl hq)
  | some a =>
    obtain ⟨k1, k2⟩ := k.2 (by simp)
    rw [List.map_cons, ax_cv_some (fun e => k1 (by rw [e]))]
    exact lv_ifnull hx.1 hx.2.1 hd (k2 p e s m args below meth c hx H locs ls hH hl hq)
theorem ax_s_ifnonnull {x : Option Nat} {off : Int} {tgt : Nat} (hd : decode (ax_by h) pc = .ok (.ifnonnull off, 3)) (ht : (pc : Int) + off = (tgt : Int)) (k : ax_br (x = none) (ax_Rw l G h EE (pc + 3) lv st cl sl μ) (x ≠ some 6 ∧ ax_Rw l G h EE tgt lv st cl sl μ)) : ax_Rw l G h EE pc lv (ax_r x :: st) cl sl μ := by
  intro p e s m args below meth c hx H locs ls hH hl hq
  cases x with
  | none => exact lv_ifnonnullN hx.1 hx.2.1 hd (k.1 rfl p e s m args below meth c hx H locs ls hH hl hq)
  | some a =>
    obtain ⟨k1, k2⟩ := k.2 (by simp)
    rw [List.map_cons, ax_cv_some (fun e => k1 (by rw [e]))]
    exact lv_ifnonnull hx.1 hx.2.1 hd ht (k2 p e s m args below meth c hx H locs ls hH hl hq)
theorem ax_s_ldcI {i : Nat} {v : Int32} (hd : decode (ax_by h) pc = .ok (.ldc i, 2)) (hw : Cond.constant (ax_nm h).cls i v ∈ ax_gw) (k : ax_Rw l G h EE (pc + 2) lv (ax_i v :: st) cl sl μ) : ax_Rw l G h EE pc lv st cl sl μ :=
  fun p e s m args below meth c hx H locs ls hH hl hq => lv_ldc hx.1 hx.2.1 hx.2.2.2.2.2.1 (hx.2.2.2.2.2.2.2.1 _ hw) hd (k p e s m args below meth c hx H locs ls hH hl hq)
theorem ax_s_ldcwI {i : Nat} {v : Int32} (hd : decode (ax_by h) pc = .ok (.ldc_w i, 3)) (hw : Cond.constant (ax_nm h).cls i v ∈ ax_gw) (k : ax_Rw l G h EE (pc + 3) lv (ax_i v :: st) cl sl μ) : ax_Rw l G h EE pc lv st cl sl μ :=
  fun p e s m args below meth c hx H locs ls hH hl hq => lv_ldcw hx.1 hx.2.1 hx.2.2.2.2.2.1 (hx.2.2.2.2.2.2.2.1 _ hw) hd (k p e s m args below meth c hx H locs ls hH hl hq)
theorem ax_s_ldc2 {i : Nat} {v : Int64} (hd : decode (ax_by h) pc = .ok (.ldc2_w i, 3)) (hw : Cond.constantLong (ax_nm h).cls i v ∈ ax_gw) (k : ax_Rw l G h EE (pc + 3) lv (ax_l v :: st) cl sl μ) : ax_Rw l G h EE pc lv st cl sl μ :=
  fun p e s m args below meth c hx H locs ls hH hl hq => lv_ldc2 hx.1 hx.2.1 hx.2.2.2.2.2.1 (hx.2.2.2.2.2.2.2.1 _ hw) hd (k p e s m args below meth c hx H locs ls hH hl hq)
theorem ax_s_ldcS {i j : Nat} {tx : String} (hd : decode (ax_by h) pc = .ok (.ldc i, 2)) (hw : (ax_oc h, i, j, tx) ∈ ax_ks) (hcn : ax_cn.getD (ax_oc h) "" = (ax_nm h).cls) (hj : j < 64) (hj7 : 7 ≤ j) (k : ax_Rw l G h EE (pc + 2) lv (ax_r (some j) :: st) cl sl μ) : ax_Rw l G h EE pc lv st cl sl μ := by
  intro p e s m args below meth c hx H locs ls hH hl hq
  have h1 := hx.2.2.2.2.2.2.2.2.2.2.2.1 _ hw
  have k1 := k p e s m args below meth c hx H locs ls hH hl hq
  rw [List.map_cons, ax_cv_some (by omega), ax_ad_lt hj] at k1
  exact va_ldcS hx.1 hx.2.1 (own := (ax_nm h).cls) (tx := tx) hx.2.2.2.2.2.1 (by rw [← hcn]; exact h1) hd k1
theorem ax_s_ldcwS {i j : Nat} {tx : String} (hd : decode (ax_by h) pc = .ok (.ldc_w i, 3)) (hw : (ax_oc h, i, j, tx) ∈ ax_ks) (hcn : ax_cn.getD (ax_oc h) "" = (ax_nm h).cls) (hj : j < 64) (hj7 : 7 ≤ j) (k : ax_Rw l G h EE (pc + 3) lv (ax_r (some j) :: st) cl sl μ) : ax_Rw l G h EE pc lv st cl sl μ := by
  intro p e s m args below meth c hx H locs ls hH hl hq
  have h1 := hx.2.2.2.2.2.2.2.2.2.2.2.1 _ hw
  have k1 := k p e s m args below meth c hx H locs ls hH hl hq
  rw [List.map_cons, ax_cv_some (by omega), ax_ad_lt hj] at k1
  rw [hcn] at h1
  intro T hT X
  have w := k1 T hT X
  exact w.imp fun u z => ⟨X.ldcStringW hx.1 hx.2.2.2.2.2.1 h1.1 h1.2 (g := F0 m pc ls (st.map (ax_cv G))) rfl (hx.2.1 ▸ hd) u z.1, z.2⟩
theorem ax_s_gets {i j : Nat} (hd : decode (ax_by h) pc = .ok (.getstatic i, 3)) (hw : Cond.fieldLink (ax_nm h).cls i (ax_sn j).1 (ax_sn j).2.1 (ax_sn j).2.2.1 ∈ ax_gw) (hj : j < 7) (k : ax_Rw l G h EE (pc + 3) lv ((ax_sn j).2.2.2 :: st) cl sl μ) : ax_Rw l G h EE pc lv st cl sl μ := by
  intro p e s m args below meth c hx H locs ls hH hl hq
  obtain ⟨cf, kf, fi, f, a, cell, h1, h2, h3, h4, h5, h6, h7, h8⟩ := hx.2.2.2.2.2.2.2.2.2.2.2.2.1 j hj
  have hlt : a < ax_B G := by
    have := (Array.getElem?_eq_some_iff.mp h5).1
    have e := hx.2.2.2.2.2.2.2.2.2.2.2.2.2.2.2.1
    omega
  exact W.gets hx.1 hx.2.1 hx.2.2.2.2.2.1 (hx.2.2.2.2.2.2.2.1 _ hw) h1 h2 h3 h4 (by rw [hH.2.2.1 a hlt]; exact h5) (fun e => by rw [e] at h6; cases h6) h7 rfl hd (k p e s m args below meth c hx H locs ls hH hl hq)
/-- a cell of one of the classes isn't a constant -/
theorem ax_big {s : State} {H : Heap} (hH : ax_Hd G μ H) (hK : ax_KK G s) {a : Nat} (ha : mK μ a < 13) : 64 ≤ a := by
  rcases Nat.lt_or_ge a 64 with q | q
  · have h1 := (hH.k0 q).1
    have h2 := (hK.2.2.2.2.2.1 a q).2.2.2
    omega
  · exact q
theorem ax_fnT {ci k : Nat} (hci : ci < 13) : ax_fn ci k = ((ax_Tb ci k).1, (ax_Tb ci k).2.1, (ax_Tb ci k).2.2.1) := by
  unfold ax_fn
  rw [if_neg (by omega)]
theorem ax_s_get {i ci k n a : Nat} {v : ax_V} (hd : decode (ax_by h) pc = .ok (.getfield i, 3)) (hw : ax_wf (ax_oc h, i, ci, k, n) ∈ lw_tbl) (hcn : ax_cn.getD (ax_oc h) "" = (ax_nm h).cls) (hci : ci < 13) (hk : k < ax_nf ci) (hK : mK μ a = ci) (hv : ax_cv G v = ax_fv G μ a k (ax_ft ci k)) (kk : ax_Rw l G h EE (pc + 3) lv (v :: st) cl sl μ) : ax_Rw l G h EE pc lv (ax_r (some a) :: st) cl sl μ := by
  intro p e s m args below meth c hx H locs ls hH hl hq
  obtain ⟨hexec, hb, hr, hlocks, hml, hown, hname, hts, hKK⟩ := id hx
  have k1 := kk p e s m args below meth c hx H locs ls hH hl hq
  have ha : 64 ≤ a := ax_big hH hKK (by omega)
  rw [List.map_cons, hv] at k1
  rw [List.map_cons, ax_cv_some (by omega)]
  obtain ⟨cell, q1, q2, q3, q4⟩ := (hH.2.2.2.2.1 a ha).1 (by omega)
  rw [hK] at q2 q4
  obtain ⟨hS, hfc, kC, hkC, hkind⟩ := hKK.1 ci hci
  obtain ⟨cf, kf, fi, f, hi, hsl⟩ := hS k hk
  have hst := (u_facts hfc hkC (u_lays hts (ax_cls_lay hci) hk) hi).1
  have hslot : cell.slots[f.slot]? = some (ax_fv G μ a k (ax_ft ci k)) := by rw [hsl]; exact q4 k hk
  unfold ax_wf at hw
  rw [ax_fnT hci] at hw
  simp only [hcn] at hw
  split at hw
  · exact W.getf hexec hb hown (hts _ (ax_gwf hw rfl)) hi hst q1 (by rw [q3]; exact fun h => by cases h) hslot rfl rfl hd k1
  · exact va_Wgetf hexec hb hown (va_Nw.use rfl (hKK.2.2.1 _ hw rfl)) hi hst q1 (by rw [q3]; exact fun h => by cases h) hslot rfl rfl hd k1
theorem ax_s_getS {i k a : Nat} {v : ax_V} (hd : decode (ax_by h) pc = .ok (.getfield i, 3)) (hw : Cond.fieldLink (ax_nm h).cls i (ax_fn 13 k).1 (ax_fn 13 k).2.1 (ax_fn 13 k).2.2 ∈ ax_gw) (hK : mK μ a = 13) (hv : (k = 0 ∧ v = ax_r (gR μ a 0)) ∨ (k = 1 ∧ v = ax_i (gI μ a 1))) (kk : ax_Rw l G h EE (pc + 3) lv (v :: st) cl sl μ) : ax_Rw l G h EE pc lv (ax_r (some a) :: st) cl sl μ := by
  intro p e s m args below meth c hx H locs ls hH hl hq
  obtain ⟨hexec, hb, hr, hlocks, hml, hown, hname, hts, hKK⟩ := id hx
  have k1 := kk p e s m args below meth c hx H locs ls hH hl hq
  have h6 : a ≠ 6 := hH.n6 hKK (by omega)
  rw [List.map_cons, ax_cv_some h6]
  rw [List.map_cons] at k1
  have ha : a < 64 := by
    rcases Nat.lt_or_ge a 64 with q | q
    · exact q
    · exact absurd hK (hH.2.2.2.2.1 a q).2.2
  obtain ⟨h2, h3, h4⟩ := (hKK.2.2.2.2.2.1 a ha).2.1 ((hH.k0 ha).1.symm.trans hK)
  have hsz : (ax_Hb G).size = ax_B G := hKK.2.2.2.2.2.2.2.1
  rw [ax_ad_lt ha]
  have kept : ∀ q : Nat, q < (ax_Hb G).size → ¬ (ax_B G ≤ q) → H[q]? = (ax_Hb G)[q]? := fun q _ hq => hH.2.2.1 q (by omega)
  rcases hv with ⟨rfl, rfl⟩ | ⟨rfl, rfl⟩
  · obtain ⟨cf, k, fi, f, cell, g1, g2, g3, g4, g5, g6⟩ := h4.kept kept
    refine W.getf hexec hb hown (hts _ hw) g1 g2 g3 g4 (v := ax_cv G (ax_r (gR μ a 0))) ?_ rfl rfl hd k1
    rw [g5, (hH.2.2.2.2.2 a ha).2.2.2 0]
    rfl
  · obtain ⟨cf, k, fi, f, cell, g1, g2, g3, g4, g5, g6⟩ := h3.kept kept
    refine W.getf hexec hb hown (hts _ hw) g1 g2 g3 g4 (v := ax_cv G (ax_i (gI μ a 1))) ?_ rfl rfl hd k1
    rw [g5, (hH.2.2.2.2.2 a ha).2.1 1]
    rfl
end Snd
end
section
section Snd
variable {l : Launch} {G : ax_G} {h : ax_H} {EE : Program → Env → State → MethodId → Array Value → List Frame → Method → Code → State → Prop} {pc : Nat} {lv : ax_L} {st : List ax_V} {cl sl : Nat} {μ : ax_M}
theorem ax_locs {G : ax_G} {locs : List Loc} {a i : Nat} (h : ∀ q ∈ locs, ax_fr G q.base) (ha : 64 ≤ a) : ∀ q ∈ locs ++ [(⟨ax_ad G a, i⟩ : Loc)], ax_fr G q.base := by
  intro q hq
  rcases List.mem_append.mp hq with q1 | q1
  · exact h q q1
  · rw [List.mem_singleton] at q1
    subst q1
    show ax_B G ≤ ax_ad G a
    rw [ax_ad_ge ha]
    omega
/-- a final field's declarer is the class where it is found -/
theorem ax_ownF {A : Array Value} {s : State} {C O n d : String} {x : ClassId × Class × Nat × Field} (hl : (Cond.laysFinal C O n d).before A s = true) (hi : s.fieldFound? O n d = some x) : s.vm.findClass O = some x.1 :=
  match Cond.laysFinal_spec hl with
  | ⟨_, _, _, _, _, _, w⟩ => (Option.some.inj (hi.symm.trans w.2.2.1)) ▸ w.2.2.2.2.2.2.1
theorem ax_s_put {i ci k n a : Nat} {v : ax_V} {μ' : ax_M} (hd : decode (ax_by h) pc = .ok (.putfield i, 3)) (hw : ax_wf (ax_oc h, i, ci, k, n) ∈ lw_tbl) (hcn : ax_cn.getD (ax_oc h) "" = (ax_nm h).cls) (hci : ci < 13) (hk : k < ax_nf ci) (hf : (ax_Tb ci k).2.2.2 = true → n = 0 ∧ (ax_nm h).name = "<init>" ∧ ax_Cn ci = (ax_nm h).cls)
    (hK : mK μ a = ci) (ha : 64 ≤ a) (hn : narrow (ax_fy ci k) (ax_cv G v) = ax_cv G v) (hfit : fits (ax_fy ci k) (ax_cv G v) = true)
    (hset : ∀ H H1 : Heap, ax_Hd G μ H → H1.size = H.size → (∀ q : Nat, q ≠ ax_ad G a → H1[q]? = H[q]?) → t_OB (ax_ad G a) ((ax_D G).1 (mK μ a)) (ax_nf (mK μ a)) ((ax_D G).2 (mK μ a)) H1 (updV (fun j => ax_fv G μ a j (ax_ft (mK μ a) j)) k (ax_cv G v)) → ax_Hd G μ' H1)
    (kk : ax_Rw l G h EE (pc + 3) lv st cl sl μ') : ax_Rw l G h EE pc lv (v :: ax_r (some a) :: st) cl sl μ := by
  intro p e s m args below meth c hx H locs ls hH hl hq
  obtain ⟨hexec, hb, hr, hlocks, hml, hown, hname, hts, hKK⟩ := id hx
  rw [List.map_cons, List.map_cons, ax_cv_some (by omega)]
  obtain ⟨cell, q1, q2, q3, q4⟩ := (hH.2.2.2.2.1 a ha).1 (by omega)
  have q2' := q2
  have q4' := q4
  rw [hK] at q2' q4'
  obtain ⟨hS, hfc, kC, hkC, hkind⟩ := hKK.1 ci hci
  obtain ⟨cf, kf, fi, f, hi, hsl⟩ := hS k hk
  have hin := ax_cls_lay hci
  have hst := (u_facts hfc hkC (u_lays hts hin hk) hi).1
  have hap : ∀ x y, x < ax_nf ci → y < ax_nf ci → x ≠ y → (ax_D G).2 ci x ≠ (ax_D G).2 ci y := by
    intro x y hx0 hy hne
    obtain ⟨_, _, _, fa, hia, ea⟩ := hS x hx0
    obtain ⟨_, _, _, fb, hib, eb⟩ := hS y hy
    rw [← ea, ← eb]
    refine u_apart (u_lays hts hin hx0) (u_lays hts hin hy) hia hib ?_
    rw [(State.fieldFound?_type hia (ax_cls_ty hci x hx0)).1, (State.fieldFound?_type hib (ax_cls_ty hci y hy)).1]
    exact ax_cls_nm hci x hx0 y hy hne
  have hlay := hts _ (hin _ (u_in_lay hk))
  have hlt : f.slot < cell.slots.size := by rw [hsl]; exact k2_hasslot (q4' k hk)
  have hd' := ax_cls_ty hci k hk
  have fin : ∀ H' : Heap, H'[ax_ad G a]? = some (cell.setSlot f.slot (ax_cv G v)) → H'.size = H.size → (∀ q, q ≠ ax_ad G a → H'[q]? = H[q]?) → W p l e (ax_rm h) s m args below meth c H' (locs ++ [⟨ax_ad G a, f.slot⟩]) cl sl (EE p e s m args below meth c) (F0 m (pc + 3) ls (st.map (ax_cv G))) := by
    intro H' e1 e2 e3
    rw [hsl] at e1
    refine kk p e s m args below meth c hx H' _ ls (hset H H' hH e2 e3 ?_) hl (ax_locs hq ha)
    rw [hK]
    exact ⟨_, e1, q2', q3, t_set q4' hap hk _⟩
  unfold ax_wf at hw
  rw [ax_fnT hci] at hw
  simp only [hcn] at hw
  unfold u_lay at hlay
  by_cases hfin : (ax_Tb ci k).2.2.2 = true
  · rw [if_pos hfin] at hlay
    obtain ⟨rfl, hinit, hC⟩ := hf hfin
    rw [if_pos rfl] at hw
    have own := ax_ownF hlay hi
    rw [ax_cls_own hci k hk, hC, hown] at own
    have hcf : m.cls = cf := Option.some.inj own
    have h6 := u_fits hfc hkC hkind (Or.inr hlay) hi hd' hn hfit
    exact W.putFinK hexec hb hown (hts _ (ax_gwf hw rfl)) hi hst hcf (hname.trans hinit) (by rw [q2']; exact h6) q1 q3 hlt rfl rfl hd fin
  · rw [if_neg hfin] at hlay
    have h6 := u_store hfc hkC hkind hlay hi hd' hn hfit
    split at hw
    · exact W.putK hexec hb (f := f) ⟨hown, hts _ (ax_gwf hw rfl), ⟨_, _, _, hi⟩, hst⟩ (by rw [q2']; exact h6) q1 q3 hlt rfl rfl hd fin
    · exact va_WputK hexec hb hown (va_Nw.use rfl (hKK.2.2.1 _ hw rfl)) hi hst (by rw [q2']; exact h6) q1 q3 hlt rfl rfl hd fin
/-- an array, constant or not -/
theorem ax_arr {s : State} {H : Heap} (hH : ax_Hd G μ H) (hK : ax_KK G s) {a : Nat} (h1 : 20 ≤ mK μ a) (h2 : mK μ a ≤ 28) : a ≠ 6 ∧ ∃ cell : Cell, H[ax_ad G a]? = some cell ∧ s.isArrayOf cell (ax_aT (mK μ a)) ∧ cell.vm ≠ .unknown ∧ cell.slots.size.toInt32 = nI (mZ μ a) ∧ (∀ i : Int32, vp_in i (mZ μ a) → ¬ (i < 0 ∨ cell.slots.size ≤ i.toNatClampNeg) ∧ cell.slots[i.toNatClampNeg]? = some (ax_av G μ (mK μ a) a i.toNatClampNeg)) ∧ (64 ≤ a → cell = arrV (ax_Y G (mK μ a)) (mZ μ a) (fun j => ax_av G μ (mK μ a) a j)) := by
  refine ⟨hH.n6 hK (by omega), ?_⟩
  rcases Nat.lt_or_ge a 64 with q | q
  · obtain ⟨e1, e2⟩ := hH.k0 q
    have hc := (hK.2.2.2.2.2.1 a q).2
    have h22 : mK μ a ≤ 22 := by have := hc.2.2; omega
    obtain ⟨cell, g1, g2, g3, g4, g5, g6, g7⟩ := hc.2.1 (by omega) (by omega)
    have hlt := (Array.getElem?_eq_some_iff.mp g1).1
    have hsz : (ax_Hb G).size = ax_B G := hK.2.2.2.2.2.2.2.1
    refine ⟨cell, by rw [ax_ad_lt q, hH.2.2.1 _ (by omega)]; exact g1, by rw [e1]; exact g2, g3, by rw [e2]; exact g5, fun i hi => ?_, fun z => by omega⟩
    have hi' : i.toNatClampNeg < mZ (ax_0 G) a := by rw [← e2]; exact Nat.not_le.mp fun z => hi (Or.inr z)
    refine ⟨fun z => ?_, ?_⟩
    · rcases z with z | z
      · exact hi (Or.inl z)
      · omega
    · rw [g6 _ hi', e1]
      unfold ax_av
      rw [(hH.2.2.2.2.2 a q).2.1, (hH.2.2.2.2.2 a q).2.2.1, (hH.2.2.2.2.2 a q).2.2.2]
  · have g1 := (hH.2.2.2.2.1 a q).2.1 h1 h2
    refine ⟨_, g1, (hK.2.1 _ h1 h2).1 _ _, (fun z => by cases z), ?_, fun i hi => ?_, fun _ => rfl⟩
    · rw [arrV_size]; rfl
    · rw [arrV_size]
      have hlt : i.toNatClampNeg < mZ μ a := Nat.not_le.mp fun z => hi (Or.inr z)
      exact ⟨hi, arrV_read _ _ hlt⟩
theorem ax_s_iald {a : Nat} {i : Int32} (hd : decode (ax_by h) pc = .ok (.iaload, 1)) (hK : mK μ a = 21) (hi : vp_in i (mZ μ a)) (kk : ax_Rw l G h EE (pc + 1) lv (ax_i (gI μ a i.toNatClampNeg) :: st) cl sl μ) : ax_Rw l G h EE pc lv (ax_i i :: ax_r (some a) :: st) cl sl μ := by
  intro p e s m args below meth c hx H locs ls hH hl hq
  obtain ⟨hexec, hb, hr, hlocks, hml, hown, hname, hts, hKK⟩ := id hx
  obtain ⟨n6, cell, g1, g2, g3, g4, g5, -⟩ := ax_arr hH hKK (a := a) (by omega) (by omega)
  obtain ⟨g6, g7⟩ := g5 i hi
  rw [hK] at g2 g7
  rw [List.map_cons, List.map_cons, ax_cv_some n6]
  exact W.iald (v := .int (gI μ a i.toNatClampNeg)) hexec hb g1 g2 g3 g6 g7 rfl rfl hd (kk p e s m args below meth c hx H locs ls hH hl hq)
theorem ax_s_lald {a : Nat} {i : Int32} (hd : decode (ax_by h) pc = .ok (.laload, 1)) (hK : mK μ a = 22) (hi : vp_in i (mZ μ a)) (kk : ax_Rw l G h EE (pc + 1) lv (ax_l (gL μ a i.toNatClampNeg) :: st) cl sl μ) : ax_Rw l G h EE pc lv (ax_i i :: ax_r (some a) :: st) cl sl μ := by
  intro p e s m args below meth c hx H locs ls hH hl hq
  obtain ⟨hexec, hb, hr, hlocks, hml, hown, hname, hts, hKK⟩ := id hx
  obtain ⟨n6, cell, g1, g2, g3, g4, g5, -⟩ := ax_arr hH hKK (a := a) (by omega) (by omega)
  obtain ⟨g6, g7⟩ := g5 i hi
  rw [hK] at g2 g7
  rw [List.map_cons, List.map_cons, ax_cv_some n6]
  exact W.lald (v := .long (gL μ a i.toNatClampNeg)) hexec hb g1 g2 g3 g6 g7 rfl rfl hd (kk p e s m args below meth c hx H locs ls hH hl hq)
theorem ax_s_bald {a : Nat} {i : Int32} (hd : decode (ax_by h) pc = .ok (.baload, 1)) (hK : mK μ a = 20 ∨ mK μ a = 23) (hi : vp_in i (mZ μ a)) (kk : ax_Rw l G h EE (pc + 1) lv (ax_i (gI μ a i.toNatClampNeg) :: st) cl sl μ) : ax_Rw l G h EE pc lv (ax_i i :: ax_r (some a) :: st) cl sl μ := by
  intro p e s m args below meth c hx H locs ls hH hl hq
  obtain ⟨hexec, hb, hr, hlocks, hml, hown, hname, hts, hKK⟩ := id hx
  obtain ⟨n6, cell, g1, g2, g3, g4, g5, -⟩ := ax_arr hH hKK (a := a) (by omega) (by omega)
  obtain ⟨g6, g7⟩ := g5 i hi
  rw [List.map_cons, List.map_cons, ax_cv_some n6]
  rcases hK with hK | hK
  · rw [hK] at g2 g7
    exact W.bald (v := .int (gI μ a i.toNatClampNeg)) hexec hb g1 g2 g3 g6 g7 rfl rfl hd (kk p e s m args below meth c hx H locs ls hH hl hq)
  · rw [hK] at g2 g7
    exact W.zald (v := .int (gI μ a i.toNatClampNeg)) hexec hb g1 g2 g3 g6 g7 rfl rfl hd (kk p e s m args below meth c hx H locs ls hH hl hq)
theorem ax_s_aald {a : Nat} {i : Int32} (hd : decode (ax_by h) pc = .ok (.aaload, 1)) (hK1 : 24 ≤ mK μ a) (hK2 : mK μ a ≤ 28) (hi : vp_in i (mZ μ a)) (kk : ax_Rw l G h EE (pc + 1) lv (ax_r (gR μ a i.toNatClampNeg) :: st) cl sl μ) : ax_Rw l G h EE pc lv (ax_i i :: ax_r (some a) :: st) cl sl μ := by
  intro p e s m args below meth c hx H locs ls hH hl hq
  obtain ⟨hexec, hb, hr, hlocks, hml, hown, hname, hts, hKK⟩ := id hx
  obtain ⟨n6, cell, g1, g2, g3, g4, g5, -⟩ := ax_arr hH hKK (a := a) (by omega) (by omega)
  obtain ⟨g6, g7⟩ := g5 i hi
  rw [List.map_cons, List.map_cons, ax_cv_some n6]
  unfold ax_av at g7
  rw [if_neg (by omega), if_neg (by omega)] at g7
  have href : (ax_aT (mK μ a)).isReference = true := (show ∀ k, k < 29 → 24 ≤ k → (ax_aT k).isReference = true by decide +kernel) (mK μ a) (by omega) hK1
  exact W.aald (v := ax_cv G (ax_r (gR μ a i.toNatClampNeg))) hexec hb g1 g2 href g3 g6 g7 rfl rfl hd (kk p e s m args below meth c hx H locs ls hH hl hq)
theorem ax_s_alen {a : Nat} (hd : decode (ax_by h) pc = .ok (.arraylength, 1)) (hK1 : 20 ≤ mK μ a) (hK2 : mK μ a ≤ 28) (kk : ax_Rw l G h EE (pc + 1) lv (ax_i (nI (mZ μ a)) :: st) cl sl μ) : ax_Rw l G h EE pc lv (ax_r (some a) :: st) cl sl μ := by
  intro p e s m args below meth c hx H locs ls hH hl hq
  obtain ⟨hexec, hb, hr, hlocks, hml, hown, hname, hts, hKK⟩ := id hx
  obtain ⟨n6, cell, g1, g2, g3, g4, g5, -⟩ := ax_arr hH hKK (a := a) (by omega) (by omega)
  rw [List.map_cons, ax_cv_some n6]
  exact W.alen (n := nI (mZ μ a)) hexec hb g1 g2 g4 rfl rfl hd (kk p e s m args below meth c hx H locs ls hH hl hq)
theorem ax_s_iast {a : Nat} {i v : Int32} (hd : decode (ax_by h) pc = .ok (.iastore, 1)) (ha : 64 ≤ a) (hK : mK μ a = 21) (hi : vp_in i (mZ μ a)) (kk : ax_Rw l G h EE (pc + 1) lv st cl sl (sI μ a i.toNatClampNeg v)) : ax_Rw l G h EE pc lv (ax_i v :: ax_i i :: ax_r (some a) :: st) cl sl μ := by
  intro p e s m args below meth c hx H locs ls hH hl hq
  obtain ⟨hexec, hb, hr, hlocks, hml, hown, hname, hts, hKK⟩ := id hx
  obtain ⟨n6, cell, g1, g2, g3, g4, g5, g8⟩ := ax_arr hH hKK (a := a) (by omega) (by omega)
  obtain ⟨g6, g7⟩ := g5 i hi
  rw [List.map_cons, List.map_cons, List.map_cons, ax_cv_some n6]
  have g2' := g2
  rw [hK] at g2'
  exact W.iast hexec hb g1 g2' g3 g6 rfl rfl hd fun H1 e1 z oq => kk p e s m args below meth c hx H1 _ ls (hH.stI ha (by omega) z oq (by rw [e1, g8 ha])) hl (ax_locs hq ha)
theorem ax_s_last {a : Nat} {i : Int32} {v : Int64} (hd : decode (ax_by h) pc = .ok (.lastore, 1)) (ha : 64 ≤ a) (hK : mK μ a = 22) (hi : vp_in i (mZ μ a)) (kk : ax_Rw l G h EE (pc + 1) lv st cl sl (sL μ a i.toNatClampNeg v)) : ax_Rw l G h EE pc lv (ax_l v :: ax_i i :: ax_r (some a) :: st) cl sl μ := by
  intro p e s m args below meth c hx H locs ls hH hl hq
  obtain ⟨hexec, hb, hr, hlocks, hml, hown, hname, hts, hKK⟩ := id hx
  obtain ⟨n6, cell, g1, g2, g3, g4, g5, g8⟩ := ax_arr hH hKK (a := a) (by omega) (by omega)
  obtain ⟨g6, g7⟩ := g5 i hi
  rw [List.map_cons, List.map_cons, List.map_cons, ax_cv_some n6]
  have g2' := g2
  rw [hK] at g2'
  exact W.last hexec hb g1 g2' g3 g6 rfl rfl hd fun H1 e1 z oq => kk p e s m args below meth c hx H1 _ ls (hH.stL ha hK z oq (by rw [e1, g8 ha])) hl (ax_locs hq ha)
theorem ax_s_bast {a : Nat} {i v : Int32} (hd : decode (ax_by h) pc = .ok (.bastore, 1)) (ha : 64 ≤ a) (hK : mK μ a = 20) (hi : vp_in i (mZ μ a)) (kk : ax_Rw l G h EE (pc + 1) lv st cl sl (sI μ a i.toNatClampNeg v.toInt8.toInt32)) : ax_Rw l G h EE pc lv (ax_i v :: ax_i i :: ax_r (some a) :: st) cl sl μ := by
  intro p e s m args below meth c hx H locs ls hH hl hq
  obtain ⟨hexec, hb, hr, hlocks, hml, hown, hname, hts, hKK⟩ := id hx
  obtain ⟨n6, cell, g1, g2, g3, g4, g5, g8⟩ := ax_arr hH hKK (a := a) (by omega) (by omega)
  obtain ⟨g6, g7⟩ := g5 i hi
  rw [List.map_cons, List.map_cons, List.map_cons, ax_cv_some n6]
  have g2' := g2
  rw [hK] at g2'
  exact W.bast hexec hb g1 g2' g3 g6 rfl rfl hd fun H1 e1 z oq => kk p e s m args below meth c hx H1 _ ls (hH.stI ha (by omega) z oq (by rw [e1, g8 ha]; rfl)) hl (ax_locs hq ha)
theorem ax_s_zast {a : Nat} {i v : Int32} (hd : decode (ax_by h) pc = .ok (.bastore, 1)) (ha : 64 ≤ a) (hK : mK μ a = 23) (hi : vp_in i (mZ μ a)) (hv : v = 0 ∨ v = 1) (kk : ax_Rw l G h EE (pc + 1) lv st cl sl (sI μ a i.toNatClampNeg v)) : ax_Rw l G h EE pc lv (ax_i v :: ax_i i :: ax_r (some a) :: st) cl sl μ := by
  intro p e s m args below meth c hx H locs ls hH hl hq
  obtain ⟨hexec, hb, hr, hlocks, hml, hown, hname, hts, hKK⟩ := id hx
  obtain ⟨n6, cell, g1, g2, g3, g4, g5, g8⟩ := ax_arr hH hKK (a := a) (by omega) (by omega)
  obtain ⟨g6, g7⟩ := g5 i hi
  rw [List.map_cons, List.map_cons, List.map_cons, ax_cv_some n6]
  have g2' := g2
  rw [hK] at g2'
  have hnar : narrow .boolean (.int v) = .int v := by rcases hv with rfl | rfl <;> rfl
  exact W.zast hexec hb g1 g2' g3 g6 rfl rfl hd fun H1 e1 z oq => kk p e s m args below meth c hx H1 _ ls (hH.stI ha (by omega) z oq (by rw [e1, g8 ha, hnar])) hl (ax_locs hq ha)
theorem ax_s_aast {a b ci : Nat} {i : Int32} (hd : decode (ax_by h) pc = .ok (.aastore, 1)) (ha : 64 ≤ a) (hK1 : 24 ≤ mK μ a) (hK2 : mK μ a ≤ 27) (hci : ci < 13) (hT : ax_aT (mK μ a) = .object (ax_Cn ci)) (hb6 : 64 ≤ b) (hKb : mK μ b = ci) (hi : vp_in i (mZ μ a)) (kk : ax_Rw l G h EE (pc + 1) lv st cl sl (sR μ a i.toNatClampNeg (some b))) : ax_Rw l G h EE pc lv (ax_r (some b) :: ax_i i :: ax_r (some a) :: st) cl sl μ := by
  intro p e s m args below meth c hx H locs ls hH hl hq
  obtain ⟨hexec, hb, hr, hlocks, hml, hown, hname, hts, hKK⟩ := id hx
  have g1 := (hH.2.2.2.2.1 a ha).2.1 (by omega) (by omega)
  obtain ⟨cell, q1, q2, q3, q4⟩ := (hH.2.2.2.2.1 b hb6).1 (by omega)
  rw [hKb] at q2
  rw [List.map_cons, List.map_cons, List.map_cons, ax_cv_some (by omega), ax_cv_some (by omega)]
  have hlt : i.toNatClampNeg < mZ μ a := Nat.not_le.mp fun z => hi (Or.inr z)
  have h0 : ¬ i < 0 := fun z => hi (Or.inl z)
  have hcls := (hKK.1 ci hci).2
  have hra := (hKK.2.1 (mK μ a) (by omega) (by omega)).2
  rw [hT] at hra
  obtain ⟨kA, comp, k1, k2, k3, -⟩ := hra
  have hcomp : comp = (ax_D G).1 ci := Option.some.inj (k3.symm.trans hcls.1)
  subst hcomp
  obtain ⟨kC, hkC, -⟩ := hcls.2
  exact W.aast hexec hb g1 (fun q h => by cases h) (fun h => by cases h) k1 k2 rfl hkC ⟨h0, by rw [arrV_size]; exact hlt⟩ q1 (fun q h => by rw [q3] at h; cases h) (by rw [q2]; exact hkC) (by rw [q2]; exact va_assign hcls) rfl rfl hd fun H1 e1 z oq => kk p e s m args below meth c hx H1 _ ls (hH.stR ha hK1 (by omega) z oq (by rw [e1, ax_ao_some (by omega)]; rfl)) hl (ax_locs hq ha)
end Snd
end
section
theorem ax_ac21 : Cond.arrayClass .int ∈ ax_gw := ax_gwi (i := 180) (by decide +kernel) rfl
theorem ax_ac22 : Cond.arrayClass .long ∈ ax_gw := ax_gwi (i := 334) (by decide +kernel) rfl
theorem ax_ac20 : Cond.arrayClass .byte ∈ ax_gw := ax_gwi (i := 1129) (by decide +kernel) rfl
theorem ax_ac23 : Cond.arrayClass .boolean ∈ ax_gw := ax_gwi (i := 1203) (by decide +kernel) rfl
theorem ax_mN_nC (μ : ax_M) (k z : Nat) : mN (nC μ k z) = mN μ + 1 := rfl
theorem ax_mK_nC (μ : ax_M) (k z b : Nat) : mK (nC μ k z) b = if b = mN μ then k else mK μ b := by
  show (if b = μ.1 then (k, z) else μ.2.1 b).1 = _
  unfold mN mK
  split <;> rfl
theorem ax_mZ_nC (μ : ax_M) (k z b : Nat) : mZ (nC μ k z) b = if b = mN μ then z else mZ μ b := by
  show (if b = μ.1 then (k, z) else μ.2.1 b).2 = _
  unfold mN mZ
  split <;> rfl
theorem ax_gI_nC (μ : ax_M) (k z b j : Nat) : gI (nC μ k z) b j = if b = mN μ then 0 else gI μ b j := rfl
theorem ax_gL_nC (μ : ax_M) (k z b j : Nat) : gL (nC μ k z) b j = if b = mN μ then 0 else gL μ b j := rfl
theorem ax_gR_nC (μ : ax_M) (k z b j : Nat) : gR (nC μ k z) b j = if b = mN μ then none else gR μ b j := rfl
section Snd
variable {l : Launch} {G : ax_G} {h : ax_H} {EE : Program → Env → State → MethodId → Array Value → List Frame → Method → Code → State → Prop} {pc : Nat} {lv : ax_L} {st : List ax_V} {cl sl : Nat} {μ : ax_M}
theorem ax_s_new {i ci : Nat} (hd : decode (ax_by h) pc = .ok (.new i, 3)) (hw : Cond.classLink (ax_nm h).cls i (ax_Cn ci) ∈ ax_gw) (hci : ci < 13) (hc : cl + 1 ≤ ax_mc h) (hs : sl + ax_nf ci ≤ ax_ms h) (kk : ax_Rw l G h EE (pc + 3) lv (ax_r (some (mN μ)) :: st) (cl + 1) (sl + ax_nf ci) (nC μ ci 0)) : ax_Rw l G h EE pc lv st cl sl μ := by
  intro p e s m args below meth c hx H locs ls hH hl hq
  obtain ⟨hexec, hb, hr, hlocks, hml, hown, hname, hts, hKK⟩ := id hx
  have hKn := hKK.1 ci hci
  have h64 := hH.1
  have ead : ax_ad G (mN μ) = H.size := by rw [ax_ad_ge h64, hH.2.1]
  refine W.newcK hexec hb hown (hts _ hw) (hts _ (ax_cls_new hci).1) (hts _ (ax_cls_new hci).2) rfl hd hc hs hKn.2.1 rfl fun H1 kC hkC e1 z1 o1 => ?_
  have hob := u_born (ax_fy ci) hts (ax_cls_lay hci) hKn hkC e1 (ax_cls_ty hci)
  obtain ⟨hH1, -⟩ := hH.new ci 0 (H1 := H1) z1 o1 ⟨fun _ => by
    rw [ax_mK_nC, if_pos rfl, ead]
    refine hob.to (fun k hk => ?_)
    rcases ax_cls_sort hci hk with ⟨t1, t2⟩ | ⟨t1, t2⟩ | ⟨⟨t, t1⟩, t2⟩ | ⟨⟨t, t1⟩, t2⟩ <;> rw [t1, t2] <;> simp [ax_fv, ax_gI_nC, ax_gL_nC, ax_gR_nC, ax_ao, va_rf, defaultValue], fun q => by rw [ax_mK_nC, if_pos rfl] at q; omega, by rw [ax_mK_nC, if_pos rfl]; omega⟩
  have k1 := kk p e s m args below meth c hx H1 locs ls hH1 hl hq
  rw [List.map_cons, ax_cv_some (by omega), ead] at k1
  exact k1
theorem ax_s_newa {t : ArrayType} {n : Int32} (hd : decode (ax_by h) pc = .ok (.newarray t, 2)) (ht : ax_ty t ≤ 23) (hn : ¬ n < 0) (h1000 : n.toNatClampNeg ≤ 1000) (hc : cl + 1 ≤ ax_mc h) (hs : sl + n.toNatClampNeg ≤ ax_ms h) (kk : ax_Rw l G h EE (pc + 2) lv (ax_r (some (mN μ)) :: st) (cl + 1) (sl + n.toNatClampNeg) (nC μ (ax_ty t) n.toNatClampNeg)) : ax_Rw l G h EE pc lv (ax_i n :: st) cl sl μ := by
  intro p e s m args below meth c hx H locs ls hH hl hq
  obtain ⟨hexec, hb, hr, hlocks, hml, hown, hname, hts, hKK⟩ := id hx
  have h64 := hH.1
  have ead : ax_ad G (mN μ) = H.size := by rw [ax_ad_ge h64, hH.2.1]
  have hT : ax_aT (ax_ty t) = newarray.typeOf t ∧ 20 ≤ ax_ty t ∧ Cond.arrayClass (newarray.typeOf t) ∈ ax_gw ∧ componentBytes (newarray.typeOf t) ≤ 8 ∧ (∀ cA : ClassId, ∀ U : State, va_RA U cA (newarray.typeOf t) ↔ U.vm.findClass ("[" ++ (newarray.typeOf t).toString) = some cA) := by
    cases t <;> first | (exfalso; revert ht; decide) | exact ⟨rfl, by decide, by first | exact ax_ac20 | exact ax_ac21 | exact ax_ac22 | exact ax_ac23, by decide, fun _ _ => Iff.rfl⟩
  obtain ⟨t1, t2, t3, t4, t5⟩ := hT
  refine va_newaK hexec hb (hts _ t3) rfl hd rfl hn rfl (Nat.le_trans (Nat.mul_le_mul h1000 t4) (by decide)) hc hs rfl fun H1 cA e1 z1 o1 hAr hNm => ?_
  have hcA : cA = ax_Y G (ax_ty t) := by
    have := (hKK.2.1 (ax_ty t) t2 (by omega)).2
    rw [t1, t5] at this
    exact Option.some.inj (hNm.symm.trans this)
  obtain ⟨hH1, -⟩ := hH.new (ax_ty t) n.toNatClampNeg (H1 := H1) z1 o1 ⟨fun q => by rw [ax_mK_nC, if_pos rfl] at q; omega, fun _ _ => by
    rw [ax_mK_nC, if_pos rfl, ax_mZ_nC, if_pos rfl, ead, e1, hcA]
    congr 2
    funext j
    cases t <;> first | (exfalso; revert ht; decide) | simp [ax_ty, ax_av, ax_gI_nC, ax_gL_nC, newarray.typeOf, defaultValue], by rw [ax_mK_nC, if_pos rfl]; omega⟩
  have k1 := kk p e s m args below meth c hx H1 locs ls hH1 hl hq
  rw [List.map_cons, ax_cv_some (by omega), ead] at k1
  exact k1
/-- a heap with one cell more -/
theorem ax_pushed (H : Heap) {x y : Cell} (q : x = y) : (H.push x).size = H.size + 1 ∧ (H.push x)[H.size]? = some y ∧ ∀ i : Nat, i < H.size → (H.push x)[i]? = H[i]? := by
  subst q
  refine ⟨Array.size_push .., Array.getElem?_push_size, fun i hi => ?_⟩
  simp [Array.getElem?_push, Nat.ne_of_lt hi]
theorem ax_s_anew {i ci ki : Nat} {n : Int32} (hd : decode (ax_by h) pc = .ok (.anewarray i, 3)) (hw : Cond.classLink (ax_nm h).cls i (ax_Cn ci) ∈ ax_gw) (hci : ci < 13) (hk1 : 24 ≤ ki) (hk2 : ki ≤ 27) (hT : ax_aT ki = .object (ax_Cn ci)) (hn : ¬ n < 0) (h1000 : n.toNatClampNeg ≤ 1000) (hc : cl + 1 ≤ ax_mc h) (hs : sl + n.toNatClampNeg ≤ ax_ms h) (kk : ax_Rw l G h EE (pc + 3) lv (ax_r (some (mN μ)) :: st) (cl + 1) (sl + n.toNatClampNeg) (nC μ ki n.toNatClampNeg)) : ax_Rw l G h EE pc lv (ax_i n :: st) cl sl μ := by
  intro p e s m args below meth c hx H locs ls hH hl hq
  obtain ⟨hexec, hb, hr, hlocks, hml, hown, hname, hts, hKK⟩ := id hx
  have h64 := hH.1
  have ead : ax_ad G (mN μ) = H.size := by rw [ax_ad_ge h64, hH.2.1]
  refine W.anew hexec hb hown (hts _ hw) (va_AO.use (hKK.2.2.2.2.2.2.1 ki hk1 hk2 ci hci hT)) rfl hd rfl hn (by omega) hc hs fun cA kA comp f1 f2 f3 f4 => ?_
  obtain ⟨z1, e1, o1⟩ := ax_pushed H (arrV_new cA n.toNatClampNeg .null)
  have hcA : cA = ax_Y G ki := by
    have := (hKK.2.1 ki (by omega) (by omega)).2
    rw [hT] at this
    obtain ⟨_, _, _, _, _, h4⟩ := this
    exact Option.some.inj (f1.symm.trans h4)
  obtain ⟨hH1, -⟩ := hH.new ki n.toNatClampNeg (H1 := _) z1 o1 ⟨fun q => by rw [ax_mK_nC, if_pos rfl] at q; omega, fun _ _ => by
    rw [ax_mK_nC, if_pos rfl, ax_mZ_nC, if_pos rfl, ead, e1, hcA]
    congr 2
    funext j
    unfold ax_av
    rw [if_neg (by omega), if_neg (by omega), ax_gR_nC, if_pos rfl]
    rfl, by rw [ax_mK_nC, if_pos rfl]; omega⟩
  have k1 := kk p e s m args below meth c hx _ locs ls hH1 hl hq
  rw [List.map_cons, ax_cv_some (by omega), ead] at k1
  exact k1
/-! calls -/
theorem ax_pop_spec : ∀ (n : Nat) (acc st : List ax_V) {as r : List ax_V}, ax_pop n acc st = some (as, r) → ∃ fs : List ax_V, as = fs.reverse ++ acc ∧ st = fs ++ r ∧ fs.length = n
  | 0, acc, st, as, r, h => by
    cases h
    exact ⟨[], rfl, rfl, rfl⟩
  | n + 1, acc, v :: st, as, r, h => by
    obtain ⟨fs, h1, h2, h3⟩ := ax_pop_spec n (v :: acc) st h
    exact ⟨v :: fs, by rw [h1]; simp, by rw [h2]; rfl, by simp [h3]⟩
  | _ + 1, _, [], _, _, h => by cases h
theorem ax_pop_at {n : Nat} {st as r : List ax_V} (G : ax_G) (h : ax_pop n [] st = some (as, r)) : st.map (ax_cv G) = (as.map (ax_cv G)).reverse ++ r.map (ax_cv G) ∧ (as.map (ax_cv G)).length = n := by
  obtain ⟨fs, h1, h2, h3⟩ := ax_pop_spec n [] st h
  rw [List.append_nil] at h1
  subst h1
  subst h2
  exact ⟨by simp, by simpa using h3⟩
theorem ax_good {y : Nat} (hy : y < 249) : GoodIn ax_gw (ax_gt (ax_tb y)) := by
  intro w hw
  have hm : w ∈ ax_gw := by
    rcases List.mem_cons.mp hw with rfl | hw
    · exact ax_code_in hy
    · exact hw
  exact ⟨hm, good_of_word (List.mem_filter.mp hm).2⟩
theorem ax_blind {G : ax_G} {as : List ax_V} {μ : ax_M} : FrameBlind (ax_Pc G as μ) := fun a U g mk q => ⟨q.1, q.2.1, ax_KK.same (s := U) (U := U.calling g mk a) rfl q.2.2⟩
/-- behind a call -/
theorem ax_after {p : Program} {e : Env} {R : Room} {s : State} {m : MethodId} {args : Array Value} {below : List Frame} {meth : Method} {c : Code} {H : Heap} {locs : List Loc} {cells slots mc ms : Nat} {QQ : State → Prop} {ls : Array Slot} {st0 rest : List Value} {a : Array Value} {Q : Option ax_V → ax_M → Prop} (hr : va_Run p l e R s m args below meth c H locs cells slots mc ms (F0 m pc ls st0) rest (ax_Qc G Q a) (ax_fr G)) (hq : ∀ q ∈ locs, ax_fr G q.base)
    (kk : ∀ (x : Option ax_V) (μ' : ax_M) (H1 : Heap) (locs1 : List Loc), Q x μ' → ax_Hd G μ' H1 → (∀ q ∈ locs1, ax_fr G q.base) → W p l e R s m args below meth c H1 locs1 (cells + mc) (slots + ms) QQ (F0 m (pc + 3) ls ((x.map (ax_cv G)).toList ++ rest))) : W p l e R s m args below meth c H locs cells slots QQ (F0 m pc ls st0) := by
  intro T hT X
  obtain ⟨v, st₀, t, T', L, h0, X', hL, e1, e2, ⟨x, μ', hv, hQ, hHd⟩, st⟩ := hr T hT X
  cases hv
  obtain ⟨t2, a1, b1⟩ := kk x μ' T'.heap (locs ++ L) hQ (by rw [e1]; exact hHd) (fun q hq' => by
    rcases List.mem_append.mp hq' with h | h
    · exact hq q h
    · exact hL q h) T' rfl X'
  exact ⟨t2, st t2 a1, b1⟩
theorem ax_ansW {t : Nat} {st : List ax_V} {K : List ax_V → ax_M → Prop} {x : Option ax_V} {μ' : ax_M} (h : ax_ans t st K x μ') (G : ax_G) : ∃ st' : List ax_V, K st' μ' ∧ st'.map (ax_cv G) = (x.map (ax_cv G)).toList ++ st.map (ax_cv G) := by
  unfold ax_ans at h
  split at h
  · obtain ⟨y, rfl, h⟩ := h
    exact ⟨_, h, rfl⟩
  · obtain ⟨y, rfl, h⟩ := h
    exact ⟨_, h, rfl⟩
  · obtain ⟨rfl, h⟩ := h
    exact ⟨_, h, rfl⟩
theorem ax_mw {y : Nat} (hy : y < 249) : Cond.initialized (ax_nm (ax_tb y)).cls ∈ ax_gw ∧ ((ax_mq y).1 = 1 → Cond.static (ax_nm (ax_tb y)) ∈ ax_gw) ∧ ((ax_mq y).1 ≠ 1 → Cond.instanceMethod (ax_nm (ax_tb y)) ∈ ax_gw) ∧ ((ax_mq y).1 = 2 → Cond.selects (ax_nm (ax_tb y)).cls (ax_nm (ax_tb y)) (ax_nm (ax_tb y)) ∈ ax_gw) ∧ ((ax_mq y).1 = 3 → (ax_nm (ax_tb y)).name = "<init>" ∧ ax_rt (ax_tb y) = none) ∧
    ((ax_nm (ax_tb y)).cls ≠ "java/lang/invoke/MethodHandle" ∧ (ax_nm (ax_tb y)).cls ≠ "java/lang/invoke/VarHandle" ∧ (parseMethodDescriptor (ax_nm (ax_tb y)).desc).map (fun d => d.parameters.length) = some (ax_np (ax_tb y))) := by
  have h := ax_mok_at (show y < 250 by omega)
  have h0 : (ax_mq y).1 ≠ 0 := (show ∀ y, y < 249 → (ax_mq y).1 ≠ 0 by decide +kernel) y hy
  simp only [ax_mok, Bool.or_eq_true, Bool.and_eq_true, decide_eq_true_eq] at h
  rcases h with h | ⟨⟨⟨⟨⟨⟨⟨h1, h2⟩, h3⟩, h4⟩, h5⟩, h6⟩, h7⟩, h8⟩
  · exact absurd h h0
  refine ⟨ax_at?_spec h1, fun e => ?_, fun e => ?_, fun e => ?_, fun e => ?_, h3, h4, h5⟩
  · rw [if_pos e] at h2
    exact ax_at?_spec h2
  · rw [if_neg e, Bool.and_eq_true] at h2
    exact ax_at?_spec h2.1
  · rw [if_neg (by omega), Bool.and_eq_true, if_pos e] at h2
    exact ax_at?_spec h2.2
  · rw [if_neg (by omega), Bool.and_eq_true, if_neg (by omega), Bool.and_eq_true] at h2
    exact ⟨of_decide_eq_true h2.2.1, of_decide_eq_true h2.2.2⟩
theorem ax_rooms {y : Nat} (h1 : ax_room h y = true) : (ax_rm (ax_tb y)).frames + 1 ≤ (ax_rm h).frames ∧ 8 + (ax_ml (ax_tb y) + 11) + (ax_rm (ax_tb y)).locals ≤ (ax_rm h).locals := by
  simp only [ax_room, Bool.and_eq_true] at h1
  exact ⟨Nat.le_of_ble_eq_true h1.1, Nat.le_of_ble_eq_true h1.2⟩
theorem ax_s_calls {i y n : Nat} {as st' : List ax_V} {Q : Option ax_V → ax_M → Prop} (hd : decode (ax_by h) pc = .ok (.invokestatic i, 3)) (hw : ax_wm (ax_oc h, i, y, n) ∈ lw_tbl) (hcn : ax_cn.getD (ax_oc h) "" = (ax_nm h).cls) (hy : y < 249) (hm : (ax_mq y).1 = 1) (hrm : ax_room h y = true) (hpop : ax_pop (ax_np (ax_tb y)) [] st = some (as, st')) (h8 : ax_sum st' ≤ 8) (hc : cl + ax_mc (ax_tb y) ≤ ax_mc h) (hs : sl + ax_ms (ax_tb y) ≤ ax_ms h) (hC : ax_Ct l G y as μ Q)
    (kk : ∀ x μ', Q x μ' → ∃ st2, st2.map (ax_cv G) = (x.map (ax_cv G)).toList ++ st'.map (ax_cv G) ∧ ax_Rw l G h EE (pc + 3) lv st2 (cl + ax_mc (ax_tb y)) (sl + ax_ms (ax_tb y)) μ') : ax_Rw l G h EE pc lv st cl sl μ := by
  intro p e s m args below meth c hx H locs ls hH hl hq
  obtain ⟨hexec, hb, hr, hlocks, hml, hown, hname, hts, hKK⟩ := id hx
  obtain ⟨w1, w2, w3, w4, w5, w6⟩ := ax_mw hy
  obtain ⟨e1, e2⟩ := ax_pop_at G hpop
  have hyn : ax_yn y = ax_nm (ax_tb y) := by
    unfold ax_yn
    rw [if_neg (by omega), if_neg (by omega), if_neg (by omega), if_neg (by omega), if_neg (by omega)]
  have hpre : PreS s H (ax_Pc G as μ) (as.map (ax_cv G)) := ⟨ax_blind, fun U hU hW => ⟨rfl, by rw [hU]; exact hH, hKK.warm hW⟩⟩
  have hst : (F0 m pc ls (st.map (ax_cv G))).stack = (as.map (ax_cv G)).reverse ++ st'.map (ax_cv G) := e1
  have hroom : 2 * (F0 m pc ls (st.map (ax_cv G))).monitorRoom + ((st'.map (ax_cv G)).map fun v => v.category).sum ≤ 8 := lv_room (by rw [ax_sum_cv]; exact h8)
  have fin : ∀ (x : Option ax_V) (μ' : ax_M) (H1 : Heap) (locs1 : List Loc), Q x μ' → ax_Hd G μ' H1 → (∀ q ∈ locs1, ax_fr G q.base) → W p l e (ax_rm h) s m args below meth c H1 locs1 (cl + ax_mc (ax_tb y)) (sl + ax_ms (ax_tb y)) (EE p e s m args below meth c) (F0 m (pc + 3) ls ((x.map (ax_cv G)).toList ++ st'.map (ax_cv G))) := fun x μ' H1 locs1 hQ hH1 hl1 => by
    obtain ⟨st2, g1, g2⟩ := kk x μ' hQ
    rw [← g1]
    exact g2 p e s m args below meth c hx H1 locs1 ls hH1 hl hl1
  unfold ax_wm at hw
  simp only [hcn, hyn] at hw
  split at hw
  · have hl2 := hts _ (ax_gwf hw rfl)
    exact ax_after (va_runS (As := as.map (ax_cv G)) (rest := st'.map (ax_cv G)) ⟨hexec, hb, hml, hown, hts⟩ hC ⟨callB_of (ax_np (ax_tb y)) hts (ax_good hy) rfl rfl rfl (hts _ w1) hl2 w6 (ax_rooms hrm), hts _ (w2 hm)⟩ hpre rfl e2 hl.1 hst hroom hd ⟨hc, hs⟩) hq fin
  · have hl2 := hKK.2.2.1 _ hw rfl
    exact ax_after (va_runSN (As := as.map (ax_cv G)) (rest := st'.map (ax_cv G)) ⟨hexec, hb, hml, hown, hts⟩ hC ⟨va_cnB (ax_np (ax_tb y)) hts (ax_good hy) rfl rfl rfl hl2 (hts _ w1) w6 (ax_rooms hrm), hts _ (w2 hm), trivial⟩ hpre rfl e2 hl.1 hst hroom hd ⟨hc, hs⟩) hq fin
theorem ax_s_calli {i y n a : Nat} {as st' : List ax_V} {Q : Option ax_V → ax_M → Prop} (hd : decode (ax_by h) pc = .ok (.invokespecial i, 3)) (hw : ax_wm (ax_oc h, i, y, n) ∈ lw_tbl) (hcn : ax_cn.getD (ax_oc h) "" = (ax_nm h).cls) (hy : y < 249) (hm : (ax_mq y).1 = 3) (hrm : ax_room h y = true) (hpop : ax_pop (ax_np (ax_tb y)) [] st = some (as, ax_r (some a) :: st')) (ha : 64 ≤ a) (h8 : ax_sum st' ≤ 8) (hc : cl + ax_mc (ax_tb y) ≤ ax_mc h) (hs : sl + ax_ms (ax_tb y) ≤ ax_ms h) (hC : ax_Ct l G y (ax_r (some a) :: as) μ Q)
    (kk : ∀ x μ', Q x μ' → ∃ st2, st2.map (ax_cv G) = (x.map (ax_cv G)).toList ++ st'.map (ax_cv G) ∧ ax_Rw l G h EE (pc + 3) lv st2 (cl + ax_mc (ax_tb y)) (sl + ax_ms (ax_tb y)) μ') : ax_Rw l G h EE pc lv st cl sl μ := by
  intro p e s m args below meth c hx H locs ls hH hl hq
  obtain ⟨hexec, hb, hr, hlocks, hml, hown, hname, hts, hKK⟩ := id hx
  obtain ⟨w1, w2, w3, w4, w5, w6⟩ := ax_mw hy
  obtain ⟨w5a, w5b⟩ := w5 hm
  obtain ⟨e1, e2⟩ := ax_pop_at G hpop
  rw [List.map_cons, ax_cv_some (by omega)] at e1
  have hyn : ax_yn y = ax_nm (ax_tb y) := by
    unfold ax_yn
    rw [if_neg (by omega), if_neg (by omega), if_neg (by omega), if_neg (by omega), if_neg (by omega)]
  have hpre : PreS s H (ax_Pc G (ax_r (some a) :: as) μ) (.ref (ax_ad G a) :: as.map (ax_cv G)) := ⟨ax_blind, fun U hU hW => ⟨by rw [List.map_cons, ax_cv_some (by omega)], by rw [hU]; exact hH, hKK.warm hW⟩⟩
  have hst : (F0 m pc ls (st.map (ax_cv G))).stack = (as.map (ax_cv G)).reverse ++ .ref (ax_ad G a) :: st'.map (ax_cv G) := e1
  have hroom : 2 * (F0 m pc ls (st.map (ax_cv G))).monitorRoom + ((st'.map (ax_cv G)).map fun v => v.category).sum ≤ 8 := lv_room (by rw [ax_sum_cv]; exact h8)
  have fin : ∀ (x : Option ax_V) (μ' : ax_M) (H1 : Heap) (locs1 : List Loc), Q x μ' → ax_Hd G μ' H1 → (∀ q ∈ locs1, ax_fr G q.base) → W p l e (ax_rm h) s m args below meth c H1 locs1 (cl + ax_mc (ax_tb y)) (sl + ax_ms (ax_tb y)) (EE p e s m args below meth c) (F0 m (pc + 3) ls ((x.map (ax_cv G)).toList ++ st'.map (ax_cv G))) := fun x μ' H1 locs1 hQ hH1 hl1 => by
    obtain ⟨st2, g1, g2⟩ := kk x μ' hQ
    rw [← g1]
    exact g2 p e s m args below meth c hx H1 locs1 ls hH1 hl hl1
  have hgt : ax_gt (ax_tb y) = Cond.code (ax_nm (ax_tb y)) (ax_by (ax_tb y)) (ax_ml (ax_tb y)) none :: ax_gw := by
    show Cond.code _ _ _ (ax_rt (ax_tb y)) :: ax_gw = _
    rw [w5b]
  unfold ax_wm at hw
  simp only [hcn, hyn] at hw
  split at hw
  · have hl2 := hts _ (ax_gwf hw rfl)
    exact ax_after (va_runI (As := as.map (ax_cv G)) (rest := st'.map (ax_cv G)) ⟨hexec, hb, hml, hown, hts⟩ hC ⟨callB_of (ax_np (ax_tb y)) hts (ax_good hy) hgt rfl rfl (hts _ w1) hl2 w6 (ax_rooms hrm), w5a, hts _ (w3 (by omega))⟩ hpre rfl e2 hl.1 hst hroom hd ⟨hc, hs⟩) hq fin
  · have hl2 := hKK.2.2.1 _ hw rfl
    exact ax_after (va_runIN (As := as.map (ax_cv G)) (rest := st'.map (ax_cv G)) ⟨hexec, hb, hml, hown, hts⟩ hC ⟨va_cnB (ax_np (ax_tb y)) hts (ax_good hy) hgt rfl rfl hl2 (hts _ w1) w6 (ax_rooms hrm), w5a, hts _ (w3 (by omega))⟩ hpre rfl e2 hl.1 hst hroom hd ⟨hc, hs⟩) hq fin
theorem ax_s_callv {i y n a ci : Nat} {as st' : List ax_V} {Q : Option ax_V → ax_M → Prop} (hd : decode (ax_by h) pc = .ok (.invokevirtual i, 3)) (hw : ax_wm (ax_oc h, i, y, n) ∈ lw_tbl) (hcn : ax_cn.getD (ax_oc h) "" = (ax_nm h).cls) (hy : y < 249) (hm : (ax_mq y).1 = 2) (hrm : ax_room h y = true) (hpop : ax_pop (ax_np (ax_tb y)) [] st = some (as, ax_r (some a) :: st')) (hK : mK μ a = ci) (hci : (ci < 13 ∧ ax_Cn ci = (ax_nm (ax_tb y)).cls) ∨ (ci = 13 ∧ (ax_nm (ax_tb y)).cls = "java/lang/String")) (h8 : ax_sum st' ≤ 8) (hc : cl + ax_mc (ax_tb y) ≤ ax_mc h) (hs : sl + ax_ms (ax_tb y) ≤ ax_ms h) (hC : ax_Ct l G y (ax_r (some a) :: as) μ Q)
    (kk : ∀ x μ', Q x μ' → ∃ st2, st2.map (ax_cv G) = (x.map (ax_cv G)).toList ++ st'.map (ax_cv G) ∧ ax_Rw l G h EE (pc + 3) lv st2 (cl + ax_mc (ax_tb y)) (sl + ax_ms (ax_tb y)) μ') : ax_Rw l G h EE pc lv st cl sl μ := by
  intro p e s m args below meth c hx H locs ls hH hl hq
  obtain ⟨hexec, hb, hr, hlocks, hml, hown, hname, hts, hKK⟩ := id hx
  obtain ⟨w1, w2, w3, w4, w5, w6⟩ := ax_mw hy
  obtain ⟨e1, e2⟩ := ax_pop_at G hpop
  have n6 : a ≠ 6 := hH.n6 hKK (by rcases hci with ⟨q, -⟩ | ⟨q, -⟩ <;> omega)
  rw [List.map_cons, ax_cv_some n6] at e1
  have hyn : ax_yn y = ax_nm (ax_tb y) := by
    unfold ax_yn
    rw [if_neg (by omega), if_neg (by omega), if_neg (by omega), if_neg (by omega), if_neg (by omega)]
  have hcell : ∃ cellB : Cell, H[ax_ad G a]? = some cellB ∧ cellB.vm.isStatics = false ∧ s.vm.findClass (ax_nm (ax_tb y)).cls = some cellB.cls := by
    rcases hci with ⟨hc13, hC⟩ | ⟨hc13, hC⟩
    · have ha := ax_big hH hKK (a := a) (by omega)
      obtain ⟨cell, q1, q2, q3, q4⟩ := (hH.2.2.2.2.1 a ha).1 (by omega)
      exact ⟨cell, q1, by rw [q3]; rfl, by rw [← hC, q2, hK]; exact (hKK.1 ci hc13).2.1⟩
    · have ha : a < 64 := by
        rcases Nat.lt_or_ge a 64 with q | q
        · exact q
        · exact absurd (hK.trans hc13) (hH.2.2.2.2.1 a q).2.2
      obtain ⟨h2, -, -⟩ := (hKK.2.2.2.2.2.1 a ha).2.1 ((hH.k0 ha).1.symm.trans (hK.trans hc13))
      have hsz : (ax_Hb G).size = ax_B G := hKK.2.2.2.2.2.2.2.1
      obtain ⟨cell, g1, g2, g3, -⟩ := h2.kept (H1 := H) (fun q _ hq => hH.2.2.1 q (by omega))
      exact ⟨cell, by rw [ax_ad_lt ha]; exact g1, g2, by rw [hC]; exact g3⟩
  have hpre : PreV s H (ax_nm (ax_tb y)).cls (ax_ad G a) (ax_Pc G (ax_r (some a) :: as) μ) (as.map (ax_cv G)) := ⟨ax_blind, hcell, fun U hU hW => ⟨by rw [List.map_cons, ax_cv_some n6], by rw [hU]; exact hH, hKK.warm hW⟩⟩
  have hst : (F0 m pc ls (st.map (ax_cv G))).stack = (as.map (ax_cv G)).reverse ++ .ref (ax_ad G a) :: st'.map (ax_cv G) := e1
  have hroom : 2 * (F0 m pc ls (st.map (ax_cv G))).monitorRoom + ((st'.map (ax_cv G)).map fun v => v.category).sum ≤ 8 := lv_room (by rw [ax_sum_cv]; exact h8)
  have fin : ∀ (x : Option ax_V) (μ' : ax_M) (H1 : Heap) (locs1 : List Loc), Q x μ' → ax_Hd G μ' H1 → (∀ q ∈ locs1, ax_fr G q.base) → W p l e (ax_rm h) s m args below meth c H1 locs1 (cl + ax_mc (ax_tb y)) (sl + ax_ms (ax_tb y)) (EE p e s m args below meth c) (F0 m (pc + 3) ls ((x.map (ax_cv G)).toList ++ st'.map (ax_cv G))) := fun x μ' H1 locs1 hQ hH1 hl1 => by
    obtain ⟨st2, g1, g2⟩ := kk x μ' hQ
    rw [← g1]
    exact g2 p e s m args below meth c hx H1 locs1 ls hH1 hl hl1
  unfold ax_wm at hw
  simp only [hcn, hyn] at hw
  split at hw
  · have hl2 := hts _ (ax_gwf hw rfl)
    exact ax_after (va_runV (As := as.map (ax_cv G)) (rest := st'.map (ax_cv G)) ⟨hexec, hb, hml, hown, hts⟩ hC ⟨callB_of (ax_np (ax_tb y)) hts (ax_good hy) rfl rfl rfl (hts _ w1) hl2 w6 (ax_rooms hrm), hts _ (w3 (by omega)), hts _ (w4 hm)⟩ hpre rfl e2 hl.1 hst hroom hd ⟨hc, hs⟩) hq fin
  · have hl2 := hKK.2.2.1 _ hw rfl
    exact ax_after (va_runVN (As := as.map (ax_cv G)) (rest := st'.map (ax_cv G)) ⟨hexec, hb, hml, hown, hts⟩ hC ⟨va_cnB (ax_np (ax_tb y)) hts (ax_good hy) rfl rfl rfl hl2 (hts _ w1) w6 (ax_rooms hrm), hts _ (w3 (by omega)), hts _ (w4 hm)⟩ hpre rfl e2 hl.1 hst hroom hd ⟨hc, hs⟩) hq fin
end Snd
end
