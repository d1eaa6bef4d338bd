section
-- ===== PART A: goes FIRST, ahead of the names: the tables' words, and 'selects' of the private methods out of them =====
/-- a private method of a class that the tables say can be made, by its rows of tables_1 -/
def lw_okq (q : MethodName × Nat) : Prop := (q.1.cls ≠ "java/lang/invoke/MethodHandle" ∧ q.1.cls ≠ "java/lang/invoke/VarHandle") ∧ Cond.instantiable q.1.cls q.2 ∈ tables_1 ∧ Cond.privateMethod q.1 ∈ tables_1 ∧ Cond.instanceMethod q.1 ∈ tables_1
theorem lw_p0 : lw_okq (⟨"Marktongue", "growTree", "()V"⟩, 12) := ⟨⟨by decide +kernel, by decide +kernel⟩, List.mem_of_getElem? (i := 22) (by decide +kernel), List.mem_of_getElem? (i := 388) (by decide +kernel), List.mem_of_getElem? (i := 389) (by decide +kernel)⟩
theorem lw_p1 : lw_okq (⟨"Marktongue$BlockReader", "goOn", "()V"⟩, 9) := ⟨⟨by decide +kernel, by decide +kernel⟩, List.mem_of_getElem? (i := 126) (by decide +kernel), List.mem_of_getElem? (i := 455) (by decide +kernel), List.mem_of_getElem? (i := 456) (by decide +kernel)⟩
theorem lw_p2 : lw_okq (⟨"Marktongue$BlockReader", "goesOn", "(I)Z"⟩, 9) := ⟨⟨by decide +kernel, by decide +kernel⟩, List.mem_of_getElem? (i := 126) (by decide +kernel), List.mem_of_getElem? (i := 467) (by decide +kernel), List.mem_of_getElem? (i := 468) (by decide +kernel)⟩
theorem lw_p3 : lw_okq (⟨"Marktongue$BlockReader", "look", "(I)I"⟩, 9) := ⟨⟨by decide +kernel, by decide +kernel⟩, List.mem_of_getElem? (i := 126) (by decide +kernel), List.mem_of_getElem? (i := 475) (by decide +kernel), List.mem_of_getElem? (i := 476) (by decide +kernel)⟩
theorem lw_p4 : lw_okq (⟨"Marktongue$BlockReader", "takeOff", "(II)V"⟩, 9) := ⟨⟨by decide +kernel, by decide +kernel⟩, List.mem_of_getElem? (i := 126) (by decide +kernel), List.mem_of_getElem? (i := 480) (by decide +kernel), List.mem_of_getElem? (i := 481) (by decide +kernel)⟩
theorem lw_p5 : lw_okq (⟨"Marktongue$BlockReader", "readInFence", "(I)I"⟩, 9) := ⟨⟨by decide +kernel, by decide +kernel⟩, List.mem_of_getElem? (i := 126) (by decide +kernel), List.mem_of_getElem? (i := 496) (by decide +kernel), List.mem_of_getElem? (i := 497) (by decide +kernel)⟩
theorem lw_p6 : lw_okq (⟨"Marktongue$BlockReader", "isFenceMark", "()Z"⟩, 9) := ⟨⟨by decide +kernel, by decide +kernel⟩, List.mem_of_getElem? (i := 126) (by decide +kernel), List.mem_of_getElem? (i := 500) (by decide +kernel), List.mem_of_getElem? (i := 501) (by decide +kernel)⟩
theorem lw_p7 : lw_okq (⟨"Marktongue$BlockReader", "putContainersIn", "()V"⟩, 9) := ⟨⟨by decide +kernel, by decide +kernel⟩, List.mem_of_getElem? (i := 126) (by decide +kernel), List.mem_of_getElem? (i := 512) (by decide +kernel), List.mem_of_getElem? (i := 513) (by decide +kernel)⟩
theorem lw_p8 : lw_okq (⟨"Marktongue$BlockReader", "markerSize", "()I"⟩, 9) := ⟨⟨by decide +kernel, by decide +kernel⟩, List.mem_of_getElem? (i := 126) (by decide +kernel), List.mem_of_getElem? (i := 516) (by decide +kernel), List.mem_of_getElem? (i := 517) (by decide +kernel)⟩
theorem lw_p9 : lw_okq (⟨"Marktongue$BlockReader", "putItem", "(I)I"⟩, 9) := ⟨⟨by decide +kernel, by decide +kernel⟩, List.mem_of_getElem? (i := 126) (by decide +kernel), List.mem_of_getElem? (i := 523) (by decide +kernel), List.mem_of_getElem? (i := 524) (by decide +kernel)⟩
theorem lw_p10 : lw_okq (⟨"Marktongue$BlockReader", "readBlank", "()I"⟩, 9) := ⟨⟨by decide +kernel, by decide +kernel⟩, List.mem_of_getElem? (i := 126) (by decide +kernel), List.mem_of_getElem? (i := 539) (by decide +kernel), List.mem_of_getElem? (i := 540) (by decide +kernel)⟩
theorem lw_p11 : lw_okq (⟨"Marktongue$BlockReader", "readLeaf", "(I)I"⟩, 9) := ⟨⟨by decide +kernel, by decide +kernel⟩, List.mem_of_getElem? (i := 126) (by decide +kernel), List.mem_of_getElem? (i := 543) (by decide +kernel), List.mem_of_getElem? (i := 544) (by decide +kernel)⟩
theorem lw_p12 : lw_okq (⟨"Marktongue$BlockReader", "headingLevel", "()I"⟩, 9) := ⟨⟨by decide +kernel, by decide +kernel⟩, List.mem_of_getElem? (i := 126) (by decide +kernel), List.mem_of_getElem? (i := 547) (by decide +kernel), List.mem_of_getElem? (i := 548) (by decide +kernel)⟩
theorem lw_p13 : lw_okq (⟨"Marktongue$BlockReader", "putHeading", "(II)I"⟩, 9) := ⟨⟨by decide +kernel, by decide +kernel⟩, List.mem_of_getElem? (i := 126) (by decide +kernel), List.mem_of_getElem? (i := 551) (by decide +kernel), List.mem_of_getElem? (i := 552) (by decide +kernel)⟩
theorem lw_p14 : lw_okq (⟨"Marktongue$BlockReader", "putLeaf", "(II)I"⟩, 9) := ⟨⟨by decide +kernel, by decide +kernel⟩, List.mem_of_getElem? (i := 126) (by decide +kernel), List.mem_of_getElem? (i := 555) (by decide +kernel), List.mem_of_getElem? (i := 556) (by decide +kernel)⟩
theorem lw_p15 : lw_okq (⟨"Marktongue$BlockReader", "definedName", "()J"⟩, 9) := ⟨⟨by decide +kernel, by decide +kernel⟩, List.mem_of_getElem? (i := 126) (by decide +kernel), List.mem_of_getElem? (i := 590) (by decide +kernel), List.mem_of_getElem? (i := 591) (by decide +kernel)⟩
def lw_privs_1 : List (MethodName × Nat) := [(⟨"Marktongue", "growTree", "()V"⟩, 12), (⟨"Marktongue$BlockReader", "goOn", "()V"⟩, 9), (⟨"Marktongue$BlockReader", "goesOn", "(I)Z"⟩, 9), (⟨"Marktongue$BlockReader", "look", "(I)I"⟩, 9), (⟨"Marktongue$BlockReader", "takeOff", "(II)V"⟩, 9), (⟨"Marktongue$BlockReader", "readInFence", "(I)I"⟩, 9), (⟨"Marktongue$BlockReader", "isFenceMark", "()Z"⟩, 9), (⟨"Marktongue$BlockReader", "putContainersIn", "()V"⟩, 9), (⟨"Marktongue$BlockReader", "markerSize", "()I"⟩, 9), (⟨"Marktongue$BlockReader", "putItem", "(I)I"⟩, 9), (⟨"Marktongue$BlockReader", "readBlank", "()I"⟩, 9), (⟨"Marktongue$BlockReader", "readLeaf", "(I)I"⟩, 9), (⟨"Marktongue$BlockReader", "headingLevel", "()I"⟩, 9), (⟨"Marktongue$BlockReader", "putHeading", "(II)I"⟩, 9), (⟨"Marktongue$BlockReader", "putLeaf", "(II)I"⟩, 9), (⟨"Marktongue$BlockReader", "definedName", "()J"⟩, 9)]
theorem lw_r1 : ∀ q ∈ lw_privs_1, lw_okq q := List.forall_mem_cons.mpr ⟨lw_p0, List.forall_mem_cons.mpr ⟨lw_p1, List.forall_mem_cons.mpr ⟨lw_p2, List.forall_mem_cons.mpr ⟨lw_p3, List.forall_mem_cons.mpr ⟨lw_p4, List.forall_mem_cons.mpr ⟨lw_p5, List.forall_mem_cons.mpr ⟨lw_p6, List.forall_mem_cons.mpr ⟨lw_p7, List.forall_mem_cons.mpr ⟨lw_p8, List.forall_mem_cons.mpr ⟨lw_p9, List.forall_mem_cons.mpr ⟨lw_p10, List.forall_mem_cons.mpr ⟨lw_p11, List.forall_mem_cons.mpr ⟨lw_p12, List.forall_mem_cons.mpr ⟨lw_p13, List.forall_mem_cons.mpr ⟨lw_p14, List.forall_mem_cons.mpr ⟨lw_p15, fun _ h => absurd h List.not_mem_nil⟩⟩⟩⟩⟩⟩⟩⟩⟩⟩⟩⟩⟩⟩⟩⟩
theorem lw_p16 : lw_okq (⟨"Marktongue$BlockReader", "ownRest", "(II)V"⟩, 9) := ⟨⟨by decide +kernel, by decide +kernel⟩, List.mem_of_getElem? (i := 126) (by decide +kernel), List.mem_of_getElem? (i := 605) (by decide +kernel), List.mem_of_getElem? (i := 606) (by decide +kernel)⟩
theorem lw_p17 : lw_okq (⟨"Marktongue$Tree", "add", "(III)I"⟩, 9) := ⟨⟨by decide +kernel, by decide +kernel⟩, List.mem_of_getElem? (i := 211) (by decide +kernel), List.mem_of_getElem? (i := 633) (by decide +kernel), List.mem_of_getElem? (i := 634) (by decide +kernel)⟩
theorem lw_p18 : lw_okq (⟨"Marktongue", "copyLines", "(I)V"⟩, 12) := ⟨⟨by decide +kernel, by decide +kernel⟩, List.mem_of_getElem? (i := 22) (by decide +kernel), List.mem_of_getElem? (i := 641) (by decide +kernel), List.mem_of_getElem? (i := 642) (by decide +kernel)⟩
theorem lw_p19 : lw_okq (⟨"Marktongue$Runs", "cut", "(I)V"⟩, 5) := ⟨⟨by decide +kernel, by decide +kernel⟩, List.mem_of_getElem? (i := 168) (by decide +kernel), List.mem_of_getElem? (i := 654) (by decide +kernel), List.mem_of_getElem? (i := 655) (by decide +kernel)⟩
theorem lw_p20 : lw_okq (⟨"Marktongue$InlineReader", "passEscape", "(I)I"⟩, 6) := ⟨⟨by decide +kernel, by decide +kernel⟩, List.mem_of_getElem? (i := 160) (by decide +kernel), List.mem_of_getElem? (i := 690) (by decide +kernel), List.mem_of_getElem? (i := 691) (by decide +kernel)⟩
theorem lw_p21 : lw_okq (⟨"Marktongue$InlineReader", "passTicks", "(I)I"⟩, 6) := ⟨⟨by decide +kernel, by decide +kernel⟩, List.mem_of_getElem? (i := 160) (by decide +kernel), List.mem_of_getElem? (i := 698) (by decide +kernel), List.mem_of_getElem? (i := 699) (by decide +kernel)⟩
theorem lw_p22 : lw_okq (⟨"Marktongue$InlineReader", "runEnd", "(I)I"⟩, 6) := ⟨⟨by decide +kernel, by decide +kernel⟩, List.mem_of_getElem? (i := 160) (by decide +kernel), List.mem_of_getElem? (i := 702) (by decide +kernel), List.mem_of_getElem? (i := 703) (by decide +kernel)⟩
theorem lw_p23 : lw_okq (⟨"Marktongue$InlineReader", "findTicks", "(II)I"⟩, 6) := ⟨⟨by decide +kernel, by decide +kernel⟩, List.mem_of_getElem? (i := 160) (by decide +kernel), List.mem_of_getElem? (i := 706) (by decide +kernel), List.mem_of_getElem? (i := 707) (by decide +kernel)⟩
theorem lw_p24 : lw_okq (⟨"Marktongue$InlineReader", "pass", "(II)V"⟩, 6) := ⟨⟨by decide +kernel, by decide +kernel⟩, List.mem_of_getElem? (i := 160) (by decide +kernel), List.mem_of_getElem? (i := 710) (by decide +kernel), List.mem_of_getElem? (i := 711) (by decide +kernel)⟩
theorem lw_p25 : lw_okq (⟨"Marktongue$InlineReader", "passBracket", "(I)I"⟩, 6) := ⟨⟨by decide +kernel, by decide +kernel⟩, List.mem_of_getElem? (i := 160) (by decide +kernel), List.mem_of_getElem? (i := 714) (by decide +kernel), List.mem_of_getElem? (i := 715) (by decide +kernel)⟩
theorem lw_p26 : lw_okq (⟨"Marktongue$InlineReader", "referenceEnd", "(I)I"⟩, 6) := ⟨⟨by decide +kernel, by decide +kernel⟩, List.mem_of_getElem? (i := 160) (by decide +kernel), List.mem_of_getElem? (i := 719) (by decide +kernel), List.mem_of_getElem? (i := 720) (by decide +kernel)⟩
theorem lw_p27 : lw_okq (⟨"Marktongue$Runs", "left", "(I)I"⟩, 5) := ⟨⟨by decide +kernel, by decide +kernel⟩, List.mem_of_getElem? (i := 168) (by decide +kernel), List.mem_of_getElem? (i := 743) (by decide +kernel), List.mem_of_getElem? (i := 744) (by decide +kernel)⟩
theorem lw_p28 : lw_okq (⟨"Marktongue$Runs", "openerOf", "(II)I"⟩, 5) := ⟨⟨by decide +kernel, by decide +kernel⟩, List.mem_of_getElem? (i := 168) (by decide +kernel), List.mem_of_getElem? (i := 747) (by decide +kernel), List.mem_of_getElem? (i := 748) (by decide +kernel)⟩
theorem lw_p29 : lw_okq (⟨"Marktongue$Runs", "breaksRule", "(II)Z"⟩, 5) := ⟨⟨by decide +kernel, by decide +kernel⟩, List.mem_of_getElem? (i := 168) (by decide +kernel), List.mem_of_getElem? (i := 751) (by decide +kernel), List.mem_of_getElem? (i := 752) (by decide +kernel)⟩
theorem lw_p30 : lw_okq (⟨"Marktongue$Runs", "pair", "(IILMarktongue$Row;)V"⟩, 5) := ⟨⟨by decide +kernel, by decide +kernel⟩, List.mem_of_getElem? (i := 168) (by decide +kernel), List.mem_of_getElem? (i := 755) (by decide +kernel), List.mem_of_getElem? (i := 756) (by decide +kernel)⟩
theorem lw_p31 : lw_okq (⟨"Marktongue$InlineReader", "passStars", "(I)I"⟩, 6) := ⟨⟨by decide +kernel, by decide +kernel⟩, List.mem_of_getElem? (i := 160) (by decide +kernel), List.mem_of_getElem? (i := 760) (by decide +kernel), List.mem_of_getElem? (i := 761) (by decide +kernel)⟩
def lw_privs_2 : List (MethodName × Nat) := [(⟨"Marktongue$BlockReader", "ownRest", "(II)V"⟩, 9), (⟨"Marktongue$Tree", "add", "(III)I"⟩, 9), (⟨"Marktongue", "copyLines", "(I)V"⟩, 12), (⟨"Marktongue$Runs", "cut", "(I)V"⟩, 5), (⟨"Marktongue$InlineReader", "passEscape", "(I)I"⟩, 6), (⟨"Marktongue$InlineReader", "passTicks", "(I)I"⟩, 6), (⟨"Marktongue$InlineReader", "runEnd", "(I)I"⟩, 6), (⟨"Marktongue$InlineReader", "findTicks", "(II)I"⟩, 6), (⟨"Marktongue$InlineReader", "pass", "(II)V"⟩, 6), (⟨"Marktongue$InlineReader", "passBracket", "(I)I"⟩, 6), (⟨"Marktongue$InlineReader", "referenceEnd", "(I)I"⟩, 6), (⟨"Marktongue$Runs", "left", "(I)I"⟩, 5), (⟨"Marktongue$Runs", "openerOf", "(II)I"⟩, 5), (⟨"Marktongue$Runs", "breaksRule", "(II)Z"⟩, 5), (⟨"Marktongue$Runs", "pair", "(IILMarktongue$Row;)V"⟩, 5), (⟨"Marktongue$InlineReader", "passStars", "(I)I"⟩, 6)]
theorem lw_r2 : ∀ q ∈ lw_privs_2, lw_okq q := List.forall_mem_cons.mpr ⟨lw_p16, List.forall_mem_cons.mpr ⟨lw_p17, List.forall_mem_cons.mpr ⟨lw_p18, List.forall_mem_cons.mpr ⟨lw_p19, List.forall_mem_cons.mpr ⟨lw_p20, List.forall_mem_cons.mpr ⟨lw_p21, List.forall_mem_cons.mpr ⟨lw_p22, List.forall_mem_cons.mpr ⟨lw_p23, List.forall_mem_cons.mpr ⟨lw_p24, List.forall_mem_cons.mpr ⟨lw_p25, List.forall_mem_cons.mpr ⟨lw_p26, List.forall_mem_cons.mpr ⟨lw_p27, List.forall_mem_cons.mpr ⟨lw_p28, List.forall_mem_cons.mpr ⟨lw_p29, List.forall_mem_cons.mpr ⟨lw_p30, List.forall_mem_cons.mpr ⟨lw_p31, fun _ h => absurd h List.not_mem_nil⟩⟩⟩⟩⟩⟩⟩⟩⟩⟩⟩⟩⟩⟩⟩⟩
theorem lw_p32 : lw_okq (⟨"Marktongue$Runs", "isFlank", "(II)Z"⟩, 5) := ⟨⟨by decide +kernel, by decide +kernel⟩, List.mem_of_getElem? (i := 168) (by decide +kernel), List.mem_of_getElem? (i := 769) (by decide +kernel), List.mem_of_getElem? (i := 770) (by decide +kernel)⟩
theorem lw_p33 : lw_okq (⟨"Marktongue", "copyFence", "(II)V"⟩, 12) := ⟨⟨by decide +kernel, by decide +kernel⟩, List.mem_of_getElem? (i := 22) (by decide +kernel), List.mem_of_getElem? (i := 799) (by decide +kernel), List.mem_of_getElem? (i := 800) (by decide +kernel)⟩
theorem lw_p34 : lw_okq (⟨"Marktongue$Printer", "endUpTo", "(II)V"⟩, 3) := ⟨⟨by decide +kernel, by decide +kernel⟩, List.mem_of_getElem? (i := 247) (by decide +kernel), List.mem_of_getElem? (i := 817) (by decide +kernel), List.mem_of_getElem? (i := 818) (by decide +kernel)⟩
theorem lw_p35 : lw_okq (⟨"Marktongue$Printer", "isMarked", "(I)Z"⟩, 3) := ⟨⟨by decide +kernel, by decide +kernel⟩, List.mem_of_getElem? (i := 247) (by decide +kernel), List.mem_of_getElem? (i := 821) (by decide +kernel), List.mem_of_getElem? (i := 822) (by decide +kernel)⟩
theorem lw_p36 : lw_okq (⟨"Marktongue$Printer", "begin", "(I)V"⟩, 3) := ⟨⟨by decide +kernel, by decide +kernel⟩, List.mem_of_getElem? (i := 247) (by decide +kernel), List.mem_of_getElem? (i := 830) (by decide +kernel), List.mem_of_getElem? (i := 831) (by decide +kernel)⟩
theorem lw_p37 : lw_okq (⟨"Marktongue", "writeFormatted", "()V"⟩, 12) := ⟨⟨by decide +kernel, by decide +kernel⟩, List.mem_of_getElem? (i := 22) (by decide +kernel), List.mem_of_getElem? (i := 851) (by decide +kernel), List.mem_of_getElem? (i := 852) (by decide +kernel)⟩
theorem lw_p38 : lw_okq (⟨"Marktongue", "writeLine", "(IIZ)V"⟩, 12) := ⟨⟨by decide +kernel, by decide +kernel⟩, List.mem_of_getElem? (i := 22) (by decide +kernel), List.mem_of_getElem? (i := 860) (by decide +kernel), List.mem_of_getElem? (i := 861) (by decide +kernel)⟩
theorem lw_p39 : lw_okq (⟨"Marktongue$Pairing", "fillLeavings", "(LMarktongue$Lines;LMarktongue$Lines;)V"⟩, 3) := ⟨⟨by decide +kernel, by decide +kernel⟩, List.mem_of_getElem? (i := 271) (by decide +kernel), List.mem_of_getElem? (i := 884) (by decide +kernel), List.mem_of_getElem? (i := 885) (by decide +kernel)⟩
theorem lw_p40 : lw_okq (⟨"Marktongue$Pairing", "leaveOut", "(IIZ)V"⟩, 3) := ⟨⟨by decide +kernel, by decide +kernel⟩, List.mem_of_getElem? (i := 271) (by decide +kernel), List.mem_of_getElem? (i := 891) (by decide +kernel), List.mem_of_getElem? (i := 892) (by decide +kernel)⟩
theorem lw_p41 : lw_okq (⟨"Marktongue$Pairing", "isLeftOut", "(II)Z"⟩, 3) := ⟨⟨by decide +kernel, by decide +kernel⟩, List.mem_of_getElem? (i := 271) (by decide +kernel), List.mem_of_getElem? (i := 911) (by decide +kernel), List.mem_of_getElem? (i := 912) (by decide +kernel)⟩
theorem lw_p42 : lw_okq (⟨"Marktongue$Merger", "startBehind", "(III)V"⟩, 13) := ⟨⟨by decide +kernel, by decide +kernel⟩, List.mem_of_getElem? (i := 265) (by decide +kernel), List.mem_of_getElem? (i := 916) (by decide +kernel), List.mem_of_getElem? (i := 917) (by decide +kernel)⟩
theorem lw_p43 : lw_okq (⟨"Marktongue$Merger", "settle", "(III)V"⟩, 13) := ⟨⟨by decide +kernel, by decide +kernel⟩, List.mem_of_getElem? (i := 265) (by decide +kernel), List.mem_of_getElem? (i := 922) (by decide +kernel), List.mem_of_getElem? (i := 923) (by decide +kernel)⟩
theorem lw_p44 : lw_okq (⟨"Marktongue$Merger", "areSame", "(LMarktongue$Lines;IILMarktongue$Lines;II)Z"⟩, 13) := ⟨⟨by decide +kernel, by decide +kernel⟩, List.mem_of_getElem? (i := 265) (by decide +kernel), List.mem_of_getElem? (i := 926) (by decide +kernel), List.mem_of_getElem? (i := 927) (by decide +kernel)⟩
theorem lw_p45 : lw_okq (⟨"Marktongue$Merger", "write", "(LMarktongue$Lines;II)V"⟩, 13) := ⟨⟨by decide +kernel, by decide +kernel⟩, List.mem_of_getElem? (i := 265) (by decide +kernel), List.mem_of_getElem? (i := 931) (by decide +kernel), List.mem_of_getElem? (i := 932) (by decide +kernel)⟩
theorem lw_p46 : lw_okq (⟨"java/lang/Throwable", "fillInStackTrace", "(I)Ljava/lang/Throwable;"⟩, 6) := ⟨⟨by decide +kernel, by decide +kernel⟩, List.mem_of_getElem? (i := 999) (by decide +kernel), List.mem_of_getElem? (i := 997) (by decide +kernel), List.mem_of_getElem? (i := 998) (by decide +kernel)⟩
theorem lw_p47 : lw_okq (⟨"MarktongueModel", "can", "(I)Z"⟩, 65) := ⟨⟨by decide +kernel, by decide +kernel⟩, List.mem_of_getElem? (i := 1196) (by decide +kernel), List.mem_of_getElem? (i := 1410) (by decide +kernel), List.mem_of_getElem? (i := 1411) (by decide +kernel)⟩
def lw_privs_3 : List (MethodName × Nat) := [(⟨"Marktongue$Runs", "isFlank", "(II)Z"⟩, 5), (⟨"Marktongue", "copyFence", "(II)V"⟩, 12), (⟨"Marktongue$Printer", "endUpTo", "(II)V"⟩, 3), (⟨"Marktongue$Printer", "isMarked", "(I)Z"⟩, 3), (⟨"Marktongue$Printer", "begin", "(I)V"⟩, 3), (⟨"Marktongue", "writeFormatted", "()V"⟩, 12), (⟨"Marktongue", "writeLine", "(IIZ)V"⟩, 12), (⟨"Marktongue$Pairing", "fillLeavings", "(LMarktongue$Lines;LMarktongue$Lines;)V"⟩, 3), (⟨"Marktongue$Pairing", "leaveOut", "(IIZ)V"⟩, 3), (⟨"Marktongue$Pairing", "isLeftOut", "(II)Z"⟩, 3), (⟨"Marktongue$Merger", "startBehind", "(III)V"⟩, 13), (⟨"Marktongue$Merger", "settle", "(III)V"⟩, 13), (⟨"Marktongue$Merger", "areSame", "(LMarktongue$Lines;IILMarktongue$Lines;II)Z"⟩, 13), (⟨"Marktongue$Merger", "write", "(LMarktongue$Lines;II)V"⟩, 13), (⟨"java/lang/Throwable", "fillInStackTrace", "(I)Ljava/lang/Throwable;"⟩, 6), (⟨"MarktongueModel", "can", "(I)Z"⟩, 65)]
theorem lw_r3 : ∀ q ∈ lw_privs_3, lw_okq q := List.forall_mem_cons.mpr ⟨lw_p32, List.forall_mem_cons.mpr ⟨lw_p33, List.forall_mem_cons.mpr ⟨lw_p34, List.forall_mem_cons.mpr ⟨lw_p35, List.forall_mem_cons.mpr ⟨lw_p36, List.forall_mem_cons.mpr ⟨lw_p37, List.forall_mem_cons.mpr ⟨lw_p38, List.forall_mem_cons.mpr ⟨lw_p39, List.forall_mem_cons.mpr ⟨lw_p40, List.forall_mem_cons.mpr ⟨lw_p41, List.forall_mem_cons.mpr ⟨lw_p42, List.forall_mem_cons.mpr ⟨lw_p43, List.forall_mem_cons.mpr ⟨lw_p44, List.forall_mem_cons.mpr ⟨lw_p45, List.forall_mem_cons.mpr ⟨lw_p46, List.forall_mem_cons.mpr ⟨lw_p47, fun _ h => absurd h List.not_mem_nil⟩⟩⟩⟩⟩⟩⟩⟩⟩⟩⟩⟩⟩⟩⟩⟩
theorem lw_p48 : lw_okq (⟨"MarktongueModel", "takes", "(II)V"⟩, 65) := ⟨⟨by decide +kernel, by decide +kernel⟩, List.mem_of_getElem? (i := 1196) (by decide +kernel), List.mem_of_getElem? (i := 1418) (by decide +kernel), List.mem_of_getElem? (i := 1419) (by decide +kernel)⟩
theorem lw_p49 : lw_okq (⟨"MarktongueModel", "trees", "()V"⟩, 65) := ⟨⟨by decide +kernel, by decide +kernel⟩, List.mem_of_getElem? (i := 1196) (by decide +kernel), List.mem_of_getElem? (i := 1438) (by decide +kernel), List.mem_of_getElem? (i := 1439) (by decide +kernel)⟩
theorem lw_p50 : lw_okq (⟨"MarktongueModel", "blocks", "()V"⟩, 65) := ⟨⟨by decide +kernel, by decide +kernel⟩, List.mem_of_getElem? (i := 1196) (by decide +kernel), List.mem_of_getElem? (i := 1442) (by decide +kernel), List.mem_of_getElem? (i := 1443) (by decide +kernel)⟩
theorem lw_p51 : lw_okq (⟨"MarktongueModel", "looksAt", "(I)V"⟩, 65) := ⟨⟨by decide +kernel, by decide +kernel⟩, List.mem_of_getElem? (i := 1196) (by decide +kernel), List.mem_of_getElem? (i := 1446) (by decide +kernel), List.mem_of_getElem? (i := 1447) (by decide +kernel)⟩
theorem lw_p52 : lw_okq (⟨"MarktongueModel", "endOf", "(I)I"⟩, 65) := ⟨⟨by decide +kernel, by decide +kernel⟩, List.mem_of_getElem? (i := 1196) (by decide +kernel), List.mem_of_getElem? (i := 1450) (by decide +kernel), List.mem_of_getElem? (i := 1451) (by decide +kernel)⟩
theorem lw_p53 : lw_okq (⟨"MarktongueModel", "goesOn", "(I)Z"⟩, 65) := ⟨⟨by decide +kernel, by decide +kernel⟩, List.mem_of_getElem? (i := 1196) (by decide +kernel), List.mem_of_getElem? (i := 1457) (by decide +kernel), List.mem_of_getElem? (i := 1458) (by decide +kernel)⟩
theorem lw_p54 : lw_okq (⟨"MarktongueModel", "isBlank", "(II)Z"⟩, 65) := ⟨⟨by decide +kernel, by decide +kernel⟩, List.mem_of_getElem? (i := 1196) (by decide +kernel), List.mem_of_getElem? (i := 1461) (by decide +kernel), List.mem_of_getElem? (i := 1462) (by decide +kernel)⟩
theorem lw_p55 : lw_okq (⟨"MarktongueModel", "owns", "(III)V"⟩, 65) := ⟨⟨by decide +kernel, by decide +kernel⟩, List.mem_of_getElem? (i := 1196) (by decide +kernel), List.mem_of_getElem? (i := 1465) (by decide +kernel), List.mem_of_getElem? (i := 1466) (by decide +kernel)⟩
theorem lw_p56 : lw_okq (⟨"MarktongueModel", "openParagraph", "()I"⟩, 65) := ⟨⟨by decide +kernel, by decide +kernel⟩, List.mem_of_getElem? (i := 1196) (by decide +kernel), List.mem_of_getElem? (i := 1469) (by decide +kernel), List.mem_of_getElem? (i := 1470) (by decide +kernel)⟩
theorem lw_p57 : lw_okq (⟨"MarktongueModel", "isFence", "()Z"⟩, 65) := ⟨⟨by decide +kernel, by decide +kernel⟩, List.mem_of_getElem? (i := 1196) (by decide +kernel), List.mem_of_getElem? (i := 1473) (by decide +kernel), List.mem_of_getElem? (i := 1474) (by decide +kernel)⟩
theorem lw_p58 : lw_okq (⟨"MarktongueModel", "trimmed", "(II)I"⟩, 65) := ⟨⟨by decide +kernel, by decide +kernel⟩, List.mem_of_getElem? (i := 1196) (by decide +kernel), List.mem_of_getElem? (i := 1477) (by decide +kernel), List.mem_of_getElem? (i := 1478) (by decide +kernel)⟩
theorem lw_p59 : lw_okq (⟨"MarktongueModel", "lays", "(I)V"⟩, 65) := ⟨⟨by decide +kernel, by decide +kernel⟩, List.mem_of_getElem? (i := 1196) (by decide +kernel), List.mem_of_getElem? (i := 1481) (by decide +kernel), List.mem_of_getElem? (i := 1482) (by decide +kernel)⟩
theorem lw_p60 : lw_okq (⟨"MarktongueModel", "putsContainers", "(I)I"⟩, 65) := ⟨⟨by decide +kernel, by decide +kernel⟩, List.mem_of_getElem? (i := 1196) (by decide +kernel), List.mem_of_getElem? (i := 1485) (by decide +kernel), List.mem_of_getElem? (i := 1486) (by decide +kernel)⟩
theorem lw_p61 : lw_okq (⟨"MarktongueModel", "marker", "()I"⟩, 65) := ⟨⟨by decide +kernel, by decide +kernel⟩, List.mem_of_getElem? (i := 1196) (by decide +kernel), List.mem_of_getElem? (i := 1489) (by decide +kernel), List.mem_of_getElem? (i := 1490) (by decide +kernel)⟩
theorem lw_p62 : lw_okq (⟨"MarktongueModel", "puts", "(III)I"⟩, 65) := ⟨⟨by decide +kernel, by decide +kernel⟩, List.mem_of_getElem? (i := 1196) (by decide +kernel), List.mem_of_getElem? (i := 1493) (by decide +kernel), List.mem_of_getElem? (i := 1494) (by decide +kernel)⟩
theorem lw_p63 : lw_okq (⟨"MarktongueModel", "closesIn", "(I)V"⟩, 65) := ⟨⟨by decide +kernel, by decide +kernel⟩, List.mem_of_getElem? (i := 1196) (by decide +kernel), List.mem_of_getElem? (i := 1497) (by decide +kernel), List.mem_of_getElem? (i := 1498) (by decide +kernel)⟩
def lw_privs_4 : List (MethodName × Nat) := [(⟨"MarktongueModel", "takes", "(II)V"⟩, 65), (⟨"MarktongueModel", "trees", "()V"⟩, 65), (⟨"MarktongueModel", "blocks", "()V"⟩, 65), (⟨"MarktongueModel", "looksAt", "(I)V"⟩, 65), (⟨"MarktongueModel", "endOf", "(I)I"⟩, 65), (⟨"MarktongueModel", "goesOn", "(I)Z"⟩, 65), (⟨"MarktongueModel", "isBlank", "(II)Z"⟩, 65), (⟨"MarktongueModel", "owns", "(III)V"⟩, 65), (⟨"MarktongueModel", "openParagraph", "()I"⟩, 65), (⟨"MarktongueModel", "isFence", "()Z"⟩, 65), (⟨"MarktongueModel", "trimmed", "(II)I"⟩, 65), (⟨"MarktongueModel", "lays", "(I)V"⟩, 65), (⟨"MarktongueModel", "putsContainers", "(I)I"⟩, 65), (⟨"MarktongueModel", "marker", "()I"⟩, 65), (⟨"MarktongueModel", "puts", "(III)I"⟩, 65), (⟨"MarktongueModel", "closesIn", "(I)V"⟩, 65)]
theorem lw_r4 : ∀ q ∈ lw_privs_4, lw_okq q := List.forall_mem_cons.mpr ⟨lw_p48, List.forall_mem_cons.mpr ⟨lw_p49, List.forall_mem_cons.mpr ⟨lw_p50, List.forall_mem_cons.mpr ⟨lw_p51, List.forall_mem_cons.mpr ⟨lw_p52, List.forall_mem_cons.mpr ⟨lw_p53, List.forall_mem_cons.mpr ⟨lw_p54, List.forall_mem_cons.mpr ⟨lw_p55, List.forall_mem_cons.mpr ⟨lw_p56, List.forall_mem_cons.mpr ⟨lw_p57, List.forall_mem_cons.mpr ⟨lw_p58, List.forall_mem_cons.mpr ⟨lw_p59, List.forall_mem_cons.mpr ⟨lw_p60, List.forall_mem_cons.mpr ⟨lw_p61, List.forall_mem_cons.mpr ⟨lw_p62, List.forall_mem_cons.mpr ⟨lw_p63, fun _ h => absurd h List.not_mem_nil⟩⟩⟩⟩⟩⟩⟩⟩⟩⟩⟩⟩⟩⟩⟩⟩
theorem lw_p64 : lw_okq (⟨"MarktongueModel", "headingLevel", "()I"⟩, 65) := ⟨⟨by decide +kernel, by decide +kernel⟩, List.mem_of_getElem? (i := 1196) (by decide +kernel), List.mem_of_getElem? (i := 1501) (by decide +kernel), List.mem_of_getElem? (i := 1502) (by decide +kernel)⟩
theorem lw_p65 : lw_okq (⟨"MarktongueModel", "closesBehind", "(II)V"⟩, 65) := ⟨⟨by decide +kernel, by decide +kernel⟩, List.mem_of_getElem? (i := 1196) (by decide +kernel), List.mem_of_getElem? (i := 1505) (by decide +kernel), List.mem_of_getElem? (i := 1506) (by decide +kernel)⟩
theorem lw_p66 : lw_okq (⟨"MarktongueModel", "closes", "(I)V"⟩, 65) := ⟨⟨by decide +kernel, by decide +kernel⟩, List.mem_of_getElem? (i := 1196) (by decide +kernel), List.mem_of_getElem? (i := 1509) (by decide +kernel), List.mem_of_getElem? (i := 1510) (by decide +kernel)⟩
theorem lw_p67 : lw_okq (⟨"MarktongueModel", "names", "(III)V"⟩, 65) := ⟨⟨by decide +kernel, by decide +kernel⟩, List.mem_of_getElem? (i := 1196) (by decide +kernel), List.mem_of_getElem? (i := 1513) (by decide +kernel), List.mem_of_getElem? (i := 1514) (by decide +kernel)⟩
theorem lw_p68 : lw_okq (⟨"MarktongueModel", "isDefinition", "()Z"⟩, 65) := ⟨⟨by decide +kernel, by decide +kernel⟩, List.mem_of_getElem? (i := 1196) (by decide +kernel), List.mem_of_getElem? (i := 1520) (by decide +kernel), List.mem_of_getElem? (i := 1521) (by decide +kernel)⟩
theorem lw_p69 : lw_okq (⟨"MarktongueModel", "letters", "(II)I"⟩, 65) := ⟨⟨by decide +kernel, by decide +kernel⟩, List.mem_of_getElem? (i := 1196) (by decide +kernel), List.mem_of_getElem? (i := 1524) (by decide +kernel), List.mem_of_getElem? (i := 1525) (by decide +kernel)⟩
theorem lw_p70 : lw_okq (⟨"MarktongueModel", "addsNode", "(II)I"⟩, 65) := ⟨⟨by decide +kernel, by decide +kernel⟩, List.mem_of_getElem? (i := 1196) (by decide +kernel), List.mem_of_getElem? (i := 1528) (by decide +kernel), List.mem_of_getElem? (i := 1529) (by decide +kernel)⟩
theorem lw_p71 : lw_okq (⟨"MarktongueModel", "treesInline", "(I)V"⟩, 65) := ⟨⟨by decide +kernel, by decide +kernel⟩, List.mem_of_getElem? (i := 1196) (by decide +kernel), List.mem_of_getElem? (i := 1532) (by decide +kernel), List.mem_of_getElem? (i := 1533) (by decide +kernel)⟩
theorem lw_p72 : lw_okq (⟨"MarktongueModel", "cuts", "(I)V"⟩, 65) := ⟨⟨by decide +kernel, by decide +kernel⟩, List.mem_of_getElem? (i := 1196) (by decide +kernel), List.mem_of_getElem? (i := 1536) (by decide +kernel), List.mem_of_getElem? (i := 1537) (by decide +kernel)⟩
theorem lw_p73 : lw_okq (⟨"MarktongueModel", "laysInline", "(I)V"⟩, 65) := ⟨⟨by decide +kernel, by decide +kernel⟩, List.mem_of_getElem? (i := 1196) (by decide +kernel), List.mem_of_getElem? (i := 1540) (by decide +kernel), List.mem_of_getElem? (i := 1541) (by decide +kernel)⟩
theorem lw_p74 : lw_okq (⟨"MarktongueModel", "in", "(I)I"⟩, 65) := ⟨⟨by decide +kernel, by decide +kernel⟩, List.mem_of_getElem? (i := 1196) (by decide +kernel), List.mem_of_getElem? (i := 1544) (by decide +kernel), List.mem_of_getElem? (i := 1545) (by decide +kernel)⟩
theorem lw_p75 : lw_okq (⟨"MarktongueModel", "adds", "(III)V"⟩, 65) := ⟨⟨by decide +kernel, by decide +kernel⟩, List.mem_of_getElem? (i := 1196) (by decide +kernel), List.mem_of_getElem? (i := 1551) (by decide +kernel), List.mem_of_getElem? (i := 1552) (by decide +kernel)⟩
theorem lw_p76 : lw_okq (⟨"MarktongueModel", "cutsCode", "(I)I"⟩, 65) := ⟨⟨by decide +kernel, by decide +kernel⟩, List.mem_of_getElem? (i := 1196) (by decide +kernel), List.mem_of_getElem? (i := 1555) (by decide +kernel), List.mem_of_getElem? (i := 1556) (by decide +kernel)⟩
theorem lw_p77 : lw_okq (⟨"MarktongueModel", "run", "(I)I"⟩, 65) := ⟨⟨by decide +kernel, by decide +kernel⟩, List.mem_of_getElem? (i := 1196) (by decide +kernel), List.mem_of_getElem? (i := 1559) (by decide +kernel), List.mem_of_getElem? (i := 1560) (by decide +kernel)⟩
theorem lw_p78 : lw_okq (⟨"MarktongueModel", "nextRun", "(II)I"⟩, 65) := ⟨⟨by decide +kernel, by decide +kernel⟩, List.mem_of_getElem? (i := 1196) (by decide +kernel), List.mem_of_getElem? (i := 1563) (by decide +kernel), List.mem_of_getElem? (i := 1564) (by decide +kernel)⟩
theorem lw_p79 : lw_okq (⟨"MarktongueModel", "closesLink", "(I)I"⟩, 65) := ⟨⟨by decide +kernel, by decide +kernel⟩, List.mem_of_getElem? (i := 1196) (by decide +kernel), List.mem_of_getElem? (i := 1567) (by decide +kernel), List.mem_of_getElem? (i := 1568) (by decide +kernel)⟩
def lw_privs_5 : List (MethodName × Nat) := [(⟨"MarktongueModel", "headingLevel", "()I"⟩, 65), (⟨"MarktongueModel", "closesBehind", "(II)V"⟩, 65), (⟨"MarktongueModel", "closes", "(I)V"⟩, 65), (⟨"MarktongueModel", "names", "(III)V"⟩, 65), (⟨"MarktongueModel", "isDefinition", "()Z"⟩, 65), (⟨"MarktongueModel", "letters", "(II)I"⟩, 65), (⟨"MarktongueModel", "addsNode", "(II)I"⟩, 65), (⟨"MarktongueModel", "treesInline", "(I)V"⟩, 65), (⟨"MarktongueModel", "cuts", "(I)V"⟩, 65), (⟨"MarktongueModel", "laysInline", "(I)V"⟩, 65), (⟨"MarktongueModel", "in", "(I)I"⟩, 65), (⟨"MarktongueModel", "adds", "(III)V"⟩, 65), (⟨"MarktongueModel", "cutsCode", "(I)I"⟩, 65), (⟨"MarktongueModel", "run", "(I)I"⟩, 65), (⟨"MarktongueModel", "nextRun", "(II)I"⟩, 65), (⟨"MarktongueModel", "closesLink", "(I)I"⟩, 65)]
theorem lw_r5 : ∀ q ∈ lw_privs_5, lw_okq q := List.forall_mem_cons.mpr ⟨lw_p64, List.forall_mem_cons.mpr ⟨lw_p65, List.forall_mem_cons.mpr ⟨lw_p66, List.forall_mem_cons.mpr ⟨lw_p67, List.forall_mem_cons.mpr ⟨lw_p68, List.forall_mem_cons.mpr ⟨lw_p69, List.forall_mem_cons.mpr ⟨lw_p70, List.forall_mem_cons.mpr ⟨lw_p71, List.forall_mem_cons.mpr ⟨lw_p72, List.forall_mem_cons.mpr ⟨lw_p73, List.forall_mem_cons.mpr ⟨lw_p74, List.forall_mem_cons.mpr ⟨lw_p75, List.forall_mem_cons.mpr ⟨lw_p76, List.forall_mem_cons.mpr ⟨lw_p77, List.forall_mem_cons.mpr ⟨lw_p78, List.forall_mem_cons.mpr ⟨lw_p79, fun _ h => absurd h List.not_mem_nil⟩⟩⟩⟩⟩⟩⟩⟩⟩⟩⟩⟩⟩⟩⟩⟩
theorem lw_p80 : lw_okq (⟨"MarktongueModel", "lastOpen", "(I)I"⟩, 65) := ⟨⟨by decide +kernel, by decide +kernel⟩, List.mem_of_getElem? (i := 1196) (by decide +kernel), List.mem_of_getElem? (i := 1571) (by decide +kernel), List.mem_of_getElem? (i := 1572) (by decide +kernel)⟩
theorem lw_p81 : lw_okq (⟨"MarktongueModel", "nameBehind", "(I)I"⟩, 65) := ⟨⟨by decide +kernel, by decide +kernel⟩, List.mem_of_getElem? (i := 1196) (by decide +kernel), List.mem_of_getElem? (i := 1575) (by decide +kernel), List.mem_of_getElem? (i := 1576) (by decide +kernel)⟩
theorem lw_p82 : lw_okq (⟨"MarktongueModel", "meant", "(II)I"⟩, 65) := ⟨⟨by decide +kernel, by decide +kernel⟩, List.mem_of_getElem? (i := 1196) (by decide +kernel), List.mem_of_getElem? (i := 1579) (by decide +kernel), List.mem_of_getElem? (i := 1580) (by decide +kernel)⟩
theorem lw_p83 : lw_okq (⟨"MarktongueModel", "isSameName", "(III)Z"⟩, 65) := ⟨⟨by decide +kernel, by decide +kernel⟩, List.mem_of_getElem? (i := 1196) (by decide +kernel), List.mem_of_getElem? (i := 1583) (by decide +kernel), List.mem_of_getElem? (i := 1584) (by decide +kernel)⟩
theorem lw_p84 : lw_okq (⟨"MarktongueModel", "pairsUp", "(II)V"⟩, 65) := ⟨⟨by decide +kernel, by decide +kernel⟩, List.mem_of_getElem? (i := 1196) (by decide +kernel), List.mem_of_getElem? (i := 1587) (by decide +kernel), List.mem_of_getElem? (i := 1588) (by decide +kernel)⟩
theorem lw_p85 : lw_okq (⟨"MarktongueModel", "nearest", "(II)I"⟩, 65) := ⟨⟨by decide +kernel, by decide +kernel⟩, List.mem_of_getElem? (i := 1196) (by decide +kernel), List.mem_of_getElem? (i := 1591) (by decide +kernel), List.mem_of_getElem? (i := 1592) (by decide +kernel)⟩
theorem lw_p86 : lw_okq (⟨"MarktongueModel", "fit", "(II)Z"⟩, 65) := ⟨⟨by decide +kernel, by decide +kernel⟩, List.mem_of_getElem? (i := 1196) (by decide +kernel), List.mem_of_getElem? (i := 1595) (by decide +kernel), List.mem_of_getElem? (i := 1596) (by decide +kernel)⟩
theorem lw_p87 : lw_okq (⟨"MarktongueModel", "addsRun", "(I)V"⟩, 65) := ⟨⟨by decide +kernel, by decide +kernel⟩, List.mem_of_getElem? (i := 1196) (by decide +kernel), List.mem_of_getElem? (i := 1599) (by decide +kernel), List.mem_of_getElem? (i := 1600) (by decide +kernel)⟩
theorem lw_p88 : lw_okq (⟨"MarktongueModel", "addsCharacter", "(I)V"⟩, 65) := ⟨⟨by decide +kernel, by decide +kernel⟩, List.mem_of_getElem? (i := 1196) (by decide +kernel), List.mem_of_getElem? (i := 1606) (by decide +kernel), List.mem_of_getElem? (i := 1607) (by decide +kernel)⟩
theorem lw_p89 : lw_okq (⟨"MarktongueModel", "treesRun", "(I)V"⟩, 65) := ⟨⟨by decide +kernel, by decide +kernel⟩, List.mem_of_getElem? (i := 1196) (by decide +kernel), List.mem_of_getElem? (i := 1610) (by decide +kernel), List.mem_of_getElem? (i := 1611) (by decide +kernel)⟩
theorem lw_p90 : lw_okq (⟨"MarktongueModel", "leaves", "()V"⟩, 65) := ⟨⟨by decide +kernel, by decide +kernel⟩, List.mem_of_getElem? (i := 1196) (by decide +kernel), List.mem_of_getElem? (i := 1614) (by decide +kernel), List.mem_of_getElem? (i := 1615) (by decide +kernel)⟩
theorem lw_p91 : lw_okq (⟨"MarktongueModel", "enters", "(I)V"⟩, 65) := ⟨⟨by decide +kernel, by decide +kernel⟩, List.mem_of_getElem? (i := 1196) (by decide +kernel), List.mem_of_getElem? (i := 1618) (by decide +kernel), List.mem_of_getElem? (i := 1619) (by decide +kernel)⟩
theorem lw_p92 : lw_okq (⟨"MarktongueModel", "prints", "(I)V"⟩, 65) := ⟨⟨by decide +kernel, by decide +kernel⟩, List.mem_of_getElem? (i := 1196) (by decide +kernel), List.mem_of_getElem? (i := 1646) (by decide +kernel), List.mem_of_getElem? (i := 1647) (by decide +kernel)⟩
theorem lw_p93 : lw_okq (⟨"MarktongueModel", "givesEnd", "(II)V"⟩, 65) := ⟨⟨by decide +kernel, by decide +kernel⟩, List.mem_of_getElem? (i := 1196) (by decide +kernel), List.mem_of_getElem? (i := 1650) (by decide +kernel), List.mem_of_getElem? (i := 1651) (by decide +kernel)⟩
theorem lw_p94 : lw_okq (⟨"MarktongueModel", "gives", "(I)V"⟩, 65) := ⟨⟨by decide +kernel, by decide +kernel⟩, List.mem_of_getElem? (i := 1196) (by decide +kernel), List.mem_of_getElem? (i := 1654) (by decide +kernel), List.mem_of_getElem? (i := 1655) (by decide +kernel)⟩
theorem lw_p95 : lw_okq (⟨"MarktongueModel", "givesBeginning", "(II)V"⟩, 65) := ⟨⟨by decide +kernel, by decide +kernel⟩, List.mem_of_getElem? (i := 1196) (by decide +kernel), List.mem_of_getElem? (i := 1658) (by decide +kernel), List.mem_of_getElem? (i := 1659) (by decide +kernel)⟩
def lw_privs_6 : List (MethodName × Nat) := [(⟨"MarktongueModel", "lastOpen", "(I)I"⟩, 65), (⟨"MarktongueModel", "nameBehind", "(I)I"⟩, 65), (⟨"MarktongueModel", "meant", "(II)I"⟩, 65), (⟨"MarktongueModel", "isSameName", "(III)Z"⟩, 65), (⟨"MarktongueModel", "pairsUp", "(II)V"⟩, 65), (⟨"MarktongueModel", "nearest", "(II)I"⟩, 65), (⟨"MarktongueModel", "fit", "(II)Z"⟩, 65), (⟨"MarktongueModel", "addsRun", "(I)V"⟩, 65), (⟨"MarktongueModel", "addsCharacter", "(I)V"⟩, 65), (⟨"MarktongueModel", "treesRun", "(I)V"⟩, 65), (⟨"MarktongueModel", "leaves", "()V"⟩, 65), (⟨"MarktongueModel", "enters", "(I)V"⟩, 65), (⟨"MarktongueModel", "prints", "(I)V"⟩, 65), (⟨"MarktongueModel", "givesEnd", "(II)V"⟩, 65), (⟨"MarktongueModel", "gives", "(I)V"⟩, 65), (⟨"MarktongueModel", "givesBeginning", "(II)V"⟩, 65)]
theorem lw_r6 : ∀ q ∈ lw_privs_6, lw_okq q := List.forall_mem_cons.mpr ⟨lw_p80, List.forall_mem_cons.mpr ⟨lw_p81, List.forall_mem_cons.mpr ⟨lw_p82, List.forall_mem_cons.mpr ⟨lw_p83, List.forall_mem_cons.mpr ⟨lw_p84, List.forall_mem_cons.mpr ⟨lw_p85, List.forall_mem_cons.mpr ⟨lw_p86, List.forall_mem_cons.mpr ⟨lw_p87, List.forall_mem_cons.mpr ⟨lw_p88, List.forall_mem_cons.mpr ⟨lw_p89, List.forall_mem_cons.mpr ⟨lw_p90, List.forall_mem_cons.mpr ⟨lw_p91, List.forall_mem_cons.mpr ⟨lw_p92, List.forall_mem_cons.mpr ⟨lw_p93, List.forall_mem_cons.mpr ⟨lw_p94, List.forall_mem_cons.mpr ⟨lw_p95, fun _ h => absurd h List.not_mem_nil⟩⟩⟩⟩⟩⟩⟩⟩⟩⟩⟩⟩⟩⟩⟩⟩
theorem lw_p96 : lw_okq (⟨"MarktongueModel", "ahead", "(I)I"⟩, 65) := ⟨⟨by decide +kernel, by decide +kernel⟩, List.mem_of_getElem? (i := 1196) (by decide +kernel), List.mem_of_getElem? (i := 1662) (by decide +kernel), List.mem_of_getElem? (i := 1663) (by decide +kernel)⟩
theorem lw_p97 : lw_okq (⟨"MarktongueModel", "givesLines", "(I)V"⟩, 65) := ⟨⟨by decide +kernel, by decide +kernel⟩, List.mem_of_getElem? (i := 1196) (by decide +kernel), List.mem_of_getElem? (i := 1666) (by decide +kernel), List.mem_of_getElem? (i := 1667) (by decide +kernel)⟩
theorem lw_p98 : lw_okq (⟨"MarktongueModel", "stays", "(I)Z"⟩, 65) := ⟨⟨by decide +kernel, by decide +kernel⟩, List.mem_of_getElem? (i := 1196) (by decide +kernel), List.mem_of_getElem? (i := 1678) (by decide +kernel), List.mem_of_getElem? (i := 1679) (by decide +kernel)⟩
theorem lw_p99 : lw_okq (⟨"MarktongueModel", "isGap", "(I)Z"⟩, 65) := ⟨⟨by decide +kernel, by decide +kernel⟩, List.mem_of_getElem? (i := 1196) (by decide +kernel), List.mem_of_getElem? (i := 1682) (by decide +kernel), List.mem_of_getElem? (i := 1683) (by decide +kernel)⟩
theorem lw_p100 : lw_okq (⟨"MarktongueModel", "splits", "(II)V"⟩, 65) := ⟨⟨by decide +kernel, by decide +kernel⟩, List.mem_of_getElem? (i := 1196) (by decide +kernel), List.mem_of_getElem? (i := 1698) (by decide +kernel), List.mem_of_getElem? (i := 1699) (by decide +kernel)⟩
theorem lw_p101 : lw_okq (⟨"MarktongueModel", "takesTogether", "(I)V"⟩, 65) := ⟨⟨by decide +kernel, by decide +kernel⟩, List.mem_of_getElem? (i := 1196) (by decide +kernel), List.mem_of_getElem? (i := 1702) (by decide +kernel), List.mem_of_getElem? (i := 1703) (by decide +kernel)⟩
theorem lw_p102 : lw_okq (⟨"MarktongueModel", "isSameLine", "(II)Z"⟩, 65) := ⟨⟨by decide +kernel, by decide +kernel⟩, List.mem_of_getElem? (i := 1196) (by decide +kernel), List.mem_of_getElem? (i := 1706) (by decide +kernel), List.mem_of_getElem? (i := 1707) (by decide +kernel)⟩
theorem lw_p103 : lw_okq (⟨"MarktongueModel", "takesPart", "(IIIIII)Z"⟩, 65) := ⟨⟨by decide +kernel, by decide +kernel⟩, List.mem_of_getElem? (i := 1196) (by decide +kernel), List.mem_of_getElem? (i := 1710) (by decide +kernel), List.mem_of_getElem? (i := 1711) (by decide +kernel)⟩
theorem lw_p104 : lw_okq (⟨"MarktongueModel", "isSamePart", "(IIIIII)Z"⟩, 65) := ⟨⟨by decide +kernel, by decide +kernel⟩, List.mem_of_getElem? (i := 1196) (by decide +kernel), List.mem_of_getElem? (i := 1714) (by decide +kernel), List.mem_of_getElem? (i := 1715) (by decide +kernel)⟩
theorem lw_p105 : lw_okq (⟨"MarktongueModel", "takesLines", "(III)V"⟩, 65) := ⟨⟨by decide +kernel, by decide +kernel⟩, List.mem_of_getElem? (i := 1196) (by decide +kernel), List.mem_of_getElem? (i := 1718) (by decide +kernel), List.mem_of_getElem? (i := 1719) (by decide +kernel)⟩
def lw_privs_7 : List (MethodName × Nat) := [(⟨"MarktongueModel", "ahead", "(I)I"⟩, 65), (⟨"MarktongueModel", "givesLines", "(I)V"⟩, 65), (⟨"MarktongueModel", "stays", "(I)Z"⟩, 65), (⟨"MarktongueModel", "isGap", "(I)Z"⟩, 65), (⟨"MarktongueModel", "splits", "(II)V"⟩, 65), (⟨"MarktongueModel", "takesTogether", "(I)V"⟩, 65), (⟨"MarktongueModel", "isSameLine", "(II)Z"⟩, 65), (⟨"MarktongueModel", "takesPart", "(IIIIII)Z"⟩, 65), (⟨"MarktongueModel", "isSamePart", "(IIIIII)Z"⟩, 65), (⟨"MarktongueModel", "takesLines", "(III)V"⟩, 65)]
theorem lw_r7 : ∀ q ∈ lw_privs_7, lw_okq q := List.forall_mem_cons.mpr ⟨lw_p96, List.forall_mem_cons.mpr ⟨lw_p97, List.forall_mem_cons.mpr ⟨lw_p98, List.forall_mem_cons.mpr ⟨lw_p99, List.forall_mem_cons.mpr ⟨lw_p100, List.forall_mem_cons.mpr ⟨lw_p101, List.forall_mem_cons.mpr ⟨lw_p102, List.forall_mem_cons.mpr ⟨lw_p103, List.forall_mem_cons.mpr ⟨lw_p104, List.forall_mem_cons.mpr ⟨lw_p105, fun _ h => absurd h List.not_mem_nil⟩⟩⟩⟩⟩⟩⟩⟩⟩⟩
def lw_privs : List (MethodName × Nat) := lw_privs_1 ++ (lw_privs_2 ++ (lw_privs_3 ++ (lw_privs_4 ++ (lw_privs_5 ++ (lw_privs_6 ++ (lw_privs_7))))))
def lw_tbl : List Cond := k2_sels lw_privs ++ tables_1
theorem lw_privs_ok : ∀ q ∈ lw_privs, lw_okq q := by
  show ∀ q ∈ lw_privs_1 ++ (lw_privs_2 ++ (lw_privs_3 ++ (lw_privs_4 ++ (lw_privs_5 ++ (lw_privs_6 ++ (lw_privs_7)))))), lw_okq q
  exact List.forall_mem_append.mpr ⟨lw_r1, List.forall_mem_append.mpr ⟨lw_r2, List.forall_mem_append.mpr ⟨lw_r3, List.forall_mem_append.mpr ⟨lw_r4, List.forall_mem_append.mpr ⟨lw_r5, List.forall_mem_append.mpr ⟨lw_r6, lw_r7⟩⟩⟩⟩⟩⟩
-- ===== end of PART A; then your names; then what follows =====
end
section
/-! A pure machine of this project's own: ints are Int, references are places in a list of shapes; least predicate of what a run comes to. -/
/-- values: an int, a long, a reference (a place) or null, the script -/
abbrev qV : Type := Int ⊕ Int ⊕ Option Nat ⊕ Unit
/-- shapes: tag (0 int[], 1 boolean[], 2 long[], 3 + c an object of class c), length, references by slot -/
abbrev qS : Type := List (Nat × Nat × List (Option Nat))
/-- contents: cell, slot -/
abbrev qM : Type := Nat → Int → Int
/-- pc, locals, stack, shapes, contents, cells made, slots made -/
abbrev qC : Type := Nat × List (Option qV) × List qV × qS × qM × Nat × Nat
/-- a result: a value or none, or the number of an exception's class -/
abbrev qR : Type := Option qV ⊕ Nat
abbrev qQ : Type := qR → qS → qM → Prop
/-- an instruction of a method: length, instruction, a number, places -/
abbrev qI : Type := Nat × Instr × Int × List Nat
def q_a (a : List Nat) (k : Nat) : Nat := a.getD k 0
/-! Classes, methods and code entries of the claim, by program (wip/tools/gen.py) out of the tables and the listing. -/
/-- the classes: name, fields in the order of the slots (declaring class, name, descriptor, final) -/
def q_ft : List (String × List (String × String × String × Bool)) := [("Marktongue", [("Marktongue", "text", "LMarktongue$Row;", true), ("Marktongue", "firstSlot", "LMarktongue$Row;", true), ("Marktongue", "secondSlot", "LMarktongue$Row;", true), ("Marktongue", "lines", "LMarktongue$Lines;", true), ("Marktongue", "blocks", "LMarktongue$Blocks;", true), ("Marktongue", "blockReader", "LMarktongue$BlockReader;", true), ("Marktongue", "inlineReader", "LMarktongue$InlineReader;", true), ("Marktongue", "tree", "LMarktongue$Tree;", true), ("Marktongue", "printer", "LMarktongue$Printer;", true), ("Marktongue", "formatted", "LMarktongue$Row;", true), ("Marktongue", "merger", "LMarktongue$Merger;", true), ("Marktongue", "stale", "Z", false)]),
  ("MarktongueModel", [("MarktongueModel", "length", "I", false), ("MarktongueModel", "text", "[I", true), ("MarktongueModel", "slot", "[I", true), ("MarktongueModel", "slotLength", "[I", true), ("MarktongueModel", "blocks", "I", false), ("MarktongueModel", "kind", "[I", true), ("MarktongueModel", "parent", "[I", true), ("MarktongueModel", "isOpen", "[Z", true), ("MarktongueModel", "level", "[I", true), ("MarktongueModel", "isLoose", "[Z", true), ("MarktongueModel", "last", "[I", true), ("MarktongueModel", "many", "[I", true), ("MarktongueModel", "lineBlock", "[I", true), ("MarktongueModel", "lineFrom", "[I", true), ("MarktongueModel", "lineEnd", "[I", true), ("MarktongueModel", "lineStart", "[I", true), ("MarktongueModel", "isFenced", "[Z", true), ("MarktongueModel", "lines", "I", false), ("MarktongueModel", "owners", "[I", true), ("MarktongueModel", "name", "[I", true), ("MarktongueModel", "nodes", "I", false), ("MarktongueModel", "nodeKind", "[I", true), ("MarktongueModel", "nodeParent", "[I", true), ("MarktongueModel", "nodeChildren", "[I", true), ("MarktongueModel", "nodeTold", "[I", true), ("MarktongueModel", "nodeBlock", "[I", true), ("MarktongueModel", "nodeLeads", "[I", true), ("MarktongueModel", "nodeOf", "[I", true), ("MarktongueModel", "size", "I", false), ("MarktongueModel", "inline", "[I", true), ("MarktongueModel", "marks", "I", false), ("MarktongueModel", "mark", "[I", true), ("MarktongueModel", "markLink", "[I", true), ("MarktongueModel", "pieces", "I", false), ("MarktongueModel", "piece", "[I", true), ("MarktongueModel", "pieceFrom", "[I", true), ("MarktongueModel", "pieceTo", "[I", true), ("MarktongueModel", "opens", "[Z", true), ("MarktongueModel", "closes", "[Z", true), ("MarktongueModel", "left", "[I", true), ("MarktongueModel", "isDone", "[Z", true), ("MarktongueModel", "pairs", "I", false), ("MarktongueModel", "pairOpen", "[I", true), ("MarktongueModel", "pairClose", "[I", true), ("MarktongueModel", "pairKind", "[I", true), ("MarktongueModel", "given", "I", false), ("MarktongueModel", "gives", "[I", true), ("MarktongueModel", "thrown", "I", false), ("MarktongueModel", "wasBlank", "Z", false), ("MarktongueModel", "rest", "I", false), ("MarktongueModel", "stop", "I", false), ("MarktongueModel", "chars", "I", false), ("MarktongueModel", "pool", "[I", true), ("MarktongueModel", "nodeFrom", "[I", true), ("MarktongueModel", "current", "I", false), ("MarktongueModel", "isCut", "Z", false), ("MarktongueModel", "out", "[I", true), ("MarktongueModel", "all", "[I", true), ("MarktongueModel", "count", "[I", true), ("MarktongueModel", "begins", "[I", true), ("MarktongueModel", "ends", "[I", true), ("MarktongueModel", "common", "[I", true), ("MarktongueModel", "with", "[I", true), ("MarktongueModel", "laid", "I", false), ("MarktongueModel", "hasLine", "Z", false)]),
  ("Marktongue$BlockReader", [("Marktongue$BlockReader", "text", "LMarktongue$Row;", true), ("Marktongue$BlockReader", "lines", "LMarktongue$Lines;", true), ("Marktongue$BlockReader", "blocks", "LMarktongue$Blocks;", true), ("Marktongue$BlockReader", "rest", "I", false), ("Marktongue$BlockReader", "end", "I", false), ("Marktongue$BlockReader", "inner", "I", false), ("Marktongue$BlockReader", "stopped", "I", false), ("Marktongue$BlockReader", "isPutIn", "Z", false), ("Marktongue$BlockReader", "isBehindBlank", "Z", false)]),
  ("Marktongue$Blocks", [("Marktongue$Blocks", "kinds", "LMarktongue$Row;", true), ("Marktongue$Blocks", "parents", "LMarktongue$Row;", true), ("Marktongue$Blocks", "openChildren", "LMarktongue$Row;", true), ("Marktongue$Blocks", "filled", "LMarktongue$Row;", true), ("Marktongue$Blocks", "measures", "LMarktongue$Row;", true), ("Marktongue$Blocks", "markers", "LMarktongue$Row;", true), ("Marktongue$Blocks", "firstLines", "LMarktongue$Row;", true), ("Marktongue$Blocks", "lineCounts", "LMarktongue$Row;", true), ("Marktongue$Blocks", "contentBegins", "LMarktongue$Row;", true), ("Marktongue$Blocks", "lineOwners", "LMarktongue$Row;", true), ("Marktongue$Blocks", "owners", "LMarktongue$Row;", true), ("Marktongue$Blocks", "definitions", "LMarktongue$Names;", true), ("Marktongue$Blocks", "headings", "LMarktongue$Names;", true)]),
  ("Marktongue$InlineReader", [("Marktongue$InlineReader", "blocks", "LMarktongue$Blocks;", true), ("Marktongue$InlineReader", "written", "LMarktongue$Row;", true), ("Marktongue$InlineReader", "roles", "LMarktongue$Row;", true), ("Marktongue$InlineReader", "signs", "LMarktongue$Row;", true), ("Marktongue$InlineReader", "brackets", "LMarktongue$Row;", true), ("Marktongue$InlineReader", "runs", "LMarktongue$Runs;", true)]),
  ("Marktongue$Lines", [("Marktongue$Lines", "text", "LMarktongue$Row;", true), ("Marktongue$Lines", "begins", "LMarktongue$Row;", true), ("Marktongue$Lines", "ends", "LMarktongue$Row;", true)]),
  ("Marktongue$Merger", [("Marktongue$Merger", "base", "LMarktongue$Lines;", true), ("Marktongue$Merger", "now", "LMarktongue$Lines;", true), ("Marktongue$Merger", "other", "LMarktongue$Lines;", true), ("Marktongue$Merger", "pairing", "LMarktongue$Pairing;", true), ("Marktongue$Merger", "nowMates", "LMarktongue$Row;", true), ("Marktongue$Merger", "otherMates", "LMarktongue$Row;", true), ("Marktongue$Merger", "merged", "LMarktongue$Row;", true), ("Marktongue$Merger", "mergedLines", "I", false), ("Marktongue$Merger", "mergedSize", "I", false), ("Marktongue$Merger", "conflicts", "I", false), ("Marktongue$Merger", "baseFrom", "I", false), ("Marktongue$Merger", "nowFrom", "I", false), ("Marktongue$Merger", "otherFrom", "I", false)]),
  ("Marktongue$Names", [("Marktongue$Names", "codes", "[J", true), ("Marktongue$Names", "named", "LMarktongue$Row;", true)]),
  ("Marktongue$Pairing", [("Marktongue$Pairing", "leavings", "[J", true), ("Marktongue$Pairing", "many", "LMarktongue$Row;", true), ("Marktongue$Pairing", "manyBehind", "LMarktongue$Row;", true)]),
  ("Marktongue$Printer", [("Marktongue$Printer", "tree", "LMarktongue$Tree;", true), ("Marktongue$Printer", "marked", "LMarktongue$Row;", true), ("Marktongue$Printer", "plain", "LMarktongue$Row;", true)]),
  ("Marktongue$Row", [("Marktongue$Row", "cells", "[I", true), ("Marktongue$Row", "size", "I", false)]),
  ("Marktongue$Runs", [("Marktongue$Runs", "begins", "LMarktongue$Row;", true), ("Marktongue$Runs", "ends", "LMarktongue$Row;", true), ("Marktongue$Runs", "sizes", "LMarktongue$Row;", true), ("Marktongue$Runs", "opening", "LMarktongue$Row;", true), ("Marktongue$Runs", "closing", "LMarktongue$Row;", true)]),
  ("Marktongue$Tree", [("Marktongue$Tree", "kinds", "LMarktongue$Row;", true), ("Marktongue$Tree", "parents", "LMarktongue$Row;", true), ("Marktongue$Tree", "children", "LMarktongue$Row;", true), ("Marktongue$Tree", "measures", "LMarktongue$Row;", true), ("Marktongue$Tree", "signs", "LMarktongue$Row;", true), ("Marktongue$Tree", "contentBegins", "LMarktongue$Row;", true), ("Marktongue$Tree", "contentSizes", "LMarktongue$Row;", true), ("Marktongue$Tree", "content", "LMarktongue$Row;", true), ("Marktongue$Tree", "numbers", "LMarktongue$Row;", true)])]
/-- kinds of fields: 0 int, 1 a reference, 3 boolean -/
def q_kd : List (List Nat) := [[1, 1, 1, 1, 1, 1, 1, 1, 1, 1, 1, 3],
  [0, 1, 1, 1, 0, 1, 1, 1, 1, 1, 1, 1, 1, 1, 1, 1, 1, 0, 1, 1, 0, 1, 1, 1, 1, 1, 1, 1, 0, 1, 0, 1, 1, 0, 1, 1, 1, 1, 1, 1, 1, 0, 1, 1, 1, 0, 1, 0, 3, 0, 0, 0, 1, 1, 0, 3, 1, 1, 1, 1, 1, 1, 1, 0, 3],
  [1, 1, 1, 0, 0, 0, 0, 3, 3],
  [1, 1, 1, 1, 1, 1, 1, 1, 1, 1, 1, 1, 1],
  [1, 1, 1, 1, 1, 1],
  [1, 1, 1],
  [1, 1, 1, 1, 1, 1, 1, 0, 0, 0, 0, 0, 0],
  [1, 1],
  [1, 1, 1],
  [1, 1, 1],
  [1, 0],
  [1, 1, 1, 1, 1],
  [1, 1, 1, 1, 1, 1, 1, 1, 1]]
/-- places of the words that lay the fields out -/
def q_fw : List (List Nat) := [[448, 450, 452, 454, 456, 458, 460, 462, 464, 466, 468, 470],
  [1372, 1374, 1376, 1378, 1380, 1382, 1384, 1386, 1388, 1390, 1392, 1394, 1396, 1398, 1400, 1402, 1404, 1406, 1408, 1410, 1412, 1414, 1416, 1418, 1420, 1422, 1424, 1426, 1428, 1430, 1432, 1434, 1436, 1438, 1440, 1442, 1444, 1446, 1448, 1450, 1452, 1454, 1456, 1458, 1460, 1462, 1464, 1466, 1468, 1470, 1472, 1474, 1476, 1478, 1480, 1482, 1484, 1486, 1488, 1490, 1492, 1494, 1496, 1498, 1500],
  [246, 248, 250, 252, 254, 256, 258, 260, 262],
  [204, 206, 208, 210, 212, 214, 216, 218, 220, 222, 224, 226, 228],
  [303, 305, 307, 309, 311, 313],
  [160, 162, 164],
  [409, 411, 413, 415, 417, 419, 421, 423, 425, 427, 429, 431, 433],
  [185, 187],
  [387, 389, 391],
  [363, 365, 367],
  [143, 145],
  [286, 288, 290, 292, 294],
  [333, 335, 337, 339, 341, 343, 345, 347, 349]]
def q_ys : List MethodName := [⟨"MarktongueLaw", "law", "([I)Z"⟩,
  ⟨"MarktongueLaw", "put", "(LMarktongue;II[J)I"⟩,
  ⟨"MarktongueLaw", "take", "(LMarktongue;II[J)I"⟩,
  ⟨"MarktongueLaw", "character", "(LMarktongue;I[J)I"⟩,
  ⟨"MarktongueLaw", "node", "(LMarktongue;II[J)I"⟩,
  ⟨"MarktongueLaw", "child", "(LMarktongue;II[J)I"⟩,
  ⟨"MarktongueLaw", "owner", "(LMarktongue;I[J)I"⟩,
  ⟨"MarktongueLaw", "leads", "(LMarktongue;I[J)I"⟩,
  ⟨"MarktongueLaw", "count", "(LMarktongue;I[J)I"⟩,
  ⟨"MarktongueLaw", "print", "(LMarktongue;I[J)I"⟩,
  ⟨"MarktongueLaw", "printed", "(LMarktongue;II[J)I"⟩,
  ⟨"MarktongueLaw", "keep", "(LMarktongue;I[J)I"⟩,
  ⟨"MarktongueLaw", "load", "(LMarktongue;I[J)I"⟩,
  ⟨"Marktongue", "<init>", "()V"⟩,
  ⟨"Marktongue", "put", "(II)I"⟩,
  ⟨"Marktongue", "take", "(II)I"⟩,
  ⟨"Marktongue", "length", "()I"⟩,
  ⟨"Marktongue", "character", "(I)I"⟩,
  ⟨"Marktongue", "clear", "()I"⟩,
  ⟨"Marktongue", "nodes", "()I"⟩,
  ⟨"Marktongue", "node", "(II)I"⟩,
  ⟨"Marktongue", "child", "(II)I"⟩,
  ⟨"Marktongue", "owner", "(I)I"⟩,
  ⟨"Marktongue", "leads", "(I)I"⟩,
  ⟨"Marktongue", "count", "(I)I"⟩,
  ⟨"Marktongue", "print", "(I)I"⟩,
  ⟨"Marktongue", "printed", "(II)I"⟩,
  ⟨"Marktongue", "format", "()I"⟩,
  ⟨"Marktongue", "keep", "(I)I"⟩,
  ⟨"Marktongue", "load", "(I)I"⟩,
  ⟨"Marktongue", "merge", "()I"⟩,
  ⟨"Marktongue", "growTree", "()V"⟩,
  ⟨"Marktongue", "copyLines", "(I)V"⟩,
  ⟨"Marktongue", "copyFence", "(II)V"⟩,
  ⟨"Marktongue", "writeFormatted", "()V"⟩,
  ⟨"Marktongue", "writeLine", "(IIZ)V"⟩,
  ⟨"Marktongue", "isLetterOrDigit", "(I)Z"⟩,
  ⟨"Marktongue", "isSign", "(I)Z"⟩,
  ⟨"Marktongue", "isGap", "(I)Z"⟩,
  ⟨"Marktongue", "skipBlanks", "(LMarktongue$Row;II)I"⟩,
  ⟨"Marktongue", "cutBlanks", "(LMarktongue$Row;II)I"⟩,
  ⟨"Marktongue", "skipWord", "(LMarktongue$Row;II)I"⟩,
  ⟨"Marktongue", "nameCode", "(LMarktongue$Row;II)J"⟩,
  ⟨"Marktongue", "anchorCode", "(LMarktongue$Row;II)J"⟩,
  ⟨"MarktongueModel", "<init>", "()V"⟩,
  ⟨"MarktongueModel", "thrown", "()I"⟩,
  ⟨"MarktongueModel", "can", "(I)Z"⟩,
  ⟨"MarktongueModel", "isIn", "(III)Z"⟩,
  ⟨"MarktongueModel", "isLetter", "(I)Z"⟩,
  ⟨"MarktongueModel", "isSign", "(I)Z"⟩,
  ⟨"MarktongueModel", "put", "(II)I"⟩,
  ⟨"MarktongueModel", "takes", "(II)V"⟩,
  ⟨"MarktongueModel", "take", "(II)I"⟩,
  ⟨"MarktongueModel", "length", "()I"⟩,
  ⟨"MarktongueModel", "character", "(I)I"⟩,
  ⟨"MarktongueModel", "clear", "()I"⟩,
  ⟨"MarktongueModel", "endOf", "(I)I"⟩,
  ⟨"MarktongueModel", "isBlank", "(II)Z"⟩,
  ⟨"MarktongueModel", "isContainer", "(I)Z"⟩,
  ⟨"MarktongueModel", "closesIn", "(I)V"⟩,
  ⟨"MarktongueModel", "puts", "(III)I"⟩,
  ⟨"MarktongueModel", "owns", "(III)V"⟩,
  ⟨"MarktongueModel", "goesOn", "(I)Z"⟩,
  ⟨"MarktongueModel", "marker", "()I"⟩,
  ⟨"MarktongueModel", "putsContainers", "(I)I"⟩,
  ⟨"MarktongueModel", "trimmed", "(II)I"⟩,
  ⟨"MarktongueModel", "isFence", "()Z"⟩,
  ⟨"MarktongueModel", "headingLevel", "()I"⟩,
  ⟨"MarktongueModel", "letters", "(II)I"⟩,
  ⟨"MarktongueModel", "isDefinition", "()Z"⟩,
  ⟨"MarktongueModel", "names", "(III)V"⟩,
  ⟨"MarktongueModel", "openParagraph", "()I"⟩,
  ⟨"MarktongueModel", "lays", "(I)V"⟩,
  ⟨"MarktongueModel", "closes", "(I)V"⟩,
  ⟨"MarktongueModel", "looksAt", "(I)V"⟩,
  ⟨"MarktongueModel", "closesBehind", "(II)V"⟩,
  ⟨"MarktongueModel", "blocks", "()V"⟩,
  ⟨"MarktongueModel", "laysInline", "(I)V"⟩,
  ⟨"MarktongueModel", "in", "(I)I"⟩,
  ⟨"MarktongueModel", "isEdge", "(I)Z"⟩,
  ⟨"MarktongueModel", "run", "(I)I"⟩,
  ⟨"MarktongueModel", "adds", "(III)V"⟩,
  ⟨"MarktongueModel", "addsRun", "(I)V"⟩,
  ⟨"MarktongueModel", "nextRun", "(II)I"⟩,
  ⟨"MarktongueModel", "isSameName", "(III)Z"⟩,
  ⟨"MarktongueModel", "meant", "(II)I"⟩,
  ⟨"MarktongueModel", "nameBehind", "(I)I"⟩,
  ⟨"MarktongueModel", "lastOpen", "(I)I"⟩,
  ⟨"MarktongueModel", "closesLink", "(I)I"⟩,
  ⟨"MarktongueModel", "fit", "(II)Z"⟩,
  ⟨"MarktongueModel", "nearest", "(II)I"⟩,
  ⟨"MarktongueModel", "pairsUp", "(II)V"⟩,
  ⟨"MarktongueModel", "cuts", "(I)V"⟩,
  ⟨"MarktongueModel", "cutsCode", "(I)I"⟩,
  ⟨"MarktongueModel", "addsNode", "(II)I"⟩,
  ⟨"MarktongueModel", "addsCharacter", "(I)V"⟩,
  ⟨"MarktongueModel", "enters", "(I)V"⟩,
  ⟨"MarktongueModel", "leaves", "()V"⟩,
  ⟨"MarktongueModel", "treesInline", "(I)V"⟩,
  ⟨"MarktongueModel", "treesRun", "(I)V"⟩,
  ⟨"MarktongueModel", "trees", "()V"⟩,
  ⟨"MarktongueModel", "nodes", "()I"⟩,
  ⟨"MarktongueModel", "node", "(II)I"⟩,
  ⟨"MarktongueModel", "child", "(II)I"⟩,
  ⟨"MarktongueModel", "owner", "(I)I"⟩,
  ⟨"MarktongueModel", "leads", "(I)I"⟩,
  ⟨"MarktongueModel", "count", "(I)I"⟩,
  ⟨"MarktongueModel", "gives", "(I)V"⟩,
  ⟨"MarktongueModel", "ahead", "(I)I"⟩,
  ⟨"MarktongueModel", "givesLines", "(I)V"⟩,
  ⟨"MarktongueModel", "givesBeginning", "(II)V"⟩,
  ⟨"MarktongueModel", "givesEnd", "(II)V"⟩,
  ⟨"MarktongueModel", "prints", "(I)V"⟩,
  ⟨"MarktongueModel", "print", "(I)I"⟩,
  ⟨"MarktongueModel", "printed", "(II)I"⟩,
  ⟨"MarktongueModel", "isGap", "(I)Z"⟩,
  ⟨"MarktongueModel", "stays", "(I)Z"⟩,
  ⟨"MarktongueModel", "format", "()I"⟩,
  ⟨"MarktongueModel", "keep", "(I)I"⟩,
  ⟨"MarktongueModel", "load", "(I)I"⟩,
  ⟨"MarktongueModel", "splits", "(II)V"⟩,
  ⟨"MarktongueModel", "isSameLine", "(II)Z"⟩,
  ⟨"MarktongueModel", "takesTogether", "(I)V"⟩,
  ⟨"MarktongueModel", "isSamePart", "(IIIIII)Z"⟩,
  ⟨"MarktongueModel", "takesLines", "(III)V"⟩,
  ⟨"MarktongueModel", "takesPart", "(IIIIII)Z"⟩,
  ⟨"MarktongueModel", "merge", "()I"⟩,
  ⟨"Marktongue$BlockReader", "<init>", "(LMarktongue$Row;LMarktongue$Lines;LMarktongue$Blocks;)V"⟩,
  ⟨"Marktongue$BlockReader", "start", "()V"⟩,
  ⟨"Marktongue$BlockReader", "read", "(I)V"⟩,
  ⟨"Marktongue$BlockReader", "goOn", "()V"⟩,
  ⟨"Marktongue$BlockReader", "goesOn", "(I)Z"⟩,
  ⟨"Marktongue$BlockReader", "readInFence", "(I)I"⟩,
  ⟨"Marktongue$BlockReader", "putContainersIn", "()V"⟩,
  ⟨"Marktongue$BlockReader", "markerSize", "()I"⟩,
  ⟨"Marktongue$BlockReader", "putItem", "(I)I"⟩,
  ⟨"Marktongue$BlockReader", "readBlank", "()I"⟩,
  ⟨"Marktongue$BlockReader", "readLeaf", "(I)I"⟩,
  ⟨"Marktongue$BlockReader", "putHeading", "(II)I"⟩,
  ⟨"Marktongue$BlockReader", "putLeaf", "(II)I"⟩,
  ⟨"Marktongue$BlockReader", "headingLevel", "()I"⟩,
  ⟨"Marktongue$BlockReader", "isFenceMark", "()Z"⟩,
  ⟨"Marktongue$BlockReader", "definedName", "()J"⟩,
  ⟨"Marktongue$BlockReader", "look", "(I)I"⟩,
  ⟨"Marktongue$BlockReader", "takeOff", "(II)V"⟩,
  ⟨"Marktongue$BlockReader", "ownRest", "(II)V"⟩,
  ⟨"Marktongue$Blocks", "<init>", "()V"⟩,
  ⟨"Marktongue$Blocks", "start", "(II)V"⟩,
  ⟨"Marktongue$Blocks", "add", "(IIZ)I"⟩,
  ⟨"Marktongue$Blocks", "close", "(I)V"⟩,
  ⟨"Marktongue$Blocks", "openIn", "(I)I"⟩,
  ⟨"Marktongue$Blocks", "innermostOpen", "()I"⟩,
  ⟨"Marktongue$Blocks", "size", "()I"⟩,
  ⟨"Marktongue$Blocks", "kindOf", "(I)I"⟩,
  ⟨"Marktongue$Blocks", "parentOf", "(I)I"⟩,
  ⟨"Marktongue$Blocks", "isContainer", "(I)Z"⟩,
  ⟨"Marktongue$Blocks", "measureOf", "(I)I"⟩,
  ⟨"Marktongue$Blocks", "measure", "(II)V"⟩,
  ⟨"Marktongue$Blocks", "markerOf", "(I)I"⟩,
  ⟨"Marktongue$Blocks", "mark", "(II)V"⟩,
  ⟨"Marktongue$Blocks", "firstLineOf", "(I)I"⟩,
  ⟨"Marktongue$Blocks", "linesOf", "(I)I"⟩,
  ⟨"Marktongue$Blocks", "beginAt", "(II)V"⟩,
  ⟨"Marktongue$Blocks", "addLine", "(I)V"⟩,
  ⟨"Marktongue$Blocks", "contentBegin", "(I)I"⟩,
  ⟨"Marktongue$Blocks", "beginContent", "(II)V"⟩,
  ⟨"Marktongue$Blocks", "ownerOfLine", "(I)I"⟩,
  ⟨"Marktongue$Blocks", "ownLine", "(II)V"⟩,
  ⟨"Marktongue$Blocks", "ownerAt", "(I)I"⟩,
  ⟨"Marktongue$Blocks", "own", "(II)V"⟩,
  ⟨"Marktongue$Blocks", "define", "(JI)V"⟩,
  ⟨"Marktongue$Blocks", "anchor", "(JI)V"⟩,
  ⟨"Marktongue$Blocks", "linkSign", "(J)I"⟩,
  ⟨"Marktongue$Blocks", "linkedBlock", "(I)I"⟩,
  ⟨"Marktongue$InlineReader", "<init>", "(LMarktongue$Blocks;)V"⟩,
  ⟨"Marktongue$InlineReader", "start", "()V"⟩,
  ⟨"Marktongue$InlineReader", "addCharacter", "(I)V"⟩,
  ⟨"Marktongue$InlineReader", "size", "()I"⟩,
  ⟨"Marktongue$InlineReader", "characterAt", "(I)I"⟩,
  ⟨"Marktongue$InlineReader", "roleAt", "(I)I"⟩,
  ⟨"Marktongue$InlineReader", "signAt", "(I)I"⟩,
  ⟨"Marktongue$InlineReader", "read", "()V"⟩,
  ⟨"Marktongue$InlineReader", "passEscape", "(I)I"⟩,
  ⟨"Marktongue$InlineReader", "passTicks", "(I)I"⟩,
  ⟨"Marktongue$InlineReader", "findTicks", "(II)I"⟩,
  ⟨"Marktongue$InlineReader", "runEnd", "(I)I"⟩,
  ⟨"Marktongue$InlineReader", "pass", "(II)V"⟩,
  ⟨"Marktongue$InlineReader", "passBracket", "(I)I"⟩,
  ⟨"Marktongue$InlineReader", "referenceEnd", "(I)I"⟩,
  ⟨"Marktongue$InlineReader", "passStars", "(I)I"⟩,
  ⟨"Marktongue$Lines", "<init>", "(LMarktongue$Row;)V"⟩,
  ⟨"Marktongue$Lines", "split", "()V"⟩,
  ⟨"Marktongue$Lines", "many", "()I"⟩,
  ⟨"Marktongue$Lines", "begin", "(I)I"⟩,
  ⟨"Marktongue$Lines", "end", "(I)I"⟩,
  ⟨"Marktongue$Lines", "characterAt", "(I)I"⟩,
  ⟨"Marktongue$Lines", "isSame", "(ILMarktongue$Lines;I)Z"⟩,
  ⟨"Marktongue$Merger", "<init>", "(LMarktongue$Lines;LMarktongue$Lines;LMarktongue$Lines;)V"⟩,
  ⟨"Marktongue$Merger", "merged", "()LMarktongue$Row;"⟩,
  ⟨"Marktongue$Merger", "mergedSize", "()I"⟩,
  ⟨"Marktongue$Merger", "conflicts", "()I"⟩,
  ⟨"Marktongue$Merger", "run", "()V"⟩,
  ⟨"Marktongue$Merger", "startBehind", "(III)V"⟩,
  ⟨"Marktongue$Merger", "settle", "(III)V"⟩,
  ⟨"Marktongue$Merger", "areSame", "(LMarktongue$Lines;IILMarktongue$Lines;II)Z"⟩,
  ⟨"Marktongue$Merger", "write", "(LMarktongue$Lines;II)V"⟩,
  ⟨"Marktongue$Names", "<init>", "()V"⟩,
  ⟨"Marktongue$Names", "empty", "()V"⟩,
  ⟨"Marktongue$Names", "add", "(JI)V"⟩,
  ⟨"Marktongue$Names", "find", "(J)I"⟩,
  ⟨"Marktongue$Names", "blockAt", "(I)I"⟩,
  ⟨"Marktongue$Pairing", "<init>", "()V"⟩,
  ⟨"Marktongue$Pairing", "pair", "(LMarktongue$Lines;LMarktongue$Lines;LMarktongue$Row;)V"⟩,
  ⟨"Marktongue$Pairing", "fillLeavings", "(LMarktongue$Lines;LMarktongue$Lines;)V"⟩,
  ⟨"Marktongue$Pairing", "isLeftOut", "(II)Z"⟩,
  ⟨"Marktongue$Pairing", "leaveOut", "(IIZ)V"⟩,
  ⟨"Marktongue$Printer", "<init>", "(LMarktongue$Tree;)V"⟩,
  ⟨"Marktongue$Printer", "of", "(I)LMarktongue$Row;"⟩,
  ⟨"Marktongue$Printer", "write", "()V"⟩,
  ⟨"Marktongue$Printer", "begin", "(I)V"⟩,
  ⟨"Marktongue$Printer", "endUpTo", "(II)V"⟩,
  ⟨"Marktongue$Printer", "isMarked", "(I)Z"⟩,
  ⟨"Marktongue$Row", "<init>", "(I)V"⟩,
  ⟨"Marktongue$Row", "size", "()I"⟩,
  ⟨"Marktongue$Row", "at", "(I)I"⟩,
  ⟨"Marktongue$Row", "set", "(II)V"⟩,
  ⟨"Marktongue$Row", "add", "(I)V"⟩,
  ⟨"Marktongue$Row", "empty", "()V"⟩,
  ⟨"Marktongue$Row", "cut", "(I)V"⟩,
  ⟨"Marktongue$Row", "fill", "(II)V"⟩,
  ⟨"Marktongue$Row", "insert", "(II)V"⟩,
  ⟨"Marktongue$Row", "remove", "(II)V"⟩,
  ⟨"Marktongue$Row", "become", "(LMarktongue$Row;)V"⟩,
  ⟨"Marktongue$Runs", "<init>", "()V"⟩,
  ⟨"Marktongue$Runs", "empty", "()V"⟩,
  ⟨"Marktongue$Runs", "cut", "(I)V"⟩,
  ⟨"Marktongue$Runs", "add", "(IIII)V"⟩,
  ⟨"Marktongue$Runs", "isFlank", "(II)Z"⟩,
  ⟨"Marktongue$Runs", "firstBehind", "(I)I"⟩,
  ⟨"Marktongue$Runs", "resolve", "(ILMarktongue$Row;)V"⟩,
  ⟨"Marktongue$Runs", "left", "(I)I"⟩,
  ⟨"Marktongue$Runs", "openerOf", "(II)I"⟩,
  ⟨"Marktongue$Runs", "breaksRule", "(II)Z"⟩,
  ⟨"Marktongue$Runs", "pair", "(IILMarktongue$Row;)V"⟩,
  ⟨"Marktongue$Tree", "<init>", "()V"⟩,
  ⟨"Marktongue$Tree", "start", "()V"⟩,
  ⟨"Marktongue$Tree", "addBlock", "(LMarktongue$Blocks;I)I"⟩,
  ⟨"Marktongue$Tree", "add", "(III)I"⟩,
  ⟨"Marktongue$Tree", "addContent", "(II)V"⟩,
  ⟨"Marktongue$Tree", "addInline", "(LMarktongue$InlineReader;I)V"⟩,
  ⟨"Marktongue$Tree", "size", "()I"⟩,
  ⟨"Marktongue$Tree", "kindOf", "(I)I"⟩,
  ⟨"Marktongue$Tree", "parentOf", "(I)I"⟩,
  ⟨"Marktongue$Tree", "childrenOf", "(I)I"⟩,
  ⟨"Marktongue$Tree", "measureOf", "(I)I"⟩,
  ⟨"Marktongue$Tree", "signOf", "(I)I"⟩,
  ⟨"Marktongue$Tree", "numberOf", "(I)I"⟩,
  ⟨"Marktongue$Tree", "childOf", "(II)I"⟩,
  ⟨"Marktongue$Tree", "manyOf", "(I)I"⟩,
  ⟨"Marktongue$Tree", "contentSizeOf", "(I)I"⟩,
  ⟨"Marktongue$Tree", "contentOf", "(II)I"⟩]
def q_y (M : Nat) : MethodName := q_ys.getD M ⟨"", "", ""⟩
def q_bs : List ByteArray := [code, method_3_code, method_4_code, method_5_code, method_6_code, method_7_code, method_8_code, method_9_code, method_10_code, method_11_code, method_12_code, method_13_code, method_14_code, prog_1_method_1_code, prog_1_method_2_code, prog_1_method_3_code, prog_1_method_4_code, prog_1_method_5_code, prog_1_method_6_code, prog_1_method_7_code, prog_1_method_8_code, prog_1_method_9_code, prog_1_method_10_code, prog_1_method_11_code, prog_1_method_12_code, prog_1_method_13_code, prog_1_method_14_code, prog_1_method_15_code, prog_1_method_16_code, prog_1_method_17_code, prog_1_method_18_code, prog_1_method_19_code, prog_1_method_20_code, prog_1_method_21_code, prog_1_method_22_code, prog_1_method_23_code, prog_1_method_24_code, prog_1_method_25_code, prog_1_method_26_code, prog_1_method_27_code, prog_1_method_28_code, prog_1_method_29_code, prog_1_method_30_code, prog_1_method_31_code, prog_14_method_1_code, prog_14_method_2_code, prog_14_method_3_code, prog_14_method_4_code, prog_14_method_5_code, prog_14_method_6_code, prog_14_method_7_code, prog_14_method_8_code, prog_14_method_9_code, prog_14_method_10_code, prog_14_method_11_code, prog_14_method_12_code, prog_14_method_14_code, prog_14_method_15_code, prog_14_method_16_code, prog_14_method_17_code, prog_14_method_18_code, prog_14_method_19_code, prog_14_method_20_code, prog_14_method_21_code, prog_14_method_22_code, prog_14_method_23_code, prog_14_method_24_code, prog_14_method_25_code, prog_14_method_26_code, prog_14_method_27_code, prog_14_method_28_code, prog_14_method_29_code, prog_14_method_30_code, prog_14_method_31_code, prog_14_method_32_code, prog_14_method_33_code, prog_14_method_34_code, prog_14_method_35_code, prog_14_method_36_code, prog_14_method_37_code, prog_14_method_38_code, prog_14_method_39_code, prog_14_method_40_code, prog_14_method_41_code, prog_14_method_42_code, prog_14_method_43_code, prog_14_method_44_code, prog_14_method_45_code, prog_14_method_46_code, prog_14_method_47_code, prog_14_method_48_code, prog_14_method_49_code, prog_14_method_50_code, prog_14_method_51_code, prog_14_method_52_code, prog_14_method_53_code, prog_14_method_54_code, prog_14_method_55_code, prog_14_method_56_code, prog_14_method_57_code, prog_14_method_58_code, prog_14_method_59_code, prog_14_method_60_code, prog_14_method_61_code, prog_14_method_62_code, prog_14_method_63_code, prog_14_method_64_code, prog_14_method_65_code, prog_14_method_66_code, prog_14_method_67_code, prog_14_method_68_code, prog_14_method_69_code, prog_14_method_70_code, prog_14_method_71_code, prog_14_method_72_code, prog_14_method_73_code, prog_14_method_74_code, prog_14_method_75_code, prog_14_method_76_code, prog_14_method_77_code, prog_14_method_78_code, prog_14_method_79_code, prog_14_method_80_code, prog_14_method_81_code, prog_14_method_82_code, prog_14_method_83_code, prog_14_method_84_code, prog_2_method_1_code, prog_2_method_2_code, prog_2_method_3_code, prog_2_method_4_code, prog_2_method_5_code, prog_2_method_6_code, prog_2_method_7_code, prog_2_method_8_code, prog_2_method_9_code, prog_2_method_10_code, prog_2_method_11_code, prog_2_method_12_code, prog_2_method_13_code, prog_2_method_14_code, prog_2_method_15_code, prog_2_method_16_code, prog_2_method_17_code, prog_2_method_18_code, prog_2_method_19_code, prog_3_method_1_code, prog_3_method_2_code, prog_3_method_3_code, prog_3_method_4_code, prog_3_method_5_code, prog_3_method_6_code, prog_3_method_7_code, prog_3_method_8_code, prog_3_method_9_code, prog_3_method_10_code, prog_3_method_11_code, prog_3_method_12_code, prog_3_method_13_code, prog_3_method_14_code, prog_3_method_15_code, prog_3_method_16_code, prog_3_method_17_code, prog_3_method_18_code, prog_3_method_19_code, prog_3_method_20_code, prog_3_method_21_code, prog_3_method_22_code, prog_3_method_23_code, prog_3_method_24_code, prog_3_method_25_code, prog_3_method_26_code, prog_3_method_27_code, prog_3_method_28_code, prog_4_method_1_code, prog_4_method_2_code, prog_4_method_3_code, prog_4_method_4_code, prog_4_method_5_code, prog_4_method_6_code, prog_4_method_7_code, prog_4_method_8_code, prog_4_method_9_code, prog_4_method_10_code, prog_4_method_11_code, prog_4_method_12_code, prog_4_method_13_code, prog_4_method_14_code, prog_4_method_15_code, prog_4_method_16_code, prog_5_method_1_code, prog_5_method_2_code, prog_5_method_3_code, prog_5_method_4_code, prog_5_method_5_code, prog_5_method_6_code, prog_5_method_7_code, prog_6_method_1_code, prog_6_method_2_code, prog_6_method_3_code, prog_6_method_4_code, prog_6_method_5_code, prog_6_method_6_code, prog_6_method_7_code, prog_6_method_8_code, prog_6_method_9_code, prog_7_method_1_code, prog_7_method_2_code, prog_7_method_3_code, prog_7_method_4_code, prog_7_method_5_code, prog_8_method_1_code, prog_8_method_2_code, prog_8_method_3_code, prog_8_method_4_code, prog_8_method_5_code, prog_9_method_1_code, prog_9_method_2_code, prog_9_method_3_code, prog_9_method_4_code, prog_9_method_5_code, prog_9_method_6_code, prog_10_method_1_code, prog_10_method_2_code, prog_10_method_3_code, prog_10_method_4_code, prog_10_method_5_code, prog_10_method_6_code, prog_10_method_7_code, prog_10_method_8_code, prog_10_method_9_code, prog_10_method_10_code, prog_10_method_11_code, prog_11_method_1_code, prog_11_method_2_code, prog_11_method_3_code, prog_11_method_4_code, prog_11_method_5_code, prog_11_method_6_code, prog_11_method_7_code, prog_11_method_8_code, prog_11_method_9_code, prog_11_method_10_code, prog_11_method_11_code, prog_12_method_1_code, prog_12_method_2_code, prog_12_method_3_code, prog_12_method_4_code, prog_12_method_5_code, prog_12_method_6_code, prog_12_method_7_code, prog_12_method_8_code, prog_12_method_9_code, prog_12_method_10_code, prog_12_method_11_code, prog_12_method_12_code, prog_12_method_13_code, prog_12_method_14_code, prog_12_method_15_code, prog_12_method_16_code, prog_12_method_17_code]
def q_b (M : Nat) : ByteArray := q_bs.getD M ⟨#[]⟩
def q_nLs : List Nat := [7, 5, 5, 4, 5, 5, 4, 4, 4, 4, 5, 4, 4, 1, 3, 3, 1, 2, 2, 1, 3, 3, 2, 2, 2, 2, 4, 2, 4, 2, 1, 4, 7, 6, 7, 5, 1, 1, 1, 4, 4, 4, 6, 7, 1, 1, 2, 3, 1, 1, 5, 4, 3, 1, 2, 2, 3, 5, 1, 3, 5, 5, 4, 4, 6, 4, 1, 2, 4, 4, 6, 2, 2, 2, 11, 4, 2, 6, 2, 1, 3, 4, 5, 4, 6, 6, 3, 4, 6, 4, 5, 8, 4, 5, 3, 4, 2, 1, 5, 3, 3, 1, 3, 5, 2, 2, 4, 2, 4, 4, 5, 4, 4, 2, 3, 2, 4, 7, 4, 3, 5, 5, 7, 9, 6, 8, 9, 4, 1, 5, 3, 6, 2, 4, 3, 5, 2, 7, 4, 4, 3, 1, 6, 2, 4, 4, 1, 3, 6, 2, 2, 3, 1, 2, 2, 3, 2, 3, 2, 3, 2, 2, 3, 2, 2, 3, 2, 3, 2, 3, 4, 4, 5, 2, 2, 1, 2, 1, 2, 2, 2, 3, 2, 5, 6, 3, 4, 8, 4, 3, 2, 2, 1, 2, 2, 2, 8, 4, 1, 1, 1, 4, 4, 4, 8, 6, 1, 1, 5, 4, 2, 1, 7, 8, 4, 7, 2, 2, 3, 3, 5, 2, 2, 1, 2, 3, 2, 1, 2, 4, 4, 4, 3, 1, 1, 2, 5, 3, 3, 6, 2, 4, 6, 8, 1, 1, 7, 5, 3, 7, 1, 2, 2, 2, 2, 2, 2, 5, 4, 2, 3]
def q_nL (M : Nat) : Nat := q_nLs.getD M 0
def q_rts : List (Option FieldType) := [(some .boolean), (some .int), (some .int), (some .int), (some .int), (some .int), (some .int), (some .int), (some .int), (some .int), (some .int), (some .int), (some .int), none, (some .int), (some .int), (some .int), (some .int), (some .int), (some .int), (some .int), (some .int), (some .int), (some .int), (some .int), (some .int), (some .int), (some .int), (some .int), (some .int), (some .int), none, none, none, none, none, (some .boolean), (some .boolean), (some .boolean), (some .int), (some .int), (some .int), (some .long), (some .long), none, (some .int), (some .boolean), (some .boolean), (some .boolean), (some .boolean), (some .int), none, (some .int), (some .int), (some .int), (some .int), (some .int), (some .boolean), (some .boolean), none, (some .int), none, (some .boolean), (some .int), (some .int), (some .int), (some .boolean), (some .int), (some .int), (some .boolean), none, (some .int), none, none, none, none, none, none, (some .int), (some .boolean), (some .int), none, none, (some .int), (some .boolean), (some .int), (some .int), (some .int), (some .int), (some .boolean), (some .int), none, none, (some .int), (some .int), none, none, none, none, none, none, (some .int), (some .int), (some .int), (some .int), (some .int), (some .int), none, (some .int), none, none, none, none, (some .int), (some .int), (some .boolean), (some .boolean), (some .int), (some .int), (some .int), none, (some .boolean), none, (some .boolean), none, (some .boolean), (some .int), none, none, none, none, (some .boolean), (some .int), none, (some .int), (some .int), (some .int), (some .int), (some .int), (some .int), (some .int), (some .boolean), (some .long), (some .int), none, none, none, none, (some .int), none, (some .int), (some .int), (some .int), (some .int), (some .int), (some .boolean), (some .int), none, (some .int), none, (some .int), (some .int), none, none, (some .int), none, (some .int), none, (some .int), none, none, none, (some .int), (some .int), none, none, none, (some .int), (some .int), (some .int), (some .int), none, (some .int), (some .int), (some .int), (some .int), none, (some .int), (some .int), (some .int), none, none, (some .int), (some .int), (some .int), (some .int), (some .boolean), none, (some (.object "Marktongue$Row")), (some .int), (some .int), none, none, none, (some .boolean), none, none, none, none, (some .int), (some .int), none, none, none, (some .boolean), none, none, (some (.object "Marktongue$Row")), none, none, none, (some .boolean), none, (some .int), (some .int), none, none, none, none, none, none, none, none, none, none, none, none, (some .boolean), (some .int), none, (some .int), (some .int), (some .boolean), none, none, none, (some .int), (some .int), none, none, (some .int), (some .int), (some .int), (some .int), (some .int), (some .int), (some .int), (some .int), (some .int), (some .int), (some .int)]
def q_rt (M : Nat) : Option FieldType := q_rts.getD M none
/-- 0 a plain method, 1 one with handlers, 2 the law itself -/
def q_mks : List Nat := [2, 1, 1, 1, 1, 1, 1, 1, 1, 1, 1, 1, 1, 0, 0, 0, 0, 0, 0, 0, 0, 0, 0, 0, 0, 0, 0, 0, 0, 0, 0, 0, 0, 0, 0, 0, 0, 0, 0, 0, 0, 0, 0, 0, 0, 0, 0, 0, 0, 0, 0, 0, 0, 0, 0, 0, 0, 0, 0, 0, 0, 0, 0, 0, 0, 0, 0, 0, 0, 0, 0, 0, 0, 0, 0, 0, 0, 0, 0, 0, 0, 0, 0, 0, 0, 0, 0, 0, 0, 0, 0, 0, 0, 0, 0, 0, 0, 0, 0, 0, 0, 0, 0, 0, 0, 0, 0, 0, 0, 0, 0, 0, 0, 0, 0, 0, 0, 0, 0, 0, 0, 0, 0, 0, 0, 0, 0, 0, 0, 0, 0, 0, 0, 0, 0, 0, 0, 0, 0, 0, 0, 0, 0, 0, 0, 0, 0, 0, 0, 0, 0, 0, 0, 0, 0, 0, 0, 0, 0, 0, 0, 0, 0, 0, 0, 0, 0, 0, 0, 0, 0, 0, 0, 0, 0, 0, 0, 0, 0, 0, 0, 0, 0, 0, 0, 0, 0, 0, 0, 0, 0, 0, 0, 0, 0, 0, 0, 0, 0, 0, 0, 0, 0, 0, 0, 0, 0, 0, 0, 0, 0, 0, 0, 0, 0, 0, 0, 0, 0, 0, 0, 0, 0, 0, 0, 0, 0, 0, 0, 0, 0, 0, 0, 0, 0, 0, 0, 0, 0, 0, 0, 0, 0, 0, 0, 0, 0, 0, 0, 0, 0, 0, 0, 0, 0, 0, 0, 0, 0, 0, 0]
def q_mk (M : Nat) : Nat := q_mks.getD M 0
/-- places of the code words -/
def q_cis : List Nat := [0, 1058, 1173, 1186, 1193, 1212, 1224, 1239, 1257, 1269, 1281, 1288, 1296, 131, 1065, 1177, 476, 1190, 484, 492, 1197, 1216, 1228, 1243, 1261, 1273, 1285, 955, 1292, 1300, 979, 496, 749, 907, 959, 968, 677, 801, 627, 595, 788, 701, 704, 674, 1305, 1507, 1518, 1514, 1624, 1655, 1511, 1526, 1522, 1530, 1534, 1538, 1558, 1569, 1561, 1605, 1601, 1573, 1565, 1597, 1593, 1585, 1581, 1609, 1632, 1628, 1621, 1577, 1589, 1617, 1554, 1613, 1550, 1648, 1652, 1710, 1667, 1659, 1707, 1671, 1691, 1687, 1683, 1679, 1675, 1703, 1699, 1695, 1644, 1663, 1636, 1714, 1726, 1722, 1640, 1718, 1546, 1542, 1730, 1734, 1738, 1742, 1746, 1762, 1770, 1774, 1766, 1758, 1754, 1750, 1778, 1790, 1786, 1782, 1794, 1798, 1806, 1814, 1810, 1822, 1826, 1818, 1802, 235, 514, 551, 563, 575, 604, 620, 624, 631, 647, 651, 659, 663, 655, 608, 698, 583, 588, 713, 171, 523, 539, 612, 567, 693, 726, 579, 736, 571, 600, 643, 635, 639, 770, 774, 667, 616, 783, 671, 964, 717, 1232, 592, 709, 683, 833, 1249, 269, 753, 778, 887, 895, 891, 903, 792, 798, 806, 814, 810, 818, 822, 827, 868, 153, 500, 519, 555, 559, 1010, 1004, 374, 1055, 1051, 1047, 983, 1024, 1030, 1034, 1039, 179, 534, 687, 837, 1253, 380, 988, 992, 1019, 999, 356, 1278, 912, 938, 925, 929, 139, 480, 510, 544, 505, 488, 766, 528, 1169, 1182, 973, 277, 758, 762, 872, 877, 841, 847, 851, 855, 859, 863, 320, 721, 730, 741, 899, 883, 917, 933, 921, 1204, 1208, 942, 1236, 1221, 1266, 946, 950]
def q_ci (M : Nat) : Nat := q_cis.getD M 0
/-- frames, locals, cells, slots under a call -/
def q_rms : List (Nat × Nat × Nat × Nat) := [(12, 464, 601024, 7293034), (9, 152, 1, 6), (9, 152, 1, 6), (9, 151, 1, 6), (9, 189, 1, 6), (9, 189, 1, 6), (9, 188, 1, 6), (9, 188, 1, 6), (9, 188, 1, 6), (9, 188, 1, 6), (9, 190, 1, 6), (9, 153, 1, 6), (9, 151, 1, 6), (4, 94, 112, 94112), (8, 130, 1, 6), (8, 130, 1, 6), (1, 20, 0, 0), (8, 130, 1, 6), (1, 20, 0, 0), (7, 167, 0, 0), (8, 167, 1, 6), (8, 167, 1, 6), (8, 167, 1, 6), (8, 167, 1, 6), (8, 167, 1, 6), (8, 167, 1, 6), (8, 167, 1, 6), (7, 167, 0, 0), (8, 130, 1, 6), (8, 130, 1, 6), (6, 145, 0, 0), (6, 144, 0, 0), (4, 82, 0, 0), (2, 44, 0, 0), (2, 45, 0, 0), (1, 21, 0, 0), (0, 0, 0, 0), (1, 20, 0, 0), (0, 0, 0, 0), (1, 21, 0, 0), (1, 21, 0, 0), (1, 21, 0, 0), (2, 44, 0, 0), (1, 21, 0, 0), (1, 30, 47, 87033), (0, 0, 0, 0), (0, 0, 0, 0), (0, 0, 0, 0), (1, 22, 0, 0), (2, 42, 0, 0), (1, 22, 0, 0), (0, 0, 0, 0), (1, 23, 0, 0), (0, 0, 0, 0), (1, 22, 0, 0), (0, 0, 0, 0), (0, 0, 0, 0), (0, 0, 0, 0), (0, 0, 0, 0), (0, 0, 0, 0), (1, 22, 0, 0), (0, 0, 0, 0), (1, 24, 0, 0), (1, 22, 0, 0), (2, 46, 0, 0), (0, 0, 0, 0), (1, 23, 0, 0), (1, 22, 0, 0), (2, 42, 0, 0), (3, 65, 0, 0), (2, 42, 0, 0), (0, 0, 0, 0), (0, 0, 0, 0), (1, 22, 0, 0), (4, 88, 0, 0), (2, 43, 0, 0), (5, 118, 0, 0), (1, 23, 0, 0), (1, 22, 0, 0), (0, 0, 0, 0), (2, 43, 0, 0), (0, 0, 0, 0), (3, 65, 0, 0), (3, 65, 0, 0), (2, 43, 0, 0), (3, 68, 0, 0), (2, 43, 0, 0), (0, 0, 0, 0), (4, 93, 0, 0), (0, 0, 0, 0), (1, 23, 0, 0), (2, 47, 0, 0), (5, 118, 0, 0), (4, 88, 0, 0), (0, 0, 0, 0), (1, 22, 0, 0), (1, 22, 0, 0), (0, 0, 0, 0), (6, 141, 0, 0), (2, 45, 0, 0), (7, 165, 0, 0), (8, 187, 0, 0), (8, 187, 0, 0), (8, 187, 0, 0), (8, 187, 0, 0), (8, 187, 0, 0), (8, 187, 0, 0), (0, 0, 0, 0), (0, 0, 0, 0), (1, 21, 0, 0), (2, 44, 0, 0), (1, 21, 0, 0), (8, 187, 0, 0), (9, 210, 0, 0), (9, 210, 0, 0), (1, 24, 0, 0), (2, 45, 0, 0), (6, 139, 0, 0), (1, 22, 0, 0), (1, 22, 0, 0), (0, 0, 0, 0), (0, 0, 0, 0), (1, 24, 0, 0), (1, 24, 0, 0), (0, 0, 0, 0), (2, 52, 0, 0), (3, 79, 0, 0), (1, 30, 0, 0), (3, 66, 0, 0), (5, 120, 0, 0), (4, 92, 0, 0), (3, 67, 0, 0), (3, 64, 0, 0), (3, 71, 0, 0), (2, 42, 0, 0), (2, 47, 0, 0), (2, 43, 0, 0), (4, 94, 0, 0), (3, 70, 0, 0), (2, 47, 0, 0), (2, 42, 0, 0), (2, 44, 0, 0), (3, 69, 0, 0), (1, 21, 0, 0), (2, 44, 0, 0), (2, 44, 0, 0), (3, 71, 30, 25563), (2, 44, 0, 0), (1, 22, 0, 0), (1, 22, 0, 0), (1, 21, 0, 0), (2, 42, 0, 0), (1, 20, 0, 0), (1, 21, 0, 0), (1, 21, 0, 0), (1, 21, 0, 0), (1, 21, 0, 0), (1, 22, 0, 0), (1, 21, 0, 0), (1, 22, 0, 0), (1, 21, 0, 0), (1, 21, 0, 0), (1, 22, 0, 0), (1, 22, 0, 0), (1, 21, 0, 0), (1, 22, 0, 0), (1, 21, 0, 0), (1, 22, 0, 0), (1, 21, 0, 0), (1, 22, 0, 0), (2, 45, 0, 0), (2, 45, 0, 0), (2, 43, 0, 0), (2, 42, 0, 0), (3, 71, 19, 17366), (3, 62, 0, 0), (1, 21, 0, 0), (1, 20, 0, 0), (1, 21, 0, 0), (1, 21, 0, 0), (1, 21, 0, 0), (5, 121, 0, 0), (2, 40, 0, 0), (3, 68, 0, 0), (2, 43, 0, 0), (1, 21, 0, 0), (1, 22, 0, 0), (4, 94, 0, 0), (2, 44, 0, 0), (4, 86, 0, 0), (2, 51, 4, 3858), (1, 21, 0, 0), (1, 20, 0, 0), (1, 21, 0, 0), (1, 21, 0, 0), (1, 21, 0, 0), (2, 42, 0, 0), (3, 71, 12, 10612), (0, 0, 0, 0), (0, 0, 0, 0), (0, 0, 0, 0), (5, 122, 0, 0), (0, 0, 0, 0), (4, 96, 0, 0), (3, 69, 0, 0), (2, 42, 0, 0), (2, 51, 3, 2170), (1, 20, 0, 0), (1, 21, 0, 0), (1, 20, 0, 0), (1, 21, 0, 0), (2, 51, 5, 4822), (4, 96, 0, 0), (3, 69, 0, 0), (0, 0, 0, 0), (0, 0, 0, 0), (2, 51, 4, 3858), (0, 0, 0, 0), (4, 87, 0, 0), (3, 63, 0, 0), (3, 63, 0, 0), (2, 42, 0, 0), (1, 30, 1, 1927), (0, 0, 0, 0), (0, 0, 0, 0), (0, 0, 0, 0), (0, 0, 0, 0), (0, 0, 0, 0), (0, 0, 0, 0), (1, 21, 0, 0), (1, 22, 0, 0), (1, 22, 0, 0), (1, 21, 0, 0), (2, 51, 10, 9645), (2, 42, 0, 0), (1, 21, 0, 0), (3, 62, 0, 0), (2, 40, 0, 0), (1, 21, 0, 0), (3, 69, 0, 0), (1, 21, 0, 0), (2, 46, 0, 0), (1, 21, 0, 0), (2, 42, 0, 0), (2, 51, 18, 17361), (1, 20, 0, 0), (2, 46, 0, 0), (1, 22, 0, 0), (1, 22, 0, 0), (2, 46, 0, 0), (1, 20, 0, 0), (1, 21, 0, 0), (1, 21, 0, 0), (1, 21, 0, 0), (1, 21, 0, 0), (1, 21, 0, 0), (1, 21, 0, 0), (1, 21, 0, 0), (1, 21, 0, 0), (1, 21, 0, 0), (1, 21, 0, 0)]
def q_rm (M : Nat) : Nat × Nat × Nat × Nat := q_rms.getD M (0, 0, 0, 0)
/-- 0: MarktongueLaw.law([I)Z -/
def qc_0 : List (Nat × qI) := [(0, 3, .new 8, 0, [0, 12, 0]), (3, 1, .dup, 0, []), (4, 3, .invokespecial 53, 0, [13, 1, 1, 0, 0]), (7, 1, .astore_n 1, 0, [1]), (8, 3, .new 54, 0, [1, 65, 0]), (11, 1, .dup, 0, []), (12, 3, .invokespecial 56, 0, [44, 1, 1, 1, 0]), (15, 1, .astore_n 2, 0, [2]), (16, 1, .iconst 1, 1, []), (17, 2, .newarray .long, 0, [2]), (19, 1, .astore_n 3, 0, [3]), (20, 1, .iconst 0, 0, []), (21, 2, .istore 4, 0, [4]), (23, 2, .iload 4, 0, [4]), (25, 1, .aload_n 0, 0, [0]), (26, 1, .arraylength, 0, []), (27, 1, .iconst 3, 3, []), (28, 1, .isub, 0, []), (29, 3, .if_icmp .gt (894), 0, [923]), (32, 1, .aload_n 0, 0, [0]), (33, 2, .iload 4, 0, [4]), (35, 1, .iaload, 0, []), (36, 2, .bipush 31, 31, []), (38, 1, .iand, 0, []), (39, 81, .tableswitch (878) 0 16 #[81, 149, 217, 230, 286, 299, 312, 380, 448, 504, 560, 616, 672, 740, 753, 809, 865], 0, [917, 0, 120, 1, 188, 2, 256, 3, 269, 4, 325, 5, 338, 6, 351, 7, 419, 8, 487, 9, 543, 10, 599, 11, 655, 12, 711, 13, 779, 14, 792, 15, 848, 16, 904]), (120, 1, .aload_n 1, 0, [1]), (121, 1, .aload_n 0, 0, [0]), (122, 2, .iload 4, 0, [4]), (124, 1, .iconst 1, 1, []), (125, 1, .iadd, 0, []), (126, 1, .iaload, 0, []), (127, 1, .aload_n 0, 0, [0]), (128, 2, .iload 4, 0, [4]), (130, 1, .iconst 2, 2, []), (131, 1, .iadd, 0, []), (132, 1, .iaload, 0, []), (133, 1, .aload_n 3, 0, [3]), (134, 3, .invokestatic 57, 0, [1, 4, 0, 0, 0]), (137, 2, .istore 5, 0, [5]), (139, 1, .aload_n 2, 0, [2]), (140, 1, .aload_n 0, 0, [0]), (141, 2, .iload 4, 0, [4]), (143, 1, .iconst 1, 1, []), (144, 1, .iadd, 0, []), (145, 1, .iaload, 0, []), (146, 1, .aload_n 0, 0, [0]), (147, 2, .iload 4, 0, [4]), (149, 1, .iconst 2, 2, []), (150, 1, .iadd, 0, []), (151, 1, .iaload, 0, []), (152, 3, .invokevirtual 62, 0, [50, 3, 1, 1, 0]), (155, 2, .istore 6, 0, [6]), (157, 1, .aload_n 2, 0, [2]), (158, 3, .invokevirtual 63, 0, [45, 1, 1, 1, 0]), (161, 2, .iload 5, 0, [5]), (163, 3, .if_icmp .eq (5), 0, [168]), (166, 1, .iconst 0, 0, []), (167, 1, .ireturn, 0, [3]), (168, 2, .iload 5, 0, [5]), (170, 3, .ifCond .ne (15), 0, [185]), (173, 1, .aload_n 3, 0, [3]), (174, 1, .iconst 0, 0, []), (175, 1, .laload, 0, []), (176, 2, .iload 6, 0, [6]), (178, 1, .i2l, 0, []), (179, 1, .lcmp, 0, []), (180, 3, .ifCond .eq (5), 0, [185]), (183, 1, .iconst 0, 0, []), (184, 1, .ireturn, 0, [3]), (185, 3, .goto (732), 0, [917]), (188, 1, .aload_n 1, 0, [1]), (189, 1, .aload_n 0, 0, [0]), (190, 2, .iload 4, 0, [4]), (192, 1, .iconst 1, 1, []), (193, 1, .iadd, 0, []), (194, 1, .iaload, 0, []), (195, 1, .aload_n 0, 0, [0]), (196, 2, .iload 4, 0, [4]), (198, 1, .iconst 2, 2, []), (199, 1, .iadd, 0, []), (200, 1, .iaload, 0, []), (201, 1, .aload_n 3, 0, [3]), (202, 3, .invokestatic 67, 0, [2, 4, 0, 0, 0]), (205, 2, .istore 5, 0, [5]), (207, 1, .aload_n 2, 0, [2]), (208, 1, .aload_n 0, 0, [0]), (209, 2, .iload 4, 0, [4]), (211, 1, .iconst 1, 1, []), (212, 1, .iadd, 0, []), (213, 1, .iaload, 0, []), (214, 1, .aload_n 0, 0, [0]), (215, 2, .iload 4, 0, [4]), (217, 1, .iconst 2, 2, []), (218, 1, .iadd, 0, []), (219, 1, .iaload, 0, []), (220, 3, .invokevirtual 69, 0, [52, 3, 1, 1, 0]), (223, 2, .istore 6, 0, [6]), (225, 1, .aload_n 2, 0, [2]), (226, 3, .invokevirtual 63, 0, [45, 1, 1, 1, 0]), (229, 2, .iload 5, 0, [5]), (231, 3, .if_icmp .eq (5), 0, [236]), (234, 1, .iconst 0, 0, []), (235, 1, .ireturn, 0, [3]), (236, 2, .iload 5, 0, [5]), (238, 3, .ifCond .ne (15), 0, [253]), (241, 1, .aload_n 3, 0, [3]), (242, 1, .iconst 0, 0, []), (243, 1, .laload, 0, []), (244, 2, .iload 6, 0, [6]), (246, 1, .i2l, 0, []), (247, 1, .lcmp, 0, []), (248, 3, .ifCond .eq (5), 0, [253]), (251, 1, .iconst 0, 0, []), (252, 1, .ireturn, 0, [3]), (253, 3, .goto (664), 0, [917]), (256, 1, .aload_n 1, 0, [1]), (257, 3, .invokevirtual 70, 0, [16, 1, 1, 0, 0]), (260, 1, .aload_n 2, 0, [2]), (261, 3, .invokevirtual 73, 0, [53, 1, 1, 1, 0]), (264, 3, .if_icmp .eq (653), 0, [917]), (267, 1, .iconst 0, 0, []), (268, 1, .ireturn, 0, [3]), (269, 1, .aload_n 1, 0, [1]), (270, 1, .aload_n 0, 0, [0]), (271, 2, .iload 4, 0, [4]), (273, 1, .iconst 1, 1, []), (274, 1, .iadd, 0, []), (275, 1, .iaload, 0, []), (276, 1, .aload_n 3, 0, [3]), (277, 3, .invokestatic 74, 0, [3, 3, 0, 0, 0]), (280, 2, .istore 5, 0, [5]), (282, 1, .aload_n 2, 0, [2]), (283, 1, .aload_n 0, 0, [0]), (284, 2, .iload 4, 0, [4]), (286, 1, .iconst 1, 1, []), (287, 1, .iadd, 0, []), (288, 1, .iaload, 0, []), (289, 3, .invokevirtual 77, 0, [54, 2, 1, 1, 0]), (292, 2, .istore 6, 0, [6]), (294, 1, .aload_n 2, 0, [2]), (295, 3, .invokevirtual 63, 0, [45, 1, 1, 1, 0]), (298, 2, .iload 5, 0, [5]), (300, 3, .if_icmp .eq (5), 0, [305]), (303, 1, .iconst 0, 0, []), (304, 1, .ireturn, 0, [3]), (305, 2, .iload 5, 0, [5]), (307, 3, .ifCond .ne (15), 0, [322]), (310, 1, .aload_n 3, 0, [3]), (311, 1, .iconst 0, 0, []), (312, 1, .laload, 0, []), (313, 2, .iload 6, 0, [6]), (315, 1, .i2l, 0, []), (316, 1, .lcmp, 0, []), (317, 3, .ifCond .eq (5), 0, [322]), (320, 1, .iconst 0, 0, []), (321, 1, .ireturn, 0, [3]), (322, 3, .goto (595), 0, [917]), (325, 1, .aload_n 1, 0, [1]), (326, 3, .invokevirtual 78, 0, [18, 1, 1, 0, 0]), (329, 1, .aload_n 2, 0, [2]), (330, 3, .invokevirtual 81, 0, [55, 1, 1, 1, 0]), (333, 3, .if_icmp .eq (584), 0, [917]), (336, 1, .iconst 0, 0, []), (337, 1, .ireturn, 0, [3]), (338, 1, .aload_n 1, 0, [1]), (339, 3, .invokevirtual 82, 0, [19, 1, 1, 0, 0]), (342, 1, .aload_n 2, 0, [2]), (343, 3, .invokevirtual 85, 0, [101, 1, 1, 1, 0]), (346, 3, .if_icmp .eq (571), 0, [917]), (349, 1, .iconst 0, 0, []), (350, 1, .ireturn, 0, [3]), (351, 1, .aload_n 1, 0, [1]), (352, 1, .aload_n 0, 0, [0]), (353, 2, .iload 4, 0, [4]), (355, 1, .iconst 1, 1, []), (356, 1, .iadd, 0, []), (357, 1, .iaload, 0, []), (358, 1, .aload_n 0, 0, [0]), (359, 2, .iload 4, 0, [4]), (361, 1, .iconst 2, 2, []), (362, 1, .iadd, 0, []), (363, 1, .iaload, 0, []), (364, 1, .aload_n 3, 0, [3]), (365, 3, .invokestatic 86, 0, [4, 4, 0, 0, 0]), (368, 2, .istore 5, 0, [5]), (370, 1, .aload_n 2, 0, [2]), (371, 1, .aload_n 0, 0, [0]), (372, 2, .iload 4, 0, [4]), (374, 1, .iconst 1, 1, []), (375, 1, .iadd, 0, []), (376, 1, .iaload, 0, []), (377, 1, .aload_n 0, 0, [0]), (378, 2, .iload 4, 0, [4]), (380, 1, .iconst 2, 2, []), (381, 1, .iadd, 0, []), (382, 1, .iaload, 0, []), (383, 3, .invokevirtual 88, 0, [102, 3, 1, 1, 0]), (386, 2, .istore 6, 0, [6]), (388, 1, .aload_n 2, 0, [2]), (389, 3, .invokevirtual 63, 0, [45, 1, 1, 1, 0]), (392, 2, .iload 5, 0, [5]), (394, 3, .if_icmp .eq (5), 0, [399]), (397, 1, .iconst 0, 0, []), (398, 1, .ireturn, 0, [3]), (399, 2, .iload 5, 0, [5]), (401, 3, .ifCond .ne (15), 0, [416]), (404, 1, .aload_n 3, 0, [3]), (405, 1, .iconst 0, 0, []), (406, 1, .laload, 0, []), (407, 2, .iload 6, 0, [6]), (409, 1, .i2l, 0, []), (410, 1, .lcmp, 0, []), (411, 3, .ifCond .eq (5), 0, [416]), (414, 1, .iconst 0, 0, []), (415, 1, .ireturn, 0, [3]), (416, 3, .goto (501), 0, [917]), (419, 1, .aload_n 1, 0, [1]), (420, 1, .aload_n 0, 0, [0]), (421, 2, .iload 4, 0, [4]), (423, 1, .iconst 1, 1, []), (424, 1, .iadd, 0, []), (425, 1, .iaload, 0, []), (426, 1, .aload_n 0, 0, [0]), (427, 2, .iload 4, 0, [4]), (429, 1, .iconst 2, 2, []), (430, 1, .iadd, 0, []), (431, 1, .iaload, 0, []), (432, 1, .aload_n 3, 0, [3]), (433, 3, .invokestatic 89, 0, [5, 4, 0, 0, 0]), (436, 2, .istore 5, 0, [5]), (438, 1, .aload_n 2, 0, [2]), (439, 1, .aload_n 0, 0, [0]), (440, 2, .iload 4, 0, [4]), (442, 1, .iconst 1, 1, []), (443, 1, .iadd, 0, []), (444, 1, .iaload, 0, []), (445, 1, .aload_n 0, 0, [0]), (446, 2, .iload 4, 0, [4]), (448, 1, .iconst 2, 2, []), (449, 1, .iadd, 0, []), (450, 1, .iaload, 0, []), (451, 3, .invokevirtual 91, 0, [103, 3, 1, 1, 0]), (454, 2, .istore 6, 0, [6]), (456, 1, .aload_n 2, 0, [2]), (457, 3, .invokevirtual 63, 0, [45, 1, 1, 1, 0]), (460, 2, .iload 5, 0, [5]), (462, 3, .if_icmp .eq (5), 0, [467]), (465, 1, .iconst 0, 0, []), (466, 1, .ireturn, 0, [3]), (467, 2, .iload 5, 0, [5]), (469, 3, .ifCond .ne (15), 0, [484]), (472, 1, .aload_n 3, 0, [3]), (473, 1, .iconst 0, 0, []), (474, 1, .laload, 0, []), (475, 2, .iload 6, 0, [6]), (477, 1, .i2l, 0, []), (478, 1, .lcmp, 0, []), (479, 3, .ifCond .eq (5), 0, [484]), (482, 1, .iconst 0, 0, []), (483, 1, .ireturn, 0, [3]), (484, 3, .goto (433), 0, [917]), (487, 1, .aload_n 1, 0, [1]), (488, 1, .aload_n 0, 0, [0]), (489, 2, .iload 4, 0, [4]), (491, 1, .iconst 1, 1, []), (492, 1, .iadd, 0, []), (493, 1, .iaload, 0, []), (494, 1, .aload_n 3, 0, [3]), (495, 3, .invokestatic 92, 0, [6, 3, 0, 0, 0]), (498, 2, .istore 5, 0, [5]), (500, 1, .aload_n 2, 0, [2]), (501, 1, .aload_n 0, 0, [0]), (502, 2, .iload 4, 0, [4]), (504, 1, .iconst 1, 1, []), (505, 1, .iadd, 0, []), (506, 1, .iaload, 0, []), (507, 3, .invokevirtual 94, 0, [104, 2, 1, 1, 0]), (510, 2, .istore 6, 0, [6]), (512, 1, .aload_n 2, 0, [2]), (513, 3, .invokevirtual 63, 0, [45, 1, 1, 1, 0]), (516, 2, .iload 5, 0, [5]), (518, 3, .if_icmp .eq (5), 0, [523]), (521, 1, .iconst 0, 0, []), (522, 1, .ireturn, 0, [3]), (523, 2, .iload 5, 0, [5]), (525, 3, .ifCond .ne (15), 0, [540]), (528, 1, .aload_n 3, 0, [3]), (529, 1, .iconst 0, 0, []), (530, 1, .laload, 0, []), (531, 2, .iload 6, 0, [6]), (533, 1, .i2l, 0, []), (534, 1, .lcmp, 0, []), (535, 3, .ifCond .eq (5), 0, [540]), (538, 1, .iconst 0, 0, []), (539, 1, .ireturn, 0, [3]), (540, 3, .goto (377), 0, [917]), (543, 1, .aload_n 1, 0, [1]), (544, 1, .aload_n 0, 0, [0]), (545, 2, .iload 4, 0, [4]), (547, 1, .iconst 1, 1, []), (548, 1, .iadd, 0, []), (549, 1, .iaload, 0, []), (550, 1, .aload_n 3, 0, [3]), (551, 3, .invokestatic 95, 0, [7, 3, 0, 0, 0]), (554, 2, .istore 5, 0, [5]), (556, 1, .aload_n 2, 0, [2]), (557, 1, .aload_n 0, 0, [0]), (558, 2, .iload 4, 0, [4]), (560, 1, .iconst 1, 1, []), (561, 1, .iadd, 0, []), (562, 1, .iaload, 0, []), (563, 3, .invokevirtual 97, 0, [105, 2, 1, 1, 0]), (566, 2, .istore 6, 0, [6]), (568, 1, .aload_n 2, 0, [2]), (569, 3, .invokevirtual 63, 0, [45, 1, 1, 1, 0]), (572, 2, .iload 5, 0, [5]), (574, 3, .if_icmp .eq (5), 0, [579]), (577, 1, .iconst 0, 0, []), (578, 1, .ireturn, 0, [3]), (579, 2, .iload 5, 0, [5]), (581, 3, .ifCond .ne (15), 0, [596]), (584, 1, .aload_n 3, 0, [3]), (585, 1, .iconst 0, 0, []), (586, 1, .laload, 0, []), (587, 2, .iload 6, 0, [6]), (589, 1, .i2l, 0, []), (590, 1, .lcmp, 0, []), (591, 3, .ifCond .eq (5), 0, [596]), (594, 1, .iconst 0, 0, []), (595, 1, .ireturn, 0, [3]), (596, 3, .goto (321), 0, [917]), (599, 1, .aload_n 1, 0, [1]), (600, 1, .aload_n 0, 0, [0]), (601, 2, .iload 4, 0, [4]), (603, 1, .iconst 1, 1, []), (604, 1, .iadd, 0, []), (605, 1, .iaload, 0, []), (606, 1, .aload_n 3, 0, [3]), (607, 3, .invokestatic 98, 0, [8, 3, 0, 0, 0]), (610, 2, .istore 5, 0, [5]), (612, 1, .aload_n 2, 0, [2]), (613, 1, .aload_n 0, 0, [0]), (614, 2, .iload 4, 0, [4]), (616, 1, .iconst 1, 1, []), (617, 1, .iadd, 0, []), (618, 1, .iaload, 0, []), (619, 3, .invokevirtual 100, 0, [106, 2, 1, 1, 0]), (622, 2, .istore 6, 0, [6]), (624, 1, .aload_n 2, 0, [2]), (625, 3, .invokevirtual 63, 0, [45, 1, 1, 1, 0]), (628, 2, .iload 5, 0, [5]), (630, 3, .if_icmp .eq (5), 0, [635]), (633, 1, .iconst 0, 0, []), (634, 1, .ireturn, 0, [3]), (635, 2, .iload 5, 0, [5]), (637, 3, .ifCond .ne (15), 0, [652]), (640, 1, .aload_n 3, 0, [3]), (641, 1, .iconst 0, 0, []), (642, 1, .laload, 0, []), (643, 2, .iload 6, 0, [6]), (645, 1, .i2l, 0, []), (646, 1, .lcmp, 0, []), (647, 3, .ifCond .eq (5), 0, [652]), (650, 1, .iconst 0, 0, []), (651, 1, .ireturn, 0, [3]), (652, 3, .goto (265), 0, [917]), (655, 1, .aload_n 1, 0, [1]), (656, 1, .aload_n 0, 0, [0]), (657, 2, .iload 4, 0, [4]), (659, 1, .iconst 1, 1, []), (660, 1, .iadd, 0, []), (661, 1, .iaload, 0, []), (662, 1, .aload_n 3, 0, [3]), (663, 3, .invokestatic 101, 0, [9, 3, 0, 0, 0]), (666, 2, .istore 5, 0, [5]), (668, 1, .aload_n 2, 0, [2]), (669, 1, .aload_n 0, 0, [0]), (670, 2, .iload 4, 0, [4]), (672, 1, .iconst 1, 1, []), (673, 1, .iadd, 0, []), (674, 1, .iaload, 0, []), (675, 3, .invokevirtual 103, 0, [113, 2, 1, 1, 0]), (678, 2, .istore 6, 0, [6]), (680, 1, .aload_n 2, 0, [2]), (681, 3, .invokevirtual 63, 0, [45, 1, 1, 1, 0]), (684, 2, .iload 5, 0, [5]), (686, 3, .if_icmp .eq (5), 0, [691]), (689, 1, .iconst 0, 0, []), (690, 1, .ireturn, 0, [3]), (691, 2, .iload 5, 0, [5]), (693, 3, .ifCond .ne (15), 0, [708]), (696, 1, .aload_n 3, 0, [3]), (697, 1, .iconst 0, 0, []), (698, 1, .laload, 0, []), (699, 2, .iload 6, 0, [6]), (701, 1, .i2l, 0, []), (702, 1, .lcmp, 0, []), (703, 3, .ifCond .eq (5), 0, [708]), (706, 1, .iconst 0, 0, []), (707, 1, .ireturn, 0, [3]), (708, 3, .goto (209), 0, [917]), (711, 1, .aload_n 1, 0, [1]), (712, 1, .aload_n 0, 0, [0]), (713, 2, .iload 4, 0, [4]), (715, 1, .iconst 1, 1, []), (716, 1, .iadd, 0, []), (717, 1, .iaload, 0, []), (718, 1, .aload_n 0, 0, [0]), (719, 2, .iload 4, 0, [4]), (721, 1, .iconst 2, 2, []), (722, 1, .iadd, 0, []), (723, 1, .iaload, 0, []), (724, 1, .aload_n 3, 0, [3]), (725, 3, .invokestatic 104, 0, [10, 4, 0, 0, 0]), (728, 2, .istore 5, 0, [5]), (730, 1, .aload_n 2, 0, [2]), (731, 1, .aload_n 0, 0, [0]), (732, 2, .iload 4, 0, [4]), (734, 1, .iconst 1, 1, []), (735, 1, .iadd, 0, []), (736, 1, .iaload, 0, []), (737, 1, .aload_n 0, 0, [0]), (738, 2, .iload 4, 0, [4]), (740, 1, .iconst 2, 2, []), (741, 1, .iadd, 0, []), (742, 1, .iaload, 0, []), (743, 3, .invokevirtual 106, 0, [114, 3, 1, 1, 0]), (746, 2, .istore 6, 0, [6]), (748, 1, .aload_n 2, 0, [2]), (749, 3, .invokevirtual 63, 0, [45, 1, 1, 1, 0]), (752, 2, .iload 5, 0, [5]), (754, 3, .if_icmp .eq (5), 0, [759]), (757, 1, .iconst 0, 0, []), (758, 1, .ireturn, 0, [3]), (759, 2, .iload 5, 0, [5]), (761, 3, .ifCond .ne (15), 0, [776]), (764, 1, .aload_n 3, 0, [3]), (765, 1, .iconst 0, 0, []), (766, 1, .laload, 0, []), (767, 2, .iload 6, 0, [6]), (769, 1, .i2l, 0, []), (770, 1, .lcmp, 0, []), (771, 3, .ifCond .eq (5), 0, [776]), (774, 1, .iconst 0, 0, []), (775, 1, .ireturn, 0, [3]), (776, 3, .goto (141), 0, [917]), (779, 1, .aload_n 1, 0, [1]), (780, 3, .invokevirtual 107, 0, [27, 1, 1, 0, 0]), (783, 1, .aload_n 2, 0, [2]), (784, 3, .invokevirtual 110, 0, [117, 1, 1, 1, 0]), (787, 3, .if_icmp .eq (130), 0, [917]), (790, 1, .iconst 0, 0, []), (791, 1, .ireturn, 0, [3]), (792, 1, .aload_n 1, 0, [1]), (793, 1, .aload_n 0, 0, [0]), (794, 2, .iload 4, 0, [4]), (796, 1, .iconst 1, 1, []), (797, 1, .iadd, 0, []), (798, 1, .iaload, 0, []), (799, 1, .aload_n 3, 0, [3]), (800, 3, .invokestatic 111, 0, [11, 3, 0, 0, 0]), (803, 2, .istore 5, 0, [5]), (805, 1, .aload_n 2, 0, [2]), (806, 1, .aload_n 0, 0, [0]), (807, 2, .iload 4, 0, [4]), (809, 1, .iconst 1, 1, []), (810, 1, .iadd, 0, []), (811, 1, .iaload, 0, []), (812, 3, .invokevirtual 113, 0, [118, 2, 1, 1, 0]), (815, 2, .istore 6, 0, [6]), (817, 1, .aload_n 2, 0, [2]), (818, 3, .invokevirtual 63, 0, [45, 1, 1, 1, 0]), (821, 2, .iload 5, 0, [5]), (823, 3, .if_icmp .eq (5), 0, [828]), (826, 1, .iconst 0, 0, []), (827, 1, .ireturn, 0, [3]), (828, 2, .iload 5, 0, [5]), (830, 3, .ifCond .ne (15), 0, [845]), (833, 1, .aload_n 3, 0, [3]), (834, 1, .iconst 0, 0, []), (835, 1, .laload, 0, []), (836, 2, .iload 6, 0, [6]), (838, 1, .i2l, 0, []), (839, 1, .lcmp, 0, []), (840, 3, .ifCond .eq (5), 0, [845]), (843, 1, .iconst 0, 0, []), (844, 1, .ireturn, 0, [3]), (845, 3, .goto (72), 0, [917]), (848, 1, .aload_n 1, 0, [1]), (849, 1, .aload_n 0, 0, [0]), (850, 2, .iload 4, 0, [4]), (852, 1, .iconst 1, 1, []), (853, 1, .iadd, 0, []), (854, 1, .iaload, 0, []), (855, 1, .aload_n 3, 0, [3]), (856, 3, .invokestatic 114, 0, [12, 3, 0, 0, 0]), (859, 2, .istore 5, 0, [5]), (861, 1, .aload_n 2, 0, [2]), (862, 1, .aload_n 0, 0, [0]), (863, 2, .iload 4, 0, [4]), (865, 1, .iconst 1, 1, []), (866, 1, .iadd, 0, []), (867, 1, .iaload, 0, []), (868, 3, .invokevirtual 116, 0, [119, 2, 1, 1, 0]), (871, 2, .istore 6, 0, [6]), (873, 1, .aload_n 2, 0, [2]), (874, 3, .invokevirtual 63, 0, [45, 1, 1, 1, 0]), (877, 2, .iload 5, 0, [5]), (879, 3, .if_icmp .eq (5), 0, [884]), (882, 1, .iconst 0, 0, []), (883, 1, .ireturn, 0, [3]), (884, 2, .iload 5, 0, [5]), (886, 3, .ifCond .ne (15), 0, [901]), (889, 1, .aload_n 3, 0, [3]), (890, 1, .iconst 0, 0, []), (891, 1, .laload, 0, []), (892, 2, .iload 6, 0, [6]), (894, 1, .i2l, 0, []), (895, 1, .lcmp, 0, []), (896, 3, .ifCond .eq (5), 0, [901]), (899, 1, .iconst 0, 0, []), (900, 1, .ireturn, 0, [3]), (901, 3, .goto (16), 0, [917]), (904, 1, .aload_n 1, 0, [1]), (905, 3, .invokevirtual 117, 0, [30, 1, 1, 0, 0]), (908, 1, .aload_n 2, 0, [2]), (909, 3, .invokevirtual 120, 0, [126, 1, 1, 1, 0]), (912, 3, .if_icmp .eq (5), 0, [917]), (915, 1, .iconst 0, 0, []), (916, 1, .ireturn, 0, [3]), (917, 3, .iinc 4 3, 3, [4]), (920, 3, .goto (-897), 0, [23]), (923, 1, .iconst 1, 1, []), (924, 1, .ireturn, 0, [3])]
def qw_0 : List (List Nat) := [[127, 128, 107], [], [129, 0, 107, 130], [], [1301, 1302, 119], [], [1303, 0, 119, 1304], [], [], [190], [], [], [], [], [], [], [], [], [], [], [], [], [], [], [], [], [], [], [], [], [], [], [], [], [], [], [], [1056, 0, 106, 1057], [], [], [], [], [], [], [], [], [], [], [], [], [1508, 0, 119, 1509, 1510], [], [], [1504, 0, 119, 1505, 1506], [], [], [], [], [], [], [], [], [], [], [], [], [], [], [], [], [], [], [], [], [], [], [], [], [], [], [], [], [1171, 0, 106, 1172], [], [], [], [], [], [], [], [], [], [], [], [], [1519, 0, 119, 1520, 1521], [], [], [1504, 0, 119, 1505, 1506], [], [], [], [], [], [], [], [], [], [], [], [], [], [], [], [], [], [473, 0, 107, 474, 475], [], [1527, 0, 119, 1528, 1529], [], [], [], [], [], [], [], [], [], [], [1184, 0, 106, 1185], [], [], [], [], [], [], [], [1531, 0, 119, 1532, 1533], [], [], [1504, 0, 119, 1505, 1506], [], [], [], [], [], [], [], [], [], [], [], [], [], [], [], [], [], [481, 0, 107, 482, 483], [], [1535, 0, 119, 1536, 1537], [], [], [], [], [489, 0, 107, 490, 491], [], [1539, 0, 119, 1540, 1541], [], [], [], [], [], [], [], [], [], [], [], [], [], [], [], [1191, 0, 106, 1192], [], [], [], [], [], [], [], [], [], [], [], [], [1727, 0, 119, 1728, 1729], [], [], [1504, 0, 119, 1505, 1506], [], [], [], [], [], [], [], [], [], [], [], [], [], [], [], [], [], [], [], [], [], [], [], [], [], [], [], [], [1210, 0, 106, 1211], [], [], [], [], [], [], [], [], [], [], [], [], [1731, 0, 119, 1732, 1733], [], [], [1504, 0, 119, 1505, 1506], [], [], [], [], [], [], [], [], [], [], [], [], [], [], [], [], [], [], [], [], [], [], [], [1222, 0, 106, 1223], [], [], [], [], [], [], [], [1735, 0, 119, 1736, 1737], [], [], [1504, 0, 119, 1505, 1506], [], [], [], [], [], [], [], [], [], [], [], [], [], [], [], [], [], [], [], [], [], [], [], [1237, 0, 106, 1238], [], [], [], [], [], [], [], [1739, 0, 119, 1740, 1741], [], [], [1504, 0, 119, 1505, 1506], [], [], [], [], [], [], [], [], [], [], [], [], [], [], [], [], [], [], [], [], [], [], [], [1255, 0, 106, 1256], [], [], [], [], [], [], [], [1743, 0, 119, 1744, 1745], [], [], [1504, 0, 119, 1505, 1506], [], [], [], [], [], [], [], [], [], [], [], [], [], [], [], [], [], [], [], [], [], [], [], [1267, 0, 106, 1268], [], [], [], [], [], [], [], [1747, 0, 119, 1748, 1749], [], [], [1504, 0, 119, 1505, 1506], [], [], [], [], [], [], [], [], [], [], [], [], [], [], [], [], [], [], [], [], [], [], [], [], [], [], [], [], [1279, 0, 106, 1280], [], [], [], [], [], [], [], [], [], [], [], [], [1775, 0, 119, 1776, 1777], [], [], [1504, 0, 119, 1505, 1506], [], [], [], [], [], [], [], [], [], [], [], [], [], [], [], [], [], [952, 0, 107, 953, 954], [], [1779, 0, 119, 1780, 1781], [], [], [], [], [], [], [], [], [], [], [1286, 0, 106, 1287], [], [], [], [], [], [], [], [1791, 0, 119, 1792, 1793], [], [], [1504, 0, 119, 1505, 1506], [], [], [], [], [], [], [], [], [], [], [], [], [], [], [], [], [], [], [], [], [], [], [], [1294, 0, 106, 1295], [], [], [], [], [], [], [], [1795, 0, 119, 1796, 1797], [], [], [1504, 0, 119, 1505, 1506], [], [], [], [], [], [], [], [], [], [], [], [], [], [], [], [], [], [976, 0, 107, 977, 978], [], [1799, 0, 119, 1800, 1801], [], [], [], [], [], [], []]
/-- 1: MarktongueLaw.put(LMarktongue;II[J)I -/
def qc_1 : List (Nat × qI) := [(0, 1, .aload_n 3, 0, [3]), (1, 1, .iconst 0, 0, []), (2, 1, .aload_n 0, 0, [0]), (3, 1, .iload_n 1, 0, [1]), (4, 1, .iload_n 2, 0, [2]), (5, 3, .invokevirtual 7, 0, [14, 3, 1, 0, 1, 0, 13, 1, 17, 2, 21]), (8, 1, .i2l, 0, []), (9, 1, .lastore, 0, []), (10, 3, .goto (15), 0, [25]), (13, 2, .astore 4, 0, [4]), (15, 1, .iconst 1, 1, []), (16, 1, .ireturn, 0, [0]), (17, 2, .astore 4, 0, [4]), (19, 1, .iconst 2, 2, []), (20, 1, .ireturn, 0, [0]), (21, 2, .astore 4, 0, [4]), (23, 1, .iconst 3, 3, []), (24, 1, .ireturn, 0, [0]), (25, 1, .iconst 0, 0, []), (26, 1, .ireturn, 0, [0])]
def qw_1 : List (List Nat) := [[], [], [], [], [], [1062, 0, 107, 1063, 1064], [], [], [], [], [], [], [], [], [], [], [], [], [], []]
/-- 2: MarktongueLaw.take(LMarktongue;II[J)I -/
def qc_2 : List (Nat × qI) := [(0, 1, .aload_n 3, 0, [3]), (1, 1, .iconst 0, 0, []), (2, 1, .aload_n 0, 0, [0]), (3, 1, .iload_n 1, 0, [1]), (4, 1, .iload_n 2, 0, [2]), (5, 3, .invokevirtual 19, 0, [15, 3, 1, 0, 1, 0, 13, 1, 17]), (8, 1, .i2l, 0, []), (9, 1, .lastore, 0, []), (10, 3, .goto (11), 0, [21]), (13, 2, .astore 4, 0, [4]), (15, 1, .iconst 1, 1, []), (16, 1, .ireturn, 0, [0]), (17, 2, .astore 4, 0, [4]), (19, 1, .iconst 2, 2, []), (20, 1, .ireturn, 0, [0]), (21, 1, .iconst 0, 0, []), (22, 1, .ireturn, 0, [0])]
def qw_2 : List (List Nat) := [[], [], [], [], [], [1174, 0, 107, 1175, 1176], [], [], [], [], [], [], [], [], [], [], []]
/-- 3: MarktongueLaw.character(LMarktongue;I[J)I -/
def qc_3 : List (Nat × qI) := [(0, 1, .aload_n 2, 0, [2]), (1, 1, .iconst 0, 0, []), (2, 1, .aload_n 0, 0, [0]), (3, 1, .iload_n 1, 0, [1]), (4, 3, .invokevirtual 22, 0, [17, 2, 1, 0, 1, 0, 12]), (7, 1, .i2l, 0, []), (8, 1, .lastore, 0, []), (9, 3, .goto (6), 0, [15]), (12, 1, .astore_n 3, 0, [3]), (13, 1, .iconst 1, 1, []), (14, 1, .ireturn, 0, [0]), (15, 1, .iconst 0, 0, []), (16, 1, .ireturn, 0, [0])]
def qw_3 : List (List Nat) := [[], [], [], [], [1187, 0, 107, 1188, 1189], [], [], [], [], [], [], [], []]
/-- 4: MarktongueLaw.node(LMarktongue;II[J)I -/
def qc_4 : List (Nat × qI) := [(0, 1, .aload_n 3, 0, [3]), (1, 1, .iconst 0, 0, []), (2, 1, .aload_n 0, 0, [0]), (3, 1, .iload_n 1, 0, [1]), (4, 1, .iload_n 2, 0, [2]), (5, 3, .invokevirtual 26, 0, [20, 3, 1, 0, 1, 0, 13, 1, 17]), (8, 1, .i2l, 0, []), (9, 1, .lastore, 0, []), (10, 3, .goto (11), 0, [21]), (13, 2, .astore 4, 0, [4]), (15, 1, .iconst 1, 1, []), (16, 1, .ireturn, 0, [0]), (17, 2, .astore 4, 0, [4]), (19, 1, .iconst 2, 2, []), (20, 1, .ireturn, 0, [0]), (21, 1, .iconst 0, 0, []), (22, 1, .ireturn, 0, [0])]
def qw_4 : List (List Nat) := [[], [], [], [], [], [1194, 0, 107, 1195, 1196], [], [], [], [], [], [], [], [], [], [], []]
/-- 5: MarktongueLaw.child(LMarktongue;II[J)I -/
def qc_5 : List (Nat × qI) := [(0, 1, .aload_n 3, 0, [3]), (1, 1, .iconst 0, 0, []), (2, 1, .aload_n 0, 0, [0]), (3, 1, .iload_n 1, 0, [1]), (4, 1, .iload_n 2, 0, [2]), (5, 3, .invokevirtual 29, 0, [21, 3, 1, 0, 1, 0, 13]), (8, 1, .i2l, 0, []), (9, 1, .lastore, 0, []), (10, 3, .goto (7), 0, [17]), (13, 2, .astore 4, 0, [4]), (15, 1, .iconst 1, 1, []), (16, 1, .ireturn, 0, [0]), (17, 1, .iconst 0, 0, []), (18, 1, .ireturn, 0, [0])]
def qw_5 : List (List Nat) := [[], [], [], [], [], [1213, 0, 107, 1214, 1215], [], [], [], [], [], [], [], []]
/-- 6: MarktongueLaw.owner(LMarktongue;I[J)I -/
def qc_6 : List (Nat × qI) := [(0, 1, .aload_n 2, 0, [2]), (1, 1, .iconst 0, 0, []), (2, 1, .aload_n 0, 0, [0]), (3, 1, .iload_n 1, 0, [1]), (4, 3, .invokevirtual 32, 0, [22, 2, 1, 0, 1, 0, 12]), (7, 1, .i2l, 0, []), (8, 1, .lastore, 0, []), (9, 3, .goto (6), 0, [15]), (12, 1, .astore_n 3, 0, [3]), (13, 1, .iconst 1, 1, []), (14, 1, .ireturn, 0, [0]), (15, 1, .iconst 0, 0, []), (16, 1, .ireturn, 0, [0])]
def qw_6 : List (List Nat) := [[], [], [], [], [1225, 0, 107, 1226, 1227], [], [], [], [], [], [], [], []]
/-- 7: MarktongueLaw.leads(LMarktongue;I[J)I -/
def qc_7 : List (Nat × qI) := [(0, 1, .aload_n 2, 0, [2]), (1, 1, .iconst 0, 0, []), (2, 1, .aload_n 0, 0, [0]), (3, 1, .iload_n 1, 0, [1]), (4, 3, .invokevirtual 35, 0, [23, 2, 1, 0, 1, 0, 12, 2, 15]), (7, 1, .i2l, 0, []), (8, 1, .lastore, 0, []), (9, 3, .goto (9), 0, [18]), (12, 1, .astore_n 3, 0, [3]), (13, 1, .iconst 1, 1, []), (14, 1, .ireturn, 0, [0]), (15, 1, .astore_n 3, 0, [3]), (16, 1, .iconst 2, 2, []), (17, 1, .ireturn, 0, [0]), (18, 1, .iconst 0, 0, []), (19, 1, .ireturn, 0, [0])]
def qw_7 : List (List Nat) := [[], [], [], [], [1240, 0, 107, 1241, 1242], [], [], [], [], [], [], [], [], [], [], []]
/-- 8: MarktongueLaw.count(LMarktongue;I[J)I -/
def qc_8 : List (Nat × qI) := [(0, 1, .aload_n 2, 0, [2]), (1, 1, .iconst 0, 0, []), (2, 1, .aload_n 0, 0, [0]), (3, 1, .iload_n 1, 0, [1]), (4, 3, .invokevirtual 38, 0, [24, 2, 1, 0, 1, 1, 12]), (7, 1, .i2l, 0, []), (8, 1, .lastore, 0, []), (9, 3, .goto (6), 0, [15]), (12, 1, .astore_n 3, 0, [3]), (13, 1, .iconst 1, 1, []), (14, 1, .ireturn, 0, [0]), (15, 1, .iconst 0, 0, []), (16, 1, .ireturn, 0, [0])]
def qw_8 : List (List Nat) := [[], [], [], [], [1258, 0, 107, 1259, 1260], [], [], [], [], [], [], [], []]
/-- 9: MarktongueLaw.print(LMarktongue;I[J)I -/
def qc_9 : List (Nat × qI) := [(0, 1, .aload_n 2, 0, [2]), (1, 1, .iconst 0, 0, []), (2, 1, .aload_n 0, 0, [0]), (3, 1, .iload_n 1, 0, [1]), (4, 3, .invokevirtual 41, 0, [25, 2, 1, 0, 1, 1, 12]), (7, 1, .i2l, 0, []), (8, 1, .lastore, 0, []), (9, 3, .goto (6), 0, [15]), (12, 1, .astore_n 3, 0, [3]), (13, 1, .iconst 1, 1, []), (14, 1, .ireturn, 0, [0]), (15, 1, .iconst 0, 0, []), (16, 1, .ireturn, 0, [0])]
def qw_9 : List (List Nat) := [[], [], [], [], [1270, 0, 107, 1271, 1272], [], [], [], [], [], [], [], []]
/-- 10: MarktongueLaw.printed(LMarktongue;II[J)I -/
def qc_10 : List (Nat × qI) := [(0, 1, .aload_n 3, 0, [3]), (1, 1, .iconst 0, 0, []), (2, 1, .aload_n 0, 0, [0]), (3, 1, .iload_n 1, 0, [1]), (4, 1, .iload_n 2, 0, [2]), (5, 3, .invokevirtual 44, 0, [26, 3, 1, 0, 1, 1, 13, 0, 17]), (8, 1, .i2l, 0, []), (9, 1, .lastore, 0, []), (10, 3, .goto (11), 0, [21]), (13, 2, .astore 4, 0, [4]), (15, 1, .iconst 1, 1, []), (16, 1, .ireturn, 0, [0]), (17, 2, .astore 4, 0, [4]), (19, 1, .iconst 2, 2, []), (20, 1, .ireturn, 0, [0]), (21, 1, .iconst 0, 0, []), (22, 1, .ireturn, 0, [0])]
def qw_10 : List (List Nat) := [[], [], [], [], [], [1282, 0, 107, 1283, 1284], [], [], [], [], [], [], [], [], [], [], []]
/-- 11: MarktongueLaw.keep(LMarktongue;I[J)I -/
def qc_11 : List (Nat × qI) := [(0, 1, .aload_n 2, 0, [2]), (1, 1, .iconst 0, 0, []), (2, 1, .aload_n 0, 0, [0]), (3, 1, .iload_n 1, 0, [1]), (4, 3, .invokevirtual 47, 0, [28, 2, 1, 0, 1, 1, 12]), (7, 1, .i2l, 0, []), (8, 1, .lastore, 0, []), (9, 3, .goto (6), 0, [15]), (12, 1, .astore_n 3, 0, [3]), (13, 1, .iconst 1, 1, []), (14, 1, .ireturn, 0, [0]), (15, 1, .iconst 0, 0, []), (16, 1, .ireturn, 0, [0])]
def qw_11 : List (List Nat) := [[], [], [], [], [1289, 0, 107, 1290, 1291], [], [], [], [], [], [], [], []]
/-- 12: MarktongueLaw.load(LMarktongue;I[J)I -/
def qc_12 : List (Nat × qI) := [(0, 1, .aload_n 2, 0, [2]), (1, 1, .iconst 0, 0, []), (2, 1, .aload_n 0, 0, [0]), (3, 1, .iload_n 1, 0, [1]), (4, 3, .invokevirtual 50, 0, [29, 2, 1, 0, 1, 1, 12]), (7, 1, .i2l, 0, []), (8, 1, .lastore, 0, []), (9, 3, .goto (6), 0, [15]), (12, 1, .astore_n 3, 0, [3]), (13, 1, .iconst 1, 1, []), (14, 1, .ireturn, 0, [0]), (15, 1, .iconst 0, 0, []), (16, 1, .ireturn, 0, [0])]
def qw_12 : List (List Nat) := [[], [], [], [], [1297, 0, 107, 1298, 1299], [], [], [], [], [], [], [], []]
/-- 13: Marktongue.<init>()V -/
def qc_13 : List (Nat × qI) := [(0, 1, .aload_n 0, 0, [0]), (1, 3, .invokespecial 3, 0, [0, 1, 2, 0, 0]), (4, 1, .aload_n 0, 0, [0]), (5, 3, .new 9, 0, [10, 2, 0]), (8, 1, .dup, 0, []), (9, 3, .sipush 240, 240, []), (12, 3, .invokespecial 11, 0, [222, 2, 1, 10, 0]), (15, 3, .putfield 14, 0, [0, 0, 1]), (18, 1, .aload_n 0, 0, [0]), (19, 3, .new 9, 0, [10, 2, 0]), (22, 1, .dup, 0, []), (23, 3, .sipush 240, 240, []), (26, 3, .invokespecial 11, 0, [222, 2, 1, 10, 0]), (29, 3, .putfield 18, 0, [0, 1, 1]), (32, 1, .aload_n 0, 0, [0]), (33, 3, .new 9, 0, [10, 2, 0]), (36, 1, .dup, 0, []), (37, 3, .sipush 240, 240, []), (40, 3, .invokespecial 11, 0, [222, 2, 1, 10, 0]), (43, 3, .putfield 21, 0, [0, 2, 1]), (46, 1, .aload_n 0, 0, [0]), (47, 3, .new 24, 0, [5, 3, 0]), (50, 1, .dup, 0, []), (51, 1, .aload_n 0, 0, [0]), (52, 3, .getfield 14, 0, [0, 0, 1]), (55, 3, .invokespecial 26, 0, [190, 2, 1, 5, 0]), (58, 3, .putfield 29, 0, [0, 3, 1]), (61, 1, .aload_n 0, 0, [0]), (62, 3, .new 33, 0, [3, 13, 0]), (65, 1, .dup, 0, []), (66, 3, .invokespecial 35, 0, [146, 1, 1, 3, 0]), (69, 3, .putfield 36, 0, [0, 4, 1]), (72, 1, .aload_n 0, 0, [0]), (73, 3, .new 40, 0, [2, 9, 0]), (76, 1, .dup, 0, []), (77, 1, .aload_n 0, 0, [0]), (78, 3, .getfield 14, 0, [0, 0, 1]), (81, 1, .aload_n 0, 0, [0]), (82, 3, .getfield 29, 0, [0, 3, 1]), (85, 1, .aload_n 0, 0, [0]), (86, 3, .getfield 36, 0, [0, 4, 1]), (89, 3, .invokespecial 42, 0, [127, 4, 1, 2, 0]), (92, 3, .putfield 45, 0, [0, 5, 1]), (95, 1, .aload_n 0, 0, [0]), (96, 3, .new 49, 0, [4, 6, 0]), (99, 1, .dup, 0, []), (100, 1, .aload_n 0, 0, [0]), (101, 3, .getfield 36, 0, [0, 4, 1]), (104, 3, .invokespecial 51, 0, [174, 2, 1, 4, 0]), (107, 3, .putfield 54, 0, [0, 6, 1]), (110, 1, .aload_n 0, 0, [0]), (111, 3, .new 58, 0, [12, 9, 0]), (114, 1, .dup, 0, []), (115, 3, .invokespecial 60, 0, [244, 1, 1, 12, 0]), (118, 3, .putfield 61, 0, [0, 7, 1]), (121, 1, .aload_n 0, 0, [0]), (122, 3, .new 65, 0, [9, 3, 0]), (125, 1, .dup, 0, []), (126, 1, .aload_n 0, 0, [0]), (127, 3, .getfield 61, 0, [0, 7, 1]), (130, 3, .invokespecial 67, 0, [216, 2, 1, 9, 0]), (133, 3, .putfield 70, 0, [0, 8, 1]), (136, 1, .aload_n 0, 0, [0]), (137, 3, .new 9, 0, [10, 2, 0]), (140, 1, .dup, 0, []), (141, 3, .sipush 240, 240, []), (144, 3, .invokespecial 11, 0, [222, 2, 1, 10, 0]), (147, 3, .putfield 74, 0, [0, 9, 1]), (150, 1, .aload_n 0, 0, [0]), (151, 3, .new 77, 0, [6, 13, 0]), (154, 1, .dup, 0, []), (155, 3, .new 24, 0, [5, 3, 0]), (158, 1, .dup, 0, []), (159, 1, .aload_n 0, 0, [0]), (160, 3, .getfield 18, 0, [0, 1, 1]), (163, 3, .invokespecial 26, 0, [190, 2, 1, 5, 0]), (166, 1, .aload_n 0, 0, [0]), (167, 3, .getfield 29, 0, [0, 3, 1]), (170, 3, .new 24, 0, [5, 3, 0]), (173, 1, .dup, 0, []), (174, 1, .aload_n 0, 0, [0]), (175, 3, .getfield 21, 0, [0, 2, 1]), (178, 3, .invokespecial 26, 0, [190, 2, 1, 5, 0]), (181, 3, .invokespecial 79, 0, [197, 4, 1, 6, 0]), (184, 3, .putfield 82, 0, [0, 10, 1]), (187, 1, .aload_n 0, 0, [0]), (188, 1, .iconst 1, 1, []), (189, 3, .putfield 86, 0, [0, 11, 3]), (192, 1, .return_, 0, [])]
def qw_13 : List (List Nat) := [[], [132, 133, 134], [], [135, 136, 108], [], [], [137, 0, 108, 138], [436], [], [135, 136, 108], [], [], [137, 0, 108, 138], [437], [], [135, 136, 108], [], [], [137, 0, 108, 138], [438], [], [149, 150, 109], [], [], [436], [151, 0, 109, 152], [439], [], [167, 168, 110], [], [169, 1, 110, 170], [440], [], [231, 232, 112], [], [], [436], [], [439], [], [440], [233, 0, 112, 234], [441], [], [265, 266, 113], [], [], [440], [267, 0, 113, 268], [442], [], [316, 317, 115], [], [318, 1, 115, 319], [443], [], [352, 353, 116], [], [], [443], [354, 0, 116, 355], [444], [], [135, 136, 108], [], [], [137, 0, 108, 138], [445], [], [370, 371, 117], [], [149, 150, 109], [], [], [437], [151, 0, 109, 152], [], [439], [149, 150, 109], [], [], [438], [151, 0, 109, 152], [372, 0, 117, 373], [446], [], [], [447], []]
/-- 14: Marktongue.put(II)I -/
def qc_14 : List (Nat × qI) := [(0, 1, .iload_n 1, 0, [1]), (1, 3, .ifCond .lt (14), 0, [15]), (4, 1, .iload_n 1, 0, [1]), (5, 1, .aload_n 0, 0, [0]), (6, 3, .getfield 14, 0, [0, 0, 1]), (9, 3, .invokevirtual 90, 0, [223, 1, 1, 10, 0]), (12, 3, .if_icmp .le (13), 0, [25]), (15, 3, .new 94, 0, [0, 6, 1]), (25, 1, .iload_n 2, 0, [2]), (26, 2, .bipush 10, 10, []), (28, 3, .if_icmp .eq (25), 0, [53]), (31, 1, .iload_n 2, 0, [2]), (32, 2, .bipush 32, 32, []), (34, 3, .if_icmp .lt (9), 0, [43]), (37, 1, .iload_n 2, 0, [2]), (38, 2, .bipush 126, 126, []), (40, 3, .if_icmp .le (13), 0, [53]), (43, 3, .new 101, 0, [1, 6, 1]), (53, 1, .aload_n 0, 0, [0]), (54, 3, .getfield 14, 0, [0, 0, 1]), (57, 3, .invokevirtual 90, 0, [223, 1, 1, 10, 0]), (60, 3, .sipush 240, 240, []), (63, 3, .if_icmp .lt (13), 0, [76]), (66, 3, .new 106, 0, [2, 6, 1]), (76, 1, .aload_n 0, 0, [0]), (77, 3, .getfield 14, 0, [0, 0, 1]), (80, 1, .iload_n 1, 0, [1]), (81, 1, .iload_n 2, 0, [2]), (82, 3, .invokevirtual 111, 0, [230, 3, 1, 10, 0]), (85, 1, .aload_n 0, 0, [0]), (86, 1, .iconst 1, 1, []), (87, 3, .putfield 86, 0, [0, 11, 3]), (90, 1, .aload_n 0, 0, [0]), (91, 3, .getfield 14, 0, [0, 0, 1]), (94, 3, .invokevirtual 90, 0, [223, 1, 1, 10, 0]), (97, 1, .ireturn, 0, [0])]
def qw_14 : List (List Nat) := [[], [], [], [], [436], [477, 0, 108, 478, 479], [], [], [], [], [], [], [], [], [], [], [], [], [], [436], [477, 0, 108, 478, 479], [], [], [], [], [436], [], [], [1166, 0, 108, 1167, 1168], [], [], [447], [], [436], [477, 0, 108, 478, 479], []]
/-- 15: Marktongue.take(II)I -/
def qc_15 : List (Nat × qI) := [(0, 1, .iload_n 1, 0, [1]), (1, 3, .ifCond .lt (14), 0, [15]), (4, 1, .iload_n 1, 0, [1]), (5, 1, .aload_n 0, 0, [0]), (6, 3, .getfield 14, 0, [0, 0, 1]), (9, 3, .invokevirtual 90, 0, [223, 1, 1, 10, 0]), (12, 3, .if_icmp .lt (13), 0, [25]), (15, 3, .new 94, 0, [0, 6, 1]), (25, 1, .iload_n 2, 0, [2]), (26, 1, .iconst 1, 1, []), (27, 3, .if_icmp .lt (16), 0, [43]), (30, 1, .iload_n 2, 0, [2]), (31, 1, .aload_n 0, 0, [0]), (32, 3, .getfield 14, 0, [0, 0, 1]), (35, 3, .invokevirtual 90, 0, [223, 1, 1, 10, 0]), (38, 1, .iload_n 1, 0, [1]), (39, 1, .isub, 0, []), (40, 3, .if_icmp .le (13), 0, [53]), (43, 3, .new 101, 0, [1, 6, 1]), (53, 1, .aload_n 0, 0, [0]), (54, 3, .getfield 14, 0, [0, 0, 1]), (57, 1, .iload_n 1, 0, [1]), (58, 1, .iload_n 2, 0, [2]), (59, 3, .invokevirtual 117, 0, [231, 3, 1, 10, 0]), (62, 1, .aload_n 0, 0, [0]), (63, 1, .iconst 1, 1, []), (64, 3, .putfield 86, 0, [0, 11, 3]), (67, 1, .aload_n 0, 0, [0]), (68, 3, .getfield 14, 0, [0, 0, 1]), (71, 3, .invokevirtual 90, 0, [223, 1, 1, 10, 0]), (74, 1, .ireturn, 0, [0])]
def qw_15 : List (List Nat) := [[], [], [], [], [436], [477, 0, 108, 478, 479], [], [], [], [], [], [], [], [436], [477, 0, 108, 478, 479], [], [], [], [], [], [436], [], [], [1179, 0, 108, 1180, 1181], [], [], [447], [], [436], [477, 0, 108, 478, 479], []]
/-- 16: Marktongue.length()I -/
def qc_16 : List (Nat × qI) := [(0, 1, .aload_n 0, 0, [0]), (1, 3, .getfield 14, 0, [0, 0, 1]), (4, 3, .invokevirtual 90, 0, [223, 1, 1, 10, 0]), (7, 1, .ireturn, 0, [0])]
def qw_16 : List (List Nat) := [[], [436], [477, 0, 108, 478, 479], []]
/-- 17: Marktongue.character(I)I -/
def qc_17 : List (Nat × qI) := [(0, 1, .iload_n 1, 0, [1]), (1, 3, .ifCond .lt (14), 0, [15]), (4, 1, .iload_n 1, 0, [1]), (5, 1, .aload_n 0, 0, [0]), (6, 3, .getfield 14, 0, [0, 0, 1]), (9, 3, .invokevirtual 90, 0, [223, 1, 1, 10, 0]), (12, 3, .if_icmp .lt (13), 0, [25]), (15, 3, .new 94, 0, [0, 6, 1]), (25, 1, .aload_n 0, 0, [0]), (26, 3, .getfield 14, 0, [0, 0, 1]), (29, 1, .iload_n 1, 0, [1]), (30, 3, .invokevirtual 120, 0, [224, 2, 1, 10, 0]), (33, 1, .ireturn, 0, [0])]
def qw_17 : List (List Nat) := [[], [], [], [], [436], [477, 0, 108, 478, 479], [], [], [], [436], [], [596, 0, 108, 508, 509], []]
/-- 18: Marktongue.clear()I -/
def qc_18 : List (Nat × qI) := [(0, 1, .aload_n 0, 0, [0]), (1, 3, .getfield 14, 0, [0, 0, 1]), (4, 3, .invokevirtual 90, 0, [223, 1, 1, 10, 0]), (7, 1, .istore_n 1, 0, [1]), (8, 1, .aload_n 0, 0, [0]), (9, 3, .getfield 14, 0, [0, 0, 1]), (12, 3, .invokevirtual 124, 0, [227, 1, 1, 10, 0]), (15, 1, .aload_n 0, 0, [0]), (16, 1, .iconst 1, 1, []), (17, 3, .putfield 86, 0, [0, 11, 3]), (20, 1, .iload_n 1, 0, [1]), (21, 1, .ireturn, 0, [0])]
def qw_18 : List (List Nat) := [[], [436], [477, 0, 108, 478, 479], [], [], [436], [485, 0, 108, 486, 487], [], [], [447], [], []]
/-- 19: Marktongue.nodes()I -/
def qc_19 : List (Nat × qI) := [(0, 1, .aload_n 0, 0, [0]), (1, 3, .invokevirtual 127, 0, [31, 1, 1, 0, 0]), (4, 1, .aload_n 0, 0, [0]), (5, 3, .getfield 61, 0, [0, 7, 1]), (8, 3, .invokevirtual 130, 0, [250, 1, 1, 12, 0]), (11, 1, .ireturn, 0, [0])]
def qw_19 : List (List Nat) := [[], [493, 0, 107, 495, 0], [], [443], [951, 0, 115, 915, 916], []]
/-- 20: Marktongue.node(II)I -/
def qc_20 : List (Nat × qI) := [(0, 1, .aload_n 0, 0, [0]), (1, 3, .invokevirtual 127, 0, [31, 1, 1, 0, 0]), (4, 1, .iload_n 1, 0, [1]), (5, 3, .ifCond .lt (14), 0, [19]), (8, 1, .iload_n 1, 0, [1]), (9, 1, .aload_n 0, 0, [0]), (10, 3, .getfield 61, 0, [0, 7, 1]), (13, 3, .invokevirtual 130, 0, [250, 1, 1, 12, 0]), (16, 3, .if_icmp .lt (13), 0, [29]), (19, 3, .new 94, 0, [0, 6, 1]), (29, 1, .iload_n 2, 0, [2]), (30, 30, .tableswitch (66) 0 3 #[30, 39, 48, 57], 0, [96, 0, 60, 1, 69, 2, 78, 3, 87]), (60, 1, .aload_n 0, 0, [0]), (61, 3, .getfield 61, 0, [0, 7, 1]), (64, 1, .iload_n 1, 0, [1]), (65, 3, .invokevirtual 133, 0, [251, 2, 1, 12, 0]), (68, 1, .ireturn, 0, [0]), (69, 1, .aload_n 0, 0, [0]), (70, 3, .getfield 61, 0, [0, 7, 1]), (73, 1, .iload_n 1, 0, [1]), (74, 3, .invokevirtual 136, 0, [252, 2, 1, 12, 0]), (77, 1, .ireturn, 0, [0]), (78, 1, .aload_n 0, 0, [0]), (79, 3, .getfield 61, 0, [0, 7, 1]), (82, 1, .iload_n 1, 0, [1]), (83, 3, .invokevirtual 139, 0, [253, 2, 1, 12, 0]), (86, 1, .ireturn, 0, [0]), (87, 1, .aload_n 0, 0, [0]), (88, 3, .getfield 61, 0, [0, 7, 1]), (91, 1, .iload_n 1, 0, [1]), (92, 3, .invokevirtual 142, 0, [254, 2, 1, 12, 0]), (95, 1, .ireturn, 0, [0]), (96, 3, .new 101, 0, [1, 6, 1])]
def qw_20 : List (List Nat) := [[], [493, 0, 107, 495, 0], [], [], [], [], [443], [951, 0, 115, 915, 916], [], [], [], [], [], [443], [], [1199, 0, 115, 931, 932], [], [], [443], [], [1200, 0, 115, 919, 920], [], [], [443], [], [1201, 0, 115, 1202, 1203], [], [], [443], [], [1205, 0, 115, 1206, 1207], [], []]
/-- 21: Marktongue.child(II)I -/
def qc_21 : List (Nat × qI) := [(0, 1, .aload_n 0, 0, [0]), (1, 3, .invokevirtual 127, 0, [31, 1, 1, 0, 0]), (4, 1, .iload_n 1, 0, [1]), (5, 3, .ifCond .lt (14), 0, [19]), (8, 1, .iload_n 1, 0, [1]), (9, 1, .aload_n 0, 0, [0]), (10, 3, .getfield 61, 0, [0, 7, 1]), (13, 3, .invokevirtual 130, 0, [250, 1, 1, 12, 0]), (16, 3, .if_icmp .lt (13), 0, [29]), (19, 3, .new 94, 0, [0, 6, 1]), (29, 1, .iload_n 2, 0, [2]), (30, 3, .ifCond .lt (15), 0, [45]), (33, 1, .iload_n 2, 0, [2]), (34, 1, .aload_n 0, 0, [0]), (35, 3, .getfield 61, 0, [0, 7, 1]), (38, 1, .iload_n 1, 0, [1]), (39, 3, .invokevirtual 139, 0, [253, 2, 1, 12, 0]), (42, 3, .if_icmp .lt (13), 0, [55]), (45, 3, .new 94, 0, [0, 6, 1]), (55, 1, .aload_n 0, 0, [0]), (56, 3, .getfield 61, 0, [0, 7, 1]), (59, 1, .iload_n 1, 0, [1]), (60, 1, .iload_n 2, 0, [2]), (61, 3, .invokevirtual 149, 0, [257, 3, 1, 12, 0]), (64, 1, .ireturn, 0, [0])]
def qw_21 : List (List Nat) := [[], [493, 0, 107, 495, 0], [], [], [], [], [443], [951, 0, 115, 915, 916], [], [], [], [], [], [], [443], [], [1201, 0, 115, 1202, 1203], [], [], [], [443], [], [], [1218, 0, 115, 1219, 1220], []]
/-- 22: Marktongue.owner(I)I -/
def qc_22 : List (Nat × qI) := [(0, 1, .aload_n 0, 0, [0]), (1, 3, .invokevirtual 127, 0, [31, 1, 1, 0, 0]), (4, 1, .iload_n 1, 0, [1]), (5, 3, .ifCond .lt (14), 0, [19]), (8, 1, .iload_n 1, 0, [1]), (9, 1, .aload_n 0, 0, [0]), (10, 3, .getfield 14, 0, [0, 0, 1]), (13, 3, .invokevirtual 90, 0, [223, 1, 1, 10, 0]), (16, 3, .if_icmp .lt (13), 0, [29]), (19, 3, .new 94, 0, [0, 6, 1]), (29, 1, .aload_n 0, 0, [0]), (30, 3, .getfield 61, 0, [0, 7, 1]), (33, 1, .aload_n 0, 0, [0]), (34, 3, .getfield 36, 0, [0, 4, 1]), (37, 1, .iload_n 1, 0, [1]), (38, 3, .invokevirtual 153, 0, [168, 2, 1, 3, 0]), (41, 3, .invokevirtual 156, 0, [256, 2, 1, 12, 0]), (44, 1, .ireturn, 0, [0])]
def qw_22 : List (List Nat) := [[], [493, 0, 107, 495, 0], [], [], [], [], [436], [477, 0, 108, 478, 479], [], [], [], [443], [], [440], [], [1229, 0, 110, 1230, 1231], [1233, 0, 115, 1234, 1235], []]
/-- 23: Marktongue.leads(I)I -/
def qc_23 : List (Nat × qI) := [(0, 1, .aload_n 0, 0, [0]), (1, 3, .invokevirtual 127, 0, [31, 1, 1, 0, 0]), (4, 1, .iload_n 1, 0, [1]), (5, 3, .ifCond .lt (14), 0, [19]), (8, 1, .iload_n 1, 0, [1]), (9, 1, .aload_n 0, 0, [0]), (10, 3, .getfield 61, 0, [0, 7, 1]), (13, 3, .invokevirtual 130, 0, [250, 1, 1, 12, 0]), (16, 3, .if_icmp .lt (13), 0, [29]), (19, 3, .new 94, 0, [0, 6, 1]), (29, 1, .aload_n 0, 0, [0]), (30, 3, .getfield 61, 0, [0, 7, 1]), (33, 1, .iload_n 1, 0, [1]), (34, 3, .invokevirtual 133, 0, [251, 2, 1, 12, 0]), (37, 2, .bipush 12, 12, []), (39, 3, .if_icmp .eq (13), 0, [52]), (42, 3, .new 106, 0, [2, 6, 1]), (52, 1, .aload_n 0, 0, [0]), (53, 3, .getfield 61, 0, [0, 7, 1]), (56, 1, .aload_n 0, 0, [0]), (57, 3, .getfield 36, 0, [0, 4, 1]), (60, 1, .aload_n 0, 0, [0]), (61, 3, .getfield 61, 0, [0, 7, 1]), (64, 1, .iload_n 1, 0, [1]), (65, 3, .invokevirtual 161, 0, [255, 2, 1, 12, 0]), (68, 3, .invokevirtual 164, 0, [173, 2, 1, 3, 0]), (71, 3, .invokevirtual 156, 0, [256, 2, 1, 12, 0]), (74, 1, .ireturn, 0, [0])]
def qw_23 : List (List Nat) := [[], [493, 0, 107, 495, 0], [], [], [], [], [443], [951, 0, 115, 915, 916], [], [], [], [443], [], [1199, 0, 115, 931, 932], [], [], [], [], [443], [], [440], [], [443], [], [1245, 0, 115, 940, 941], [1246, 0, 110, 1247, 1248], [1233, 0, 115, 1234, 1235], []]
/-- 24: Marktongue.count(I)I -/
def qc_24 : List (Nat × qI) := [(0, 1, .iload_n 1, 0, [1]), (1, 3, .ifCond .lt (9), 0, [10]), (4, 1, .iload_n 1, 0, [1]), (5, 2, .bipush 12, 12, []), (7, 3, .if_icmp .le (13), 0, [20]), (10, 3, .new 101, 0, [1, 6, 1]), (20, 1, .aload_n 0, 0, [0]), (21, 3, .invokevirtual 127, 0, [31, 1, 1, 0, 0]), (24, 1, .aload_n 0, 0, [0]), (25, 3, .getfield 61, 0, [0, 7, 1]), (28, 1, .iload_n 1, 0, [1]), (29, 3, .invokevirtual 169, 0, [258, 2, 1, 12, 0]), (32, 1, .ireturn, 0, [0])]
def qw_24 : List (List Nat) := [[], [], [], [], [], [], [], [493, 0, 107, 495, 0], [], [443], [], [1263, 0, 115, 1264, 1265], []]
/-- 25: Marktongue.print(I)I -/
def qc_25 : List (Nat × qI) := [(0, 1, .iload_n 1, 0, [1]), (1, 3, .ifCond .eq (18), 0, [19]), (4, 1, .iload_n 1, 0, [1]), (5, 1, .iconst 1, 1, []), (6, 3, .if_icmp .eq (13), 0, [19]), (9, 3, .new 101, 0, [1, 6, 1]), (19, 1, .aload_n 0, 0, [0]), (20, 3, .invokevirtual 127, 0, [31, 1, 1, 0, 0]), (23, 1, .aload_n 0, 0, [0]), (24, 3, .getfield 70, 0, [0, 8, 1]), (27, 1, .iload_n 1, 0, [1]), (28, 3, .invokevirtual 174, 0, [217, 2, 1, 9, 0]), (31, 3, .invokevirtual 90, 0, [223, 1, 1, 10, 0]), (34, 1, .ireturn, 0, [0])]
def qw_25 : List (List Nat) := [[], [], [], [], [], [], [], [493, 0, 107, 495, 0], [], [444], [], [1275, 0, 116, 1276, 1277], [477, 0, 108, 478, 479], []]
/-- 26: Marktongue.printed(II)I -/
def qc_26 : List (Nat × qI) := [(0, 1, .iload_n 1, 0, [1]), (1, 3, .ifCond .eq (18), 0, [19]), (4, 1, .iload_n 1, 0, [1]), (5, 1, .iconst 1, 1, []), (6, 3, .if_icmp .eq (13), 0, [19]), (9, 3, .new 101, 0, [1, 6, 1]), (19, 1, .aload_n 0, 0, [0]), (20, 3, .invokevirtual 127, 0, [31, 1, 1, 0, 0]), (23, 1, .aload_n 0, 0, [0]), (24, 3, .getfield 70, 0, [0, 8, 1]), (27, 1, .iload_n 1, 0, [1]), (28, 3, .invokevirtual 174, 0, [217, 2, 1, 9, 0]), (31, 1, .astore_n 3, 0, [3]), (32, 1, .iload_n 2, 0, [2]), (33, 3, .ifCond .lt (11), 0, [44]), (36, 1, .iload_n 2, 0, [2]), (37, 1, .aload_n 3, 0, [3]), (38, 3, .invokevirtual 90, 0, [223, 1, 1, 10, 0]), (41, 3, .if_icmp .lt (13), 0, [54]), (44, 3, .new 94, 0, [0, 6, 1]), (54, 1, .aload_n 3, 0, [3]), (55, 1, .iload_n 2, 0, [2]), (56, 3, .invokevirtual 120, 0, [224, 2, 1, 10, 0]), (59, 1, .ireturn, 0, [0])]
def qw_26 : List (List Nat) := [[], [], [], [], [], [], [], [493, 0, 107, 495, 0], [], [444], [], [1275, 0, 116, 1276, 1277], [], [], [], [], [], [477, 0, 108, 478, 479], [], [], [], [], [596, 0, 108, 508, 509], []]
/-- 27: Marktongue.format()I -/
def qc_27 : List (Nat × qI) := [(0, 1, .aload_n 0, 0, [0]), (1, 3, .invokevirtual 127, 0, [31, 1, 1, 0, 0]), (4, 1, .aload_n 0, 0, [0]), (5, 3, .getfield 14, 0, [0, 0, 1]), (8, 3, .invokevirtual 90, 0, [223, 1, 1, 10, 0]), (11, 1, .istore_n 1, 0, [1]), (12, 1, .aload_n 0, 0, [0]), (13, 3, .invokevirtual 178, 0, [34, 1, 1, 0, 0]), (16, 1, .aload_n 0, 0, [0]), (17, 3, .getfield 14, 0, [0, 0, 1]), (20, 1, .aload_n 0, 0, [0]), (21, 3, .getfield 74, 0, [0, 9, 1]), (24, 3, .invokevirtual 181, 0, [232, 2, 1, 10, 0]), (27, 1, .aload_n 0, 0, [0]), (28, 1, .iconst 1, 1, []), (29, 3, .putfield 86, 0, [0, 11, 3]), (32, 1, .iload_n 1, 0, [1]), (33, 1, .aload_n 0, 0, [0]), (34, 3, .getfield 14, 0, [0, 0, 1]), (37, 3, .invokevirtual 90, 0, [223, 1, 1, 10, 0]), (40, 1, .isub, 0, []), (41, 1, .ireturn, 0, [0])]
def qw_27 : List (List Nat) := [[], [493, 0, 107, 495, 0], [], [436], [477, 0, 108, 478, 479], [], [], [956, 0, 107, 958, 37], [], [436], [], [445], [970, 0, 108, 971, 972], [], [], [447], [], [], [436], [477, 0, 108, 478, 479], [], []]
/-- 28: Marktongue.keep(I)I -/
def qc_28 : List (Nat × qI) := [(0, 1, .iload_n 1, 0, [1]), (1, 3, .ifCond .eq (18), 0, [19]), (4, 1, .iload_n 1, 0, [1]), (5, 1, .iconst 1, 1, []), (6, 3, .if_icmp .eq (13), 0, [19]), (9, 3, .new 101, 0, [1, 6, 1]), (19, 1, .iload_n 1, 0, [1]), (20, 3, .ifCond .ne (10), 0, [30]), (23, 1, .aload_n 0, 0, [0]), (24, 3, .getfield 18, 0, [0, 1, 1]), (27, 3, .goto (7), 0, [34]), (30, 1, .aload_n 0, 0, [0]), (31, 3, .getfield 21, 0, [0, 2, 1]), (34, 1, .astore_n 2, 0, [2]), (35, 1, .aload_n 2, 0, [2]), (36, 3, .invokevirtual 90, 0, [223, 1, 1, 10, 0]), (39, 1, .istore_n 3, 0, [3]), (40, 1, .aload_n 2, 0, [2]), (41, 1, .aload_n 0, 0, [0]), (42, 3, .getfield 14, 0, [0, 0, 1]), (45, 3, .invokevirtual 181, 0, [232, 2, 1, 10, 0]), (48, 1, .iload_n 3, 0, [3]), (49, 1, .ireturn, 0, [0])]
def qw_28 : List (List Nat) := [[], [], [], [], [], [], [], [], [], [437], [], [], [438], [], [], [477, 0, 108, 478, 479], [], [], [], [436], [970, 0, 108, 971, 972], [], []]
/-- 29: Marktongue.load(I)I -/
def qc_29 : List (Nat × qI) := [(0, 1, .iload_n 1, 0, [1]), (1, 3, .ifCond .eq (18), 0, [19]), (4, 1, .iload_n 1, 0, [1]), (5, 1, .iconst 1, 1, []), (6, 3, .if_icmp .eq (13), 0, [19]), (9, 3, .new 101, 0, [1, 6, 1]), (19, 1, .aload_n 0, 0, [0]), (20, 3, .getfield 14, 0, [0, 0, 1]), (23, 1, .iload_n 1, 0, [1]), (24, 3, .ifCond .ne (10), 0, [34]), (27, 1, .aload_n 0, 0, [0]), (28, 3, .getfield 18, 0, [0, 1, 1]), (31, 3, .goto (7), 0, [38]), (34, 1, .aload_n 0, 0, [0]), (35, 3, .getfield 21, 0, [0, 2, 1]), (38, 3, .invokevirtual 181, 0, [232, 2, 1, 10, 0]), (41, 1, .aload_n 0, 0, [0]), (42, 1, .iconst 1, 1, []), (43, 3, .putfield 86, 0, [0, 11, 3]), (46, 1, .aload_n 0, 0, [0]), (47, 3, .getfield 14, 0, [0, 0, 1]), (50, 3, .invokevirtual 90, 0, [223, 1, 1, 10, 0]), (53, 1, .ireturn, 0, [0])]
def qw_29 : List (List Nat) := [[], [], [], [], [], [], [], [436], [], [], [], [437], [], [], [438], [970, 0, 108, 971, 972], [], [], [447], [], [436], [477, 0, 108, 478, 479], []]
/-- 30: Marktongue.merge()I -/
def qc_30 : List (Nat × qI) := [(0, 1, .aload_n 0, 0, [0]), (1, 3, .getfield 82, 0, [0, 10, 1]), (4, 3, .invokevirtual 186, 0, [201, 1, 1, 6, 0]), (7, 1, .aload_n 0, 0, [0]), (8, 3, .getfield 82, 0, [0, 10, 1]), (11, 3, .invokevirtual 189, 0, [200, 1, 1, 6, 0]), (14, 3, .ifCond .le (11), 0, [25]), (17, 1, .aload_n 0, 0, [0]), (18, 3, .getfield 82, 0, [0, 10, 1]), (21, 3, .invokevirtual 189, 0, [200, 1, 1, 6, 0]), (24, 1, .ireturn, 0, [0]), (25, 1, .aload_n 0, 0, [0]), (26, 3, .getfield 82, 0, [0, 10, 1]), (29, 3, .invokevirtual 192, 0, [199, 1, 1, 6, 0]), (32, 3, .sipush 240, 240, []), (35, 3, .if_icmp .le (6), 0, [41]), (38, 2, .bipush (-2), -2, []), (40, 1, .ireturn, 0, [0]), (41, 1, .aload_n 0, 0, [0]), (42, 3, .getfield 14, 0, [0, 0, 1]), (45, 1, .aload_n 0, 0, [0]), (46, 3, .getfield 82, 0, [0, 10, 1]), (49, 3, .invokevirtual 195, 0, [198, 1, 1, 6, 0]), (52, 3, .invokevirtual 181, 0, [232, 2, 1, 10, 0]), (55, 1, .aload_n 0, 0, [0]), (56, 1, .iconst 1, 1, []), (57, 3, .putfield 86, 0, [0, 11, 3]), (60, 1, .iconst 0, 0, []), (61, 1, .ireturn, 0, [0])]
def qw_30 : List (List Nat) := [[], [446], [980, 0, 117, 981, 982], [], [446], [1044, 0, 117, 1045, 1046], [], [], [446], [1044, 0, 117, 1045, 1046], [], [], [446], [1048, 0, 117, 1049, 1050], [], [], [], [], [], [436], [], [446], [1052, 0, 117, 1053, 1054], [970, 0, 108, 971, 972], [], [], [447], [], []]
/-- 31: Marktongue.growTree()V -/
def qc_31 : List (Nat × qI) := [(0, 1, .aload_n 0, 0, [0]), (1, 3, .getfield 86, 0, [0, 11, 3]), (4, 3, .ifCond .ne (4), 0, [8]), (7, 1, .return_, 0, []), (8, 1, .aload_n 0, 0, [0]), (9, 3, .getfield 29, 0, [0, 3, 1]), (12, 3, .invokevirtual 199, 0, [191, 1, 1, 5, 0]), (15, 1, .aload_n 0, 0, [0]), (16, 3, .getfield 45, 0, [0, 5, 1]), (19, 3, .invokevirtual 202, 0, [128, 1, 1, 2, 0]), (22, 1, .iconst 0, 0, []), (23, 1, .istore_n 1, 0, [1]), (24, 1, .iload_n 1, 0, [1]), (25, 1, .aload_n 0, 0, [0]), (26, 3, .getfield 29, 0, [0, 3, 1]), (29, 3, .invokevirtual 205, 0, [192, 1, 1, 5, 0]), (32, 3, .if_icmp .ge (17), 0, [49]), (35, 1, .aload_n 0, 0, [0]), (36, 3, .getfield 45, 0, [0, 5, 1]), (39, 1, .iload_n 1, 0, [1]), (40, 3, .invokevirtual 208, 0, [129, 2, 1, 2, 0]), (43, 3, .iinc 1 1, 1, [1]), (46, 3, .goto (-22), 0, [24]), (49, 1, .aload_n 0, 0, [0]), (50, 3, .getfield 61, 0, [0, 7, 1]), (53, 3, .invokevirtual 211, 0, [245, 1, 1, 12, 0]), (56, 1, .iconst 0, 0, []), (57, 1, .istore_n 1, 0, [1]), (58, 1, .iload_n 1, 0, [1]), (59, 1, .aload_n 0, 0, [0]), (60, 3, .getfield 36, 0, [0, 4, 1]), (63, 3, .invokevirtual 212, 0, [152, 1, 1, 3, 0]), (66, 3, .if_icmp .ge (80), 0, [146]), (69, 1, .aload_n 0, 0, [0]), (70, 3, .getfield 61, 0, [0, 7, 1]), (73, 1, .aload_n 0, 0, [0]), (74, 3, .getfield 36, 0, [0, 4, 1]), (77, 1, .iload_n 1, 0, [1]), (78, 3, .invokevirtual 213, 0, [246, 3, 1, 12, 0]), (81, 1, .istore_n 2, 0, [2]), (82, 1, .aload_n 0, 0, [0]), (83, 3, .getfield 36, 0, [0, 4, 1]), (86, 1, .iload_n 1, 0, [1]), (87, 3, .invokevirtual 217, 0, [153, 2, 1, 3, 0]), (90, 1, .istore_n 3, 0, [3]), (91, 1, .iload_n 3, 0, [3]), (92, 2, .bipush 6, 6, []), (94, 3, .if_icmp .eq (8), 0, [102]), (97, 1, .iload_n 3, 0, [3]), (98, 1, .iconst 4, 4, []), (99, 3, .if_icmp .ne (30), 0, [129]), (102, 1, .aload_n 0, 0, [0]), (103, 1, .iload_n 1, 0, [1]), (104, 3, .invokevirtual 218, 0, [32, 2, 1, 0, 0]), (107, 1, .aload_n 0, 0, [0]), (108, 3, .getfield 54, 0, [0, 6, 1]), (111, 3, .invokevirtual 221, 0, [181, 1, 1, 4, 0]), (114, 1, .aload_n 0, 0, [0]), (115, 3, .getfield 61, 0, [0, 7, 1]), (118, 1, .aload_n 0, 0, [0]), (119, 3, .getfield 54, 0, [0, 6, 1]), (122, 1, .iload_n 2, 0, [2]), (123, 3, .invokevirtual 223, 0, [249, 3, 1, 12, 0]), (126, 3, .goto (14), 0, [140]), (129, 1, .iload_n 3, 0, [3]), (130, 1, .iconst 5, 5, []), (131, 3, .if_icmp .ne (9), 0, [140]), (134, 1, .aload_n 0, 0, [0]), (135, 1, .iload_n 1, 0, [1]), (136, 1, .iload_n 2, 0, [2]), (137, 3, .invokevirtual 227, 0, [33, 3, 1, 0, 0]), (140, 3, .iinc 1 1, 1, [1]), (143, 3, .goto (-85), 0, [58]), (146, 1, .aload_n 0, 0, [0]), (147, 3, .getfield 70, 0, [0, 8, 1]), (150, 3, .invokevirtual 230, 0, [218, 1, 1, 9, 0]), (153, 1, .aload_n 0, 0, [0]), (154, 1, .iconst 0, 0, []), (155, 3, .putfield 86, 0, [0, 11, 3]), (158, 1, .return_, 0, [])]
def qw_31 : List (List Nat) := [[], [447], [], [], [], [439], [497, 0, 109, 498, 499], [], [441], [511, 0, 112, 512, 513], [], [], [], [], [439], [547, 0, 109, 517, 518], [], [], [441], [], [548, 0, 112, 549, 550], [], [], [], [443], [718, 0, 115, 719, 720], [], [], [], [], [440], [723, 0, 110, 724, 725], [], [], [443], [], [440], [], [727, 0, 115, 728, 729], [], [], [440], [], [745, 0, 110, 577, 578], [], [], [], [], [], [], [], [], [], [746, 0, 107, 748, 18], [], [442], [789, 0, 113, 790, 791], [], [443], [], [442], [], [880, 0, 115, 881, 882], [], [], [], [], [], [], [], [904, 0, 107, 906, 33], [], [], [], [444], [909, 0, 116, 910, 911], [], [], [447], []]
/-- 32: Marktongue.copyLines(I)V -/
def qc_32 : List (Nat × qI) := [(0, 1, .aload_n 0, 0, [0]), (1, 3, .getfield 54, 0, [0, 6, 1]), (4, 3, .invokevirtual 233, 0, [175, 1, 1, 4, 0]), (7, 1, .aload_n 0, 0, [0]), (8, 3, .getfield 36, 0, [0, 4, 1]), (11, 1, .iload_n 1, 0, [1]), (12, 3, .invokevirtual 234, 0, [160, 2, 1, 3, 0]), (15, 1, .istore_n 2, 0, [2]), (16, 1, .iload_n 2, 0, [2]), (17, 1, .istore_n 3, 0, [3]), (18, 1, .iload_n 3, 0, [3]), (19, 1, .iload_n 2, 0, [2]), (20, 1, .aload_n 0, 0, [0]), (21, 3, .getfield 36, 0, [0, 4, 1]), (24, 1, .iload_n 1, 0, [1]), (25, 3, .invokevirtual 237, 0, [161, 2, 1, 3, 0]), (28, 1, .iadd, 0, []), (29, 3, .if_icmp .ge (100), 0, [129]), (32, 1, .iload_n 3, 0, [3]), (33, 1, .iload_n 2, 0, [2]), (34, 3, .if_icmp .le (12), 0, [46]), (37, 1, .aload_n 0, 0, [0]), (38, 3, .getfield 54, 0, [0, 6, 1]), (41, 2, .bipush 10, 10, []), (43, 3, .invokevirtual 240, 0, [176, 2, 1, 4, 0]), (46, 1, .aload_n 0, 0, [0]), (47, 3, .getfield 14, 0, [0, 0, 1]), (50, 1, .aload_n 0, 0, [0]), (51, 3, .getfield 36, 0, [0, 4, 1]), (54, 1, .iload_n 3, 0, [3]), (55, 3, .invokevirtual 243, 0, [164, 2, 1, 3, 0]), (58, 1, .aload_n 0, 0, [0]), (59, 3, .getfield 29, 0, [0, 3, 1]), (62, 1, .iload_n 3, 0, [3]), (63, 3, .invokevirtual 246, 0, [194, 2, 1, 5, 0]), (66, 3, .invokestatic 249, 0, [39, 3, 0, 0, 0]), (69, 2, .istore 4, 0, [4]), (71, 1, .aload_n 0, 0, [0]), (72, 3, .getfield 14, 0, [0, 0, 1]), (75, 2, .iload 4, 0, [4]), (77, 1, .aload_n 0, 0, [0]), (78, 3, .getfield 29, 0, [0, 3, 1]), (81, 1, .iload_n 3, 0, [3]), (82, 3, .invokevirtual 246, 0, [194, 2, 1, 5, 0]), (85, 3, .invokestatic 253, 0, [40, 3, 0, 0, 0]), (88, 2, .istore 5, 0, [5]), (90, 2, .iload 4, 0, [4]), (92, 2, .istore 6, 0, [6]), (94, 2, .iload 6, 0, [6]), (96, 2, .iload 5, 0, [5]), (98, 3, .if_icmp .ge (25), 0, [123]), (101, 1, .aload_n 0, 0, [0]), (102, 3, .getfield 54, 0, [0, 6, 1]), (105, 1, .aload_n 0, 0, [0]), (106, 3, .getfield 14, 0, [0, 0, 1]), (109, 2, .iload 6, 0, [6]), (111, 3, .invokevirtual 120, 0, [224, 2, 1, 10, 0]), (114, 3, .invokevirtual 240, 0, [176, 2, 1, 4, 0]), (117, 3, .iinc 6 1, 1, [6]), (120, 3, .goto (-26), 0, [94]), (123, 3, .iinc 3 1, 1, [3]), (126, 3, .goto (-108), 0, [18]), (129, 1, .return_, 0, [])]
def qw_32 : List (List Nat) := [[], [442], [750, 0, 113, 751, 752], [], [440], [], [767, 0, 110, 768, 769], [], [], [], [], [], [], [440], [], [771, 0, 110, 772, 773], [], [], [], [], [], [], [442], [], [775, 0, 113, 776, 777], [], [436], [], [440], [], [780, 0, 110, 781, 782], [], [439], [], [784, 0, 109, 557, 558], [785, 0, 107, 594], [], [], [436], [], [], [439], [], [784, 0, 109, 557, 558], [786, 0, 107, 787], [], [], [], [], [], [], [], [442], [], [436], [], [596, 0, 108, 508, 509], [775, 0, 113, 776, 777], [], [], [], [], []]
/-- 33: Marktongue.copyFence(II)V -/
def qc_33 : List (Nat × qI) := [(0, 1, .aload_n 0, 0, [0]), (1, 3, .getfield 36, 0, [0, 4, 1]), (4, 1, .iload_n 1, 0, [1]), (5, 3, .invokevirtual 234, 0, [160, 2, 1, 3, 0]), (8, 1, .iconst 1, 1, []), (9, 1, .iadd, 0, []), (10, 1, .istore_n 3, 0, [3]), (11, 1, .iload_n 3, 0, [3]), (12, 2, .istore 4, 0, [4]), (14, 2, .iload 4, 0, [4]), (16, 1, .iload_n 3, 0, [3]), (17, 1, .aload_n 0, 0, [0]), (18, 3, .getfield 36, 0, [0, 4, 1]), (21, 1, .iload_n 1, 0, [1]), (22, 3, .invokevirtual 237, 0, [161, 2, 1, 3, 0]), (25, 1, .iadd, 0, []), (26, 3, .if_icmp .ge (67), 0, [93]), (29, 1, .aload_n 0, 0, [0]), (30, 3, .getfield 36, 0, [0, 4, 1]), (33, 2, .iload 4, 0, [4]), (35, 3, .invokevirtual 243, 0, [164, 2, 1, 3, 0]), (38, 2, .istore 5, 0, [5]), (40, 2, .iload 5, 0, [5]), (42, 1, .aload_n 0, 0, [0]), (43, 3, .getfield 29, 0, [0, 3, 1]), (46, 2, .iload 4, 0, [4]), (48, 3, .invokevirtual 246, 0, [194, 2, 1, 5, 0]), (51, 3, .if_icmp .ge (26), 0, [77]), (54, 1, .aload_n 0, 0, [0]), (55, 3, .getfield 61, 0, [0, 7, 1]), (58, 1, .iload_n 2, 0, [2]), (59, 1, .aload_n 0, 0, [0]), (60, 3, .getfield 14, 0, [0, 0, 1]), (63, 2, .iload 5, 0, [5]), (65, 3, .invokevirtual 120, 0, [224, 2, 1, 10, 0]), (68, 3, .invokevirtual 256, 0, [248, 3, 1, 12, 0]), (71, 3, .iinc 5 1, 1, [5]), (74, 3, .goto (-34), 0, [40]), (77, 1, .aload_n 0, 0, [0]), (78, 3, .getfield 61, 0, [0, 7, 1]), (81, 1, .iload_n 2, 0, [2]), (82, 2, .bipush 10, 10, []), (84, 3, .invokevirtual 256, 0, [248, 3, 1, 12, 0]), (87, 3, .iinc 4 1, 1, [4]), (90, 3, .goto (-76), 0, [14]), (93, 1, .return_, 0, [])]
def qw_33 : List (List Nat) := [[], [440], [], [767, 0, 110, 768, 769], [], [], [], [], [], [], [], [], [440], [], [771, 0, 110, 772, 773], [], [], [], [440], [], [780, 0, 110, 781, 782], [], [], [], [439], [], [784, 0, 109, 557, 558], [], [], [443], [], [], [436], [], [596, 0, 108, 508, 509], [908, 0, 115, 897, 898], [], [], [], [443], [], [], [908, 0, 115, 897, 898], [], [], []]
/-- 34: Marktongue.writeFormatted()V -/
def qc_34 : List (Nat × qI) := [(0, 1, .aload_n 0, 0, [0]), (1, 3, .getfield 74, 0, [0, 9, 1]), (4, 3, .invokevirtual 124, 0, [227, 1, 1, 10, 0]), (7, 1, .iconst 0, 0, []), (8, 1, .istore_n 1, 0, [1]), (9, 1, .iconst 0, 0, []), (10, 1, .istore_n 2, 0, [2]), (11, 1, .iload_n 2, 0, [2]), (12, 1, .aload_n 0, 0, [0]), (13, 3, .getfield 29, 0, [0, 3, 1]), (16, 3, .invokevirtual 205, 0, [192, 1, 1, 5, 0]), (19, 3, .if_icmp .ge (112), 0, [131]), (22, 1, .aload_n 0, 0, [0]), (23, 3, .getfield 29, 0, [0, 3, 1]), (26, 1, .iload_n 2, 0, [2]), (27, 3, .invokevirtual 259, 0, [193, 2, 1, 5, 0]), (30, 1, .istore_n 3, 0, [3]), (31, 1, .aload_n 0, 0, [0]), (32, 3, .getfield 36, 0, [0, 4, 1]), (35, 1, .aload_n 0, 0, [0]), (36, 3, .getfield 36, 0, [0, 4, 1]), (39, 1, .iload_n 2, 0, [2]), (40, 3, .invokevirtual 262, 0, [166, 2, 1, 3, 0]), (43, 3, .invokevirtual 217, 0, [153, 2, 1, 3, 0]), (46, 1, .iconst 5, 5, []), (47, 3, .if_icmp .ne (7), 0, [54]), (50, 1, .iconst 1, 1, []), (51, 3, .goto (4), 0, [55]), (54, 1, .iconst 0, 0, []), (55, 2, .istore 4, 0, [4]), (57, 2, .iload 4, 0, [4]), (59, 3, .ifCond .eq (14), 0, [73]), (62, 1, .aload_n 0, 0, [0]), (63, 3, .getfield 29, 0, [0, 3, 1]), (66, 1, .iload_n 2, 0, [2]), (67, 3, .invokevirtual 246, 0, [194, 2, 1, 5, 0]), (70, 3, .goto (19), 0, [89]), (73, 1, .aload_n 0, 0, [0]), (74, 3, .getfield 14, 0, [0, 0, 1]), (77, 1, .iload_n 3, 0, [3]), (78, 1, .aload_n 0, 0, [0]), (79, 3, .getfield 29, 0, [0, 3, 1]), (82, 1, .iload_n 2, 0, [2]), (83, 3, .invokevirtual 246, 0, [194, 2, 1, 5, 0]), (86, 3, .invokestatic 253, 0, [40, 3, 0, 0, 0]), (89, 2, .istore 5, 0, [5]), (91, 2, .iload 5, 0, [5]), (93, 1, .iload_n 3, 0, [3]), (94, 3, .if_icmp .ne (12), 0, [106]), (97, 2, .iload 4, 0, [4]), (99, 3, .ifCond .ne (7), 0, [106]), (102, 1, .iconst 1, 1, []), (103, 3, .goto (4), 0, [107]), (106, 1, .iconst 0, 0, []), (107, 2, .istore 6, 0, [6]), (109, 2, .iload 6, 0, [6]), (111, 3, .ifCond .ne (11), 0, [122]), (114, 1, .aload_n 0, 0, [0]), (115, 1, .iload_n 3, 0, [3]), (116, 2, .iload 5, 0, [5]), (118, 1, .iload_n 1, 0, [1]), (119, 3, .invokevirtual 265, 0, [35, 4, 1, 0, 0]), (122, 2, .iload 6, 0, [6]), (124, 1, .istore_n 1, 0, [1]), (125, 3, .iinc 2 1, 1, [2]), (128, 3, .goto (-117), 0, [11]), (131, 1, .return_, 0, [])]
def qw_34 : List (List Nat) := [[], [445], [485, 0, 108, 486, 487], [], [], [], [], [], [], [439], [547, 0, 109, 517, 518], [], [], [439], [], [960, 0, 109, 553, 554], [], [], [440], [], [440], [], [961, 0, 110, 962, 963], [745, 0, 110, 577, 578], [], [], [], [], [], [], [], [], [], [439], [], [784, 0, 109, 557, 558], [], [], [436], [], [], [439], [], [784, 0, 109, 557, 558], [786, 0, 107, 787], [], [], [], [], [], [], [], [], [], [], [], [], [], [], [], [], [965, 0, 107, 967, 38], [], [], [], [], []]
/-- 35: Marktongue.writeLine(IIZ)V -/
def qc_35 : List (Nat × qI) := [(0, 1, .aload_n 0, 0, [0]), (1, 3, .getfield 74, 0, [0, 9, 1]), (4, 3, .invokevirtual 90, 0, [223, 1, 1, 10, 0]), (7, 3, .ifCond .le (25), 0, [32]), (10, 1, .aload_n 0, 0, [0]), (11, 3, .getfield 74, 0, [0, 9, 1]), (14, 2, .bipush 10, 10, []), (16, 3, .invokevirtual 269, 0, [226, 2, 1, 10, 0]), (19, 1, .iload_n 3, 0, [3]), (20, 3, .ifCond .eq (12), 0, [32]), (23, 1, .aload_n 0, 0, [0]), (24, 3, .getfield 74, 0, [0, 9, 1]), (27, 2, .bipush 10, 10, []), (29, 3, .invokevirtual 269, 0, [226, 2, 1, 10, 0]), (32, 1, .iload_n 1, 0, [1]), (33, 2, .istore 4, 0, [4]), (35, 2, .iload 4, 0, [4]), (37, 1, .iload_n 2, 0, [2]), (38, 3, .if_icmp .ge (25), 0, [63]), (41, 1, .aload_n 0, 0, [0]), (42, 3, .getfield 74, 0, [0, 9, 1]), (45, 1, .aload_n 0, 0, [0]), (46, 3, .getfield 14, 0, [0, 0, 1]), (49, 2, .iload 4, 0, [4]), (51, 3, .invokevirtual 120, 0, [224, 2, 1, 10, 0]), (54, 3, .invokevirtual 269, 0, [226, 2, 1, 10, 0]), (57, 3, .iinc 4 1, 1, [4]), (60, 3, .goto (-25), 0, [35]), (63, 1, .return_, 0, [])]
def qw_35 : List (List Nat) := [[], [445], [477, 0, 108, 478, 479], [], [], [445], [], [969, 0, 108, 503, 504], [], [], [], [445], [], [969, 0, 108, 503, 504], [], [], [], [], [], [], [445], [], [436], [], [596, 0, 108, 508, 509], [969, 0, 108, 503, 504], [], [], []]
/-- 36: Marktongue.isLetterOrDigit(I)Z -/
def qc_36 : List (Nat × qI) := [(0, 1, .iload_n 0, 0, [0]), (1, 2, .bipush 48, 48, []), (3, 3, .if_icmp .lt (9), 0, [12]), (6, 1, .iload_n 0, 0, [0]), (7, 2, .bipush 57, 57, []), (9, 3, .if_icmp .le (27), 0, [36]), (12, 1, .iload_n 0, 0, [0]), (13, 2, .bipush 97, 97, []), (15, 3, .if_icmp .lt (9), 0, [24]), (18, 1, .iload_n 0, 0, [0]), (19, 2, .bipush 122, 122, []), (21, 3, .if_icmp .le (15), 0, [36]), (24, 1, .iload_n 0, 0, [0]), (25, 2, .bipush 65, 65, []), (27, 3, .if_icmp .lt (13), 0, [40]), (30, 1, .iload_n 0, 0, [0]), (31, 2, .bipush 90, 90, []), (33, 3, .if_icmp .gt (7), 0, [40]), (36, 1, .iconst 1, 1, []), (37, 3, .goto (4), 0, [41]), (40, 1, .iconst 0, 0, []), (41, 1, .ireturn, 0, [3])]
def qw_36 : List (List Nat) := [[], [], [], [], [], [], [], [], [], [], [], [], [], [], [], [], [], [], [], [], [], []]
/-- 37: Marktongue.isSign(I)Z -/
def qc_37 : List (Nat × qI) := [(0, 1, .iload_n 0, 0, [0]), (1, 2, .bipush 32, 32, []), (3, 3, .if_icmp .le (14), 0, [17]), (6, 1, .iload_n 0, 0, [0]), (7, 3, .invokestatic 272, 0, [36, 1, 0, 0, 0]), (10, 3, .ifCond .ne (7), 0, [17]), (13, 1, .iconst 1, 1, []), (14, 3, .goto (4), 0, [18]), (17, 1, .iconst 0, 0, []), (18, 1, .ireturn, 0, [3])]
def qw_37 : List (List Nat) := [[], [], [], [], [675, 0, 107, 676], [], [], [], [], []]
/-- 38: Marktongue.isGap(I)Z -/
def qc_38 : List (Nat × qI) := [(0, 1, .iload_n 0, 0, [0]), (1, 2, .bipush 32, 32, []), (3, 3, .if_icmp .eq (14), 0, [17]), (6, 1, .iload_n 0, 0, [0]), (7, 2, .bipush 10, 10, []), (9, 3, .if_icmp .eq (8), 0, [17]), (12, 1, .iload_n 0, 0, [0]), (13, 1, .iconst (-1), -1, []), (14, 3, .if_icmp .ne (7), 0, [21]), (17, 1, .iconst 1, 1, []), (18, 3, .goto (4), 0, [22]), (21, 1, .iconst 0, 0, []), (22, 1, .ireturn, 0, [3])]
def qw_38 : List (List Nat) := [[], [], [], [], [], [], [], [], [], [], [], [], []]
/-- 39: Marktongue.skipBlanks(LMarktongue$Row;II)I -/
def qc_39 : List (Nat × qI) := [(0, 1, .iload_n 1, 0, [1]), (1, 1, .istore_n 3, 0, [3]), (2, 1, .iload_n 3, 0, [3]), (3, 1, .iload_n 2, 0, [2]), (4, 3, .if_icmp .ge (21), 0, [25]), (7, 1, .aload_n 0, 0, [0]), (8, 1, .iload_n 3, 0, [3]), (9, 3, .invokevirtual 120, 0, [224, 2, 1, 10, 0]), (12, 2, .bipush 32, 32, []), (14, 3, .if_icmp .eq (5), 0, [19]), (17, 1, .iload_n 3, 0, [3]), (18, 1, .ireturn, 0, [0]), (19, 3, .iinc 3 1, 1, [3]), (22, 3, .goto (-20), 0, [2]), (25, 1, .iload_n 2, 0, [2]), (26, 1, .ireturn, 0, [0])]
def qw_39 : List (List Nat) := [[], [], [], [], [], [], [], [596, 0, 108, 508, 509], [], [], [], [], [], [], [], []]
/-- 40: Marktongue.cutBlanks(LMarktongue$Row;II)I -/
def qc_40 : List (Nat × qI) := [(0, 1, .iload_n 2, 0, [2]), (1, 1, .istore_n 3, 0, [3]), (2, 1, .iload_n 3, 0, [3]), (3, 1, .iload_n 1, 0, [1]), (4, 3, .if_icmp .le (23), 0, [27]), (7, 1, .aload_n 0, 0, [0]), (8, 1, .iload_n 3, 0, [3]), (9, 1, .iconst 1, 1, []), (10, 1, .isub, 0, []), (11, 3, .invokevirtual 120, 0, [224, 2, 1, 10, 0]), (14, 2, .bipush 32, 32, []), (16, 3, .if_icmp .eq (5), 0, [21]), (19, 1, .iload_n 3, 0, [3]), (20, 1, .ireturn, 0, [0]), (21, 3, .iinc 3 (-1), -1, [3]), (24, 3, .goto (-22), 0, [2]), (27, 1, .iload_n 1, 0, [1]), (28, 1, .ireturn, 0, [0])]
def qw_40 : List (List Nat) := [[], [], [], [], [], [], [], [], [], [596, 0, 108, 508, 509], [], [], [], [], [], [], [], []]
/-- 41: Marktongue.skipWord(LMarktongue$Row;II)I -/
def qc_41 : List (Nat × qI) := [(0, 1, .iload_n 1, 0, [1]), (1, 1, .istore_n 3, 0, [3]), (2, 1, .iload_n 3, 0, [3]), (3, 1, .iload_n 2, 0, [2]), (4, 3, .if_icmp .ge (22), 0, [26]), (7, 1, .aload_n 0, 0, [0]), (8, 1, .iload_n 3, 0, [3]), (9, 3, .invokevirtual 120, 0, [224, 2, 1, 10, 0]), (12, 3, .invokestatic 272, 0, [36, 1, 0, 0, 0]), (15, 3, .ifCond .ne (5), 0, [20]), (18, 1, .iload_n 3, 0, [3]), (19, 1, .ireturn, 0, [0]), (20, 3, .iinc 3 1, 1, [3]), (23, 3, .goto (-21), 0, [2]), (26, 1, .iload_n 2, 0, [2]), (27, 1, .ireturn, 0, [0])]
def qw_41 : List (List Nat) := [[], [], [], [], [], [], [], [596, 0, 108, 508, 509], [675, 0, 107, 676], [], [], [], [], [], [], []]
/-- 42: Marktongue.nameCode(LMarktongue$Row;II)J -/
def qc_42 : List (Nat × qI) := [(0, 1, .iload_n 2, 0, [2]), (1, 1, .iload_n 1, 0, [1]), (2, 3, .if_icmp .le (21), 0, [23]), (5, 1, .iload_n 2, 0, [2]), (6, 1, .iload_n 1, 0, [1]), (7, 1, .isub, 0, []), (8, 2, .bipush 6, 6, []), (10, 3, .if_icmp .gt (13), 0, [23]), (13, 1, .aload_n 0, 0, [0]), (14, 1, .iload_n 1, 0, [1]), (15, 1, .iload_n 2, 0, [2]), (16, 3, .invokestatic 276, 0, [41, 3, 0, 0, 0]), (19, 1, .iload_n 2, 0, [2]), (20, 3, .if_icmp .ge (5), 0, [25]), (23, 1, .lconst 0, 0, []), (24, 1, .lreturn, 0, []), (25, 1, .lconst 0, 0, []), (26, 1, .lstore_n 3, 0, [3]), (27, 1, .iload_n 1, 0, [1]), (28, 2, .istore 5, 0, [5]), (30, 2, .iload 5, 0, [5]), (32, 1, .iload_n 2, 0, [2]), (33, 3, .if_icmp .ge (23), 0, [56]), (36, 1, .lload_n 3, 0, [3]), (37, 3, .ldc2_w 279, 128, []), (40, 1, .lmul, 0, []), (41, 1, .aload_n 0, 0, [0]), (42, 2, .iload 5, 0, [5]), (44, 3, .invokevirtual 120, 0, [224, 2, 1, 10, 0]), (47, 1, .i2l, 0, []), (48, 1, .ladd, 0, []), (49, 1, .lstore_n 3, 0, [3]), (50, 3, .iinc 5 1, 1, [5]), (53, 3, .goto (-23), 0, [30]), (56, 1, .lload_n 3, 0, [3]), (57, 1, .lreturn, 0, [])]
def qw_42 : List (List Nat) := [[], [], [], [], [], [], [], [], [], [], [], [705, 0, 107, 700], [], [], [], [], [], [], [], [], [], [], [], [], [678], [], [], [], [596, 0, 108, 508, 509], [], [], [], [], [], [], []]
/-- 43: Marktongue.anchorCode(LMarktongue$Row;II)J -/
def qc_43 : List (Nat × qI) := [(0, 1, .lconst 0, 0, []), (1, 1, .lstore_n 3, 0, [3]), (2, 1, .iconst 0, 0, []), (3, 2, .istore 5, 0, [5]), (5, 1, .iload_n 1, 0, [1]), (6, 2, .istore 6, 0, [6]), (8, 2, .iload 6, 0, [6]), (10, 1, .iload_n 2, 0, [2]), (11, 3, .if_icmp .ge (45), 0, [56]), (14, 2, .iload 5, 0, [5]), (16, 2, .bipush 6, 6, []), (18, 3, .if_icmp .ge (38), 0, [56]), (21, 1, .aload_n 0, 0, [0]), (22, 2, .iload 6, 0, [6]), (24, 3, .invokevirtual 120, 0, [224, 2, 1, 10, 0]), (27, 3, .invokestatic 272, 0, [36, 1, 0, 0, 0]), (30, 3, .ifCond .eq (20), 0, [50]), (33, 1, .lload_n 3, 0, [3]), (34, 3, .ldc2_w 279, 128, []), (37, 1, .lmul, 0, []), (38, 1, .aload_n 0, 0, [0]), (39, 2, .iload 6, 0, [6]), (41, 3, .invokevirtual 120, 0, [224, 2, 1, 10, 0]), (44, 1, .i2l, 0, []), (45, 1, .ladd, 0, []), (46, 1, .lstore_n 3, 0, [3]), (47, 3, .iinc 5 1, 1, [5]), (50, 3, .iinc 6 1, 1, [6]), (53, 3, .goto (-45), 0, [8]), (56, 2, .iload 5, 0, [5]), (58, 3, .ifCond .ne (9), 0, [67]), (61, 3, .ldc2_w 281, 120, []), (64, 3, .goto (4), 0, [68]), (67, 1, .lload_n 3, 0, [3]), (68, 1, .lreturn, 0, [])]
def qw_43 : List (List Nat) := [[], [], [], [], [], [], [], [], [], [], [], [], [], [], [596, 0, 108, 508, 509], [675, 0, 107, 676], [], [], [678], [], [], [], [596, 0, 108, 508, 509], [], [], [], [], [], [], [], [], [679], [], [], []]
/-- 44: MarktongueModel.<init>()V -/
def qc_44 : List (Nat × qI) := [(0, 1, .aload_n 0, 0, [0]), (1, 3, .invokespecial 1, 0, [0, 1, 2, 0, 0]), (4, 1, .aload_n 0, 0, [0]), (5, 3, .sipush 240, 240, []), (8, 2, .newarray .int, 0, [0]), (10, 3, .putfield 7, 0, [1, 1, 1]), (13, 1, .aload_n 0, 0, [0]), (14, 3, .sipush 480, 480, []), (17, 2, .newarray .int, 0, [0]), (19, 3, .putfield 13, 0, [1, 2, 1]), (22, 1, .aload_n 0, 0, [0]), (23, 1, .iconst 2, 2, []), (24, 2, .newarray .int, 0, [0]), (26, 3, .putfield 16, 0, [1, 3, 1]), (29, 1, .aload_n 0, 0, [0]), (30, 3, .sipush 600, 600, []), (33, 2, .newarray .int, 0, [0]), (35, 3, .putfield 19, 0, [1, 5, 1]), (38, 1, .aload_n 0, 0, [0]), (39, 3, .sipush 600, 600, []), (42, 2, .newarray .int, 0, [0]), (44, 3, .putfield 22, 0, [1, 6, 1]), (47, 1, .aload_n 0, 0, [0]), (48, 3, .sipush 600, 600, []), (51, 2, .newarray .boolean, 0, [1]), (53, 3, .putfield 25, 0, [1, 7, 1]), (56, 1, .aload_n 0, 0, [0]), (57, 3, .sipush 600, 600, []), (60, 2, .newarray .int, 0, [0]), (62, 3, .putfield 29, 0, [1, 8, 1]), (65, 1, .aload_n 0, 0, [0]), (66, 3, .sipush 600, 600, []), (69, 2, .newarray .boolean, 0, [1]), (71, 3, .putfield 32, 0, [1, 9, 1]), (74, 1, .aload_n 0, 0, [0]), (75, 3, .sipush 600, 600, []), (78, 2, .newarray .int, 0, [0]), (80, 3, .putfield 35, 0, [1, 10, 1]), (83, 1, .aload_n 0, 0, [0]), (84, 3, .sipush 600, 600, []), (87, 2, .newarray .int, 0, [0]), (89, 3, .putfield 38, 0, [1, 11, 1]), (92, 1, .aload_n 0, 0, [0]), (93, 3, .sipush 241, 241, []), (96, 2, .newarray .int, 0, [0]), (98, 3, .putfield 41, 0, [1, 12, 1]), (101, 1, .aload_n 0, 0, [0]), (102, 3, .sipush 241, 241, []), (105, 2, .newarray .int, 0, [0]), (107, 3, .putfield 44, 0, [1, 13, 1]), (110, 1, .aload_n 0, 0, [0]), (111, 3, .sipush 241, 241, []), (114, 2, .newarray .int, 0, [0]), (116, 3, .putfield 47, 0, [1, 14, 1]), (119, 1, .aload_n 0, 0, [0]), (120, 3, .sipush 241, 241, []), (123, 2, .newarray .int, 0, [0]), (125, 3, .putfield 50, 0, [1, 15, 1]), (128, 1, .aload_n 0, 0, [0]), (129, 3, .sipush 241, 241, []), (132, 2, .newarray .boolean, 0, [1]), (134, 3, .putfield 53, 0, [1, 16, 1]), (137, 1, .aload_n 0, 0, [0]), (138, 3, .sipush 240, 240, []), (141, 2, .newarray .int, 0, [0]), (143, 3, .putfield 56, 0, [1, 18, 1]), (146, 1, .aload_n 0, 0, [0]), (147, 3, .sipush 3600, 3600, []), (150, 2, .newarray .int, 0, [0]), (152, 3, .putfield 59, 0, [1, 19, 1]), (155, 1, .aload_n 0, 0, [0]), (156, 3, .sipush 900, 900, []), (159, 2, .newarray .int, 0, [0]), (161, 3, .putfield 62, 0, [1, 21, 1]), (164, 1, .aload_n 0, 0, [0]), (165, 3, .sipush 900, 900, []), (168, 2, .newarray .int, 0, [0]), (170, 3, .putfield 65, 0, [1, 22, 1]), (173, 1, .aload_n 0, 0, [0]), (174, 3, .sipush 900, 900, []), (177, 2, .newarray .int, 0, [0]), (179, 3, .putfield 68, 0, [1, 23, 1]), (182, 1, .aload_n 0, 0, [0]), (183, 3, .sipush 900, 900, []), (186, 2, .newarray .int, 0, [0]), (188, 3, .putfield 71, 0, [1, 24, 1]), (191, 1, .aload_n 0, 0, [0]), (192, 3, .sipush 900, 900, []), (195, 2, .newarray .int, 0, [0]), (197, 3, .putfield 74, 0, [1, 25, 1]), (200, 1, .aload_n 0, 0, [0]), (201, 3, .sipush 900, 900, []), (204, 2, .newarray .int, 0, [0]), (206, 3, .putfield 77, 0, [1, 26, 1]), (209, 1, .aload_n 0, 0, [0]), (210, 3, .sipush 600, 600, []), (213, 2, .newarray .int, 0, [0]), (215, 3, .putfield 80, 0, [1, 27, 1]), (218, 1, .aload_n 0, 0, [0]), (219, 3, .sipush 241, 241, []), (222, 2, .newarray .int, 0, [0]), (224, 3, .putfield 83, 0, [1, 29, 1]), (227, 1, .aload_n 0, 0, [0]), (228, 3, .sipush 1100, 1100, []), (231, 2, .newarray .int, 0, [0]), (233, 3, .putfield 86, 0, [1, 31, 1]), (236, 1, .aload_n 0, 0, [0]), (237, 3, .sipush 1100, 1100, []), (240, 2, .newarray .int, 0, [0]), (242, 3, .putfield 89, 0, [1, 32, 1]), (245, 1, .aload_n 0, 0, [0]), (246, 3, .sipush 241, 241, []), (249, 2, .newarray .int, 0, [0]), (251, 3, .putfield 92, 0, [1, 34, 1]), (254, 1, .aload_n 0, 0, [0]), (255, 3, .sipush 241, 241, []), (258, 2, .newarray .int, 0, [0]), (260, 3, .putfield 95, 0, [1, 35, 1]), (263, 1, .aload_n 0, 0, [0]), (264, 3, .sipush 241, 241, []), (267, 2, .newarray .int, 0, [0]), (269, 3, .putfield 98, 0, [1, 36, 1]), (272, 1, .aload_n 0, 0, [0]), (273, 3, .sipush 241, 241, []), (276, 2, .newarray .boolean, 0, [1]), (278, 3, .putfield 101, 0, [1, 37, 1]), (281, 1, .aload_n 0, 0, [0]), (282, 3, .sipush 241, 241, []), (285, 2, .newarray .boolean, 0, [1]), (287, 3, .putfield 104, 0, [1, 38, 1]), (290, 1, .aload_n 0, 0, [0]), (291, 3, .sipush 241, 241, []), (294, 2, .newarray .int, 0, [0]), (296, 3, .putfield 107, 0, [1, 39, 1]), (299, 1, .aload_n 0, 0, [0]), (300, 3, .sipush 241, 241, []), (303, 2, .newarray .boolean, 0, [1]), (305, 3, .putfield 110, 0, [1, 40, 1]), (308, 1, .aload_n 0, 0, [0]), (309, 3, .sipush 241, 241, []), (312, 2, .newarray .int, 0, [0]), (314, 3, .putfield 113, 0, [1, 42, 1]), (317, 1, .aload_n 0, 0, [0]), (318, 3, .sipush 241, 241, []), (321, 2, .newarray .int, 0, [0]), (323, 3, .putfield 116, 0, [1, 43, 1]), (326, 1, .aload_n 0, 0, [0]), (327, 3, .sipush 241, 241, []), (330, 2, .newarray .int, 0, [0]), (332, 3, .putfield 119, 0, [1, 44, 1]), (335, 1, .aload_n 0, 0, [0]), (336, 3, .sipush 3000, 3000, []), (339, 2, .newarray .int, 0, [0]), (341, 3, .putfield 122, 0, [1, 46, 1]), (344, 1, .aload_n 0, 0, [0]), (345, 3, .sipush 300, 300, []), (348, 2, .newarray .int, 0, [0]), (350, 3, .putfield 125, 0, [1, 52, 1]), (353, 1, .aload_n 0, 0, [0]), (354, 3, .sipush 900, 900, []), (357, 2, .newarray .int, 0, [0]), (359, 3, .putfield 128, 0, [1, 53, 1]), (362, 1, .aload_n 0, 0, [0]), (363, 3, .sipush 800, 800, []), (366, 2, .newarray .int, 0, [0]), (368, 3, .putfield 131, 0, [1, 56, 1]), (371, 1, .aload_n 0, 0, [0]), (372, 3, .sipush 720, 720, []), (375, 2, .newarray .int, 0, [0]), (377, 3, .putfield 134, 0, [1, 57, 1]), (380, 1, .aload_n 0, 0, [0]), (381, 1, .iconst 3, 3, []), (382, 2, .newarray .int, 0, [0]), (384, 3, .putfield 137, 0, [1, 58, 1]), (387, 1, .aload_n 0, 0, [0]), (388, 3, .sipush 723, 723, []), (391, 2, .newarray .int, 0, [0]), (393, 3, .putfield 140, 0, [1, 59, 1]), (396, 1, .aload_n 0, 0, [0]), (397, 3, .sipush 723, 723, []), (400, 2, .newarray .int, 0, [0]), (402, 3, .putfield 143, 0, [1, 60, 1]), (405, 1, .aload_n 0, 0, [0]), (406, 2, .ldc 146, 58564, []), (408, 2, .newarray .int, 0, [0]), (410, 3, .putfield 147, 0, [1, 61, 1]), (413, 1, .aload_n 0, 0, [0]), (414, 3, .sipush 482, 482, []), (417, 2, .newarray .int, 0, [0]), (419, 3, .putfield 150, 0, [1, 62, 1]), (422, 1, .return_, 0, [])]
def qw_44 : List (List Nat) := [[], [1306, 133, 134], [], [], [148], [1309], [], [], [148], [1310], [], [], [148], [1311], [], [], [148], [1313], [], [], [148], [1314], [], [], [1503], [1315], [], [], [148], [1316], [], [], [1503], [1317], [], [], [148], [1318], [], [], [148], [1319], [], [], [148], [1320], [], [], [148], [1321], [], [], [148], [1322], [], [], [148], [1323], [], [], [1503], [1324], [], [], [148], [1326], [], [], [148], [1327], [], [], [148], [1329], [], [], [148], [1330], [], [], [148], [1331], [], [], [148], [1332], [], [], [148], [1333], [], [], [148], [1334], [], [], [148], [1335], [], [], [148], [1337], [], [], [148], [1338], [], [], [148], [1339], [], [], [148], [1341], [], [], [148], [1342], [], [], [148], [1343], [], [], [1503], [1344], [], [], [1503], [1345], [], [], [148], [1346], [], [], [1503], [1347], [], [], [148], [1349], [], [], [148], [1350], [], [], [148], [1351], [], [], [148], [1353], [], [], [148], [1359], [], [], [148], [1360], [], [], [148], [1363], [], [], [148], [1364], [], [], [148], [1365], [], [], [148], [1366], [], [], [148], [1367], [], [1307], [148], [1368], [], [], [148], [1369], []]
/-- 45: MarktongueModel.thrown()I -/
def qc_45 : List (Nat × qI) := [(0, 1, .aload_n 0, 0, [0]), (1, 3, .getfield 153, 0, [1, 47, 0]), (4, 1, .ireturn, 0, [0])]
def qw_45 : List (List Nat) := [[], [1354], []]
/-- 46: MarktongueModel.can(I)Z -/
def qc_46 : List (Nat × qI) := [(0, 1, .aload_n 0, 0, [0]), (1, 1, .iload_n 1, 0, [1]), (2, 3, .putfield 153, 0, [1, 47, 0]), (5, 1, .iload_n 1, 0, [1]), (6, 3, .ifCond .ne (7), 0, [13]), (9, 1, .iconst 1, 1, []), (10, 3, .goto (4), 0, [14]), (13, 1, .iconst 0, 0, []), (14, 1, .ireturn, 0, [3])]
def qw_46 : List (List Nat) := [[], [], [1354], [], [], [], [], [], []]
/-- 47: MarktongueModel.isIn(III)Z -/
def qc_47 : List (Nat × qI) := [(0, 1, .iload_n 0, 0, [0]), (1, 1, .iload_n 1, 0, [1]), (2, 3, .if_icmp .lt (12), 0, [14]), (5, 1, .iload_n 0, 0, [0]), (6, 1, .iload_n 2, 0, [2]), (7, 3, .if_icmp .gt (7), 0, [14]), (10, 1, .iconst 1, 1, []), (11, 3, .goto (4), 0, [15]), (14, 1, .iconst 0, 0, []), (15, 1, .ireturn, 0, [3])]
def qw_47 : List (List Nat) := [[], [], [], [], [], [], [], [], [], []]
/-- 48: MarktongueModel.isLetter(I)Z -/
def qc_48 : List (Nat × qI) := [(0, 1, .iload_n 0, 0, [0]), (1, 2, .bipush 97, 97, []), (3, 2, .bipush 122, 122, []), (5, 3, .invokestatic 157, 0, [47, 3, 0, 0, 0]), (8, 3, .ifCond .ne (25), 0, [33]), (11, 1, .iload_n 0, 0, [0]), (12, 2, .bipush 65, 65, []), (14, 2, .bipush 90, 90, []), (16, 3, .invokestatic 157, 0, [47, 3, 0, 0, 0]), (19, 3, .ifCond .ne (14), 0, [33]), (22, 1, .iload_n 0, 0, [0]), (23, 2, .bipush 48, 48, []), (25, 2, .bipush 57, 57, []), (27, 3, .invokestatic 157, 0, [47, 3, 0, 0, 0]), (30, 3, .ifCond .eq (7), 0, [37]), (33, 1, .iconst 1, 1, []), (34, 3, .goto (4), 0, [38]), (37, 1, .iconst 0, 0, []), (38, 1, .ireturn, 0, [3])]
def qw_48 : List (List Nat) := [[], [], [], [1512, 0, 119, 1513], [], [], [], [], [1512, 0, 119, 1513], [], [], [], [], [1512, 0, 119, 1513], [], [], [], [], []]
/-- 49: MarktongueModel.isSign(I)Z -/
def qc_49 : List (Nat × qI) := [(0, 1, .iload_n 0, 0, [0]), (1, 2, .bipush 33, 33, []), (3, 2, .bipush 126, 126, []), (5, 3, .invokestatic 157, 0, [47, 3, 0, 0, 0]), (8, 3, .ifCond .eq (14), 0, [22]), (11, 1, .iload_n 0, 0, [0]), (12, 3, .invokestatic 161, 0, [48, 1, 0, 0, 0]), (15, 3, .ifCond .ne (7), 0, [22]), (18, 1, .iconst 1, 1, []), (19, 3, .goto (4), 0, [23]), (22, 1, .iconst 0, 0, []), (23, 1, .ireturn, 0, [3])]
def qw_49 : List (List Nat) := [[], [], [], [1512, 0, 119, 1513], [], [], [1622, 0, 119, 1623], [], [], [], [], []]
/-- 50: MarktongueModel.put(II)I -/
def qc_50 : List (Nat × qI) := [(0, 1, .iload_n 2, 0, [2]), (1, 2, .bipush 10, 10, []), (3, 3, .if_icmp .eq (14), 0, [17]), (6, 1, .iload_n 2, 0, [2]), (7, 2, .bipush 32, 32, []), (9, 2, .bipush 126, 126, []), (11, 3, .invokestatic 157, 0, [47, 3, 0, 0, 0]), (14, 3, .ifCond .eq (7), 0, [21]), (17, 1, .iconst 1, 1, []), (18, 3, .goto (4), 0, [22]), (21, 1, .iconst 0, 0, []), (22, 1, .istore_n 3, 0, [3]), (23, 1, .aload_n 0, 0, [0]), (24, 1, .iload_n 1, 0, [1]), (25, 1, .iconst 0, 0, []), (26, 1, .aload_n 0, 0, [0]), (27, 3, .getfield 165, 0, [1, 0, 0]), (30, 3, .invokestatic 157, 0, [47, 3, 0, 0, 0]), (33, 3, .ifCond .ne (7), 0, [40]), (36, 1, .iconst 1, 1, []), (37, 3, .goto (26), 0, [63]), (40, 1, .iload_n 3, 0, [3]), (41, 3, .ifCond .ne (7), 0, [48]), (44, 1, .iconst 2, 2, []), (45, 3, .goto (18), 0, [63]), (48, 1, .aload_n 0, 0, [0]), (49, 3, .getfield 165, 0, [1, 0, 0]), (52, 3, .sipush 240, 240, []), (55, 3, .if_icmp .ne (7), 0, [62]), (58, 1, .iconst 3, 3, []), (59, 3, .goto (4), 0, [63]), (62, 1, .iconst 0, 0, []), (63, 3, .invokevirtual 168, 0, [46, 2, 1, 1, 0]), (66, 3, .ifCond .ne (5), 0, [71]), (69, 1, .iconst 0, 0, []), (70, 1, .ireturn, 0, [0]), (71, 1, .aload_n 0, 0, [0]), (72, 3, .getfield 165, 0, [1, 0, 0]), (75, 2, .istore 4, 0, [4]), (77, 2, .iload 4, 0, [4]), (79, 1, .iload_n 1, 0, [1]), (80, 3, .if_icmp .le (25), 0, [105]), (83, 1, .aload_n 0, 0, [0]), (84, 3, .getfield 7, 0, [1, 1, 1]), (87, 2, .iload 4, 0, [4]), (89, 1, .aload_n 0, 0, [0]), (90, 3, .getfield 7, 0, [1, 1, 1]), (93, 2, .iload 4, 0, [4]), (95, 1, .iconst 1, 1, []), (96, 1, .isub, 0, []), (97, 1, .iaload, 0, []), (98, 1, .iastore, 0, []), (99, 3, .iinc 4 (-1), -1, [4]), (102, 3, .goto (-25), 0, [77]), (105, 1, .aload_n 0, 0, [0]), (106, 3, .getfield 7, 0, [1, 1, 1]), (109, 1, .iload_n 1, 0, [1]), (110, 1, .iload_n 2, 0, [2]), (111, 1, .iastore, 0, []), (112, 1, .aload_n 0, 0, [0]), (113, 1, .dup, 0, []), (114, 3, .getfield 165, 0, [1, 0, 0]), (117, 1, .iconst 1, 1, []), (118, 1, .iadd, 0, []), (119, 3, .putfield 165, 0, [1, 0, 0]), (122, 1, .aload_n 0, 0, [0]), (123, 3, .getfield 165, 0, [1, 0, 0]), (126, 1, .ireturn, 0, [0])]
def qw_50 : List (List Nat) := [[], [], [], [], [], [], [1512, 0, 119, 1513], [], [], [], [], [], [], [], [], [], [1308], [1512, 0, 119, 1513], [], [], [], [], [], [], [], [], [1308], [], [], [], [], [], [1515, 0, 119, 1517, 47], [], [], [], [], [1308], [], [], [], [], [], [1309], [], [], [1309], [], [], [], [], [], [], [], [], [1309], [], [], [], [], [], [1308], [], [], [1308], [], [1308], []]
/-- 51: MarktongueModel.takes(II)V -/
def qc_51 : List (Nat × qI) := [(0, 1, .aload_n 0, 0, [0]), (1, 1, .dup, 0, []), (2, 3, .getfield 165, 0, [1, 0, 0]), (5, 1, .iload_n 2, 0, [2]), (6, 1, .isub, 0, []), (7, 3, .putfield 165, 0, [1, 0, 0]), (10, 1, .iload_n 1, 0, [1]), (11, 1, .istore_n 3, 0, [3]), (12, 1, .iload_n 3, 0, [3]), (13, 1, .aload_n 0, 0, [0]), (14, 3, .getfield 165, 0, [1, 0, 0]), (17, 3, .if_icmp .ge (23), 0, [40]), (20, 1, .aload_n 0, 0, [0]), (21, 3, .getfield 7, 0, [1, 1, 1]), (24, 1, .iload_n 3, 0, [3]), (25, 1, .aload_n 0, 0, [0]), (26, 3, .getfield 7, 0, [1, 1, 1]), (29, 1, .iload_n 3, 0, [3]), (30, 1, .iload_n 2, 0, [2]), (31, 1, .iadd, 0, []), (32, 1, .iaload, 0, []), (33, 1, .iastore, 0, []), (34, 3, .iinc 3 1, 1, [3]), (37, 3, .goto (-25), 0, [12]), (40, 1, .return_, 0, [])]
def qw_51 : List (List Nat) := [[], [], [1308], [], [], [1308], [], [], [], [], [1308], [], [], [1309], [], [], [1309], [], [], [], [], [], [], [], []]
/-- 52: MarktongueModel.take(II)I -/
def qc_52 : List (Nat × qI) := [(0, 1, .aload_n 0, 0, [0]), (1, 1, .iload_n 1, 0, [1]), (2, 1, .iconst 0, 0, []), (3, 1, .aload_n 0, 0, [0]), (4, 3, .getfield 165, 0, [1, 0, 0]), (7, 1, .iconst 1, 1, []), (8, 1, .isub, 0, []), (9, 3, .invokestatic 157, 0, [47, 3, 0, 0, 0]), (12, 3, .ifCond .ne (7), 0, [19]), (15, 1, .iconst 1, 1, []), (16, 3, .goto (22), 0, [38]), (19, 1, .iload_n 2, 0, [2]), (20, 1, .iconst 1, 1, []), (21, 1, .aload_n 0, 0, [0]), (22, 3, .getfield 165, 0, [1, 0, 0]), (25, 1, .iload_n 1, 0, [1]), (26, 1, .isub, 0, []), (27, 3, .invokestatic 157, 0, [47, 3, 0, 0, 0]), (30, 3, .ifCond .eq (7), 0, [37]), (33, 1, .iconst 0, 0, []), (34, 3, .goto (4), 0, [38]), (37, 1, .iconst 2, 2, []), (38, 3, .invokevirtual 168, 0, [46, 2, 1, 1, 0]), (41, 3, .ifCond .ne (5), 0, [46]), (44, 1, .iconst 0, 0, []), (45, 1, .ireturn, 0, [0]), (46, 1, .aload_n 0, 0, [0]), (47, 1, .iload_n 1, 0, [1]), (48, 1, .iload_n 2, 0, [2]), (49, 3, .invokevirtual 171, 0, [51, 3, 1, 1, 0]), (52, 1, .aload_n 0, 0, [0]), (53, 3, .getfield 165, 0, [1, 0, 0]), (56, 1, .ireturn, 0, [0])]
def qw_52 : List (List Nat) := [[], [], [], [], [1308], [], [], [1512, 0, 119, 1513], [], [], [], [], [], [], [1308], [], [], [1512, 0, 119, 1513], [], [], [], [], [1515, 0, 119, 1517, 47], [], [], [], [], [], [], [1523, 0, 119, 1525, 48], [], [1308], []]
/-- 53: MarktongueModel.length()I -/
def qc_53 : List (Nat × qI) := [(0, 1, .aload_n 0, 0, [0]), (1, 1, .iconst 0, 0, []), (2, 3, .putfield 153, 0, [1, 47, 0]), (5, 1, .aload_n 0, 0, [0]), (6, 3, .getfield 165, 0, [1, 0, 0]), (9, 1, .ireturn, 0, [0])]
def qw_53 : List (List Nat) := [[], [], [1354], [], [1308], []]
/-- 54: MarktongueModel.character(I)I -/
def qc_54 : List (Nat × qI) := [(0, 1, .aload_n 0, 0, [0]), (1, 1, .iload_n 1, 0, [1]), (2, 1, .iconst 0, 0, []), (3, 1, .aload_n 0, 0, [0]), (4, 3, .getfield 165, 0, [1, 0, 0]), (7, 1, .iconst 1, 1, []), (8, 1, .isub, 0, []), (9, 3, .invokestatic 157, 0, [47, 3, 0, 0, 0]), (12, 3, .ifCond .eq (7), 0, [19]), (15, 1, .iconst 0, 0, []), (16, 3, .goto (4), 0, [20]), (19, 1, .iconst 1, 1, []), (20, 3, .invokevirtual 168, 0, [46, 2, 1, 1, 0]), (23, 3, .ifCond .eq (12), 0, [35]), (26, 1, .aload_n 0, 0, [0]), (27, 3, .getfield 7, 0, [1, 1, 1]), (30, 1, .iload_n 1, 0, [1]), (31, 1, .iaload, 0, []), (32, 3, .goto (4), 0, [36]), (35, 1, .iconst 0, 0, []), (36, 1, .ireturn, 0, [0])]
def qw_54 : List (List Nat) := [[], [], [], [], [1308], [], [], [1512, 0, 119, 1513], [], [], [], [], [1515, 0, 119, 1517, 47], [], [], [1309], [], [], [], [], []]
/-- 55: MarktongueModel.clear()I -/
def qc_55 : List (Nat × qI) := [(0, 1, .aload_n 0, 0, [0]), (1, 1, .iconst 0, 0, []), (2, 3, .putfield 153, 0, [1, 47, 0]), (5, 1, .aload_n 0, 0, [0]), (6, 3, .getfield 165, 0, [1, 0, 0]), (9, 1, .istore_n 1, 0, [1]), (10, 1, .aload_n 0, 0, [0]), (11, 1, .iconst 0, 0, []), (12, 3, .putfield 165, 0, [1, 0, 0]), (15, 1, .iload_n 1, 0, [1]), (16, 1, .ireturn, 0, [0])]
def qw_55 : List (List Nat) := [[], [], [1354], [], [1308], [], [], [], [1308], [], []]
/-- 56: MarktongueModel.endOf(I)I -/
def qc_56 : List (Nat × qI) := [(0, 1, .iload_n 1, 0, [1]), (1, 1, .istore_n 2, 0, [2]), (2, 1, .iload_n 2, 0, [2]), (3, 1, .aload_n 0, 0, [0]), (4, 3, .getfield 165, 0, [1, 0, 0]), (7, 3, .if_icmp .ge (20), 0, [27]), (10, 1, .aload_n 0, 0, [0]), (11, 3, .getfield 7, 0, [1, 1, 1]), (14, 1, .iload_n 2, 0, [2]), (15, 1, .iaload, 0, []), (16, 2, .bipush 10, 10, []), (18, 3, .if_icmp .eq (9), 0, [27]), (21, 3, .iinc 2 1, 1, [2]), (24, 3, .goto (-22), 0, [2]), (27, 1, .iload_n 2, 0, [2]), (28, 1, .ireturn, 0, [0])]
def qw_56 : List (List Nat) := [[], [], [], [], [1308], [], [], [1309], [], [], [], [], [], [], [], []]
/-- 57: MarktongueModel.isBlank(II)Z -/
def qc_57 : List (Nat × qI) := [(0, 1, .iconst 1, 1, []), (1, 1, .istore_n 3, 0, [3]), (2, 1, .iload_n 1, 0, [1]), (3, 2, .istore 4, 0, [4]), (5, 2, .iload 4, 0, [4]), (7, 1, .iload_n 2, 0, [2]), (8, 3, .if_icmp .ge (31), 0, [39]), (11, 1, .iload_n 3, 0, [3]), (12, 3, .ifCond .eq (19), 0, [31]), (15, 1, .aload_n 0, 0, [0]), (16, 3, .getfield 7, 0, [1, 1, 1]), (19, 2, .iload 4, 0, [4]), (21, 1, .iaload, 0, []), (22, 2, .bipush 32, 32, []), (24, 3, .if_icmp .ne (7), 0, [31]), (27, 1, .iconst 1, 1, []), (28, 3, .goto (4), 0, [32]), (31, 1, .iconst 0, 0, []), (32, 1, .istore_n 3, 0, [3]), (33, 3, .iinc 4 1, 1, [4]), (36, 3, .goto (-31), 0, [5]), (39, 1, .iload_n 3, 0, [3]), (40, 1, .ireturn, 0, [3])]
def qw_57 : List (List Nat) := [[], [], [], [], [], [], [], [], [], [], [1309], [], [], [], [], [], [], [], [], [], [], [], []]
/-- 58: MarktongueModel.isContainer(I)Z -/
def qc_58 : List (Nat × qI) := [(0, 1, .iload_n 0, 0, [0]), (1, 1, .iconst 3, 3, []), (2, 3, .if_icmp .gt (7), 0, [9]), (5, 1, .iconst 1, 1, []), (6, 3, .goto (4), 0, [10]), (9, 1, .iconst 0, 0, []), (10, 1, .ireturn, 0, [3])]
def qw_58 : List (List Nat) := [[], [], [], [], [], [], []]
/-- 59: MarktongueModel.closesIn(I)V -/
def qc_59 : List (Nat × qI) := [(0, 1, .aload_n 0, 0, [0]), (1, 3, .getfield 35, 0, [1, 10, 1]), (4, 1, .iload_n 1, 0, [1]), (5, 1, .iaload, 0, []), (6, 1, .istore_n 2, 0, [2]), (7, 1, .iload_n 2, 0, [2]), (8, 1, .iconst (-1), -1, []), (9, 3, .if_icmp .eq (20), 0, [29]), (12, 1, .aload_n 0, 0, [0]), (13, 3, .getfield 25, 0, [1, 7, 1]), (16, 1, .iload_n 2, 0, [2]), (17, 1, .iconst 0, 0, []), (18, 1, .bastore, 0, []), (19, 1, .aload_n 0, 0, [0]), (20, 3, .getfield 35, 0, [1, 10, 1]), (23, 1, .iload_n 2, 0, [2]), (24, 1, .iaload, 0, []), (25, 1, .istore_n 2, 0, [2]), (26, 3, .goto (-19), 0, [7]), (29, 1, .return_, 0, [])]
def qw_59 : List (List Nat) := [[], [1318], [], [], [], [], [], [], [], [1315], [], [], [], [], [1318], [], [], [], [], []]
/-- 60: MarktongueModel.puts(III)I -/
def qc_60 : List (Nat × qI) := [(0, 1, .aload_n 0, 0, [0]), (1, 1, .iload_n 1, 0, [1]), (2, 3, .invokevirtual 175, 0, [59, 2, 1, 1, 0]), (5, 1, .aload_n 0, 0, [0]), (6, 3, .getfield 19, 0, [1, 5, 1]), (9, 1, .iload_n 1, 0, [1]), (10, 1, .iaload, 0, []), (11, 1, .iconst 2, 2, []), (12, 3, .if_icmp .ne (7), 0, [19]), (15, 1, .iload_n 1, 0, [1]), (16, 3, .goto (23), 0, [39]), (19, 1, .aload_n 0, 0, [0]), (20, 3, .getfield 19, 0, [1, 5, 1]), (23, 1, .iload_n 1, 0, [1]), (24, 1, .iaload, 0, []), (25, 1, .iconst 3, 3, []), (26, 3, .if_icmp .ne (12), 0, [38]), (29, 1, .aload_n 0, 0, [0]), (30, 3, .getfield 22, 0, [1, 6, 1]), (33, 1, .iload_n 1, 0, [1]), (34, 1, .iaload, 0, []), (35, 3, .goto (4), 0, [39]), (38, 1, .iconst (-1), -1, []), (39, 2, .istore 4, 0, [4]), (41, 2, .iload 4, 0, [4]), (43, 1, .iconst (-1), -1, []), (44, 3, .if_icmp .eq (27), 0, [71]), (47, 1, .aload_n 0, 0, [0]), (48, 3, .getfield 179, 0, [1, 48, 3]), (51, 3, .ifCond .eq (20), 0, [71]), (54, 1, .aload_n 0, 0, [0]), (55, 3, .getfield 38, 0, [1, 11, 1]), (58, 1, .iload_n 1, 0, [1]), (59, 1, .iaload, 0, []), (60, 3, .ifCond .le (11), 0, [71]), (63, 1, .aload_n 0, 0, [0]), (64, 3, .getfield 32, 0, [1, 9, 1]), (67, 2, .iload 4, 0, [4]), (69, 1, .iconst 1, 1, []), (70, 1, .bastore, 0, []), (71, 1, .aload_n 0, 0, [0]), (72, 3, .getfield 19, 0, [1, 5, 1]), (75, 1, .aload_n 0, 0, [0]), (76, 3, .getfield 183, 0, [1, 4, 0]), (79, 1, .iload_n 2, 0, [2]), (80, 1, .iastore, 0, []), (81, 1, .aload_n 0, 0, [0]), (82, 3, .getfield 22, 0, [1, 6, 1]), (85, 1, .aload_n 0, 0, [0]), (86, 3, .getfield 183, 0, [1, 4, 0]), (89, 1, .iload_n 1, 0, [1]), (90, 1, .iastore, 0, []), (91, 1, .aload_n 0, 0, [0]), (92, 3, .getfield 25, 0, [1, 7, 1]), (95, 1, .aload_n 0, 0, [0]), (96, 3, .getfield 183, 0, [1, 4, 0]), (99, 1, .iload_n 2, 0, [2]), (100, 1, .iconst 4, 4, []), (101, 3, .if_icmp .eq (13), 0, [114]), (104, 1, .iload_n 2, 0, [2]), (105, 2, .bipush 7, 7, []), (107, 3, .if_icmp .eq (7), 0, [114]), (110, 1, .iconst 1, 1, []), (111, 3, .goto (4), 0, [115]), (114, 1, .iconst 0, 0, []), (115, 1, .bastore, 0, []), (116, 1, .aload_n 0, 0, [0]), (117, 3, .getfield 29, 0, [1, 8, 1]), (120, 1, .aload_n 0, 0, [0]), (121, 3, .getfield 183, 0, [1, 4, 0]), (124, 1, .iload_n 3, 0, [3]), (125, 1, .iastore, 0, []), (126, 1, .aload_n 0, 0, [0]), (127, 3, .getfield 32, 0, [1, 9, 1]), (130, 1, .aload_n 0, 0, [0]), (131, 3, .getfield 183, 0, [1, 4, 0]), (134, 1, .iconst 0, 0, []), (135, 1, .bastore, 0, []), (136, 1, .aload_n 0, 0, [0]), (137, 3, .getfield 35, 0, [1, 10, 1]), (140, 1, .aload_n 0, 0, [0]), (141, 3, .getfield 183, 0, [1, 4, 0]), (144, 1, .iconst (-1), -1, []), (145, 1, .iastore, 0, []), (146, 1, .aload_n 0, 0, [0]), (147, 3, .getfield 38, 0, [1, 11, 1]), (150, 1, .aload_n 0, 0, [0]), (151, 3, .getfield 183, 0, [1, 4, 0]), (154, 1, .iconst 0, 0, []), (155, 1, .iastore, 0, []), (156, 1, .aload_n 0, 0, [0]), (157, 3, .getfield 35, 0, [1, 10, 1]), (160, 1, .iload_n 1, 0, [1]), (161, 1, .aload_n 0, 0, [0]), (162, 3, .getfield 183, 0, [1, 4, 0]), (165, 1, .iastore, 0, []), (166, 1, .aload_n 0, 0, [0]), (167, 3, .getfield 38, 0, [1, 11, 1]), (170, 1, .iload_n 1, 0, [1]), (171, 1, .dup2, 0, []), (172, 1, .iaload, 0, []), (173, 1, .iconst 1, 1, []), (174, 1, .iadd, 0, []), (175, 1, .iastore, 0, []), (176, 1, .aload_n 0, 0, [0]), (177, 1, .dup, 0, []), (178, 3, .getfield 183, 0, [1, 4, 0]), (181, 1, .iconst 1, 1, []), (182, 1, .iadd, 0, []), (183, 3, .putfield 183, 0, [1, 4, 0]), (186, 1, .aload_n 0, 0, [0]), (187, 3, .getfield 183, 0, [1, 4, 0]), (190, 1, .iconst 1, 1, []), (191, 1, .isub, 0, []), (192, 1, .ireturn, 0, [0])]
def qw_60 : List (List Nat) := [[], [], [1602, 0, 119, 1604, 63], [], [1313], [], [], [], [], [], [], [], [1313], [], [], [], [], [], [1314], [], [], [], [], [], [], [], [], [], [1355], [], [], [1319], [], [], [], [], [1317], [], [], [], [], [1313], [], [1312], [], [], [], [1314], [], [1312], [], [], [], [1315], [], [1312], [], [], [], [], [], [], [], [], [], [], [], [1316], [], [1312], [], [], [], [1317], [], [1312], [], [], [], [1318], [], [1312], [], [], [], [1319], [], [1312], [], [], [], [1318], [], [], [1312], [], [], [1319], [], [], [], [], [], [], [], [], [1312], [], [], [1312], [], [1312], [], [], []]
/-- 61: MarktongueModel.owns(III)V -/
def qc_61 : List (Nat × qI) := [(0, 1, .iload_n 1, 0, [1]), (1, 2, .istore 4, 0, [4]), (3, 2, .iload 4, 0, [4]), (5, 1, .iload_n 2, 0, [2]), (6, 3, .if_icmp .ge (17), 0, [23]), (9, 1, .aload_n 0, 0, [0]), (10, 3, .getfield 56, 0, [1, 18, 1]), (13, 2, .iload 4, 0, [4]), (15, 1, .iload_n 3, 0, [3]), (16, 1, .iastore, 0, []), (17, 3, .iinc 4 1, 1, [4]), (20, 3, .goto (-17), 0, [3]), (23, 1, .return_, 0, [])]
def qw_61 : List (List Nat) := [[], [], [], [], [], [], [1326], [], [], [], [], [], []]
/-- 62: MarktongueModel.goesOn(I)Z -/
def qc_62 : List (Nat × qI) := [(0, 1, .aload_n 0, 0, [0]), (1, 3, .getfield 186, 0, [1, 49, 0]), (4, 1, .istore_n 2, 0, [2]), (5, 1, .aload_n 0, 0, [0]), (6, 3, .getfield 19, 0, [1, 5, 1]), (9, 1, .iload_n 1, 0, [1]), (10, 1, .iaload, 0, []), (11, 1, .iconst 1, 1, []), (12, 3, .if_icmp .ne (76), 0, [88]), (15, 1, .aload_n 0, 0, [0]), (16, 3, .getfield 186, 0, [1, 49, 0]), (19, 1, .aload_n 0, 0, [0]), (20, 3, .getfield 189, 0, [1, 50, 0]), (23, 3, .if_icmp .eq (17), 0, [40]), (26, 1, .aload_n 0, 0, [0]), (27, 3, .getfield 7, 0, [1, 1, 1]), (30, 1, .aload_n 0, 0, [0]), (31, 3, .getfield 186, 0, [1, 49, 0]), (34, 1, .iaload, 0, []), (35, 2, .bipush 62, 62, []), (37, 3, .if_icmp .eq (5), 0, [42]), (40, 1, .iconst 0, 0, []), (41, 1, .ireturn, 0, [3]), (42, 1, .aload_n 0, 0, [0]), (43, 1, .dup, 0, []), (44, 3, .getfield 186, 0, [1, 49, 0]), (47, 1, .aload_n 0, 0, [0]), (48, 3, .getfield 186, 0, [1, 49, 0]), (51, 1, .iconst 1, 1, []), (52, 1, .iadd, 0, []), (53, 1, .aload_n 0, 0, [0]), (54, 3, .getfield 189, 0, [1, 50, 0]), (57, 3, .if_icmp .ge (23), 0, [80]), (60, 1, .aload_n 0, 0, [0]), (61, 3, .getfield 7, 0, [1, 1, 1]), (64, 1, .aload_n 0, 0, [0]), (65, 3, .getfield 186, 0, [1, 49, 0]), (68, 1, .iconst 1, 1, []), (69, 1, .iadd, 0, []), (70, 1, .iaload, 0, []), (71, 2, .bipush 32, 32, []), (73, 3, .if_icmp .ne (7), 0, [80]), (76, 1, .iconst 2, 2, []), (77, 3, .goto (4), 0, [81]), (80, 1, .iconst 1, 1, []), (81, 1, .iadd, 0, []), (82, 3, .putfield 186, 0, [1, 49, 0]), (85, 3, .goto (91), 0, [176]), (88, 1, .aload_n 0, 0, [0]), (89, 3, .getfield 19, 0, [1, 5, 1]), (92, 1, .iload_n 1, 0, [1]), (93, 1, .iaload, 0, []), (94, 1, .iconst 3, 3, []), (95, 3, .if_icmp .ne (81), 0, [176]), (98, 1, .aload_n 0, 0, [0]), (99, 3, .getfield 29, 0, [1, 8, 1]), (102, 1, .iload_n 1, 0, [1]), (103, 1, .iaload, 0, []), (104, 1, .istore_n 3, 0, [3]), (105, 1, .aload_n 0, 0, [0]), (106, 1, .aload_n 0, 0, [0]), (107, 3, .getfield 186, 0, [1, 49, 0]), (110, 1, .aload_n 0, 0, [0]), (111, 3, .getfield 189, 0, [1, 50, 0]), (114, 3, .invokevirtual 192, 0, [57, 3, 1, 1, 0]), (117, 3, .ifCond .eq (14), 0, [131]), (120, 1, .aload_n 0, 0, [0]), (121, 1, .aload_n 0, 0, [0]), (122, 3, .getfield 189, 0, [1, 50, 0]), (125, 3, .putfield 186, 0, [1, 49, 0]), (128, 3, .goto (48), 0, [176]), (131, 1, .aload_n 0, 0, [0]), (132, 3, .getfield 186, 0, [1, 49, 0]), (135, 1, .iload_n 3, 0, [3]), (136, 1, .iadd, 0, []), (137, 1, .aload_n 0, 0, [0]), (138, 3, .getfield 189, 0, [1, 50, 0]), (141, 3, .if_icmp .gt (33), 0, [174]), (144, 1, .aload_n 0, 0, [0]), (145, 1, .aload_n 0, 0, [0]), (146, 3, .getfield 186, 0, [1, 49, 0]), (149, 1, .aload_n 0, 0, [0]), (150, 3, .getfield 186, 0, [1, 49, 0]), (153, 1, .iload_n 3, 0, [3]), (154, 1, .iadd, 0, []), (155, 3, .invokevirtual 192, 0, [57, 3, 1, 1, 0]), (158, 3, .ifCond .eq (16), 0, [174]), (161, 1, .aload_n 0, 0, [0]), (162, 1, .dup, 0, []), (163, 3, .getfield 186, 0, [1, 49, 0]), (166, 1, .iload_n 3, 0, [3]), (167, 1, .iadd, 0, []), (168, 3, .putfield 186, 0, [1, 49, 0]), (171, 3, .goto (5), 0, [176]), (174, 1, .iconst 0, 0, []), (175, 1, .ireturn, 0, [3]), (176, 1, .aload_n 0, 0, [0]), (177, 1, .iload_n 2, 0, [2]), (178, 1, .aload_n 0, 0, [0]), (179, 3, .getfield 186, 0, [1, 49, 0]), (182, 1, .iload_n 1, 0, [1]), (183, 3, .invokevirtual 196, 0, [61, 4, 1, 1, 0]), (186, 1, .iconst 1, 1, []), (187, 1, .ireturn, 0, [3])]
def qw_62 : List (List Nat) := [[], [1356], [], [], [1313], [], [], [], [], [], [1356], [], [1357], [], [], [1309], [], [1356], [], [], [], [], [], [], [], [1356], [], [1356], [], [], [], [1357], [], [], [1309], [], [1356], [], [], [], [], [], [], [], [], [], [1356], [], [], [1313], [], [], [], [], [], [1316], [], [], [], [], [], [1356], [], [1357], [1566, 0, 119, 1568, 54], [], [], [], [1357], [1356], [], [], [1356], [], [], [], [1357], [], [], [], [1356], [], [1356], [], [], [1566, 0, 119, 1568, 54], [], [], [], [1356], [], [], [1356], [], [], [], [], [], [], [1356], [], [1570, 0, 119, 1572, 55], [], []]
/-- 63: MarktongueModel.marker()I -/
def qc_63 : List (Nat × qI) := [(0, 1, .aload_n 0, 0, [0]), (1, 3, .getfield 186, 0, [1, 49, 0]), (4, 1, .aload_n 0, 0, [0]), (5, 3, .getfield 189, 0, [1, 50, 0]), (8, 3, .if_icmp .ge (15), 0, [23]), (11, 1, .aload_n 0, 0, [0]), (12, 3, .getfield 7, 0, [1, 1, 1]), (15, 1, .aload_n 0, 0, [0]), (16, 3, .getfield 186, 0, [1, 49, 0]), (19, 1, .iaload, 0, []), (20, 3, .goto (5), 0, [25]), (23, 2, .bipush 10, 10, []), (25, 1, .istore_n 1, 0, [1]), (26, 1, .iload_n 1, 0, [1]), (27, 2, .bipush 45, 45, []), (29, 3, .if_icmp .eq (9), 0, [38]), (32, 1, .iload_n 1, 0, [1]), (33, 2, .bipush 43, 43, []), (35, 3, .if_icmp .ne (7), 0, [42]), (38, 1, .iconst 1, 1, []), (39, 3, .goto (48), 0, [87]), (42, 1, .iload_n 1, 0, [1]), (43, 2, .bipush 48, 48, []), (45, 2, .bipush 57, 57, []), (47, 3, .invokestatic 157, 0, [47, 3, 0, 0, 0]), (50, 3, .ifCond .eq (36), 0, [86]), (53, 1, .aload_n 0, 0, [0]), (54, 3, .getfield 186, 0, [1, 49, 0]), (57, 1, .iconst 1, 1, []), (58, 1, .iadd, 0, []), (59, 1, .aload_n 0, 0, [0]), (60, 3, .getfield 189, 0, [1, 50, 0]), (63, 3, .if_icmp .ge (23), 0, [86]), (66, 1, .aload_n 0, 0, [0]), (67, 3, .getfield 7, 0, [1, 1, 1]), (70, 1, .aload_n 0, 0, [0]), (71, 3, .getfield 186, 0, [1, 49, 0]), (74, 1, .iconst 1, 1, []), (75, 1, .iadd, 0, []), (76, 1, .iaload, 0, []), (77, 2, .bipush 46, 46, []), (79, 3, .if_icmp .ne (7), 0, [86]), (82, 1, .iconst 2, 2, []), (83, 3, .goto (4), 0, [87]), (86, 1, .iconst 0, 0, []), (87, 1, .istore_n 2, 0, [2]), (88, 1, .iload_n 2, 0, [2]), (89, 3, .ifCond .le (36), 0, [125]), (92, 1, .aload_n 0, 0, [0]), (93, 3, .getfield 186, 0, [1, 49, 0]), (96, 1, .iload_n 2, 0, [2]), (97, 1, .iadd, 0, []), (98, 1, .aload_n 0, 0, [0]), (99, 3, .getfield 189, 0, [1, 50, 0]), (102, 3, .if_icmp .eq (19), 0, [121]), (105, 1, .aload_n 0, 0, [0]), (106, 3, .getfield 7, 0, [1, 1, 1]), (109, 1, .aload_n 0, 0, [0]), (110, 3, .getfield 186, 0, [1, 49, 0]), (113, 1, .iload_n 2, 0, [2]), (114, 1, .iadd, 0, []), (115, 1, .iaload, 0, []), (116, 2, .bipush 32, 32, []), (118, 3, .if_icmp .ne (7), 0, [125]), (121, 1, .iconst 1, 1, []), (122, 3, .goto (4), 0, [126]), (125, 1, .iconst 0, 0, []), (126, 1, .istore_n 3, 0, [3]), (127, 1, .iload_n 1, 0, [1]), (128, 2, .bipush 62, 62, []), (130, 3, .if_icmp .ne (8), 0, [138]), (133, 2, .bipush 62, 62, []), (135, 3, .goto (22), 0, [157]), (138, 1, .iload_n 3, 0, [3]), (139, 3, .ifCond .ne (7), 0, [146]), (142, 1, .iconst (-1), -1, []), (143, 3, .goto (14), 0, [157]), (146, 1, .iload_n 2, 0, [2]), (147, 1, .iconst 2, 2, []), (148, 3, .if_icmp .ne (8), 0, [156]), (151, 2, .bipush 48, 48, []), (153, 3, .goto (4), 0, [157]), (156, 1, .iload_n 1, 0, [1]), (157, 1, .ireturn, 0, [0])]
def qw_63 : List (List Nat) := [[], [1356], [], [1357], [], [], [1309], [], [1356], [], [], [], [], [], [], [], [], [], [], [], [], [], [], [], [1512, 0, 119, 1513], [], [], [1356], [], [], [], [1357], [], [], [1309], [], [1356], [], [], [], [], [], [], [], [], [], [], [], [], [1356], [], [], [], [1357], [], [], [1309], [], [1356], [], [], [], [], [], [], [], [], [], [], [], [], [], [], [], [], [], [], [], [], [], [], [], [], []]
/-- 64: MarktongueModel.putsContainers(I)I -/
def qc_64 : List (Nat × qI) := [(0, 1, .iload_n 1, 0, [1]), (1, 1, .istore_n 2, 0, [2]), (2, 1, .aload_n 0, 0, [0]), (3, 3, .invokevirtual 200, 0, [63, 1, 1, 1, 0]), (6, 1, .istore_n 3, 0, [3]), (7, 1, .iload_n 3, 0, [3]), (8, 1, .iconst (-1), -1, []), (9, 3, .if_icmp .eq (205), 0, [214]), (12, 1, .aload_n 0, 0, [0]), (13, 3, .getfield 186, 0, [1, 49, 0]), (16, 2, .istore 4, 0, [4]), (18, 1, .iload_n 3, 0, [3]), (19, 2, .bipush 62, 62, []), (21, 3, .if_icmp .ne (24), 0, [45]), (24, 1, .aload_n 0, 0, [0]), (25, 1, .iload_n 2, 0, [2]), (26, 1, .iconst 1, 1, []), (27, 1, .iconst 0, 0, []), (28, 3, .invokevirtual 204, 0, [60, 4, 1, 1, 0]), (31, 1, .istore_n 2, 0, [2]), (32, 1, .aload_n 0, 0, [0]), (33, 1, .dup, 0, []), (34, 3, .getfield 186, 0, [1, 49, 0]), (37, 1, .iconst 1, 1, []), (38, 1, .iadd, 0, []), (39, 3, .putfield 186, 0, [1, 49, 0]), (42, 3, .goto (114), 0, [156]), (45, 1, .aload_n 0, 0, [0]), (46, 3, .getfield 35, 0, [1, 10, 1]), (49, 1, .iload_n 2, 0, [2]), (50, 1, .iaload, 0, []), (51, 1, .iconst (-1), -1, []), (52, 3, .if_icmp .eq (56), 0, [108]), (55, 1, .aload_n 0, 0, [0]), (56, 3, .getfield 25, 0, [1, 7, 1]), (59, 1, .aload_n 0, 0, [0]), (60, 3, .getfield 35, 0, [1, 10, 1]), (63, 1, .iload_n 2, 0, [2]), (64, 1, .iaload, 0, []), (65, 1, .baload, 0, []), (66, 3, .ifCond .eq (42), 0, [108]), (69, 1, .aload_n 0, 0, [0]), (70, 3, .getfield 19, 0, [1, 5, 1]), (73, 1, .aload_n 0, 0, [0]), (74, 3, .getfield 35, 0, [1, 10, 1]), (77, 1, .iload_n 2, 0, [2]), (78, 1, .iaload, 0, []), (79, 1, .iaload, 0, []), (80, 1, .iconst 2, 2, []), (81, 3, .if_icmp .ne (27), 0, [108]), (84, 1, .aload_n 0, 0, [0]), (85, 3, .getfield 29, 0, [1, 8, 1]), (88, 1, .aload_n 0, 0, [0]), (89, 3, .getfield 35, 0, [1, 10, 1]), (92, 1, .iload_n 2, 0, [2]), (93, 1, .iaload, 0, []), (94, 1, .iaload, 0, []), (95, 1, .iload_n 3, 0, [3]), (96, 3, .if_icmp .ne (12), 0, [108]), (99, 1, .aload_n 0, 0, [0]), (100, 3, .getfield 35, 0, [1, 10, 1]), (103, 1, .iload_n 2, 0, [2]), (104, 1, .iaload, 0, []), (105, 3, .goto (10), 0, [115]), (108, 1, .aload_n 0, 0, [0]), (109, 1, .iload_n 2, 0, [2]), (110, 1, .iconst 2, 2, []), (111, 1, .iload_n 3, 0, [3]), (112, 3, .invokevirtual 204, 0, [60, 4, 1, 1, 0]), (115, 2, .istore 5, 0, [5]), (117, 1, .aload_n 0, 0, [0]), (118, 2, .iload 5, 0, [5]), (120, 1, .iconst 3, 3, []), (121, 1, .iload_n 3, 0, [3]), (122, 2, .bipush 48, 48, []), (124, 3, .if_icmp .ne (7), 0, [131]), (127, 1, .iconst 3, 3, []), (128, 3, .goto (4), 0, [132]), (131, 1, .iconst 2, 2, []), (132, 3, .invokevirtual 204, 0, [60, 4, 1, 1, 0]), (135, 1, .istore_n 2, 0, [2]), (136, 1, .aload_n 0, 0, [0]), (137, 1, .dup, 0, []), (138, 3, .getfield 186, 0, [1, 49, 0]), (141, 1, .iload_n 3, 0, [3]), (142, 2, .bipush 48, 48, []), (144, 3, .if_icmp .ne (7), 0, [151]), (147, 1, .iconst 2, 2, []), (148, 3, .goto (4), 0, [152]), (151, 1, .iconst 1, 1, []), (152, 1, .iadd, 0, []), (153, 3, .putfield 186, 0, [1, 49, 0]), (156, 1, .aload_n 0, 0, [0]), (157, 1, .dup, 0, []), (158, 3, .getfield 186, 0, [1, 49, 0]), (161, 1, .aload_n 0, 0, [0]), (162, 3, .getfield 186, 0, [1, 49, 0]), (165, 1, .aload_n 0, 0, [0]), (166, 3, .getfield 189, 0, [1, 50, 0]), (169, 3, .if_icmp .ge (21), 0, [190]), (172, 1, .aload_n 0, 0, [0]), (173, 3, .getfield 7, 0, [1, 1, 1]), (176, 1, .aload_n 0, 0, [0]), (177, 3, .getfield 186, 0, [1, 49, 0]), (180, 1, .iaload, 0, []), (181, 2, .bipush 32, 32, []), (183, 3, .if_icmp .ne (7), 0, [190]), (186, 1, .iconst 1, 1, []), (187, 3, .goto (4), 0, [191]), (190, 1, .iconst 0, 0, []), (191, 1, .iadd, 0, []), (192, 3, .putfield 186, 0, [1, 49, 0]), (195, 1, .aload_n 0, 0, [0]), (196, 2, .iload 4, 0, [4]), (198, 1, .aload_n 0, 0, [0]), (199, 3, .getfield 186, 0, [1, 49, 0]), (202, 1, .iload_n 2, 0, [2]), (203, 3, .invokevirtual 196, 0, [61, 4, 1, 1, 0]), (206, 1, .aload_n 0, 0, [0]), (207, 3, .invokevirtual 200, 0, [63, 1, 1, 1, 0]), (210, 1, .istore_n 3, 0, [3]), (211, 3, .goto (-204), 0, [7]), (214, 1, .iload_n 2, 0, [2]), (215, 1, .ireturn, 0, [0])]
def qw_64 : List (List Nat) := [[], [], [], [1594, 0, 119, 1596, 61], [], [], [], [], [], [1356], [], [], [], [], [], [], [], [], [1598, 0, 119, 1600, 62], [], [], [], [1356], [], [], [1356], [], [], [1318], [], [], [], [], [], [1315], [], [1318], [], [], [], [], [], [1313], [], [1318], [], [], [], [], [], [], [1316], [], [1318], [], [], [], [], [], [], [1318], [], [], [], [], [], [], [], [1598, 0, 119, 1600, 62], [], [], [], [], [], [], [], [], [], [], [1598, 0, 119, 1600, 62], [], [], [], [1356], [], [], [], [], [], [], [], [1356], [], [], [1356], [], [1356], [], [1357], [], [], [1309], [], [1356], [], [], [], [], [], [], [], [1356], [], [], [], [1356], [], [1570, 0, 119, 1572, 55], [], [1594, 0, 119, 1596, 61], [], [], [], []]
/-- 65: MarktongueModel.trimmed(II)I -/
def qc_65 : List (Nat × qI) := [(0, 1, .iload_n 2, 0, [2]), (1, 1, .istore_n 3, 0, [3]), (2, 1, .iload_n 3, 0, [3]), (3, 1, .iload_n 1, 0, [1]), (4, 3, .if_icmp .le (22), 0, [26]), (7, 1, .aload_n 0, 0, [0]), (8, 3, .getfield 7, 0, [1, 1, 1]), (11, 1, .iload_n 3, 0, [3]), (12, 1, .iconst 1, 1, []), (13, 1, .isub, 0, []), (14, 1, .iaload, 0, []), (15, 2, .bipush 32, 32, []), (17, 3, .if_icmp .ne (9), 0, [26]), (20, 3, .iinc 3 (-1), -1, [3]), (23, 3, .goto (-21), 0, [2]), (26, 1, .iload_n 3, 0, [3]), (27, 1, .ireturn, 0, [0])]
def qw_65 : List (List Nat) := [[], [], [], [], [], [], [1309], [], [], [], [], [], [], [], [], [], []]
/-- 66: MarktongueModel.isFence()Z -/
def qc_66 : List (Nat × qI) := [(0, 1, .aload_n 0, 0, [0]), (1, 1, .aload_n 0, 0, [0]), (2, 3, .getfield 186, 0, [1, 49, 0]), (5, 1, .aload_n 0, 0, [0]), (6, 3, .getfield 189, 0, [1, 50, 0]), (9, 3, .invokevirtual 208, 0, [65, 3, 1, 1, 0]), (12, 1, .aload_n 0, 0, [0]), (13, 3, .getfield 186, 0, [1, 49, 0]), (16, 1, .isub, 0, []), (17, 1, .iconst 3, 3, []), (18, 3, .if_icmp .ne (53), 0, [71]), (21, 1, .aload_n 0, 0, [0]), (22, 3, .getfield 7, 0, [1, 1, 1]), (25, 1, .aload_n 0, 0, [0]), (26, 3, .getfield 186, 0, [1, 49, 0]), (29, 1, .iaload, 0, []), (30, 2, .bipush 126, 126, []), (32, 3, .if_icmp .ne (39), 0, [71]), (35, 1, .aload_n 0, 0, [0]), (36, 3, .getfield 7, 0, [1, 1, 1]), (39, 1, .aload_n 0, 0, [0]), (40, 3, .getfield 186, 0, [1, 49, 0]), (43, 1, .iconst 1, 1, []), (44, 1, .iadd, 0, []), (45, 1, .iaload, 0, []), (46, 2, .bipush 126, 126, []), (48, 3, .if_icmp .ne (23), 0, [71]), (51, 1, .aload_n 0, 0, [0]), (52, 3, .getfield 7, 0, [1, 1, 1]), (55, 1, .aload_n 0, 0, [0]), (56, 3, .getfield 186, 0, [1, 49, 0]), (59, 1, .iconst 2, 2, []), (60, 1, .iadd, 0, []), (61, 1, .iaload, 0, []), (62, 2, .bipush 126, 126, []), (64, 3, .if_icmp .ne (7), 0, [71]), (67, 1, .iconst 1, 1, []), (68, 3, .goto (4), 0, [72]), (71, 1, .iconst 0, 0, []), (72, 1, .ireturn, 0, [3])]
def qw_66 : List (List Nat) := [[], [], [1356], [], [1357], [1582, 0, 119, 1584, 58], [], [1356], [], [], [], [], [1309], [], [1356], [], [], [], [], [1309], [], [1356], [], [], [], [], [], [], [1309], [], [1356], [], [], [], [], [], [], [], [], []]
/-- 67: MarktongueModel.headingLevel()I -/
def qc_67 : List (Nat × qI) := [(0, 1, .iconst 0, 0, []), (1, 1, .istore_n 1, 0, [1]), (2, 1, .aload_n 0, 0, [0]), (3, 3, .getfield 186, 0, [1, 49, 0]), (6, 1, .iload_n 1, 0, [1]), (7, 1, .iadd, 0, []), (8, 1, .aload_n 0, 0, [0]), (9, 3, .getfield 189, 0, [1, 50, 0]), (12, 3, .if_icmp .ge (25), 0, [37]), (15, 1, .aload_n 0, 0, [0]), (16, 3, .getfield 7, 0, [1, 1, 1]), (19, 1, .aload_n 0, 0, [0]), (20, 3, .getfield 186, 0, [1, 49, 0]), (23, 1, .iload_n 1, 0, [1]), (24, 1, .iadd, 0, []), (25, 1, .iaload, 0, []), (26, 2, .bipush 35, 35, []), (28, 3, .if_icmp .ne (9), 0, [37]), (31, 3, .iinc 1 1, 1, [1]), (34, 3, .goto (-32), 0, [2]), (37, 1, .iload_n 1, 0, [1]), (38, 1, .iconst 1, 1, []), (39, 1, .iconst 3, 3, []), (40, 3, .invokestatic 157, 0, [47, 3, 0, 0, 0]), (43, 3, .ifCond .eq (36), 0, [79]), (46, 1, .aload_n 0, 0, [0]), (47, 3, .getfield 186, 0, [1, 49, 0]), (50, 1, .iload_n 1, 0, [1]), (51, 1, .iadd, 0, []), (52, 1, .aload_n 0, 0, [0]), (53, 3, .getfield 189, 0, [1, 50, 0]), (56, 3, .if_icmp .eq (19), 0, [75]), (59, 1, .aload_n 0, 0, [0]), (60, 3, .getfield 7, 0, [1, 1, 1]), (63, 1, .aload_n 0, 0, [0]), (64, 3, .getfield 186, 0, [1, 49, 0]), (67, 1, .iload_n 1, 0, [1]), (68, 1, .iadd, 0, []), (69, 1, .iaload, 0, []), (70, 2, .bipush 32, 32, []), (72, 3, .if_icmp .ne (7), 0, [79]), (75, 1, .iload_n 1, 0, [1]), (76, 3, .goto (4), 0, [80]), (79, 1, .iconst 0, 0, []), (80, 1, .ireturn, 0, [0])]
def qw_67 : List (List Nat) := [[], [], [], [1356], [], [], [], [1357], [], [], [1309], [], [1356], [], [], [], [], [], [], [], [], [], [], [1512, 0, 119, 1513], [], [], [1356], [], [], [], [1357], [], [], [1309], [], [1356], [], [], [], [], [], [], [], [], []]
/-- 68: MarktongueModel.letters(II)I -/
def qc_68 : List (Nat × qI) := [(0, 1, .iload_n 1, 0, [1]), (1, 1, .istore_n 3, 0, [3]), (2, 1, .iload_n 3, 0, [3]), (3, 1, .iload_n 2, 0, [2]), (4, 3, .if_icmp .ge (21), 0, [25]), (7, 1, .aload_n 0, 0, [0]), (8, 3, .getfield 7, 0, [1, 1, 1]), (11, 1, .iload_n 3, 0, [3]), (12, 1, .iaload, 0, []), (13, 3, .invokestatic 161, 0, [48, 1, 0, 0, 0]), (16, 3, .ifCond .eq (9), 0, [25]), (19, 3, .iinc 3 1, 1, [3]), (22, 3, .goto (-20), 0, [2]), (25, 1, .iload_n 3, 0, [3]), (26, 1, .iload_n 1, 0, [1]), (27, 1, .isub, 0, []), (28, 1, .ireturn, 0, [0])]
def qw_68 : List (List Nat) := [[], [], [], [], [], [], [1309], [], [], [1622, 0, 119, 1623], [], [], [], [], [], [], []]
/-- 69: MarktongueModel.isDefinition()Z -/
def qc_69 : List (Nat × qI) := [(0, 1, .aload_n 0, 0, [0]), (1, 1, .aload_n 0, 0, [0]), (2, 3, .getfield 186, 0, [1, 49, 0]), (5, 1, .aload_n 0, 0, [0]), (6, 3, .getfield 189, 0, [1, 50, 0]), (9, 3, .invokevirtual 208, 0, [65, 3, 1, 1, 0]), (12, 1, .istore_n 1, 0, [1]), (13, 1, .aload_n 0, 0, [0]), (14, 3, .getfield 186, 0, [1, 49, 0]), (17, 1, .iload_n 1, 0, [1]), (18, 3, .if_icmp .ge (31), 0, [49]), (21, 1, .aload_n 0, 0, [0]), (22, 3, .getfield 7, 0, [1, 1, 1]), (25, 1, .aload_n 0, 0, [0]), (26, 3, .getfield 186, 0, [1, 49, 0]), (29, 1, .iaload, 0, []), (30, 2, .bipush 91, 91, []), (32, 3, .if_icmp .ne (17), 0, [49]), (35, 1, .aload_n 0, 0, [0]), (36, 1, .aload_n 0, 0, [0]), (37, 3, .getfield 186, 0, [1, 49, 0]), (40, 1, .iconst 1, 1, []), (41, 1, .iadd, 0, []), (42, 1, .iload_n 1, 0, [1]), (43, 3, .invokevirtual 212, 0, [68, 3, 1, 1, 0]), (46, 3, .goto (4), 0, [50]), (49, 1, .iconst 0, 0, []), (50, 1, .istore_n 2, 0, [2]), (51, 1, .aload_n 0, 0, [0]), (52, 3, .getfield 186, 0, [1, 49, 0]), (55, 1, .iconst 1, 1, []), (56, 1, .iadd, 0, []), (57, 1, .iload_n 2, 0, [2]), (58, 1, .iadd, 0, []), (59, 1, .istore_n 3, 0, [3]), (60, 1, .iload_n 2, 0, [2]), (61, 1, .iconst 1, 1, []), (62, 2, .bipush 6, 6, []), (64, 3, .invokestatic 157, 0, [47, 3, 0, 0, 0]), (67, 3, .ifCond .eq (47), 0, [114]), (70, 1, .iload_n 3, 0, [3]), (71, 1, .iconst 2, 2, []), (72, 1, .iadd, 0, []), (73, 1, .iload_n 1, 0, [1]), (74, 3, .if_icmp .ge (40), 0, [114]), (77, 1, .aload_n 0, 0, [0]), (78, 3, .getfield 7, 0, [1, 1, 1]), (81, 1, .iload_n 3, 0, [3]), (82, 1, .iaload, 0, []), (83, 2, .bipush 93, 93, []), (85, 3, .if_icmp .ne (29), 0, [114]), (88, 1, .aload_n 0, 0, [0]), (89, 3, .getfield 7, 0, [1, 1, 1]), (92, 1, .iload_n 3, 0, [3]), (93, 1, .iconst 1, 1, []), (94, 1, .iadd, 0, []), (95, 1, .iaload, 0, []), (96, 2, .bipush 58, 58, []), (98, 3, .if_icmp .ne (16), 0, [114]), (101, 1, .aload_n 0, 0, [0]), (102, 3, .getfield 7, 0, [1, 1, 1]), (105, 1, .iload_n 3, 0, [3]), (106, 1, .iconst 2, 2, []), (107, 1, .iadd, 0, []), (108, 1, .iaload, 0, []), (109, 2, .bipush 32, 32, []), (111, 3, .if_icmp .eq (5), 0, [116]), (114, 1, .iconst 0, 0, []), (115, 1, .ireturn, 0, [3]), (116, 3, .iinc 3 2, 2, [3]), (119, 1, .iload_n 3, 0, [3]), (120, 1, .iload_n 1, 0, [1]), (121, 3, .if_icmp .ge (20), 0, [141]), (124, 1, .aload_n 0, 0, [0]), (125, 3, .getfield 7, 0, [1, 1, 1]), (128, 1, .iload_n 3, 0, [3]), (129, 1, .iaload, 0, []), (130, 2, .bipush 32, 32, []), (132, 3, .if_icmp .ne (9), 0, [141]), (135, 3, .iinc 3 1, 1, [3]), (138, 3, .goto (-19), 0, [119]), (141, 1, .aload_n 0, 0, [0]), (142, 1, .iload_n 3, 0, [3]), (143, 1, .iload_n 1, 0, [1]), (144, 3, .invokevirtual 212, 0, [68, 3, 1, 1, 0]), (147, 1, .iconst 1, 1, []), (148, 2, .bipush 8, 8, []), (150, 3, .invokestatic 157, 0, [47, 3, 0, 0, 0]), (153, 3, .ifCond .eq (19), 0, [172]), (156, 1, .iload_n 3, 0, [3]), (157, 1, .aload_n 0, 0, [0]), (158, 1, .iload_n 3, 0, [3]), (159, 1, .iload_n 1, 0, [1]), (160, 3, .invokevirtual 212, 0, [68, 3, 1, 1, 0]), (163, 1, .iadd, 0, []), (164, 1, .iload_n 1, 0, [1]), (165, 3, .if_icmp .ne (7), 0, [172]), (168, 1, .iconst 1, 1, []), (169, 3, .goto (4), 0, [173]), (172, 1, .iconst 0, 0, []), (173, 1, .ireturn, 0, [3])]
def qw_69 : List (List Nat) := [[], [], [1356], [], [1357], [1582, 0, 119, 1584, 58], [], [], [1356], [], [], [], [1309], [], [1356], [], [], [], [], [], [1356], [], [], [], [1629, 0, 119, 1631, 69], [], [], [], [], [1356], [], [], [], [], [], [], [], [], [1512, 0, 119, 1513], [], [], [], [], [], [], [], [1309], [], [], [], [], [], [1309], [], [], [], [], [], [], [], [1309], [], [], [], [], [], [], [], [], [], [], [], [], [], [1309], [], [], [], [], [], [], [], [], [], [1629, 0, 119, 1631, 69], [], [], [1512, 0, 119, 1513], [], [], [], [], [], [1629, 0, 119, 1631, 69], [], [], [], [], [], [], []]
/-- 70: MarktongueModel.names(III)V -/
def qc_70 : List (Nat × qI) := [(0, 1, .iconst 0, 0, []), (1, 2, .istore 4, 0, [4]), (3, 1, .iconst 0, 0, []), (4, 2, .istore 5, 0, [5]), (6, 2, .iload 5, 0, [5]), (8, 2, .bipush 6, 6, []), (10, 3, .if_icmp .ge (22), 0, [32]), (13, 1, .aload_n 0, 0, [0]), (14, 3, .getfield 59, 0, [1, 19, 1]), (17, 2, .bipush 6, 6, []), (19, 1, .iload_n 1, 0, [1]), (20, 1, .imul, 0, []), (21, 2, .iload 5, 0, [5]), (23, 1, .iadd, 0, []), (24, 1, .iconst 0, 0, []), (25, 1, .iastore, 0, []), (26, 3, .iinc 5 1, 1, [5]), (29, 3, .goto (-23), 0, [6]), (32, 1, .iload_n 2, 0, [2]), (33, 2, .istore 5, 0, [5]), (35, 2, .iload 5, 0, [5]), (37, 1, .iload_n 3, 0, [3]), (38, 3, .if_icmp .ge (51), 0, [89]), (41, 2, .iload 4, 0, [4]), (43, 2, .bipush 6, 6, []), (45, 3, .if_icmp .ge (44), 0, [89]), (48, 1, .aload_n 0, 0, [0]), (49, 3, .getfield 7, 0, [1, 1, 1]), (52, 2, .iload 5, 0, [5]), (54, 1, .iaload, 0, []), (55, 3, .invokestatic 161, 0, [48, 1, 0, 0, 0]), (58, 3, .ifCond .eq (25), 0, [83]), (61, 1, .aload_n 0, 0, [0]), (62, 3, .getfield 59, 0, [1, 19, 1]), (65, 2, .bipush 6, 6, []), (67, 1, .iload_n 1, 0, [1]), (68, 1, .imul, 0, []), (69, 2, .iload 4, 0, [4]), (71, 1, .iadd, 0, []), (72, 1, .aload_n 0, 0, [0]), (73, 3, .getfield 7, 0, [1, 1, 1]), (76, 2, .iload 5, 0, [5]), (78, 1, .iaload, 0, []), (79, 1, .iastore, 0, []), (80, 3, .iinc 4 1, 1, [4]), (83, 3, .iinc 5 1, 1, [5]), (86, 3, .goto (-51), 0, [35]), (89, 1, .aload_n 0, 0, [0]), (90, 3, .getfield 59, 0, [1, 19, 1]), (93, 2, .bipush 6, 6, []), (95, 1, .iload_n 1, 0, [1]), (96, 1, .imul, 0, []), (97, 2, .iload 4, 0, [4]), (99, 3, .ifCond .ne (8), 0, [107]), (102, 2, .bipush 120, 120, []), (104, 3, .goto (12), 0, [116]), (107, 1, .aload_n 0, 0, [0]), (108, 3, .getfield 59, 0, [1, 19, 1]), (111, 2, .bipush 6, 6, []), (113, 1, .iload_n 1, 0, [1]), (114, 1, .imul, 0, []), (115, 1, .iaload, 0, []), (116, 1, .iastore, 0, []), (117, 1, .return_, 0, [])]
def qw_70 : List (List Nat) := [[], [], [], [], [], [], [], [], [1327], [], [], [], [], [], [], [], [], [], [], [], [], [], [], [], [], [], [], [1309], [], [], [1622, 0, 119, 1623], [], [], [1327], [], [], [], [], [], [], [1309], [], [], [], [], [], [], [], [1327], [], [], [], [], [], [], [], [], [1327], [], [], [], [], [], []]
/-- 71: MarktongueModel.openParagraph()I -/
def qc_71 : List (Nat × qI) := [(0, 1, .iconst 0, 0, []), (1, 1, .istore_n 1, 0, [1]), (2, 1, .aload_n 0, 0, [0]), (3, 3, .getfield 35, 0, [1, 10, 1]), (6, 1, .iload_n 1, 0, [1]), (7, 1, .iaload, 0, []), (8, 1, .iconst (-1), -1, []), (9, 3, .if_icmp .eq (27), 0, [36]), (12, 1, .aload_n 0, 0, [0]), (13, 3, .getfield 25, 0, [1, 7, 1]), (16, 1, .aload_n 0, 0, [0]), (17, 3, .getfield 35, 0, [1, 10, 1]), (20, 1, .iload_n 1, 0, [1]), (21, 1, .iaload, 0, []), (22, 1, .baload, 0, []), (23, 3, .ifCond .eq (13), 0, [36]), (26, 1, .aload_n 0, 0, [0]), (27, 3, .getfield 35, 0, [1, 10, 1]), (30, 1, .iload_n 1, 0, [1]), (31, 1, .iaload, 0, []), (32, 1, .istore_n 1, 0, [1]), (33, 3, .goto (-31), 0, [2]), (36, 1, .aload_n 0, 0, [0]), (37, 3, .getfield 19, 0, [1, 5, 1]), (40, 1, .iload_n 1, 0, [1]), (41, 1, .iaload, 0, []), (42, 2, .bipush 6, 6, []), (44, 3, .if_icmp .eq (13), 0, [57]), (47, 1, .aload_n 0, 0, [0]), (48, 3, .getfield 19, 0, [1, 5, 1]), (51, 1, .iload_n 1, 0, [1]), (52, 1, .iaload, 0, []), (53, 1, .iconst 5, 5, []), (54, 3, .if_icmp .ne (7), 0, [61]), (57, 1, .iload_n 1, 0, [1]), (58, 3, .goto (4), 0, [62]), (61, 1, .iconst (-1), -1, []), (62, 1, .ireturn, 0, [0])]
def qw_71 : List (List Nat) := [[], [], [], [1318], [], [], [], [], [], [1315], [], [1318], [], [], [], [], [], [1318], [], [], [], [], [], [1313], [], [], [], [], [], [1313], [], [], [], [], [], [], [], []]
/-- 72: MarktongueModel.lays(I)V -/
def qc_72 : List (Nat × qI) := [(0, 1, .aload_n 0, 0, [0]), (1, 3, .getfield 41, 0, [1, 12, 1]), (4, 1, .aload_n 0, 0, [0]), (5, 3, .getfield 215, 0, [1, 17, 0]), (8, 1, .iload_n 1, 0, [1]), (9, 1, .iastore, 0, []), (10, 1, .aload_n 0, 0, [0]), (11, 3, .getfield 44, 0, [1, 13, 1]), (14, 1, .aload_n 0, 0, [0]), (15, 3, .getfield 215, 0, [1, 17, 0]), (18, 1, .aload_n 0, 0, [0]), (19, 3, .getfield 186, 0, [1, 49, 0]), (22, 1, .iastore, 0, []), (23, 1, .aload_n 0, 0, [0]), (24, 3, .getfield 47, 0, [1, 14, 1]), (27, 1, .aload_n 0, 0, [0]), (28, 3, .getfield 215, 0, [1, 17, 0]), (31, 1, .aload_n 0, 0, [0]), (32, 3, .getfield 189, 0, [1, 50, 0]), (35, 1, .iastore, 0, []), (36, 1, .return_, 0, [])]
def qw_72 : List (List Nat) := [[], [1320], [], [1325], [], [], [], [1321], [], [1325], [], [1356], [], [], [1322], [], [1325], [], [1357], [], []]
/-- 73: MarktongueModel.closes(I)V -/
def qc_73 : List (Nat × qI) := [(0, 1, .aload_n 0, 0, [0]), (1, 3, .getfield 25, 0, [1, 7, 1]), (4, 1, .iload_n 1, 0, [1]), (5, 1, .iconst 0, 0, []), (6, 1, .bastore, 0, []), (7, 1, .aload_n 0, 0, [0]), (8, 1, .iload_n 1, 0, [1]), (9, 3, .invokevirtual 175, 0, [59, 2, 1, 1, 0]), (12, 1, .return_, 0, [])]
def qw_73 : List (List Nat) := [[], [1315], [], [], [], [], [], [1602, 0, 119, 1604, 63], []]
/-- 74: MarktongueModel.looksAt(I)V -/
def qc_74 : List (Nat × qI) := [(0, 1, .aload_n 0, 0, [0]), (1, 1, .iload_n 1, 0, [1]), (2, 3, .putfield 186, 0, [1, 49, 0]), (5, 1, .aload_n 0, 0, [0]), (6, 1, .aload_n 0, 0, [0]), (7, 1, .iload_n 1, 0, [1]), (8, 3, .invokevirtual 218, 0, [56, 2, 1, 1, 0]), (11, 3, .putfield 189, 0, [1, 50, 0]), (14, 1, .aload_n 0, 0, [0]), (15, 3, .getfield 41, 0, [1, 12, 1]), (18, 1, .aload_n 0, 0, [0]), (19, 3, .getfield 215, 0, [1, 17, 0]), (22, 1, .iconst (-1), -1, []), (23, 1, .iastore, 0, []), (24, 1, .iconst 0, 0, []), (25, 1, .istore_n 2, 0, [2]), (26, 1, .iconst 0, 0, []), (27, 1, .istore_n 3, 0, [3]), (28, 1, .iconst 1, 1, []), (29, 2, .istore 4, 0, [4]), (31, 2, .iload 4, 0, [4]), (33, 3, .ifCond .eq (96), 0, [129]), (36, 1, .aload_n 0, 0, [0]), (37, 3, .getfield 35, 0, [1, 10, 1]), (40, 1, .iload_n 2, 0, [2]), (41, 1, .iaload, 0, []), (42, 1, .iconst (-1), -1, []), (43, 3, .if_icmp .eq (86), 0, [129]), (46, 1, .aload_n 0, 0, [0]), (47, 3, .getfield 25, 0, [1, 7, 1]), (50, 1, .aload_n 0, 0, [0]), (51, 3, .getfield 35, 0, [1, 10, 1]), (54, 1, .iload_n 2, 0, [2]), (55, 1, .iaload, 0, []), (56, 1, .baload, 0, []), (57, 3, .ifCond .eq (72), 0, [129]), (60, 1, .aload_n 0, 0, [0]), (61, 3, .getfield 19, 0, [1, 5, 1]), (64, 1, .aload_n 0, 0, [0]), (65, 3, .getfield 35, 0, [1, 10, 1]), (68, 1, .iload_n 2, 0, [2]), (69, 1, .iaload, 0, []), (70, 1, .iaload, 0, []), (71, 3, .invokestatic 222, 0, [58, 1, 0, 0, 0]), (74, 3, .ifCond .eq (55), 0, [129]), (77, 1, .aload_n 0, 0, [0]), (78, 1, .aload_n 0, 0, [0]), (79, 3, .getfield 35, 0, [1, 10, 1]), (82, 1, .iload_n 2, 0, [2]), (83, 1, .iaload, 0, []), (84, 3, .invokevirtual 225, 0, [62, 2, 1, 1, 0]), (87, 2, .istore 4, 0, [4]), (89, 2, .iload 4, 0, [4]), (91, 3, .ifCond .eq (12), 0, [103]), (94, 1, .aload_n 0, 0, [0]), (95, 3, .getfield 35, 0, [1, 10, 1]), (98, 1, .iload_n 2, 0, [2]), (99, 1, .iaload, 0, []), (100, 3, .goto (4), 0, [104]), (103, 1, .iload_n 2, 0, [2]), (104, 1, .istore_n 2, 0, [2]), (105, 2, .iload 4, 0, [4]), (107, 3, .ifCond .eq (17), 0, [124]), (110, 1, .aload_n 0, 0, [0]), (111, 3, .getfield 19, 0, [1, 5, 1]), (114, 1, .iload_n 2, 0, [2]), (115, 1, .iaload, 0, []), (116, 1, .iconst 2, 2, []), (117, 3, .if_icmp .eq (7), 0, [124]), (120, 1, .iload_n 2, 0, [2]), (121, 3, .goto (4), 0, [125]), (124, 1, .iload_n 3, 0, [3]), (125, 1, .istore_n 3, 0, [3]), (126, 3, .goto (-95), 0, [31]), (129, 1, .aload_n 0, 0, [0]), (130, 3, .invokevirtual 228, 0, [71, 1, 1, 1, 0]), (133, 2, .istore 5, 0, [5]), (135, 1, .iconst 0, 0, []), (136, 2, .istore 6, 0, [6]), (138, 2, .iload 5, 0, [5]), (140, 1, .iconst (-1), -1, []), (141, 3, .if_icmp .eq (61), 0, [202]), (144, 1, .aload_n 0, 0, [0]), (145, 3, .getfield 19, 0, [1, 5, 1]), (148, 2, .iload 5, 0, [5]), (150, 1, .iaload, 0, []), (151, 1, .iconst 5, 5, []), (152, 3, .if_icmp .ne (50), 0, [202]), (155, 2, .iload 4, 0, [4]), (157, 3, .ifCond .eq (45), 0, [202]), (160, 2, .iload 5, 0, [5]), (162, 2, .istore 7, 0, [7]), (164, 1, .aload_n 0, 0, [0]), (165, 3, .invokevirtual 231, 0, [66, 1, 1, 1, 0]), (168, 3, .ifCond .eq (14), 0, [182]), (171, 1, .aload_n 0, 0, [0]), (172, 3, .getfield 25, 0, [1, 7, 1]), (175, 2, .iload 5, 0, [5]), (177, 1, .iconst 0, 0, []), (178, 1, .bastore, 0, []), (179, 3, .goto (288), 0, [467]), (182, 1, .aload_n 0, 0, [0]), (183, 3, .getfield 38, 0, [1, 11, 1]), (186, 2, .iload 5, 0, [5]), (188, 1, .dup2, 0, []), (189, 1, .iaload, 0, []), (190, 1, .iconst 1, 1, []), (191, 1, .iadd, 0, []), (192, 1, .iastore, 0, []), (193, 1, .aload_n 0, 0, [0]), (194, 2, .iload 5, 0, [5]), (196, 3, .invokevirtual 235, 0, [72, 2, 1, 1, 0]), (199, 3, .goto (268), 0, [467]), (202, 1, .aload_n 0, 0, [0]), (203, 3, .getfield 183, 0, [1, 4, 0]), (206, 2, .istore 8, 0, [8]), (208, 1, .aload_n 0, 0, [0]), (209, 1, .iload_n 3, 0, [3]), (210, 3, .invokevirtual 238, 0, [64, 2, 1, 1, 0]), (213, 1, .istore_n 3, 0, [3]), (214, 1, .aload_n 0, 0, [0]), (215, 3, .getfield 183, 0, [1, 4, 0]), (218, 2, .iload 8, 0, [8]), (220, 3, .if_icmp .le (7), 0, [227]), (223, 1, .iconst 1, 1, []), (224, 3, .goto (4), 0, [228]), (227, 1, .iconst 0, 0, []), (228, 2, .istore 9, 0, [9]), (230, 1, .aload_n 0, 0, [0]), (231, 3, .invokevirtual 241, 0, [67, 1, 1, 1, 0]), (234, 2, .istore 10, 0, [10]), (236, 1, .aload_n 0, 0, [0]), (237, 1, .aload_n 0, 0, [0]), (238, 3, .getfield 186, 0, [1, 49, 0]), (241, 1, .aload_n 0, 0, [0]), (242, 3, .getfield 189, 0, [1, 50, 0]), (245, 3, .invokevirtual 192, 0, [57, 3, 1, 1, 0]), (248, 3, .ifCond .eq (32), 0, [280]), (251, 1, .iload_n 3, 0, [3]), (252, 2, .istore 7, 0, [7]), (254, 2, .iload 9, 0, [9]), (256, 3, .ifCond .ne (7), 0, [263]), (259, 1, .iconst 1, 1, []), (260, 3, .goto (4), 0, [264]), (263, 1, .iconst 0, 0, []), (264, 2, .istore 6, 0, [6]), (266, 2, .iload 9, 0, [9]), (268, 3, .ifCond .ne (199), 0, [467]), (271, 1, .aload_n 0, 0, [0]), (272, 1, .iload_n 2, 0, [2]), (273, 1, .iload_n 3, 0, [3]), (274, 3, .invokevirtual 244, 0, [75, 3, 1, 1, 0]), (277, 3, .goto (190), 0, [467]), (280, 2, .iload 10, 0, [10]), (282, 3, .ifCond .le (61), 0, [343]), (285, 1, .aload_n 0, 0, [0]), (286, 1, .iload_n 3, 0, [3]), (287, 1, .iconst 4, 4, []), (288, 2, .iload 10, 0, [10]), (290, 3, .invokevirtual 204, 0, [60, 4, 1, 1, 0]), (293, 2, .istore 7, 0, [7]), (295, 1, .aload_n 0, 0, [0]), (296, 1, .dup, 0, []), (297, 3, .getfield 186, 0, [1, 49, 0]), (300, 2, .iload 10, 0, [10]), (302, 1, .iadd, 0, []), (303, 3, .putfield 186, 0, [1, 49, 0]), (306, 1, .aload_n 0, 0, [0]), (307, 2, .iload 7, 0, [7]), (309, 3, .invokevirtual 235, 0, [72, 2, 1, 1, 0]), (312, 1, .aload_n 0, 0, [0]), (313, 1, .dup, 0, []), (314, 3, .getfield 186, 0, [1, 49, 0]), (317, 2, .iload 10, 0, [10]), (319, 1, .isub, 0, []), (320, 3, .putfield 186, 0, [1, 49, 0]), (323, 1, .aload_n 0, 0, [0]), (324, 2, .iload 7, 0, [7]), (326, 1, .aload_n 0, 0, [0]), (327, 3, .getfield 186, 0, [1, 49, 0]), (330, 2, .iload 10, 0, [10]), (332, 1, .iadd, 0, []), (333, 1, .aload_n 0, 0, [0]), (334, 3, .getfield 189, 0, [1, 50, 0]), (337, 3, .invokevirtual 247, 0, [70, 4, 1, 1, 0]), (340, 3, .goto (127), 0, [467]), (343, 1, .aload_n 0, 0, [0]), (344, 3, .invokevirtual 231, 0, [66, 1, 1, 1, 0]), (347, 3, .ifCond .eq (15), 0, [362]), (350, 1, .aload_n 0, 0, [0]), (351, 1, .iload_n 3, 0, [3]), (352, 1, .iconst 5, 5, []), (353, 1, .iconst 0, 0, []), (354, 3, .invokevirtual 204, 0, [60, 4, 1, 1, 0]), (357, 2, .istore 7, 0, [7]), (359, 3, .goto (108), 0, [467]), (362, 2, .iload 5, 0, [5]), (364, 1, .iconst (-1), -1, []), (365, 3, .if_icmp .eq (33), 0, [398]), (368, 1, .aload_n 0, 0, [0]), (369, 3, .getfield 19, 0, [1, 5, 1]), (372, 2, .iload 5, 0, [5]), (374, 1, .iaload, 0, []), (375, 2, .bipush 6, 6, []), (377, 3, .if_icmp .ne (21), 0, [398]), (380, 2, .iload 9, 0, [9]), (382, 3, .ifCond .ne (16), 0, [398]), (385, 2, .iload 5, 0, [5]), (387, 2, .istore 7, 0, [7]), (389, 1, .aload_n 0, 0, [0]), (390, 2, .iload 5, 0, [5]), (392, 3, .invokevirtual 235, 0, [72, 2, 1, 1, 0]), (395, 3, .goto (72), 0, [467]), (398, 1, .aload_n 0, 0, [0]), (399, 3, .invokevirtual 250, 0, [69, 1, 1, 1, 0]), (402, 3, .ifCond .eq (49), 0, [451]), (405, 1, .aload_n 0, 0, [0]), (406, 1, .iload_n 3, 0, [3]), (407, 2, .bipush 7, 7, []), (409, 1, .iconst 0, 0, []), (410, 3, .invokevirtual 204, 0, [60, 4, 1, 1, 0]), (413, 2, .istore 7, 0, [7]), (415, 1, .aload_n 0, 0, [0]), (416, 2, .iload 7, 0, [7]), (418, 1, .aload_n 0, 0, [0]), (419, 3, .getfield 186, 0, [1, 49, 0]), (422, 1, .iconst 1, 1, []), (423, 1, .iadd, 0, []), (424, 1, .aload_n 0, 0, [0]), (425, 3, .getfield 186, 0, [1, 49, 0]), (428, 1, .iconst 1, 1, []), (429, 1, .iadd, 0, []), (430, 1, .aload_n 0, 0, [0]), (431, 1, .aload_n 0, 0, [0]), (432, 3, .getfield 186, 0, [1, 49, 0]), (435, 1, .iconst 1, 1, []), (436, 1, .iadd, 0, []), (437, 1, .aload_n 0, 0, [0]), (438, 3, .getfield 189, 0, [1, 50, 0]), (441, 3, .invokevirtual 212, 0, [68, 3, 1, 1, 0]), (444, 1, .iadd, 0, []), (445, 3, .invokevirtual 247, 0, [70, 4, 1, 1, 0]), (448, 3, .goto (19), 0, [467]), (451, 1, .aload_n 0, 0, [0]), (452, 1, .iload_n 3, 0, [3]), (453, 2, .bipush 6, 6, []), (455, 1, .iconst 0, 0, []), (456, 3, .invokevirtual 204, 0, [60, 4, 1, 1, 0]), (459, 2, .istore 7, 0, [7]), (461, 1, .aload_n 0, 0, [0]), (462, 2, .iload 7, 0, [7]), (464, 3, .invokevirtual 235, 0, [72, 2, 1, 1, 0]), (467, 1, .aload_n 0, 0, [0]), (468, 1, .aload_n 0, 0, [0]), (469, 3, .getfield 186, 0, [1, 49, 0]), (472, 1, .aload_n 0, 0, [0]), (473, 3, .getfield 189, 0, [1, 50, 0]), (476, 1, .aload_n 0, 0, [0]), (477, 3, .getfield 165, 0, [1, 0, 0]), (480, 3, .if_icmp .ge (12), 0, [492]), (483, 1, .aload_n 0, 0, [0]), (484, 3, .getfield 189, 0, [1, 50, 0]), (487, 1, .iconst 1, 1, []), (488, 1, .iadd, 0, []), (489, 3, .goto (7), 0, [496]), (492, 1, .aload_n 0, 0, [0]), (493, 3, .getfield 189, 0, [1, 50, 0]), (496, 2, .iload 7, 0, [7]), (498, 3, .invokevirtual 196, 0, [61, 4, 1, 1, 0]), (501, 1, .aload_n 0, 0, [0]), (502, 2, .iload 6, 0, [6]), (504, 3, .putfield 179, 0, [1, 48, 3]), (507, 1, .aload_n 0, 0, [0]), (508, 3, .getfield 53, 0, [1, 16, 1]), (511, 1, .aload_n 0, 0, [0]), (512, 3, .getfield 215, 0, [1, 17, 0]), (515, 1, .aload_n 0, 0, [0]), (516, 3, .getfield 19, 0, [1, 5, 1]), (519, 2, .iload 7, 0, [7]), (521, 1, .iaload, 0, []), (522, 1, .iconst 5, 5, []), (523, 3, .if_icmp .ne (7), 0, [530]), (526, 1, .iconst 1, 1, []), (527, 3, .goto (4), 0, [531]), (530, 1, .iconst 0, 0, []), (531, 1, .bastore, 0, []), (532, 1, .aload_n 0, 0, [0]), (533, 3, .getfield 50, 0, [1, 15, 1]), (536, 1, .aload_n 0, 0, [0]), (537, 3, .getfield 215, 0, [1, 17, 0]), (540, 1, .iload_n 1, 0, [1]), (541, 1, .iastore, 0, []), (542, 1, .aload_n 0, 0, [0]), (543, 1, .dup, 0, []), (544, 3, .getfield 215, 0, [1, 17, 0]), (547, 1, .iconst 1, 1, []), (548, 1, .iadd, 0, []), (549, 3, .putfield 215, 0, [1, 17, 0]), (552, 1, .return_, 0, [])]
def qw_74 : List (List Nat) := [[], [], [1356], [], [], [], [1555, 0, 119, 1557, 52], [1357], [], [1320], [], [1325], [], [], [], [], [], [], [], [], [], [], [], [1318], [], [], [], [], [], [1315], [], [1318], [], [], [], [], [], [1313], [], [1318], [], [], [], [1559, 0, 119, 1560], [], [], [], [1318], [], [], [1562, 0, 119, 1564, 53], [], [], [], [], [1318], [], [], [], [], [], [], [], [], [1313], [], [], [], [], [], [], [], [], [], [], [1574, 0, 119, 1576, 56], [], [], [], [], [], [], [], [1313], [], [], [], [], [], [], [], [], [], [1578, 0, 119, 1580, 57], [], [], [1315], [], [], [], [], [], [1319], [], [], [], [], [], [], [], [], [1586, 0, 119, 1588, 59], [], [], [1312], [], [], [], [1590, 0, 119, 1592, 60], [], [], [1312], [], [], [], [], [], [], [], [1606, 0, 119, 1608, 64], [], [], [], [1356], [], [1357], [1566, 0, 119, 1568, 54], [], [], [], [], [], [], [], [], [], [], [], [], [], [], [1610, 0, 119, 1612, 65], [], [], [], [], [], [], [], [1598, 0, 119, 1600, 62], [], [], [], [1356], [], [], [1356], [], [], [1586, 0, 119, 1588, 59], [], [], [1356], [], [], [1356], [], [], [], [1356], [], [], [], [1357], [1618, 0, 119, 1620, 67], [], [], [1578, 0, 119, 1580, 57], [], [], [], [], [], [1598, 0, 119, 1600, 62], [], [], [], [], [], [], [1313], [], [], [], [], [], [], [], [], [], [], [1586, 0, 119, 1588, 59], [], [], [1625, 0, 119, 1627, 68], [], [], [], [], [], [1598, 0, 119, 1600, 62], [], [], [], [], [1356], [], [], [], [1356], [], [], [], [], [1356], [], [], [], [1357], [1629, 0, 119, 1631, 69], [], [1618, 0, 119, 1620, 67], [], [], [], [], [], [1598, 0, 119, 1600, 62], [], [], [], [1586, 0, 119, 1588, 59], [], [], [1356], [], [1357], [], [1308], [], [], [1357], [], [], [], [], [1357], [], [1570, 0, 119, 1572, 55], [], [], [1355], [], [1324], [], [1325], [], [1313], [], [], [], [], [], [], [], [], [], [1323], [], [1325], [], [], [], [], [1325], [], [], [1325], []]
/-- 75: MarktongueModel.closesBehind(II)V -/
def qc_75 : List (Nat × qI) := [(0, 1, .aload_n 0, 0, [0]), (1, 3, .getfield 35, 0, [1, 10, 1]), (4, 1, .iload_n 1, 0, [1]), (5, 1, .iaload, 0, []), (6, 1, .istore_n 3, 0, [3]), (7, 1, .iload_n 3, 0, [3]), (8, 1, .iconst (-1), -1, []), (9, 3, .if_icmp .eq (29), 0, [38]), (12, 1, .aload_n 0, 0, [0]), (13, 3, .getfield 25, 0, [1, 7, 1]), (16, 1, .iload_n 3, 0, [3]), (17, 1, .baload, 0, []), (18, 3, .ifCond .eq (20), 0, [38]), (21, 1, .aload_n 0, 0, [0]), (22, 3, .getfield 19, 0, [1, 5, 1]), (25, 1, .iload_n 3, 0, [3]), (26, 1, .iaload, 0, []), (27, 3, .invokestatic 222, 0, [58, 1, 0, 0, 0]), (30, 3, .ifCond .eq (8), 0, [38]), (33, 1, .aload_n 0, 0, [0]), (34, 1, .iload_n 3, 0, [3]), (35, 3, .invokevirtual 253, 0, [73, 2, 1, 1, 0]), (38, 1, .aload_n 0, 0, [0]), (39, 3, .getfield 35, 0, [1, 10, 1]), (42, 1, .iload_n 2, 0, [2]), (43, 1, .iaload, 0, []), (44, 1, .istore_n 3, 0, [3]), (45, 1, .iload_n 3, 0, [3]), (46, 1, .iconst (-1), -1, []), (47, 3, .if_icmp .eq (30), 0, [77]), (50, 1, .aload_n 0, 0, [0]), (51, 3, .getfield 25, 0, [1, 7, 1]), (54, 1, .iload_n 3, 0, [3]), (55, 1, .baload, 0, []), (56, 3, .ifCond .eq (21), 0, [77]), (59, 1, .aload_n 0, 0, [0]), (60, 3, .getfield 19, 0, [1, 5, 1]), (63, 1, .iload_n 3, 0, [3]), (64, 1, .iaload, 0, []), (65, 2, .bipush 6, 6, []), (67, 3, .if_icmp .ne (10), 0, [77]), (70, 1, .aload_n 0, 0, [0]), (71, 3, .getfield 25, 0, [1, 7, 1]), (74, 1, .iload_n 3, 0, [3]), (75, 1, .iconst 0, 0, []), (76, 1, .bastore, 0, []), (77, 1, .return_, 0, [])]
def qw_75 : List (List Nat) := [[], [1318], [], [], [], [], [], [], [], [1315], [], [], [], [], [1313], [], [], [1559, 0, 119, 1560], [], [], [], [1614, 0, 119, 1616, 66], [], [1318], [], [], [], [], [], [], [], [1315], [], [], [], [], [1313], [], [], [], [], [], [1315], [], [], [], []]
/-- 76: MarktongueModel.blocks()V -/
def qc_76 : List (Nat × qI) := [(0, 1, .aload_n 0, 0, [0]), (1, 3, .getfield 19, 0, [1, 5, 1]), (4, 1, .iconst 0, 0, []), (5, 1, .iconst 0, 0, []), (6, 1, .iastore, 0, []), (7, 1, .aload_n 0, 0, [0]), (8, 3, .getfield 22, 0, [1, 6, 1]), (11, 1, .iconst 0, 0, []), (12, 1, .iconst (-1), -1, []), (13, 1, .iastore, 0, []), (14, 1, .aload_n 0, 0, [0]), (15, 3, .getfield 25, 0, [1, 7, 1]), (18, 1, .iconst 0, 0, []), (19, 1, .iconst 1, 1, []), (20, 1, .bastore, 0, []), (21, 1, .aload_n 0, 0, [0]), (22, 3, .getfield 35, 0, [1, 10, 1]), (25, 1, .iconst 0, 0, []), (26, 1, .iconst (-1), -1, []), (27, 1, .iastore, 0, []), (28, 1, .aload_n 0, 0, [0]), (29, 3, .getfield 38, 0, [1, 11, 1]), (32, 1, .iconst 0, 0, []), (33, 1, .iconst 0, 0, []), (34, 1, .iastore, 0, []), (35, 1, .aload_n 0, 0, [0]), (36, 1, .iconst 1, 1, []), (37, 3, .putfield 183, 0, [1, 4, 0]), (40, 1, .aload_n 0, 0, [0]), (41, 1, .iconst 0, 0, []), (42, 3, .putfield 215, 0, [1, 17, 0]), (45, 1, .aload_n 0, 0, [0]), (46, 1, .iconst 0, 0, []), (47, 3, .putfield 179, 0, [1, 48, 3]), (50, 1, .iconst 0, 0, []), (51, 1, .istore_n 1, 0, [1]), (52, 1, .iload_n 1, 0, [1]), (53, 1, .aload_n 0, 0, [0]), (54, 3, .getfield 165, 0, [1, 0, 0]), (57, 3, .if_icmp .gt (19), 0, [76]), (60, 1, .aload_n 0, 0, [0]), (61, 1, .iload_n 1, 0, [1]), (62, 3, .invokevirtual 255, 0, [74, 2, 1, 1, 0]), (65, 1, .aload_n 0, 0, [0]), (66, 1, .iload_n 1, 0, [1]), (67, 3, .invokevirtual 218, 0, [56, 2, 1, 1, 0]), (70, 1, .iconst 1, 1, []), (71, 1, .iadd, 0, []), (72, 1, .istore_n 1, 0, [1]), (73, 3, .goto (-21), 0, [52]), (76, 1, .return_, 0, [])]
def qw_76 : List (List Nat) := [[], [1313], [], [], [], [], [1314], [], [], [], [], [1315], [], [], [], [], [1318], [], [], [], [], [1319], [], [], [], [], [], [1312], [], [], [1325], [], [], [1355], [], [], [], [], [1308], [], [], [], [1551, 0, 119, 1553, 51], [], [], [1555, 0, 119, 1557, 52], [], [], [], [], []]
/-- 77: MarktongueModel.laysInline(I)V -/
def qc_77 : List (Nat × qI) := [(0, 1, .aload_n 0, 0, [0]), (1, 1, .iconst 0, 0, []), (2, 3, .putfield 258, 0, [1, 28, 0]), (5, 1, .iconst 0, 0, []), (6, 1, .istore_n 2, 0, [2]), (7, 1, .iload_n 2, 0, [2]), (8, 1, .aload_n 0, 0, [0]), (9, 3, .getfield 215, 0, [1, 17, 0]), (12, 3, .if_icmp .ge (147), 0, [159]), (15, 1, .aload_n 0, 0, [0]), (16, 3, .getfield 41, 0, [1, 12, 1]), (19, 1, .iload_n 2, 0, [2]), (20, 1, .iaload, 0, []), (21, 1, .iload_n 1, 0, [1]), (22, 3, .if_icmp .ne (131), 0, [153]), (25, 1, .aload_n 0, 0, [0]), (26, 3, .getfield 258, 0, [1, 28, 0]), (29, 3, .ifCond .gt (12), 0, [41]), (32, 1, .aload_n 0, 0, [0]), (33, 3, .getfield 44, 0, [1, 13, 1]), (36, 1, .iload_n 2, 0, [2]), (37, 1, .iaload, 0, []), (38, 3, .ifCond .ge (24), 0, [62]), (41, 1, .aload_n 0, 0, [0]), (42, 3, .getfield 83, 0, [1, 29, 1]), (45, 1, .aload_n 0, 0, [0]), (46, 3, .getfield 258, 0, [1, 28, 0]), (49, 2, .bipush 10, 10, []), (51, 1, .iastore, 0, []), (52, 1, .aload_n 0, 0, [0]), (53, 1, .dup, 0, []), (54, 3, .getfield 258, 0, [1, 28, 0]), (57, 1, .iconst 1, 1, []), (58, 1, .iadd, 0, []), (59, 3, .putfield 258, 0, [1, 28, 0]), (62, 1, .aload_n 0, 0, [0]), (63, 1, .aload_n 0, 0, [0]), (64, 3, .getfield 44, 0, [1, 13, 1]), (67, 1, .iload_n 2, 0, [2]), (68, 1, .iaload, 0, []), (69, 1, .aload_n 0, 0, [0]), (70, 3, .getfield 47, 0, [1, 14, 1]), (73, 1, .iload_n 2, 0, [2]), (74, 1, .iaload, 0, []), (75, 3, .invokevirtual 208, 0, [65, 3, 1, 1, 0]), (78, 1, .istore_n 3, 0, [3]), (79, 1, .aload_n 0, 0, [0]), (80, 3, .getfield 44, 0, [1, 13, 1]), (83, 1, .iload_n 2, 0, [2]), (84, 1, .iaload, 0, []), (85, 2, .istore 4, 0, [4]), (87, 2, .iload 4, 0, [4]), (89, 1, .iload_n 3, 0, [3]), (90, 3, .if_icmp .ge (21), 0, [111]), (93, 1, .aload_n 0, 0, [0]), (94, 3, .getfield 7, 0, [1, 1, 1]), (97, 2, .iload 4, 0, [4]), (99, 1, .iaload, 0, []), (100, 2, .bipush 32, 32, []), (102, 3, .if_icmp .ne (9), 0, [111]), (105, 3, .iinc 4 1, 1, [4]), (108, 3, .goto (-21), 0, [87]), (111, 2, .iload 4, 0, [4]), (113, 2, .istore 5, 0, [5]), (115, 2, .iload 5, 0, [5]), (117, 1, .iload_n 3, 0, [3]), (118, 3, .if_icmp .ge (35), 0, [153]), (121, 1, .aload_n 0, 0, [0]), (122, 3, .getfield 83, 0, [1, 29, 1]), (125, 1, .aload_n 0, 0, [0]), (126, 3, .getfield 258, 0, [1, 28, 0]), (129, 1, .aload_n 0, 0, [0]), (130, 3, .getfield 7, 0, [1, 1, 1]), (133, 2, .iload 5, 0, [5]), (135, 1, .iaload, 0, []), (136, 1, .iastore, 0, []), (137, 1, .aload_n 0, 0, [0]), (138, 1, .dup, 0, []), (139, 3, .getfield 258, 0, [1, 28, 0]), (142, 1, .iconst 1, 1, []), (143, 1, .iadd, 0, []), (144, 3, .putfield 258, 0, [1, 28, 0]), (147, 3, .iinc 5 1, 1, [5]), (150, 3, .goto (-35), 0, [115]), (153, 3, .iinc 2 1, 1, [2]), (156, 3, .goto (-149), 0, [7]), (159, 1, .return_, 0, [])]
def qw_77 : List (List Nat) := [[], [], [1336], [], [], [], [], [1325], [], [], [1320], [], [], [], [], [], [1336], [], [], [1321], [], [], [], [], [1337], [], [1336], [], [], [], [], [1336], [], [], [1336], [], [], [1321], [], [], [], [1322], [], [], [1582, 0, 119, 1584, 58], [], [], [1321], [], [], [], [], [], [], [], [1309], [], [], [], [], [], [], [], [], [], [], [], [], [1337], [], [1336], [], [1309], [], [], [], [], [], [1336], [], [], [1336], [], [], [], [], []]
/-- 78: MarktongueModel.in(I)I -/
def qc_78 : List (Nat × qI) := [(0, 1, .iload_n 1, 0, [1]), (1, 1, .iconst 0, 0, []), (2, 1, .aload_n 0, 0, [0]), (3, 3, .getfield 258, 0, [1, 28, 0]), (6, 1, .iconst 1, 1, []), (7, 1, .isub, 0, []), (8, 3, .invokestatic 157, 0, [47, 3, 0, 0, 0]), (11, 3, .ifCond .eq (12), 0, [23]), (14, 1, .aload_n 0, 0, [0]), (15, 3, .getfield 83, 0, [1, 29, 1]), (18, 1, .iload_n 1, 0, [1]), (19, 1, .iaload, 0, []), (20, 3, .goto (4), 0, [24]), (23, 1, .iconst (-1), -1, []), (24, 1, .ireturn, 0, [0])]
def qw_78 : List (List Nat) := [[], [], [], [1336], [], [], [1512, 0, 119, 1513], [], [], [1337], [], [], [], [], []]
/-- 79: MarktongueModel.isEdge(I)Z -/
def qc_79 : List (Nat × qI) := [(0, 1, .iload_n 0, 0, [0]), (1, 1, .iconst (-1), -1, []), (2, 3, .if_icmp .eq (15), 0, [17]), (5, 1, .iload_n 0, 0, [0]), (6, 2, .bipush 32, 32, []), (8, 3, .if_icmp .eq (9), 0, [17]), (11, 1, .iload_n 0, 0, [0]), (12, 2, .bipush 10, 10, []), (14, 3, .if_icmp .ne (7), 0, [21]), (17, 1, .iconst 1, 1, []), (18, 3, .goto (4), 0, [22]), (21, 1, .iconst 0, 0, []), (22, 1, .ireturn, 0, [3])]
def qw_79 : List (List Nat) := [[], [], [], [], [], [], [], [], [], [], [], [], []]
/-- 80: MarktongueModel.run(I)I -/
def qc_80 : List (Nat × qI) := [(0, 1, .iload_n 1, 0, [1]), (1, 1, .istore_n 2, 0, [2]), (2, 1, .aload_n 0, 0, [0]), (3, 1, .iload_n 2, 0, [2]), (4, 3, .invokevirtual 261, 0, [78, 2, 1, 1, 0]), (7, 1, .aload_n 0, 0, [0]), (8, 1, .iload_n 1, 0, [1]), (9, 3, .invokevirtual 261, 0, [78, 2, 1, 1, 0]), (12, 3, .if_icmp .ne (9), 0, [21]), (15, 3, .iinc 2 1, 1, [2]), (18, 3, .goto (-16), 0, [2]), (21, 1, .iload_n 2, 0, [2]), (22, 1, .iload_n 1, 0, [1]), (23, 1, .isub, 0, []), (24, 1, .ireturn, 0, [0])]
def qw_80 : List (List Nat) := [[], [], [], [], [1649, 0, 119, 1651, 74], [], [], [1649, 0, 119, 1651, 74], [], [], [], [], [], [], []]
/-- 81: MarktongueModel.adds(III)V -/
def qc_81 : List (Nat × qI) := [(0, 1, .aload_n 0, 0, [0]), (1, 3, .getfield 92, 0, [1, 34, 1]), (4, 1, .aload_n 0, 0, [0]), (5, 3, .getfield 264, 0, [1, 33, 0]), (8, 1, .iload_n 1, 0, [1]), (9, 1, .iastore, 0, []), (10, 1, .aload_n 0, 0, [0]), (11, 3, .getfield 95, 0, [1, 35, 1]), (14, 1, .aload_n 0, 0, [0]), (15, 3, .getfield 264, 0, [1, 33, 0]), (18, 1, .iload_n 2, 0, [2]), (19, 1, .iastore, 0, []), (20, 1, .aload_n 0, 0, [0]), (21, 3, .getfield 98, 0, [1, 36, 1]), (24, 1, .aload_n 0, 0, [0]), (25, 3, .getfield 264, 0, [1, 33, 0]), (28, 1, .iload_n 3, 0, [3]), (29, 1, .iastore, 0, []), (30, 1, .aload_n 0, 0, [0]), (31, 3, .getfield 110, 0, [1, 40, 1]), (34, 1, .aload_n 0, 0, [0]), (35, 3, .getfield 264, 0, [1, 33, 0]), (38, 1, .iconst 0, 0, []), (39, 1, .bastore, 0, []), (40, 1, .aload_n 0, 0, [0]), (41, 1, .dup, 0, []), (42, 3, .getfield 264, 0, [1, 33, 0]), (45, 1, .iconst 1, 1, []), (46, 1, .iadd, 0, []), (47, 3, .putfield 264, 0, [1, 33, 0]), (50, 1, .return_, 0, [])]
def qw_81 : List (List Nat) := [[], [1341], [], [1340], [], [], [], [1342], [], [1340], [], [], [], [1343], [], [1340], [], [], [], [1347], [], [1340], [], [], [], [], [1340], [], [], [1340], []]
/-- 82: MarktongueModel.addsRun(I)V -/
def qc_82 : List (Nat × qI) := [(0, 1, .aload_n 0, 0, [0]), (1, 1, .iload_n 1, 0, [1]), (2, 3, .invokevirtual 267, 0, [80, 2, 1, 1, 0]), (5, 1, .istore_n 2, 0, [2]), (6, 1, .aload_n 0, 0, [0]), (7, 1, .iload_n 1, 0, [1]), (8, 1, .iconst 1, 1, []), (9, 1, .isub, 0, []), (10, 3, .invokevirtual 261, 0, [78, 2, 1, 1, 0]), (13, 1, .istore_n 3, 0, [3]), (14, 1, .aload_n 0, 0, [0]), (15, 1, .iload_n 1, 0, [1]), (16, 1, .iload_n 2, 0, [2]), (17, 1, .iadd, 0, []), (18, 3, .invokevirtual 261, 0, [78, 2, 1, 1, 0]), (21, 2, .istore 4, 0, [4]), (23, 1, .aload_n 0, 0, [0]), (24, 3, .getfield 101, 0, [1, 37, 1]), (27, 1, .aload_n 0, 0, [0]), (28, 3, .getfield 264, 0, [1, 33, 0]), (31, 2, .iload 4, 0, [4]), (33, 3, .invokestatic 270, 0, [79, 1, 0, 0, 0]), (36, 3, .ifCond .ne (29), 0, [65]), (39, 2, .iload 4, 0, [4]), (41, 3, .invokestatic 273, 0, [49, 1, 0, 0, 0]), (44, 3, .ifCond .eq (17), 0, [61]), (47, 1, .iload_n 3, 0, [3]), (48, 3, .invokestatic 270, 0, [79, 1, 0, 0, 0]), (51, 3, .ifCond .ne (10), 0, [61]), (54, 1, .iload_n 3, 0, [3]), (55, 3, .invokestatic 273, 0, [49, 1, 0, 0, 0]), (58, 3, .ifCond .eq (7), 0, [65]), (61, 1, .iconst 1, 1, []), (62, 3, .goto (4), 0, [66]), (65, 1, .iconst 0, 0, []), (66, 1, .bastore, 0, []), (67, 1, .aload_n 0, 0, [0]), (68, 3, .getfield 104, 0, [1, 38, 1]), (71, 1, .aload_n 0, 0, [0]), (72, 3, .getfield 264, 0, [1, 33, 0]), (75, 1, .iload_n 3, 0, [3]), (76, 3, .invokestatic 270, 0, [79, 1, 0, 0, 0]), (79, 3, .ifCond .ne (30), 0, [109]), (82, 1, .iload_n 3, 0, [3]), (83, 3, .invokestatic 273, 0, [49, 1, 0, 0, 0]), (86, 3, .ifCond .eq (19), 0, [105]), (89, 2, .iload 4, 0, [4]), (91, 3, .invokestatic 270, 0, [79, 1, 0, 0, 0]), (94, 3, .ifCond .ne (11), 0, [105]), (97, 2, .iload 4, 0, [4]), (99, 3, .invokestatic 273, 0, [49, 1, 0, 0, 0]), (102, 3, .ifCond .eq (7), 0, [109]), (105, 1, .iconst 1, 1, []), (106, 3, .goto (4), 0, [110]), (109, 1, .iconst 0, 0, []), (110, 1, .bastore, 0, []), (111, 1, .aload_n 0, 0, [0]), (112, 3, .getfield 107, 0, [1, 39, 1]), (115, 1, .aload_n 0, 0, [0]), (116, 3, .getfield 264, 0, [1, 33, 0]), (119, 1, .iload_n 2, 0, [2]), (120, 1, .iastore, 0, []), (121, 1, .aload_n 0, 0, [0]), (122, 1, .iconst 1, 1, []), (123, 1, .iload_n 1, 0, [1]), (124, 1, .iload_n 2, 0, [2]), (125, 3, .invokevirtual 276, 0, [81, 4, 1, 1, 0]), (128, 1, .return_, 0, [])]
def qw_82 : List (List Nat) := [[], [], [1664, 0, 119, 1666, 77], [], [], [], [], [], [1649, 0, 119, 1651, 74], [], [], [], [], [], [1649, 0, 119, 1651, 74], [], [], [1344], [], [1340], [], [1708, 0, 119, 1709], [], [], [1653, 0, 119, 1654], [], [], [1708, 0, 119, 1709], [], [], [1653, 0, 119, 1654], [], [], [], [], [], [], [1345], [], [1340], [], [1708, 0, 119, 1709], [], [], [1653, 0, 119, 1654], [], [], [1708, 0, 119, 1709], [], [], [1653, 0, 119, 1654], [], [], [], [], [], [], [1346], [], [1340], [], [], [], [], [], [], [1656, 0, 119, 1658, 75], []]
/-- 83: MarktongueModel.nextRun(II)I -/
def qc_83 : List (Nat × qI) := [(0, 1, .iload_n 1, 0, [1]), (1, 1, .istore_n 3, 0, [3]), (2, 1, .iload_n 3, 0, [3]), (3, 1, .aload_n 0, 0, [0]), (4, 3, .getfield 258, 0, [1, 28, 0]), (7, 3, .if_icmp .ge (41), 0, [48]), (10, 1, .aload_n 0, 0, [0]), (11, 1, .iload_n 3, 0, [3]), (12, 3, .invokevirtual 261, 0, [78, 2, 1, 1, 0]), (15, 2, .bipush 96, 96, []), (17, 3, .if_icmp .ne (25), 0, [42]), (20, 1, .aload_n 0, 0, [0]), (21, 1, .iload_n 3, 0, [3]), (22, 3, .invokevirtual 267, 0, [80, 2, 1, 1, 0]), (25, 1, .iload_n 2, 0, [2]), (26, 3, .if_icmp .ne (5), 0, [31]), (29, 1, .iload_n 3, 0, [3]), (30, 1, .ireturn, 0, [0]), (31, 1, .iload_n 3, 0, [3]), (32, 1, .aload_n 0, 0, [0]), (33, 1, .iload_n 3, 0, [3]), (34, 3, .invokevirtual 267, 0, [80, 2, 1, 1, 0]), (37, 1, .iadd, 0, []), (38, 1, .istore_n 3, 0, [3]), (39, 3, .goto (-37), 0, [2]), (42, 3, .iinc 3 1, 1, [3]), (45, 3, .goto (-43), 0, [2]), (48, 1, .iconst (-1), -1, []), (49, 1, .ireturn, 0, [0])]
def qw_83 : List (List Nat) := [[], [], [], [], [1336], [], [], [], [1649, 0, 119, 1651, 74], [], [], [], [], [1664, 0, 119, 1666, 77], [], [], [], [], [], [], [], [1664, 0, 119, 1666, 77], [], [], [], [], [], [], []]
/-- 84: MarktongueModel.isSameName(III)Z -/
def qc_84 : List (Nat × qI) := [(0, 1, .iconst 1, 1, []), (1, 2, .istore 4, 0, [4]), (3, 1, .iconst 0, 0, []), (4, 2, .istore 5, 0, [5]), (6, 2, .iload 5, 0, [5]), (8, 2, .bipush 6, 6, []), (10, 3, .if_icmp .ge (56), 0, [66]), (13, 2, .iload 4, 0, [4]), (15, 3, .ifCond .eq (42), 0, [57]), (18, 1, .aload_n 0, 0, [0]), (19, 3, .getfield 59, 0, [1, 19, 1]), (22, 2, .bipush 6, 6, []), (24, 1, .iload_n 1, 0, [1]), (25, 1, .imul, 0, []), (26, 2, .iload 5, 0, [5]), (28, 1, .iadd, 0, []), (29, 1, .iaload, 0, []), (30, 1, .iload_n 2, 0, [2]), (31, 2, .iload 5, 0, [5]), (33, 1, .iadd, 0, []), (34, 1, .iload_n 3, 0, [3]), (35, 3, .if_icmp .ge (14), 0, [49]), (38, 1, .aload_n 0, 0, [0]), (39, 1, .iload_n 2, 0, [2]), (40, 2, .iload 5, 0, [5]), (42, 1, .iadd, 0, []), (43, 3, .invokevirtual 261, 0, [78, 2, 1, 1, 0]), (46, 3, .goto (4), 0, [50]), (49, 1, .iconst 0, 0, []), (50, 3, .if_icmp .ne (7), 0, [57]), (53, 1, .iconst 1, 1, []), (54, 3, .goto (4), 0, [58]), (57, 1, .iconst 0, 0, []), (58, 2, .istore 4, 0, [4]), (60, 3, .iinc 5 1, 1, [5]), (63, 3, .goto (-57), 0, [6]), (66, 2, .iload 4, 0, [4]), (68, 1, .ireturn, 0, [3])]
def qw_84 : List (List Nat) := [[], [], [], [], [], [], [], [], [], [], [1327], [], [], [], [], [], [], [], [], [], [], [], [], [], [], [], [1649, 0, 119, 1651, 74], [], [], [], [], [], [], [], [], [], [], []]
/-- 85: MarktongueModel.meant(II)I -/
def qc_85 : List (Nat × qI) := [(0, 1, .iload_n 2, 0, [2]), (1, 1, .iload_n 1, 0, [1]), (2, 1, .isub, 0, []), (3, 1, .iconst 1, 1, []), (4, 2, .bipush 6, 6, []), (6, 3, .invokestatic 157, 0, [47, 3, 0, 0, 0]), (9, 1, .istore_n 3, 0, [3]), (10, 1, .iload_n 1, 0, [1]), (11, 2, .istore 4, 0, [4]), (13, 2, .iload 4, 0, [4]), (15, 1, .iload_n 2, 0, [2]), (16, 3, .if_icmp .ge (31), 0, [47]), (19, 1, .iload_n 3, 0, [3]), (20, 3, .ifCond .eq (19), 0, [39]), (23, 1, .aload_n 0, 0, [0]), (24, 2, .iload 4, 0, [4]), (26, 3, .invokevirtual 261, 0, [78, 2, 1, 1, 0]), (29, 3, .invokestatic 161, 0, [48, 1, 0, 0, 0]), (32, 3, .ifCond .eq (7), 0, [39]), (35, 1, .iconst 1, 1, []), (36, 3, .goto (4), 0, [40]), (39, 1, .iconst 0, 0, []), (40, 1, .istore_n 3, 0, [3]), (41, 3, .iinc 4 1, 1, [4]), (44, 3, .goto (-31), 0, [13]), (47, 1, .iconst (-1), -1, []), (48, 2, .istore 4, 0, [4]), (50, 1, .aload_n 0, 0, [0]), (51, 3, .getfield 183, 0, [1, 4, 0]), (54, 1, .iconst 1, 1, []), (55, 1, .isub, 0, []), (56, 2, .istore 5, 0, [5]), (58, 2, .iload 5, 0, [5]), (60, 3, .ifCond .lt (44), 0, [104]), (63, 1, .iload_n 3, 0, [3]), (64, 3, .ifCond .eq (40), 0, [104]), (67, 1, .aload_n 0, 0, [0]), (68, 3, .getfield 19, 0, [1, 5, 1]), (71, 2, .iload 5, 0, [5]), (73, 1, .iaload, 0, []), (74, 1, .iconst 4, 4, []), (75, 3, .if_icmp .ne (19), 0, [94]), (78, 1, .aload_n 0, 0, [0]), (79, 2, .iload 5, 0, [5]), (81, 1, .iload_n 1, 0, [1]), (82, 1, .iload_n 2, 0, [2]), (83, 3, .invokevirtual 279, 0, [84, 4, 1, 1, 0]), (86, 3, .ifCond .eq (8), 0, [94]), (89, 2, .iload 5, 0, [5]), (91, 3, .goto (5), 0, [96]), (94, 2, .iload 4, 0, [4]), (96, 2, .istore 4, 0, [4]), (98, 3, .iinc 5 (-1), -1, [5]), (101, 3, .goto (-43), 0, [58]), (104, 1, .aload_n 0, 0, [0]), (105, 3, .getfield 183, 0, [1, 4, 0]), (108, 1, .iconst 1, 1, []), (109, 1, .isub, 0, []), (110, 2, .istore 5, 0, [5]), (112, 2, .iload 5, 0, [5]), (114, 3, .ifCond .lt (66), 0, [180]), (117, 1, .iload_n 3, 0, [3]), (118, 3, .ifCond .eq (62), 0, [180]), (121, 1, .aload_n 0, 0, [0]), (122, 3, .getfield 19, 0, [1, 5, 1]), (125, 2, .iload 5, 0, [5]), (127, 1, .iaload, 0, []), (128, 2, .bipush 7, 7, []), (130, 3, .if_icmp .ne (40), 0, [170]), (133, 1, .aload_n 0, 0, [0]), (134, 2, .iload 5, 0, [5]), (136, 1, .iload_n 1, 0, [1]), (137, 1, .iload_n 2, 0, [2]), (138, 3, .invokevirtual 279, 0, [84, 4, 1, 1, 0]), (141, 3, .ifCond .ne (24), 0, [165]), (144, 2, .iload 4, 0, [4]), (146, 1, .iconst (-1), -1, []), (147, 3, .if_icmp .eq (23), 0, [170]), (150, 1, .aload_n 0, 0, [0]), (151, 3, .getfield 19, 0, [1, 5, 1]), (154, 2, .iload 4, 0, [4]), (156, 1, .iaload, 0, []), (157, 2, .bipush 7, 7, []), (159, 3, .if_icmp .ne (11), 0, [170]), (162, 3, .goto (8), 0, [170]), (165, 2, .iload 5, 0, [5]), (167, 3, .goto (5), 0, [172]), (170, 2, .iload 4, 0, [4]), (172, 2, .istore 4, 0, [4]), (174, 3, .iinc 5 (-1), -1, [5]), (177, 3, .goto (-65), 0, [112]), (180, 2, .iload 4, 0, [4]), (182, 1, .ireturn, 0, [0])]
def qw_85 : List (List Nat) := [[], [], [], [], [], [1512, 0, 119, 1513], [], [], [], [], [], [], [], [], [], [], [1649, 0, 119, 1651, 74], [1622, 0, 119, 1623], [], [], [], [], [], [], [], [], [], [], [1312], [], [], [], [], [], [], [], [], [1313], [], [], [], [], [], [], [], [], [1688, 0, 119, 1690, 83], [], [], [], [], [], [], [], [], [1312], [], [], [], [], [], [], [], [], [1313], [], [], [], [], [], [], [], [], [1688, 0, 119, 1690, 83], [], [], [], [], [], [1313], [], [], [], [], [], [], [], [], [], [], [], [], []]
/-- 86: MarktongueModel.nameBehind(I)I -/
def qc_86 : List (Nat × qI) := [(0, 1, .iconst 0, 0, []), (1, 1, .istore_n 2, 0, [2]), (2, 1, .aload_n 0, 0, [0]), (3, 1, .iload_n 1, 0, [1]), (4, 3, .invokevirtual 261, 0, [78, 2, 1, 1, 0]), (7, 2, .bipush 91, 91, []), (9, 3, .if_icmp .ne (24), 0, [33]), (12, 1, .aload_n 0, 0, [0]), (13, 1, .iload_n 1, 0, [1]), (14, 1, .iconst 1, 1, []), (15, 1, .iadd, 0, []), (16, 1, .iload_n 2, 0, [2]), (17, 1, .iadd, 0, []), (18, 3, .invokevirtual 261, 0, [78, 2, 1, 1, 0]), (21, 3, .invokestatic 161, 0, [48, 1, 0, 0, 0]), (24, 3, .ifCond .eq (9), 0, [33]), (27, 3, .iinc 2 1, 1, [2]), (30, 3, .goto (-28), 0, [2]), (33, 1, .iload_n 2, 0, [2]), (34, 1, .iconst 1, 1, []), (35, 2, .bipush 6, 6, []), (37, 3, .invokestatic 157, 0, [47, 3, 0, 0, 0]), (40, 3, .ifCond .eq (21), 0, [61]), (43, 1, .aload_n 0, 0, [0]), (44, 1, .iload_n 1, 0, [1]), (45, 1, .iconst 1, 1, []), (46, 1, .iadd, 0, []), (47, 1, .iload_n 2, 0, [2]), (48, 1, .iadd, 0, []), (49, 3, .invokevirtual 261, 0, [78, 2, 1, 1, 0]), (52, 2, .bipush 93, 93, []), (54, 3, .if_icmp .ne (7), 0, [61]), (57, 1, .iload_n 2, 0, [2]), (58, 3, .goto (4), 0, [62]), (61, 1, .iconst 0, 0, []), (62, 1, .ireturn, 0, [0])]
def qw_86 : List (List Nat) := [[], [], [], [], [1649, 0, 119, 1651, 74], [], [], [], [], [], [], [], [], [1649, 0, 119, 1651, 74], [1622, 0, 119, 1623], [], [], [], [], [], [], [1512, 0, 119, 1513], [], [], [], [], [], [], [], [1649, 0, 119, 1651, 74], [], [], [], [], [], []]
/-- 87: MarktongueModel.lastOpen(I)I -/
def qc_87 : List (Nat × qI) := [(0, 1, .iconst (-1), -1, []), (1, 1, .istore_n 2, 0, [2]), (2, 1, .iconst 0, 0, []), (3, 1, .istore_n 3, 0, [3]), (4, 1, .iload_n 3, 0, [3]), (5, 1, .iload_n 1, 0, [1]), (6, 3, .if_icmp .ge (25), 0, [31]), (9, 1, .aload_n 0, 0, [0]), (10, 3, .getfield 92, 0, [1, 34, 1]), (13, 1, .iload_n 3, 0, [3]), (14, 1, .iaload, 0, []), (15, 1, .iconst 3, 3, []), (16, 3, .if_icmp .ne (7), 0, [23]), (19, 1, .iload_n 3, 0, [3]), (20, 3, .goto (4), 0, [24]), (23, 1, .iload_n 2, 0, [2]), (24, 1, .istore_n 2, 0, [2]), (25, 3, .iinc 3 1, 1, [3]), (28, 3, .goto (-24), 0, [4]), (31, 1, .iload_n 2, 0, [2]), (32, 1, .ireturn, 0, [0])]
def qw_87 : List (List Nat) := [[], [], [], [], [], [], [], [], [1341], [], [], [], [], [], [], [], [], [], [], [], []]
/-- 88: MarktongueModel.closesLink(I)I -/
def qc_88 : List (Nat × qI) := [(0, 1, .aload_n 0, 0, [0]), (1, 1, .aload_n 0, 0, [0]), (2, 3, .getfield 264, 0, [1, 33, 0]), (5, 3, .invokevirtual 282, 0, [87, 2, 1, 1, 0]), (8, 1, .istore_n 2, 0, [2]), (9, 1, .iload_n 2, 0, [2]), (10, 1, .iconst (-1), -1, []), (11, 3, .if_icmp .ne (15), 0, [26]), (14, 1, .aload_n 0, 0, [0]), (15, 1, .iconst 0, 0, []), (16, 2, .bipush 93, 93, []), (18, 1, .iconst 0, 0, []), (19, 3, .invokevirtual 276, 0, [81, 4, 1, 1, 0]), (22, 1, .iload_n 1, 0, [1]), (23, 1, .iconst 1, 1, []), (24, 1, .iadd, 0, []), (25, 1, .ireturn, 0, [0]), (26, 1, .aload_n 0, 0, [0]), (27, 1, .iload_n 1, 0, [1]), (28, 1, .iconst 1, 1, []), (29, 1, .iadd, 0, []), (30, 3, .invokevirtual 285, 0, [86, 2, 1, 1, 0]), (33, 1, .istore_n 3, 0, [3]), (34, 1, .iload_n 3, 0, [3]), (35, 3, .ifCond .le (18), 0, [53]), (38, 1, .aload_n 0, 0, [0]), (39, 1, .iload_n 1, 0, [1]), (40, 1, .iconst 2, 2, []), (41, 1, .iadd, 0, []), (42, 1, .iload_n 1, 0, [1]), (43, 1, .iconst 2, 2, []), (44, 1, .iadd, 0, []), (45, 1, .iload_n 3, 0, [3]), (46, 1, .iadd, 0, []), (47, 3, .invokevirtual 288, 0, [85, 3, 1, 1, 0]), (50, 3, .goto (16), 0, [66]), (53, 1, .aload_n 0, 0, [0]), (54, 1, .aload_n 0, 0, [0]), (55, 3, .getfield 95, 0, [1, 35, 1]), (58, 1, .iload_n 2, 0, [2]), (59, 1, .iaload, 0, []), (60, 1, .iconst 1, 1, []), (61, 1, .iadd, 0, []), (62, 1, .iload_n 1, 0, [1]), (63, 3, .invokevirtual 288, 0, [85, 3, 1, 1, 0]), (66, 2, .istore 4, 0, [4]), (68, 1, .aload_n 0, 0, [0]), (69, 3, .getfield 92, 0, [1, 34, 1]), (72, 1, .iload_n 2, 0, [2]), (73, 1, .iconst 0, 0, []), (74, 1, .iastore, 0, []), (75, 2, .iload 4, 0, [4]), (77, 1, .iconst (-1), -1, []), (78, 3, .if_icmp .ne (23), 0, [101]), (81, 1, .aload_n 0, 0, [0]), (82, 3, .getfield 95, 0, [1, 35, 1]), (85, 1, .iload_n 2, 0, [2]), (86, 2, .bipush 91, 91, []), (88, 1, .iastore, 0, []), (89, 1, .aload_n 0, 0, [0]), (90, 1, .iconst 0, 0, []), (91, 2, .bipush 93, 93, []), (93, 1, .iconst 0, 0, []), (94, 3, .invokevirtual 276, 0, [81, 4, 1, 1, 0]), (97, 1, .iload_n 1, 0, [1]), (98, 1, .iconst 1, 1, []), (99, 1, .iadd, 0, []), (100, 1, .ireturn, 0, [0]), (101, 1, .iconst 0, 0, []), (102, 2, .istore 5, 0, [5]), (104, 2, .iload 5, 0, [5]), (106, 1, .iload_n 2, 0, [2]), (107, 3, .if_icmp .ge (37), 0, [144]), (110, 1, .aload_n 0, 0, [0]), (111, 3, .getfield 92, 0, [1, 34, 1]), (114, 2, .iload 5, 0, [5]), (116, 1, .iaload, 0, []), (117, 1, .iconst 3, 3, []), (118, 3, .if_icmp .ne (20), 0, [138]), (121, 1, .aload_n 0, 0, [0]), (122, 3, .getfield 92, 0, [1, 34, 1]), (125, 2, .iload 5, 0, [5]), (127, 1, .iconst 0, 0, []), (128, 1, .iastore, 0, []), (129, 1, .aload_n 0, 0, [0]), (130, 3, .getfield 95, 0, [1, 35, 1]), (133, 2, .iload 5, 0, [5]), (135, 2, .bipush 91, 91, []), (137, 1, .iastore, 0, []), (138, 3, .iinc 5 1, 1, [5]), (141, 3, .goto (-37), 0, [104]), (144, 1, .aload_n 0, 0, [0]), (145, 3, .getfield 92, 0, [1, 34, 1]), (148, 1, .iload_n 2, 0, [2]), (149, 1, .iconst 4, 4, []), (150, 1, .iastore, 0, []), (151, 1, .aload_n 0, 0, [0]), (152, 3, .getfield 98, 0, [1, 36, 1]), (155, 1, .iload_n 2, 0, [2]), (156, 2, .iload 4, 0, [4]), (158, 1, .iastore, 0, []), (159, 1, .aload_n 0, 0, [0]), (160, 1, .iload_n 2, 0, [2]), (161, 1, .iconst 1, 1, []), (162, 1, .iadd, 0, []), (163, 1, .aload_n 0, 0, [0]), (164, 3, .getfield 264, 0, [1, 33, 0]), (167, 3, .invokevirtual 291, 0, [91, 3, 1, 1, 0]), (170, 1, .iload_n 2, 0, [2]), (171, 1, .iconst 1, 1, []), (172, 1, .iadd, 0, []), (173, 2, .istore 5, 0, [5]), (175, 2, .iload 5, 0, [5]), (177, 1, .aload_n 0, 0, [0]), (178, 3, .getfield 264, 0, [1, 33, 0]), (181, 3, .if_icmp .ge (17), 0, [198]), (184, 1, .aload_n 0, 0, [0]), (185, 3, .getfield 110, 0, [1, 40, 1]), (188, 2, .iload 5, 0, [5]), (190, 1, .iconst 1, 1, []), (191, 1, .bastore, 0, []), (192, 3, .iinc 5 1, 1, [5]), (195, 3, .goto (-20), 0, [175]), (198, 1, .aload_n 0, 0, [0]), (199, 1, .iconst 5, 5, []), (200, 1, .iload_n 2, 0, [2]), (201, 1, .iconst 0, 0, []), (202, 3, .invokevirtual 276, 0, [81, 4, 1, 1, 0]), (205, 1, .iload_n 3, 0, [3]), (206, 3, .ifCond .le (11), 0, [217]), (209, 1, .iload_n 1, 0, [1]), (210, 1, .iload_n 3, 0, [3]), (211, 1, .iadd, 0, []), (212, 1, .iconst 3, 3, []), (213, 1, .iadd, 0, []), (214, 3, .goto (6), 0, [220]), (217, 1, .iload_n 1, 0, [1]), (218, 1, .iconst 1, 1, []), (219, 1, .iadd, 0, []), (220, 1, .ireturn, 0, [0])]
def qw_88 : List (List Nat) := [[], [], [1340], [1676, 0, 119, 1678, 80], [], [], [], [], [], [], [], [], [1656, 0, 119, 1658, 75], [], [], [], [], [], [], [], [], [1680, 0, 119, 1682, 81], [], [], [], [], [], [], [], [], [], [], [], [], [1684, 0, 119, 1686, 82], [], [], [], [1342], [], [], [], [], [], [1684, 0, 119, 1686, 82], [], [], [1341], [], [], [], [], [], [], [], [1342], [], [], [], [], [], [], [], [1656, 0, 119, 1658, 75], [], [], [], [], [], [], [], [], [], [], [1341], [], [], [], [], [], [1341], [], [], [], [], [1342], [], [], [], [], [], [], [1341], [], [], [], [], [1343], [], [], [], [], [], [], [], [], [1340], [1692, 0, 119, 1694, 84], [], [], [], [], [], [], [1340], [], [], [1347], [], [], [], [], [], [], [], [], [], [1656, 0, 119, 1658, 75], [], [], [], [], [], [], [], [], [], [], [], []]
/-- 89: MarktongueModel.fit(II)Z -/
def qc_89 : List (Nat × qI) := [(0, 1, .aload_n 0, 0, [0]), (1, 3, .getfield 101, 0, [1, 37, 1]), (4, 1, .iload_n 1, 0, [1]), (5, 1, .baload, 0, []), (6, 3, .ifCond .eq (12), 0, [18]), (9, 1, .aload_n 0, 0, [0]), (10, 3, .getfield 104, 0, [1, 38, 1]), (13, 1, .iload_n 1, 0, [1]), (14, 1, .baload, 0, []), (15, 3, .ifCond .ne (21), 0, [36]), (18, 1, .aload_n 0, 0, [0]), (19, 3, .getfield 101, 0, [1, 37, 1]), (22, 1, .iload_n 2, 0, [2]), (23, 1, .baload, 0, []), (24, 3, .ifCond .eq (16), 0, [40]), (27, 1, .aload_n 0, 0, [0]), (28, 3, .getfield 104, 0, [1, 38, 1]), (31, 1, .iload_n 2, 0, [2]), (32, 1, .baload, 0, []), (33, 3, .ifCond .eq (7), 0, [40]), (36, 1, .iconst 1, 1, []), (37, 3, .goto (4), 0, [41]), (40, 1, .iconst 0, 0, []), (41, 1, .istore_n 3, 0, [3]), (42, 1, .iload_n 3, 0, [3]), (43, 3, .ifCond .eq (43), 0, [86]), (46, 1, .aload_n 0, 0, [0]), (47, 3, .getfield 98, 0, [1, 36, 1]), (50, 1, .iload_n 1, 0, [1]), (51, 1, .iaload, 0, []), (52, 1, .aload_n 0, 0, [0]), (53, 3, .getfield 98, 0, [1, 36, 1]), (56, 1, .iload_n 2, 0, [2]), (57, 1, .iaload, 0, []), (58, 1, .iadd, 0, []), (59, 1, .iconst 3, 3, []), (60, 1, .irem, 0, []), (61, 3, .ifCond .ne (25), 0, [86]), (64, 1, .aload_n 0, 0, [0]), (65, 3, .getfield 98, 0, [1, 36, 1]), (68, 1, .iload_n 1, 0, [1]), (69, 1, .iaload, 0, []), (70, 1, .iconst 3, 3, []), (71, 1, .irem, 0, []), (72, 3, .ifCond .ne (18), 0, [90]), (75, 1, .aload_n 0, 0, [0]), (76, 3, .getfield 98, 0, [1, 36, 1]), (79, 1, .iload_n 2, 0, [2]), (80, 1, .iaload, 0, []), (81, 1, .iconst 3, 3, []), (82, 1, .irem, 0, []), (83, 3, .ifCond .ne (7), 0, [90]), (86, 1, .iconst 1, 1, []), (87, 3, .goto (4), 0, [91]), (90, 1, .iconst 0, 0, []), (91, 1, .ireturn, 0, [3])]
def qw_89 : List (List Nat) := [[], [1344], [], [], [], [], [1345], [], [], [], [], [1344], [], [], [], [], [1345], [], [], [], [], [], [], [], [], [], [], [1343], [], [], [], [1343], [], [], [], [], [], [], [], [1343], [], [], [], [], [], [], [1343], [], [], [], [], [], [], [], [], []]
/-- 90: MarktongueModel.nearest(II)I -/
def qc_90 : List (Nat × qI) := [(0, 1, .iconst (-1), -1, []), (1, 1, .istore_n 3, 0, [3]), (2, 1, .iload_n 1, 0, [1]), (3, 2, .istore 4, 0, [4]), (5, 2, .iload 4, 0, [4]), (7, 1, .iload_n 2, 0, [2]), (8, 3, .if_icmp .ge (67), 0, [75]), (11, 1, .aload_n 0, 0, [0]), (12, 3, .getfield 92, 0, [1, 34, 1]), (15, 2, .iload 4, 0, [4]), (17, 1, .iaload, 0, []), (18, 1, .iconst 1, 1, []), (19, 3, .if_icmp .ne (48), 0, [67]), (22, 1, .aload_n 0, 0, [0]), (23, 3, .getfield 101, 0, [1, 37, 1]), (26, 2, .iload 4, 0, [4]), (28, 1, .baload, 0, []), (29, 3, .ifCond .eq (38), 0, [67]), (32, 1, .aload_n 0, 0, [0]), (33, 3, .getfield 110, 0, [1, 40, 1]), (36, 2, .iload 4, 0, [4]), (38, 1, .baload, 0, []), (39, 3, .ifCond .ne (28), 0, [67]), (42, 1, .aload_n 0, 0, [0]), (43, 3, .getfield 107, 0, [1, 39, 1]), (46, 2, .iload 4, 0, [4]), (48, 1, .iaload, 0, []), (49, 3, .ifCond .le (18), 0, [67]), (52, 1, .aload_n 0, 0, [0]), (53, 2, .iload 4, 0, [4]), (55, 1, .iload_n 2, 0, [2]), (56, 3, .invokevirtual 294, 0, [89, 3, 1, 1, 0]), (59, 3, .ifCond .eq (8), 0, [67]), (62, 2, .iload 4, 0, [4]), (64, 3, .goto (4), 0, [68]), (67, 1, .iload_n 3, 0, [3]), (68, 1, .istore_n 3, 0, [3]), (69, 3, .iinc 4 1, 1, [4]), (72, 3, .goto (-67), 0, [5]), (75, 1, .iload_n 3, 0, [3]), (76, 1, .ireturn, 0, [0])]
def qw_90 : List (List Nat) := [[], [], [], [], [], [], [], [], [1341], [], [], [], [], [], [1344], [], [], [], [], [1347], [], [], [], [], [1346], [], [], [], [], [], [], [1700, 0, 119, 1702, 86], [], [], [], [], [], [], [], [], []]
/-- 91: MarktongueModel.pairsUp(II)V -/
def qc_91 : List (Nat × qI) := [(0, 1, .iload_n 1, 0, [1]), (1, 1, .istore_n 3, 0, [3]), (2, 1, .iload_n 3, 0, [3]), (3, 1, .iload_n 2, 0, [2]), (4, 3, .if_icmp .ge (246), 0, [250]), (7, 1, .aload_n 0, 0, [0]), (8, 3, .getfield 92, 0, [1, 34, 1]), (11, 1, .iload_n 3, 0, [3]), (12, 1, .iaload, 0, []), (13, 1, .iconst 1, 1, []), (14, 3, .if_icmp .ne (25), 0, [39]), (17, 1, .aload_n 0, 0, [0]), (18, 3, .getfield 104, 0, [1, 38, 1]), (21, 1, .iload_n 3, 0, [3]), (22, 1, .baload, 0, []), (23, 3, .ifCond .eq (16), 0, [39]), (26, 1, .aload_n 0, 0, [0]), (27, 3, .getfield 110, 0, [1, 40, 1]), (30, 1, .iload_n 3, 0, [3]), (31, 1, .baload, 0, []), (32, 3, .ifCond .ne (7), 0, [39]), (35, 1, .iconst 1, 1, []), (36, 3, .goto (4), 0, [40]), (39, 1, .iconst 0, 0, []), (40, 2, .istore 4, 0, [4]), (42, 2, .iload 4, 0, [4]), (44, 3, .ifCond .eq (200), 0, [244]), (47, 1, .aload_n 0, 0, [0]), (48, 3, .getfield 107, 0, [1, 39, 1]), (51, 1, .iload_n 3, 0, [3]), (52, 1, .iaload, 0, []), (53, 3, .ifCond .le (191), 0, [244]), (56, 1, .aload_n 0, 0, [0]), (57, 1, .iload_n 1, 0, [1]), (58, 1, .iload_n 3, 0, [3]), (59, 3, .invokevirtual 297, 0, [90, 3, 1, 1, 0]), (62, 2, .istore 5, 0, [5]), (64, 2, .iload 5, 0, [5]), (66, 1, .iconst (-1), -1, []), (67, 3, .if_icmp .ne (29), 0, [96]), (70, 1, .iconst 0, 0, []), (71, 2, .istore 4, 0, [4]), (73, 1, .aload_n 0, 0, [0]), (74, 3, .getfield 110, 0, [1, 40, 1]), (77, 1, .iload_n 3, 0, [3]), (78, 1, .aload_n 0, 0, [0]), (79, 3, .getfield 101, 0, [1, 37, 1]), (82, 1, .iload_n 3, 0, [3]), (83, 1, .baload, 0, []), (84, 3, .ifCond .ne (7), 0, [91]), (87, 1, .iconst 1, 1, []), (88, 3, .goto (4), 0, [92]), (91, 1, .iconst 0, 0, []), (92, 1, .bastore, 0, []), (93, 3, .goto (148), 0, [241]), (96, 1, .aload_n 0, 0, [0]), (97, 3, .getfield 107, 0, [1, 39, 1]), (100, 1, .iload_n 3, 0, [3]), (101, 1, .iaload, 0, []), (102, 1, .iconst 1, 1, []), (103, 3, .if_icmp .le (18), 0, [121]), (106, 1, .aload_n 0, 0, [0]), (107, 3, .getfield 107, 0, [1, 39, 1]), (110, 2, .iload 5, 0, [5]), (112, 1, .iaload, 0, []), (113, 1, .iconst 1, 1, []), (114, 3, .if_icmp .le (7), 0, [121]), (117, 1, .iconst 1, 1, []), (118, 3, .goto (4), 0, [122]), (121, 1, .iconst 0, 0, []), (122, 2, .istore 6, 0, [6]), (124, 1, .aload_n 0, 0, [0]), (125, 3, .getfield 113, 0, [1, 42, 1]), (128, 1, .aload_n 0, 0, [0]), (129, 3, .getfield 300, 0, [1, 41, 0]), (132, 2, .iload 5, 0, [5]), (134, 1, .iastore, 0, []), (135, 1, .aload_n 0, 0, [0]), (136, 3, .getfield 116, 0, [1, 43, 1]), (139, 1, .aload_n 0, 0, [0]), (140, 3, .getfield 300, 0, [1, 41, 0]), (143, 1, .iload_n 3, 0, [3]), (144, 1, .iastore, 0, []), (145, 1, .aload_n 0, 0, [0]), (146, 3, .getfield 119, 0, [1, 44, 1]), (149, 1, .aload_n 0, 0, [0]), (150, 3, .getfield 300, 0, [1, 41, 0]), (153, 2, .iload 6, 0, [6]), (155, 3, .ifCond .eq (8), 0, [163]), (158, 2, .bipush 10, 10, []), (160, 3, .goto (5), 0, [165]), (163, 2, .bipush 9, 9, []), (165, 1, .iastore, 0, []), (166, 1, .aload_n 0, 0, [0]), (167, 1, .dup, 0, []), (168, 3, .getfield 300, 0, [1, 41, 0]), (171, 1, .iconst 1, 1, []), (172, 1, .iadd, 0, []), (173, 3, .putfield 300, 0, [1, 41, 0]), (176, 1, .aload_n 0, 0, [0]), (177, 3, .getfield 107, 0, [1, 39, 1]), (180, 1, .iload_n 3, 0, [3]), (181, 1, .dup2, 0, []), (182, 1, .iaload, 0, []), (183, 2, .iload 6, 0, [6]), (185, 3, .ifCond .eq (7), 0, [192]), (188, 1, .iconst 2, 2, []), (189, 3, .goto (4), 0, [193]), (192, 1, .iconst 1, 1, []), (193, 1, .isub, 0, []), (194, 1, .iastore, 0, []), (195, 1, .aload_n 0, 0, [0]), (196, 3, .getfield 107, 0, [1, 39, 1]), (199, 2, .iload 5, 0, [5]), (201, 1, .dup2, 0, []), (202, 1, .iaload, 0, []), (203, 2, .iload 6, 0, [6]), (205, 3, .ifCond .eq (7), 0, [212]), (208, 1, .iconst 2, 2, []), (209, 3, .goto (4), 0, [213]), (212, 1, .iconst 1, 1, []), (213, 1, .isub, 0, []), (214, 1, .iastore, 0, []), (215, 2, .iload 5, 0, [5]), (217, 1, .iconst 1, 1, []), (218, 1, .iadd, 0, []), (219, 2, .istore 7, 0, [7]), (221, 2, .iload 7, 0, [7]), (223, 1, .iload_n 3, 0, [3]), (224, 3, .if_icmp .ge (17), 0, [241]), (227, 1, .aload_n 0, 0, [0]), (228, 3, .getfield 110, 0, [1, 40, 1]), (231, 2, .iload 7, 0, [7]), (233, 1, .iconst 1, 1, []), (234, 1, .bastore, 0, []), (235, 3, .iinc 7 1, 1, [7]), (238, 3, .goto (-17), 0, [221]), (241, 3, .goto (-199), 0, [42]), (244, 3, .iinc 3 1, 1, [3]), (247, 3, .goto (-245), 0, [2]), (250, 1, .return_, 0, [])]
def qw_91 : List (List Nat) := [[], [], [], [], [], [], [1341], [], [], [], [], [], [1345], [], [], [], [], [1347], [], [], [], [], [], [], [], [], [], [], [1346], [], [], [], [], [], [], [1696, 0, 119, 1698, 85], [], [], [], [], [], [], [], [1347], [], [], [1344], [], [], [], [], [], [], [], [], [], [1346], [], [], [], [], [], [1346], [], [], [], [], [], [], [], [], [], [1349], [], [1348], [], [], [], [1350], [], [1348], [], [], [], [1351], [], [1348], [], [], [], [], [], [], [], [], [1348], [], [], [1348], [], [1346], [], [], [], [], [], [], [], [], [], [], [], [1346], [], [], [], [], [], [], [], [], [], [], [], [], [], [], [], [], [], [], [1347], [], [], [], [], [], [], [], [], []]
/-- 92: MarktongueModel.cuts(I)V -/
def qc_92 : List (Nat × qI) := [(0, 1, .aload_n 0, 0, [0]), (1, 1, .iload_n 1, 0, [1]), (2, 3, .invokevirtual 303, 0, [77, 2, 1, 1, 0]), (5, 1, .aload_n 0, 0, [0]), (6, 1, .iconst 0, 0, []), (7, 3, .putfield 264, 0, [1, 33, 0]), (10, 1, .aload_n 0, 0, [0]), (11, 1, .iconst 0, 0, []), (12, 3, .putfield 300, 0, [1, 41, 0]), (15, 1, .iconst 0, 0, []), (16, 1, .istore_n 2, 0, [2]), (17, 1, .iload_n 2, 0, [2]), (18, 1, .aload_n 0, 0, [0]), (19, 3, .getfield 258, 0, [1, 28, 0]), (22, 3, .if_icmp .ge (131), 0, [153]), (25, 1, .aload_n 0, 0, [0]), (26, 1, .iload_n 2, 0, [2]), (27, 3, .invokevirtual 261, 0, [78, 2, 1, 1, 0]), (30, 1, .istore_n 3, 0, [3]), (31, 1, .iload_n 3, 0, [3]), (32, 2, .bipush 92, 92, []), (34, 3, .if_icmp .ne (35), 0, [69]), (37, 1, .aload_n 0, 0, [0]), (38, 1, .iload_n 2, 0, [2]), (39, 1, .iconst 1, 1, []), (40, 1, .iadd, 0, []), (41, 3, .invokevirtual 261, 0, [78, 2, 1, 1, 0]), (44, 3, .invokestatic 273, 0, [49, 1, 0, 0, 0]), (47, 3, .ifCond .eq (22), 0, [69]), (50, 1, .aload_n 0, 0, [0]), (51, 1, .iconst 0, 0, []), (52, 1, .aload_n 0, 0, [0]), (53, 1, .iload_n 2, 0, [2]), (54, 1, .iconst 1, 1, []), (55, 1, .iadd, 0, []), (56, 3, .invokevirtual 261, 0, [78, 2, 1, 1, 0]), (59, 1, .iconst 0, 0, []), (60, 3, .invokevirtual 276, 0, [81, 4, 1, 1, 0]), (63, 3, .iinc 2 2, 2, [2]), (66, 3, .goto (84), 0, [150]), (69, 1, .iload_n 3, 0, [3]), (70, 2, .bipush 96, 96, []), (72, 3, .if_icmp .ne (12), 0, [84]), (75, 1, .aload_n 0, 0, [0]), (76, 1, .iload_n 2, 0, [2]), (77, 3, .invokevirtual 306, 0, [93, 2, 1, 1, 0]), (80, 1, .istore_n 2, 0, [2]), (81, 3, .goto (69), 0, [150]), (84, 1, .iload_n 3, 0, [3]), (85, 2, .bipush 91, 91, []), (87, 3, .if_icmp .ne (16), 0, [103]), (90, 1, .aload_n 0, 0, [0]), (91, 1, .iconst 3, 3, []), (92, 1, .iload_n 2, 0, [2]), (93, 1, .iconst 0, 0, []), (94, 3, .invokevirtual 276, 0, [81, 4, 1, 1, 0]), (97, 3, .iinc 2 1, 1, [2]), (100, 3, .goto (50), 0, [150]), (103, 1, .iload_n 3, 0, [3]), (104, 2, .bipush 93, 93, []), (106, 3, .if_icmp .ne (12), 0, [118]), (109, 1, .aload_n 0, 0, [0]), (110, 1, .iload_n 2, 0, [2]), (111, 3, .invokevirtual 309, 0, [88, 2, 1, 1, 0]), (114, 1, .istore_n 2, 0, [2]), (115, 3, .goto (35), 0, [150]), (118, 1, .iload_n 3, 0, [3]), (119, 2, .bipush 42, 42, []), (121, 3, .if_icmp .ne (19), 0, [140]), (124, 1, .aload_n 0, 0, [0]), (125, 1, .iload_n 2, 0, [2]), (126, 3, .invokevirtual 312, 0, [82, 2, 1, 1, 0]), (129, 1, .iload_n 2, 0, [2]), (130, 1, .aload_n 0, 0, [0]), (131, 1, .iload_n 2, 0, [2]), (132, 3, .invokevirtual 267, 0, [80, 2, 1, 1, 0]), (135, 1, .iadd, 0, []), (136, 1, .istore_n 2, 0, [2]), (137, 3, .goto (13), 0, [150]), (140, 1, .aload_n 0, 0, [0]), (141, 1, .iconst 0, 0, []), (142, 1, .iload_n 3, 0, [3]), (143, 1, .iconst 0, 0, []), (144, 3, .invokevirtual 276, 0, [81, 4, 1, 1, 0]), (147, 3, .iinc 2 1, 1, [2]), (150, 3, .goto (-133), 0, [17]), (153, 1, .aload_n 0, 0, [0]), (154, 1, .iconst 0, 0, []), (155, 1, .aload_n 0, 0, [0]), (156, 3, .getfield 264, 0, [1, 33, 0]), (159, 3, .invokevirtual 291, 0, [91, 3, 1, 1, 0]), (162, 1, .return_, 0, [])]
def qw_92 : List (List Nat) := [[], [], [1645, 0, 119, 1647, 73], [], [], [1340], [], [], [1348], [], [], [], [], [1336], [], [], [], [1649, 0, 119, 1651, 74], [], [], [], [], [], [], [], [], [1649, 0, 119, 1651, 74], [1653, 0, 119, 1654], [], [], [], [], [], [], [], [1649, 0, 119, 1651, 74], [], [1656, 0, 119, 1658, 75], [], [], [], [], [], [], [], [1660, 0, 119, 1662, 76], [], [], [], [], [], [], [], [], [], [1656, 0, 119, 1658, 75], [], [], [], [], [], [], [], [1672, 0, 119, 1674, 79], [], [], [], [], [], [], [], [1704, 0, 119, 1706, 87], [], [], [], [1664, 0, 119, 1666, 77], [], [], [], [], [], [], [], [1656, 0, 119, 1658, 75], [], [], [], [], [], [1340], [1692, 0, 119, 1694, 84], []]
/-- 93: MarktongueModel.cutsCode(I)I -/
def qc_93 : List (Nat × qI) := [(0, 1, .aload_n 0, 0, [0]), (1, 1, .iload_n 1, 0, [1]), (2, 3, .invokevirtual 267, 0, [80, 2, 1, 1, 0]), (5, 1, .istore_n 2, 0, [2]), (6, 1, .aload_n 0, 0, [0]), (7, 1, .iload_n 1, 0, [1]), (8, 1, .iload_n 2, 0, [2]), (9, 1, .iadd, 0, []), (10, 1, .iload_n 2, 0, [2]), (11, 3, .invokevirtual 315, 0, [83, 3, 1, 1, 0]), (14, 1, .istore_n 3, 0, [3]), (15, 1, .iload_n 3, 0, [3]), (16, 1, .iconst (-1), -1, []), (17, 3, .if_icmp .eq (16), 0, [33]), (20, 1, .aload_n 0, 0, [0]), (21, 1, .iconst 2, 2, []), (22, 1, .iload_n 1, 0, [1]), (23, 1, .iload_n 2, 0, [2]), (24, 1, .iadd, 0, []), (25, 1, .iload_n 3, 0, [3]), (26, 3, .invokevirtual 276, 0, [81, 4, 1, 1, 0]), (29, 1, .iload_n 3, 0, [3]), (30, 1, .iload_n 2, 0, [2]), (31, 1, .iadd, 0, []), (32, 1, .ireturn, 0, [0]), (33, 1, .iconst 0, 0, []), (34, 2, .istore 4, 0, [4]), (36, 2, .iload 4, 0, [4]), (38, 1, .iload_n 2, 0, [2]), (39, 3, .if_icmp .ge (20), 0, [59]), (42, 1, .aload_n 0, 0, [0]), (43, 1, .iconst 0, 0, []), (44, 1, .aload_n 0, 0, [0]), (45, 1, .iload_n 1, 0, [1]), (46, 3, .invokevirtual 261, 0, [78, 2, 1, 1, 0]), (49, 1, .iconst 0, 0, []), (50, 3, .invokevirtual 276, 0, [81, 4, 1, 1, 0]), (53, 3, .iinc 4 1, 1, [4]), (56, 3, .goto (-20), 0, [36]), (59, 1, .iload_n 1, 0, [1]), (60, 1, .iload_n 2, 0, [2]), (61, 1, .iadd, 0, []), (62, 1, .ireturn, 0, [0])]
def qw_93 : List (List Nat) := [[], [], [1664, 0, 119, 1666, 77], [], [], [], [], [], [], [1668, 0, 119, 1670, 78], [], [], [], [], [], [], [], [], [], [], [1656, 0, 119, 1658, 75], [], [], [], [], [], [], [], [], [], [], [], [], [], [1649, 0, 119, 1651, 74], [], [1656, 0, 119, 1658, 75], [], [], [], [], [], []]
/-- 94: MarktongueModel.addsNode(II)I -/
def qc_94 : List (Nat × qI) := [(0, 1, .aload_n 0, 0, [0]), (1, 3, .getfield 62, 0, [1, 21, 1]), (4, 1, .aload_n 0, 0, [0]), (5, 3, .getfield 318, 0, [1, 20, 0]), (8, 1, .iload_n 1, 0, [1]), (9, 1, .iastore, 0, []), (10, 1, .aload_n 0, 0, [0]), (11, 3, .getfield 65, 0, [1, 22, 1]), (14, 1, .aload_n 0, 0, [0]), (15, 3, .getfield 318, 0, [1, 20, 0]), (18, 1, .aload_n 0, 0, [0]), (19, 3, .getfield 321, 0, [1, 54, 0]), (22, 1, .iastore, 0, []), (23, 1, .aload_n 0, 0, [0]), (24, 3, .getfield 68, 0, [1, 23, 1]), (27, 1, .aload_n 0, 0, [0]), (28, 3, .getfield 318, 0, [1, 20, 0]), (31, 1, .iconst 0, 0, []), (32, 1, .iastore, 0, []), (33, 1, .aload_n 0, 0, [0]), (34, 3, .getfield 71, 0, [1, 24, 1]), (37, 1, .aload_n 0, 0, [0]), (38, 3, .getfield 318, 0, [1, 20, 0]), (41, 1, .iload_n 2, 0, [2]), (42, 1, .iastore, 0, []), (43, 1, .aload_n 0, 0, [0]), (44, 3, .getfield 77, 0, [1, 26, 1]), (47, 1, .aload_n 0, 0, [0]), (48, 3, .getfield 318, 0, [1, 20, 0]), (51, 1, .iconst (-1), -1, []), (52, 1, .iastore, 0, []), (53, 1, .aload_n 0, 0, [0]), (54, 3, .getfield 128, 0, [1, 53, 1]), (57, 1, .aload_n 0, 0, [0]), (58, 3, .getfield 318, 0, [1, 20, 0]), (61, 1, .aload_n 0, 0, [0]), (62, 3, .getfield 324, 0, [1, 51, 0]), (65, 1, .iastore, 0, []), (66, 1, .aload_n 0, 0, [0]), (67, 3, .getfield 321, 0, [1, 54, 0]), (70, 1, .iconst (-1), -1, []), (71, 3, .if_icmp .eq (16), 0, [87]), (74, 1, .aload_n 0, 0, [0]), (75, 3, .getfield 68, 0, [1, 23, 1]), (78, 1, .aload_n 0, 0, [0]), (79, 3, .getfield 321, 0, [1, 54, 0]), (82, 1, .dup2, 0, []), (83, 1, .iaload, 0, []), (84, 1, .iconst 1, 1, []), (85, 1, .iadd, 0, []), (86, 1, .iastore, 0, []), (87, 1, .aload_n 0, 0, [0]), (88, 1, .dup, 0, []), (89, 3, .getfield 318, 0, [1, 20, 0]), (92, 1, .iconst 1, 1, []), (93, 1, .iadd, 0, []), (94, 3, .putfield 318, 0, [1, 20, 0]), (97, 1, .aload_n 0, 0, [0]), (98, 3, .getfield 318, 0, [1, 20, 0]), (101, 1, .iconst 1, 1, []), (102, 1, .isub, 0, []), (103, 1, .ireturn, 0, [0])]
def qw_94 : List (List Nat) := [[], [1329], [], [1328], [], [], [], [1330], [], [1328], [], [1361], [], [], [1331], [], [1328], [], [], [], [1332], [], [1328], [], [], [], [1334], [], [1328], [], [], [], [1360], [], [1328], [], [1358], [], [], [1361], [], [], [], [1331], [], [1361], [], [], [], [], [], [], [], [1328], [], [], [1328], [], [1328], [], [], []]
/-- 95: MarktongueModel.addsCharacter(I)V -/
def qc_95 : List (Nat × qI) := [(0, 1, .aload_n 0, 0, [0]), (1, 3, .getfield 62, 0, [1, 21, 1]), (4, 1, .aload_n 0, 0, [0]), (5, 3, .getfield 318, 0, [1, 20, 0]), (8, 1, .iconst 1, 1, []), (9, 1, .isub, 0, []), (10, 1, .iaload, 0, []), (11, 2, .bipush 8, 8, []), (13, 3, .if_icmp .ne (32), 0, [45]), (16, 1, .aload_n 0, 0, [0]), (17, 3, .getfield 65, 0, [1, 22, 1]), (20, 1, .aload_n 0, 0, [0]), (21, 3, .getfield 318, 0, [1, 20, 0]), (24, 1, .iconst 1, 1, []), (25, 1, .isub, 0, []), (26, 1, .iaload, 0, []), (27, 1, .aload_n 0, 0, [0]), (28, 3, .getfield 321, 0, [1, 54, 0]), (31, 3, .if_icmp .ne (14), 0, [45]), (34, 1, .aload_n 0, 0, [0]), (35, 3, .getfield 327, 0, [1, 55, 3]), (38, 3, .ifCond .ne (7), 0, [45]), (41, 1, .iconst 1, 1, []), (42, 3, .goto (4), 0, [46]), (45, 1, .iconst 0, 0, []), (46, 1, .istore_n 2, 0, [2]), (47, 1, .iload_n 2, 0, [2]), (48, 3, .ifCond .eq (12), 0, [60]), (51, 1, .aload_n 0, 0, [0]), (52, 3, .getfield 318, 0, [1, 20, 0]), (55, 1, .iconst 1, 1, []), (56, 1, .isub, 0, []), (57, 3, .goto (10), 0, [67]), (60, 1, .aload_n 0, 0, [0]), (61, 2, .bipush 8, 8, []), (63, 1, .iconst 0, 0, []), (64, 3, .invokevirtual 330, 0, [94, 3, 1, 1, 0]), (67, 1, .istore_n 3, 0, [3]), (68, 1, .aload_n 0, 0, [0]), (69, 3, .getfield 125, 0, [1, 52, 1]), (72, 1, .aload_n 0, 0, [0]), (73, 3, .getfield 324, 0, [1, 51, 0]), (76, 1, .iload_n 1, 0, [1]), (77, 1, .iastore, 0, []), (78, 1, .aload_n 0, 0, [0]), (79, 1, .dup, 0, []), (80, 3, .getfield 324, 0, [1, 51, 0]), (83, 1, .iconst 1, 1, []), (84, 1, .iadd, 0, []), (85, 3, .putfield 324, 0, [1, 51, 0]), (88, 1, .aload_n 0, 0, [0]), (89, 3, .getfield 71, 0, [1, 24, 1]), (92, 1, .iload_n 3, 0, [3]), (93, 1, .dup2, 0, []), (94, 1, .iaload, 0, []), (95, 1, .iconst 1, 1, []), (96, 1, .iadd, 0, []), (97, 1, .iastore, 0, []), (98, 1, .aload_n 0, 0, [0]), (99, 1, .iconst 0, 0, []), (100, 3, .putfield 327, 0, [1, 55, 3]), (103, 1, .return_, 0, [])]
def qw_95 : List (List Nat) := [[], [1329], [], [1328], [], [], [], [], [], [], [1330], [], [1328], [], [], [], [], [1361], [], [], [1362], [], [], [], [], [], [], [], [], [1328], [], [], [], [], [], [], [1633, 0, 119, 1635, 70], [], [], [1359], [], [1358], [], [], [], [], [1358], [], [], [1358], [], [1332], [], [], [], [], [], [], [], [], [1362], []]
/-- 96: MarktongueModel.enters(I)V -/
def qc_96 : List (Nat × qI) := [(0, 1, .aload_n 0, 0, [0]), (1, 1, .aload_n 0, 0, [0]), (2, 1, .iload_n 1, 0, [1]), (3, 1, .iconst 0, 0, []), (4, 3, .invokevirtual 330, 0, [94, 3, 1, 1, 0]), (7, 3, .putfield 321, 0, [1, 54, 0]), (10, 1, .aload_n 0, 0, [0]), (11, 1, .iconst 0, 0, []), (12, 3, .putfield 327, 0, [1, 55, 3]), (15, 1, .return_, 0, [])]
def qw_96 : List (List Nat) := [[], [], [], [], [1633, 0, 119, 1635, 70], [1361], [], [], [1362], []]
/-- 97: MarktongueModel.leaves()V -/
def qc_97 : List (Nat × qI) := [(0, 1, .aload_n 0, 0, [0]), (1, 1, .aload_n 0, 0, [0]), (2, 3, .getfield 65, 0, [1, 22, 1]), (5, 1, .aload_n 0, 0, [0]), (6, 3, .getfield 321, 0, [1, 54, 0]), (9, 1, .iaload, 0, []), (10, 3, .putfield 321, 0, [1, 54, 0]), (13, 1, .aload_n 0, 0, [0]), (14, 1, .iconst 1, 1, []), (15, 3, .putfield 327, 0, [1, 55, 3]), (18, 1, .return_, 0, [])]
def qw_97 : List (List Nat) := [[], [], [1330], [], [1361], [], [1361], [], [], [1362], []]
/-- 98: MarktongueModel.treesInline(I)V -/
def qc_98 : List (Nat × qI) := [(0, 1, .aload_n 0, 0, [0]), (1, 1, .iload_n 1, 0, [1]), (2, 3, .invokevirtual 333, 0, [92, 2, 1, 1, 0]), (5, 1, .aload_n 0, 0, [0]), (6, 1, .iconst 0, 0, []), (7, 3, .putfield 327, 0, [1, 55, 3]), (10, 1, .iconst 0, 0, []), (11, 1, .istore_n 2, 0, [2]), (12, 1, .iload_n 2, 0, [2]), (13, 1, .aload_n 0, 0, [0]), (14, 3, .getfield 264, 0, [1, 33, 0]), (17, 3, .if_icmp .ge (175), 0, [192]), (20, 1, .aload_n 0, 0, [0]), (21, 3, .getfield 92, 0, [1, 34, 1]), (24, 1, .iload_n 2, 0, [2]), (25, 1, .iaload, 0, []), (26, 1, .istore_n 3, 0, [3]), (27, 1, .iload_n 3, 0, [3]), (28, 3, .ifCond .eq (8), 0, [36]), (31, 1, .iload_n 3, 0, [3]), (32, 1, .iconst 3, 3, []), (33, 3, .if_icmp .ne (26), 0, [59]), (36, 1, .aload_n 0, 0, [0]), (37, 1, .iload_n 3, 0, [3]), (38, 1, .iconst 3, 3, []), (39, 3, .if_icmp .ne (8), 0, [47]), (42, 2, .bipush 91, 91, []), (44, 3, .goto (9), 0, [53]), (47, 1, .aload_n 0, 0, [0]), (48, 3, .getfield 95, 0, [1, 35, 1]), (51, 1, .iload_n 2, 0, [2]), (52, 1, .iaload, 0, []), (53, 3, .invokevirtual 336, 0, [95, 2, 1, 1, 0]), (56, 3, .goto (130), 0, [186]), (59, 1, .iload_n 3, 0, [3]), (60, 1, .iconst 1, 1, []), (61, 3, .if_icmp .ne (11), 0, [72]), (64, 1, .aload_n 0, 0, [0]), (65, 1, .iload_n 2, 0, [2]), (66, 3, .invokevirtual 339, 0, [99, 2, 1, 1, 0]), (69, 3, .goto (117), 0, [186]), (72, 1, .iload_n 3, 0, [3]), (73, 1, .iconst 2, 2, []), (74, 3, .if_icmp .ne (79), 0, [153]), (77, 1, .aload_n 0, 0, [0]), (78, 2, .bipush 11, 11, []), (80, 3, .invokevirtual 342, 0, [96, 2, 1, 1, 0]), (83, 1, .aload_n 0, 0, [0]), (84, 3, .getfield 95, 0, [1, 35, 1]), (87, 1, .iload_n 2, 0, [2]), (88, 1, .iaload, 0, []), (89, 2, .istore 4, 0, [4]), (91, 2, .iload 4, 0, [4]), (93, 1, .aload_n 0, 0, [0]), (94, 3, .getfield 98, 0, [1, 36, 1]), (97, 1, .iload_n 2, 0, [2]), (98, 1, .iaload, 0, []), (99, 3, .if_icmp .ge (47), 0, [146]), (102, 1, .aload_n 0, 0, [0]), (103, 3, .getfield 125, 0, [1, 52, 1]), (106, 1, .aload_n 0, 0, [0]), (107, 3, .getfield 324, 0, [1, 51, 0]), (110, 1, .aload_n 0, 0, [0]), (111, 2, .iload 4, 0, [4]), (113, 3, .invokevirtual 261, 0, [78, 2, 1, 1, 0]), (116, 1, .iastore, 0, []), (117, 1, .aload_n 0, 0, [0]), (118, 1, .dup, 0, []), (119, 3, .getfield 324, 0, [1, 51, 0]), (122, 1, .iconst 1, 1, []), (123, 1, .iadd, 0, []), (124, 3, .putfield 324, 0, [1, 51, 0]), (127, 1, .aload_n 0, 0, [0]), (128, 3, .getfield 71, 0, [1, 24, 1]), (131, 1, .aload_n 0, 0, [0]), (132, 3, .getfield 321, 0, [1, 54, 0]), (135, 1, .dup2, 0, []), (136, 1, .iaload, 0, []), (137, 1, .iconst 1, 1, []), (138, 1, .iadd, 0, []), (139, 1, .iastore, 0, []), (140, 3, .iinc 4 1, 1, [4]), (143, 3, .goto (-52), 0, [91]), (146, 1, .aload_n 0, 0, [0]), (147, 3, .invokevirtual 345, 0, [97, 1, 1, 1, 0]), (150, 3, .goto (36), 0, [186]), (153, 1, .iload_n 3, 0, [3]), (154, 1, .iconst 4, 4, []), (155, 3, .if_icmp .ne (27), 0, [182]), (158, 1, .aload_n 0, 0, [0]), (159, 2, .bipush 12, 12, []), (161, 3, .invokevirtual 342, 0, [96, 2, 1, 1, 0]), (164, 1, .aload_n 0, 0, [0]), (165, 3, .getfield 77, 0, [1, 26, 1]), (168, 1, .aload_n 0, 0, [0]), (169, 3, .getfield 321, 0, [1, 54, 0]), (172, 1, .aload_n 0, 0, [0]), (173, 3, .getfield 98, 0, [1, 36, 1]), (176, 1, .iload_n 2, 0, [2]), (177, 1, .iaload, 0, []), (178, 1, .iastore, 0, []), (179, 3, .goto (7), 0, [186]), (182, 1, .aload_n 0, 0, [0]), (183, 3, .invokevirtual 345, 0, [97, 1, 1, 1, 0]), (186, 3, .iinc 2 1, 1, [2]), (189, 3, .goto (-177), 0, [12]), (192, 1, .return_, 0, [])]
def qw_98 : List (List Nat) := [[], [], [1641, 0, 119, 1643, 72], [], [], [1362], [], [], [], [], [1340], [], [], [1341], [], [], [], [], [], [], [], [], [], [], [], [], [], [], [], [1342], [], [], [1711, 0, 119, 1713, 88], [], [], [], [], [], [], [1715, 0, 119, 1717, 89], [], [], [], [], [], [], [1723, 0, 119, 1725, 91], [], [1342], [], [], [], [], [], [1343], [], [], [], [], [1359], [], [1358], [], [], [1649, 0, 119, 1651, 74], [], [], [], [1358], [], [], [1358], [], [1332], [], [1361], [], [], [], [], [], [], [], [], [1719, 0, 119, 1721, 90], [], [], [], [], [], [], [1723, 0, 119, 1725, 91], [], [1334], [], [1361], [], [1343], [], [], [], [], [], [1719, 0, 119, 1721, 90], [], [], []]
/-- 99: MarktongueModel.treesRun(I)V -/
def qc_99 : List (Nat × qI) := [(0, 1, .iconst 0, 0, []), (1, 1, .istore_n 2, 0, [2]), (2, 1, .iload_n 2, 0, [2]), (3, 1, .aload_n 0, 0, [0]), (4, 3, .getfield 300, 0, [1, 41, 0]), (7, 3, .if_icmp .ge (23), 0, [30]), (10, 1, .aload_n 0, 0, [0]), (11, 3, .getfield 116, 0, [1, 43, 1]), (14, 1, .iload_n 2, 0, [2]), (15, 1, .iaload, 0, []), (16, 1, .iload_n 1, 0, [1]), (17, 3, .if_icmp .ne (7), 0, [24]), (20, 1, .aload_n 0, 0, [0]), (21, 3, .invokevirtual 345, 0, [97, 1, 1, 1, 0]), (24, 3, .iinc 2 1, 1, [2]), (27, 3, .goto (-25), 0, [2]), (30, 1, .iconst 0, 0, []), (31, 1, .istore_n 2, 0, [2]), (32, 1, .iload_n 2, 0, [2]), (33, 1, .aload_n 0, 0, [0]), (34, 3, .getfield 107, 0, [1, 39, 1]), (37, 1, .iload_n 1, 0, [1]), (38, 1, .iaload, 0, []), (39, 3, .if_icmp .ge (15), 0, [54]), (42, 1, .aload_n 0, 0, [0]), (43, 2, .bipush 42, 42, []), (45, 3, .invokevirtual 336, 0, [95, 2, 1, 1, 0]), (48, 3, .iinc 2 1, 1, [2]), (51, 3, .goto (-19), 0, [32]), (54, 1, .aload_n 0, 0, [0]), (55, 3, .getfield 300, 0, [1, 41, 0]), (58, 1, .iconst 1, 1, []), (59, 1, .isub, 0, []), (60, 1, .istore_n 2, 0, [2]), (61, 1, .iload_n 2, 0, [2]), (62, 3, .ifCond .lt (29), 0, [91]), (65, 1, .aload_n 0, 0, [0]), (66, 3, .getfield 113, 0, [1, 42, 1]), (69, 1, .iload_n 2, 0, [2]), (70, 1, .iaload, 0, []), (71, 1, .iload_n 1, 0, [1]), (72, 3, .if_icmp .ne (13), 0, [85]), (75, 1, .aload_n 0, 0, [0]), (76, 1, .aload_n 0, 0, [0]), (77, 3, .getfield 119, 0, [1, 44, 1]), (80, 1, .iload_n 2, 0, [2]), (81, 1, .iaload, 0, []), (82, 3, .invokevirtual 342, 0, [96, 2, 1, 1, 0]), (85, 3, .iinc 2 (-1), -1, [2]), (88, 3, .goto (-27), 0, [61]), (91, 1, .return_, 0, [])]
def qw_99 : List (List Nat) := [[], [], [], [], [1348], [], [], [1350], [], [], [], [], [], [1719, 0, 119, 1721, 90], [], [], [], [], [], [], [1346], [], [], [], [], [], [1711, 0, 119, 1713, 88], [], [], [], [1348], [], [], [], [], [], [], [1349], [], [], [], [], [], [], [1351], [], [], [1723, 0, 119, 1725, 91], [], [], []]
/-- 100: MarktongueModel.trees()V -/
def qc_100 : List (Nat × qI) := [(0, 1, .aload_n 0, 0, [0]), (1, 3, .invokevirtual 348, 0, [76, 1, 1, 1, 0]), (4, 1, .aload_n 0, 0, [0]), (5, 1, .iconst 0, 0, []), (6, 3, .putfield 318, 0, [1, 20, 0]), (9, 1, .aload_n 0, 0, [0]), (10, 1, .iconst 0, 0, []), (11, 3, .putfield 324, 0, [1, 51, 0]), (14, 1, .iconst 0, 0, []), (15, 1, .istore_n 1, 0, [1]), (16, 1, .iload_n 1, 0, [1]), (17, 1, .aload_n 0, 0, [0]), (18, 3, .getfield 183, 0, [1, 4, 0]), (21, 3, .if_icmp .ge (146), 0, [167]), (24, 1, .aload_n 0, 0, [0]), (25, 1, .aload_n 0, 0, [0]), (26, 3, .getfield 22, 0, [1, 6, 1]), (29, 1, .iload_n 1, 0, [1]), (30, 1, .iaload, 0, []), (31, 1, .iconst (-1), -1, []), (32, 3, .if_icmp .ne (7), 0, [39]), (35, 1, .iconst (-1), -1, []), (36, 3, .goto (14), 0, [50]), (39, 1, .aload_n 0, 0, [0]), (40, 3, .getfield 80, 0, [1, 27, 1]), (43, 1, .aload_n 0, 0, [0]), (44, 3, .getfield 22, 0, [1, 6, 1]), (47, 1, .iload_n 1, 0, [1]), (48, 1, .iaload, 0, []), (49, 1, .iaload, 0, []), (50, 3, .putfield 321, 0, [1, 54, 0]), (53, 1, .aload_n 0, 0, [0]), (54, 3, .getfield 19, 0, [1, 5, 1]), (57, 1, .iload_n 1, 0, [1]), (58, 1, .iaload, 0, []), (59, 1, .istore_n 2, 0, [2]), (60, 1, .aload_n 0, 0, [0]), (61, 3, .getfield 80, 0, [1, 27, 1]), (64, 1, .iload_n 1, 0, [1]), (65, 1, .aload_n 0, 0, [0]), (66, 1, .iload_n 2, 0, [2]), (67, 1, .iload_n 2, 0, [2]), (68, 1, .iconst 4, 4, []), (69, 3, .if_icmp .eq (8), 0, [77]), (72, 1, .iload_n 2, 0, [2]), (73, 1, .iconst 3, 3, []), (74, 3, .if_icmp .ne (12), 0, [86]), (77, 1, .aload_n 0, 0, [0]), (78, 3, .getfield 29, 0, [1, 8, 1]), (81, 1, .iload_n 1, 0, [1]), (82, 1, .iaload, 0, []), (83, 3, .goto (36), 0, [119]), (86, 1, .iload_n 2, 0, [2]), (87, 1, .iconst 5, 5, []), (88, 3, .if_icmp .ne (12), 0, [100]), (91, 1, .aload_n 0, 0, [0]), (92, 3, .getfield 38, 0, [1, 11, 1]), (95, 1, .iload_n 1, 0, [1]), (96, 1, .iaload, 0, []), (97, 3, .goto (22), 0, [119]), (100, 1, .iload_n 2, 0, [2]), (101, 1, .iconst 2, 2, []), (102, 3, .if_icmp .ne (16), 0, [118]), (105, 1, .aload_n 0, 0, [0]), (106, 3, .getfield 32, 0, [1, 9, 1]), (109, 1, .iload_n 1, 0, [1]), (110, 1, .baload, 0, []), (111, 3, .ifCond .eq (7), 0, [118]), (114, 1, .iconst 1, 1, []), (115, 3, .goto (4), 0, [119]), (118, 1, .iconst 0, 0, []), (119, 3, .invokevirtual 330, 0, [94, 3, 1, 1, 0]), (122, 1, .iastore, 0, []), (123, 1, .aload_n 0, 0, [0]), (124, 3, .getfield 74, 0, [1, 25, 1]), (127, 1, .aload_n 0, 0, [0]), (128, 3, .getfield 318, 0, [1, 20, 0]), (131, 1, .iconst 1, 1, []), (132, 1, .isub, 0, []), (133, 1, .iload_n 1, 0, [1]), (134, 1, .iastore, 0, []), (135, 1, .iload_n 2, 0, [2]), (136, 2, .bipush 6, 6, []), (138, 3, .if_icmp .eq (8), 0, [146]), (141, 1, .iload_n 2, 0, [2]), (142, 1, .iconst 4, 4, []), (143, 3, .if_icmp .ne (18), 0, [161]), (146, 1, .aload_n 0, 0, [0]), (147, 1, .aload_n 0, 0, [0]), (148, 3, .getfield 318, 0, [1, 20, 0]), (151, 1, .iconst 1, 1, []), (152, 1, .isub, 0, []), (153, 3, .putfield 321, 0, [1, 54, 0]), (156, 1, .aload_n 0, 0, [0]), (157, 1, .iload_n 1, 0, [1]), (158, 3, .invokevirtual 350, 0, [98, 2, 1, 1, 0]), (161, 3, .iinc 1 1, 1, [1]), (164, 3, .goto (-148), 0, [16]), (167, 1, .return_, 0, [])]
def qw_100 : List (List Nat) := [[], [1547, 0, 119, 1549, 50], [], [], [1328], [], [], [1358], [], [], [], [], [1312], [], [], [], [1314], [], [], [], [], [], [], [], [1335], [], [1314], [], [], [], [1361], [], [1313], [], [], [], [], [1335], [], [], [], [], [], [], [], [], [], [], [1316], [], [], [], [], [], [], [], [1319], [], [], [], [], [], [], [], [1317], [], [], [], [], [], [], [1633, 0, 119, 1635, 70], [], [], [1333], [], [1328], [], [], [], [], [], [], [], [], [], [], [], [], [1328], [], [], [1361], [], [], [1637, 0, 119, 1639, 71], [], [], []]
/-- 101: MarktongueModel.nodes()I -/
def qc_101 : List (Nat × qI) := [(0, 1, .aload_n 0, 0, [0]), (1, 1, .iconst 0, 0, []), (2, 3, .putfield 153, 0, [1, 47, 0]), (5, 1, .aload_n 0, 0, [0]), (6, 3, .invokevirtual 353, 0, [100, 1, 1, 1, 0]), (9, 1, .aload_n 0, 0, [0]), (10, 3, .getfield 318, 0, [1, 20, 0]), (13, 1, .ireturn, 0, [0])]
def qw_101 : List (List Nat) := [[], [], [1354], [], [1543, 0, 119, 1545, 49], [], [1328], []]
/-- 102: MarktongueModel.node(II)I -/
def qc_102 : List (Nat × qI) := [(0, 1, .aload_n 0, 0, [0]), (1, 3, .invokevirtual 353, 0, [100, 1, 1, 1, 0]), (4, 1, .aload_n 0, 0, [0]), (5, 1, .iload_n 1, 0, [1]), (6, 1, .iconst 0, 0, []), (7, 1, .aload_n 0, 0, [0]), (8, 3, .getfield 318, 0, [1, 20, 0]), (11, 1, .iconst 1, 1, []), (12, 1, .isub, 0, []), (13, 3, .invokestatic 157, 0, [47, 3, 0, 0, 0]), (16, 3, .ifCond .ne (7), 0, [23]), (19, 1, .iconst 1, 1, []), (20, 3, .goto (17), 0, [37]), (23, 1, .iload_n 2, 0, [2]), (24, 1, .iconst 0, 0, []), (25, 1, .iconst 3, 3, []), (26, 3, .invokestatic 157, 0, [47, 3, 0, 0, 0]), (29, 3, .ifCond .eq (7), 0, [36]), (32, 1, .iconst 0, 0, []), (33, 3, .goto (4), 0, [37]), (36, 1, .iconst 2, 2, []), (37, 3, .invokevirtual 168, 0, [46, 2, 1, 1, 0]), (40, 3, .ifCond .ne (5), 0, [45]), (43, 1, .iconst 0, 0, []), (44, 1, .ireturn, 0, [0]), (45, 1, .iload_n 2, 0, [2]), (46, 3, .ifCond .ne (12), 0, [58]), (49, 1, .aload_n 0, 0, [0]), (50, 3, .getfield 62, 0, [1, 21, 1]), (53, 1, .iload_n 1, 0, [1]), (54, 1, .iaload, 0, []), (55, 3, .goto (37), 0, [92]), (58, 1, .iload_n 2, 0, [2]), (59, 1, .iconst 1, 1, []), (60, 3, .if_icmp .ne (12), 0, [72]), (63, 1, .aload_n 0, 0, [0]), (64, 3, .getfield 65, 0, [1, 22, 1]), (67, 1, .iload_n 1, 0, [1]), (68, 1, .iaload, 0, []), (69, 3, .goto (23), 0, [92]), (72, 1, .iload_n 2, 0, [2]), (73, 1, .iconst 2, 2, []), (74, 3, .if_icmp .ne (12), 0, [86]), (77, 1, .aload_n 0, 0, [0]), (78, 3, .getfield 68, 0, [1, 23, 1]), (81, 1, .iload_n 1, 0, [1]), (82, 1, .iaload, 0, []), (83, 3, .goto (9), 0, [92]), (86, 1, .aload_n 0, 0, [0]), (87, 3, .getfield 71, 0, [1, 24, 1]), (90, 1, .iload_n 1, 0, [1]), (91, 1, .iaload, 0, []), (92, 1, .ireturn, 0, [0])]
def qw_102 : List (List Nat) := [[], [1543, 0, 119, 1545, 49], [], [], [], [], [1328], [], [], [1512, 0, 119, 1513], [], [], [], [], [], [], [1512, 0, 119, 1513], [], [], [], [], [1515, 0, 119, 1517, 47], [], [], [], [], [], [], [1329], [], [], [], [], [], [], [], [1330], [], [], [], [], [], [], [], [1331], [], [], [], [], [1332], [], [], []]
/-- 103: MarktongueModel.child(II)I -/
def qc_103 : List (Nat × qI) := [(0, 1, .aload_n 0, 0, [0]), (1, 3, .invokevirtual 353, 0, [100, 1, 1, 1, 0]), (4, 1, .aload_n 0, 0, [0]), (5, 1, .iload_n 1, 0, [1]), (6, 1, .iconst 0, 0, []), (7, 1, .aload_n 0, 0, [0]), (8, 3, .getfield 318, 0, [1, 20, 0]), (11, 1, .iconst 1, 1, []), (12, 1, .isub, 0, []), (13, 3, .invokestatic 157, 0, [47, 3, 0, 0, 0]), (16, 3, .ifCond .eq (23), 0, [39]), (19, 1, .iload_n 2, 0, [2]), (20, 1, .iconst 0, 0, []), (21, 1, .aload_n 0, 0, [0]), (22, 3, .getfield 68, 0, [1, 23, 1]), (25, 1, .iload_n 1, 0, [1]), (26, 1, .iaload, 0, []), (27, 1, .iconst 1, 1, []), (28, 1, .isub, 0, []), (29, 3, .invokestatic 157, 0, [47, 3, 0, 0, 0]), (32, 3, .ifCond .eq (7), 0, [39]), (35, 1, .iconst 0, 0, []), (36, 3, .goto (4), 0, [40]), (39, 1, .iconst 1, 1, []), (40, 3, .invokevirtual 168, 0, [46, 2, 1, 1, 0]), (43, 3, .ifCond .ne (5), 0, [48]), (46, 1, .iconst 0, 0, []), (47, 1, .ireturn, 0, [0]), (48, 1, .iload_n 1, 0, [1]), (49, 1, .istore_n 3, 0, [3]), (50, 1, .iconst (-1), -1, []), (51, 2, .istore 4, 0, [4]), (53, 2, .iload 4, 0, [4]), (55, 1, .iload_n 2, 0, [2]), (56, 3, .if_icmp .ge (28), 0, [84]), (59, 3, .iinc 3 1, 1, [3]), (62, 1, .aload_n 0, 0, [0]), (63, 3, .getfield 65, 0, [1, 22, 1]), (66, 1, .iload_n 3, 0, [3]), (67, 1, .iaload, 0, []), (68, 1, .iload_n 1, 0, [1]), (69, 3, .if_icmp .eq (9), 0, [78]), (72, 3, .iinc 3 1, 1, [3]), (75, 3, .goto (-13), 0, [62]), (78, 3, .iinc 4 1, 1, [4]), (81, 3, .goto (-28), 0, [53]), (84, 1, .iload_n 3, 0, [3]), (85, 1, .ireturn, 0, [0])]
def qw_103 : List (List Nat) := [[], [1543, 0, 119, 1545, 49], [], [], [], [], [1328], [], [], [1512, 0, 119, 1513], [], [], [], [], [1331], [], [], [], [], [1512, 0, 119, 1513], [], [], [], [], [1515, 0, 119, 1517, 47], [], [], [], [], [], [], [], [], [], [], [], [], [1330], [], [], [], [], [], [], [], [], [], []]
/-- 104: MarktongueModel.owner(I)I -/
def qc_104 : List (Nat × qI) := [(0, 1, .aload_n 0, 0, [0]), (1, 1, .iload_n 1, 0, [1]), (2, 1, .iconst 0, 0, []), (3, 1, .aload_n 0, 0, [0]), (4, 3, .getfield 165, 0, [1, 0, 0]), (7, 1, .iconst 1, 1, []), (8, 1, .isub, 0, []), (9, 3, .invokestatic 157, 0, [47, 3, 0, 0, 0]), (12, 3, .ifCond .eq (7), 0, [19]), (15, 1, .iconst 0, 0, []), (16, 3, .goto (4), 0, [20]), (19, 1, .iconst 1, 1, []), (20, 3, .invokevirtual 168, 0, [46, 2, 1, 1, 0]), (23, 3, .ifCond .ne (5), 0, [28]), (26, 1, .iconst 0, 0, []), (27, 1, .ireturn, 0, [0]), (28, 1, .aload_n 0, 0, [0]), (29, 3, .invokevirtual 353, 0, [100, 1, 1, 1, 0]), (32, 1, .aload_n 0, 0, [0]), (33, 3, .getfield 80, 0, [1, 27, 1]), (36, 1, .aload_n 0, 0, [0]), (37, 3, .getfield 56, 0, [1, 18, 1]), (40, 1, .iload_n 1, 0, [1]), (41, 1, .iaload, 0, []), (42, 1, .iaload, 0, []), (43, 1, .ireturn, 0, [0])]
def qw_104 : List (List Nat) := [[], [], [], [], [1308], [], [], [1512, 0, 119, 1513], [], [], [], [], [1515, 0, 119, 1517, 47], [], [], [], [], [1543, 0, 119, 1545, 49], [], [1335], [], [1326], [], [], [], []]
/-- 105: MarktongueModel.leads(I)I -/
def qc_105 : List (Nat × qI) := [(0, 1, .aload_n 0, 0, [0]), (1, 3, .invokevirtual 353, 0, [100, 1, 1, 1, 0]), (4, 1, .aload_n 0, 0, [0]), (5, 1, .iload_n 1, 0, [1]), (6, 1, .iconst 0, 0, []), (7, 1, .aload_n 0, 0, [0]), (8, 3, .getfield 318, 0, [1, 20, 0]), (11, 1, .iconst 1, 1, []), (12, 1, .isub, 0, []), (13, 3, .invokestatic 157, 0, [47, 3, 0, 0, 0]), (16, 3, .ifCond .ne (7), 0, [23]), (19, 1, .iconst 1, 1, []), (20, 3, .goto (19), 0, [39]), (23, 1, .aload_n 0, 0, [0]), (24, 3, .getfield 62, 0, [1, 21, 1]), (27, 1, .iload_n 1, 0, [1]), (28, 1, .iaload, 0, []), (29, 2, .bipush 12, 12, []), (31, 3, .if_icmp .ne (7), 0, [38]), (34, 1, .iconst 0, 0, []), (35, 3, .goto (4), 0, [39]), (38, 1, .iconst 2, 2, []), (39, 3, .invokevirtual 168, 0, [46, 2, 1, 1, 0]), (42, 3, .ifCond .ne (5), 0, [47]), (45, 1, .iconst 0, 0, []), (46, 1, .ireturn, 0, [0]), (47, 1, .aload_n 0, 0, [0]), (48, 3, .getfield 80, 0, [1, 27, 1]), (51, 1, .aload_n 0, 0, [0]), (52, 3, .getfield 77, 0, [1, 26, 1]), (55, 1, .iload_n 1, 0, [1]), (56, 1, .iaload, 0, []), (57, 1, .iaload, 0, []), (58, 1, .ireturn, 0, [0])]
def qw_105 : List (List Nat) := [[], [1543, 0, 119, 1545, 49], [], [], [], [], [1328], [], [], [1512, 0, 119, 1513], [], [], [], [], [1329], [], [], [], [], [], [], [], [1515, 0, 119, 1517, 47], [], [], [], [], [1335], [], [1334], [], [], [], []]
/-- 106: MarktongueModel.count(I)I -/
def qc_106 : List (Nat × qI) := [(0, 1, .aload_n 0, 0, [0]), (1, 1, .iload_n 1, 0, [1]), (2, 1, .iconst 0, 0, []), (3, 2, .bipush 12, 12, []), (5, 3, .invokestatic 157, 0, [47, 3, 0, 0, 0]), (8, 3, .ifCond .eq (7), 0, [15]), (11, 1, .iconst 0, 0, []), (12, 3, .goto (4), 0, [16]), (15, 1, .iconst 1, 1, []), (16, 3, .invokevirtual 168, 0, [46, 2, 1, 1, 0]), (19, 3, .ifCond .ne (5), 0, [24]), (22, 1, .iconst 0, 0, []), (23, 1, .ireturn, 0, [0]), (24, 1, .aload_n 0, 0, [0]), (25, 3, .invokevirtual 353, 0, [100, 1, 1, 1, 0]), (28, 1, .iconst 0, 0, []), (29, 1, .istore_n 2, 0, [2]), (30, 1, .iconst 0, 0, []), (31, 1, .istore_n 3, 0, [3]), (32, 1, .iload_n 3, 0, [3]), (33, 1, .aload_n 0, 0, [0]), (34, 3, .getfield 318, 0, [1, 20, 0]), (37, 3, .if_icmp .ge (27), 0, [64]), (40, 1, .iload_n 2, 0, [2]), (41, 1, .aload_n 0, 0, [0]), (42, 3, .getfield 62, 0, [1, 21, 1]), (45, 1, .iload_n 3, 0, [3]), (46, 1, .iaload, 0, []), (47, 1, .iload_n 1, 0, [1]), (48, 3, .if_icmp .ne (7), 0, [55]), (51, 1, .iconst 1, 1, []), (52, 3, .goto (4), 0, [56]), (55, 1, .iconst 0, 0, []), (56, 1, .iadd, 0, []), (57, 1, .istore_n 2, 0, [2]), (58, 3, .iinc 3 1, 1, [3]), (61, 3, .goto (-29), 0, [32]), (64, 1, .iload_n 2, 0, [2]), (65, 1, .ireturn, 0, [0])]
def qw_106 : List (List Nat) := [[], [], [], [], [1512, 0, 119, 1513], [], [], [], [], [1515, 0, 119, 1517, 47], [], [], [], [], [1543, 0, 119, 1545, 49], [], [], [], [], [], [], [1328], [], [], [], [1329], [], [], [], [], [], [], [], [], [], [], [], [], []]
/-- 107: MarktongueModel.gives(I)V -/
def qc_107 : List (Nat × qI) := [(0, 1, .aload_n 0, 0, [0]), (1, 3, .getfield 122, 0, [1, 46, 1]), (4, 1, .aload_n 0, 0, [0]), (5, 3, .getfield 356, 0, [1, 45, 0]), (8, 1, .iload_n 1, 0, [1]), (9, 1, .iastore, 0, []), (10, 1, .aload_n 0, 0, [0]), (11, 1, .dup, 0, []), (12, 3, .getfield 356, 0, [1, 45, 0]), (15, 1, .iconst 1, 1, []), (16, 1, .iadd, 0, []), (17, 3, .putfield 356, 0, [1, 45, 0]), (20, 1, .return_, 0, [])]
def qw_107 : List (List Nat) := [[], [1353], [], [1352], [], [], [], [], [1352], [], [], [1352], []]
/-- 108: MarktongueModel.ahead(I)I -/
def qc_108 : List (Nat × qI) := [(0, 1, .iconst 0, 0, []), (1, 1, .istore_n 2, 0, [2]), (2, 1, .iconst 0, 0, []), (3, 1, .istore_n 3, 0, [3]), (4, 1, .iload_n 3, 0, [3]), (5, 1, .iload_n 1, 0, [1]), (6, 3, .if_icmp .ge (32), 0, [38]), (9, 1, .iload_n 2, 0, [2]), (10, 1, .aload_n 0, 0, [0]), (11, 3, .getfield 19, 0, [1, 5, 1]), (14, 1, .iload_n 3, 0, [3]), (15, 1, .iaload, 0, []), (16, 1, .aload_n 0, 0, [0]), (17, 3, .getfield 19, 0, [1, 5, 1]), (20, 1, .iload_n 1, 0, [1]), (21, 1, .iaload, 0, []), (22, 3, .if_icmp .ne (7), 0, [29]), (25, 1, .iconst 1, 1, []), (26, 3, .goto (4), 0, [30]), (29, 1, .iconst 0, 0, []), (30, 1, .iadd, 0, []), (31, 1, .istore_n 2, 0, [2]), (32, 3, .iinc 3 1, 1, [3]), (35, 3, .goto (-31), 0, [4]), (38, 1, .iload_n 2, 0, [2]), (39, 1, .ireturn, 0, [0])]
def qw_108 : List (List Nat) := [[], [], [], [], [], [], [], [], [], [1313], [], [], [], [1313], [], [], [], [], [], [], [], [], [], [], [], []]
/-- 109: MarktongueModel.givesLines(I)V -/
def qc_109 : List (Nat × qI) := [(0, 1, .iconst 0, 0, []), (1, 1, .istore_n 2, 0, [2]), (2, 1, .iload_n 2, 0, [2]), (3, 1, .aload_n 0, 0, [0]), (4, 3, .getfield 215, 0, [1, 17, 0]), (7, 3, .if_icmp .ge (58), 0, [65]), (10, 1, .aload_n 0, 0, [0]), (11, 3, .getfield 41, 0, [1, 12, 1]), (14, 1, .iload_n 2, 0, [2]), (15, 1, .iaload, 0, []), (16, 1, .iload_n 1, 0, [1]), (17, 3, .if_icmp .ne (42), 0, [59]), (20, 1, .aload_n 0, 0, [0]), (21, 3, .getfield 44, 0, [1, 13, 1]), (24, 1, .iload_n 2, 0, [2]), (25, 1, .iaload, 0, []), (26, 1, .istore_n 3, 0, [3]), (27, 1, .iload_n 3, 0, [3]), (28, 1, .aload_n 0, 0, [0]), (29, 3, .getfield 47, 0, [1, 14, 1]), (32, 1, .iload_n 2, 0, [2]), (33, 1, .iaload, 0, []), (34, 3, .if_icmp .ge (19), 0, [53]), (37, 1, .aload_n 0, 0, [0]), (38, 1, .aload_n 0, 0, [0]), (39, 3, .getfield 7, 0, [1, 1, 1]), (42, 1, .iload_n 3, 0, [3]), (43, 1, .iaload, 0, []), (44, 3, .invokevirtual 359, 0, [107, 2, 1, 1, 0]), (47, 3, .iinc 3 1, 1, [3]), (50, 3, .goto (-23), 0, [27]), (53, 1, .aload_n 0, 0, [0]), (54, 2, .bipush 10, 10, []), (56, 3, .invokevirtual 359, 0, [107, 2, 1, 1, 0]), (59, 3, .iinc 2 1, 1, [2]), (62, 3, .goto (-60), 0, [2]), (65, 1, .return_, 0, [])]
def qw_109 : List (List Nat) := [[], [], [], [], [1325], [], [], [1320], [], [], [], [], [], [1321], [], [], [], [], [], [1322], [], [], [], [], [], [1309], [], [], [1759, 0, 119, 1761, 94], [], [], [], [], [1759, 0, 119, 1761, 94], [], [], []]
/-- 110: MarktongueModel.givesBeginning(II)V -/
def qc_110 : List (Nat × qI) := [(0, 1, .aload_n 0, 0, [0]), (1, 3, .getfield 62, 0, [1, 21, 1]), (4, 1, .iload_n 1, 0, [1]), (5, 1, .iaload, 0, []), (6, 1, .istore_n 3, 0, [3]), (7, 1, .iload_n 2, 0, [2]), (8, 3, .ifCond .ne (109), 0, [117]), (11, 1, .iload_n 3, 0, [3]), (12, 2, .bipush 8, 8, []), (14, 3, .if_icmp .eq (103), 0, [117]), (17, 1, .iload_n 3, 0, [3]), (18, 2, .bipush 7, 7, []), (20, 3, .if_icmp .eq (97), 0, [117]), (23, 1, .aload_n 0, 0, [0]), (24, 3, .sipush 1000, 1000, []), (27, 1, .iload_n 3, 0, [3]), (28, 1, .iadd, 0, []), (29, 3, .invokevirtual 359, 0, [107, 2, 1, 1, 0]), (32, 1, .iload_n 3, 0, [3]), (33, 1, .iconst 4, 4, []), (34, 3, .if_icmp .ne (19), 0, [53]), (37, 1, .aload_n 0, 0, [0]), (38, 2, .bipush 100, 100, []), (40, 1, .aload_n 0, 0, [0]), (41, 3, .getfield 71, 0, [1, 24, 1]), (44, 1, .iload_n 1, 0, [1]), (45, 1, .iaload, 0, []), (46, 1, .iadd, 0, []), (47, 3, .invokevirtual 359, 0, [107, 2, 1, 1, 0]), (50, 3, .goto (67), 0, [117]), (53, 1, .iload_n 3, 0, [3]), (54, 1, .iconst 2, 2, []), (55, 3, .if_icmp .ne (16), 0, [71]), (58, 1, .aload_n 0, 0, [0]), (59, 1, .aload_n 0, 0, [0]), (60, 3, .getfield 71, 0, [1, 24, 1]), (63, 1, .iload_n 1, 0, [1]), (64, 1, .iaload, 0, []), (65, 3, .invokevirtual 359, 0, [107, 2, 1, 1, 0]), (68, 3, .goto (49), 0, [117]), (71, 1, .iload_n 3, 0, [3]), (72, 2, .bipush 12, 12, []), (74, 3, .if_icmp .ne (43), 0, [117]), (77, 1, .aload_n 0, 0, [0]), (78, 3, .getfield 77, 0, [1, 26, 1]), (81, 1, .iload_n 1, 0, [1]), (82, 1, .iaload, 0, []), (83, 2, .istore 4, 0, [4]), (85, 1, .aload_n 0, 0, [0]), (86, 1, .aload_n 0, 0, [0]), (87, 3, .getfield 19, 0, [1, 5, 1]), (90, 2, .iload 4, 0, [4]), (92, 1, .iaload, 0, []), (93, 2, .bipush 7, 7, []), (95, 3, .if_icmp .ne (9), 0, [104]), (98, 3, .sipush 300, 300, []), (101, 3, .goto (6), 0, [107]), (104, 3, .sipush 400, 400, []), (107, 1, .aload_n 0, 0, [0]), (108, 2, .iload 4, 0, [4]), (110, 3, .invokevirtual 361, 0, [108, 2, 1, 1, 0]), (113, 1, .iadd, 0, []), (114, 3, .invokevirtual 359, 0, [107, 2, 1, 1, 0]), (117, 1, .iload_n 3, 0, [3]), (118, 2, .bipush 8, 8, []), (120, 3, .if_icmp .eq (9), 0, [129]), (123, 1, .iload_n 3, 0, [3]), (124, 2, .bipush 11, 11, []), (126, 3, .if_icmp .ne (44), 0, [170]), (129, 1, .iconst 0, 0, []), (130, 2, .istore 4, 0, [4]), (132, 2, .iload 4, 0, [4]), (134, 1, .aload_n 0, 0, [0]), (135, 3, .getfield 71, 0, [1, 24, 1]), (138, 1, .iload_n 1, 0, [1]), (139, 1, .iaload, 0, []), (140, 3, .if_icmp .ge (27), 0, [167]), (143, 1, .aload_n 0, 0, [0]), (144, 1, .aload_n 0, 0, [0]), (145, 3, .getfield 125, 0, [1, 52, 1]), (148, 1, .aload_n 0, 0, [0]), (149, 3, .getfield 128, 0, [1, 53, 1]), (152, 1, .iload_n 1, 0, [1]), (153, 1, .iaload, 0, []), (154, 2, .iload 4, 0, [4]), (156, 1, .iadd, 0, []), (157, 1, .iaload, 0, []), (158, 3, .invokevirtual 359, 0, [107, 2, 1, 1, 0]), (161, 3, .iinc 4 1, 1, [4]), (164, 3, .goto (-32), 0, [132]), (167, 3, .goto (18), 0, [185]), (170, 1, .iload_n 3, 0, [3]), (171, 1, .iconst 5, 5, []), (172, 3, .if_icmp .ne (13), 0, [185]), (175, 1, .aload_n 0, 0, [0]), (176, 1, .aload_n 0, 0, [0]), (177, 3, .getfield 74, 0, [1, 25, 1]), (180, 1, .iload_n 1, 0, [1]), (181, 1, .iaload, 0, []), (182, 3, .invokevirtual 364, 0, [109, 2, 1, 1, 0]), (185, 1, .return_, 0, [])]
def qw_110 : List (List Nat) := [[], [1329], [], [], [], [], [], [], [], [], [], [], [], [], [], [], [], [1759, 0, 119, 1761, 94], [], [], [], [], [], [], [1332], [], [], [], [1759, 0, 119, 1761, 94], [], [], [], [], [], [], [1332], [], [], [1759, 0, 119, 1761, 94], [], [], [], [], [], [1334], [], [], [], [], [], [1313], [], [], [], [], [], [], [], [], [], [1767, 0, 119, 1769, 96], [], [1759, 0, 119, 1761, 94], [], [], [], [], [], [], [], [], [], [], [1332], [], [], [], [], [], [1359], [], [1360], [], [], [], [], [], [1759, 0, 119, 1761, 94], [], [], [], [], [], [], [], [], [1333], [], [], [1771, 0, 119, 1773, 97], []]
/-- 111: MarktongueModel.givesEnd(II)V -/
def qc_111 : List (Nat × qI) := [(0, 1, .aload_n 0, 0, [0]), (1, 3, .getfield 62, 0, [1, 21, 1]), (4, 1, .iload_n 1, 0, [1]), (5, 1, .iaload, 0, []), (6, 1, .istore_n 3, 0, [3]), (7, 1, .iload_n 2, 0, [2]), (8, 3, .ifCond .ne (27), 0, [35]), (11, 1, .iload_n 3, 0, [3]), (12, 2, .bipush 8, 8, []), (14, 3, .if_icmp .eq (21), 0, [35]), (17, 1, .iload_n 3, 0, [3]), (18, 2, .bipush 7, 7, []), (20, 3, .if_icmp .eq (15), 0, [35]), (23, 1, .aload_n 0, 0, [0]), (24, 3, .sipush 2000, 2000, []), (27, 1, .iload_n 3, 0, [3]), (28, 1, .iadd, 0, []), (29, 3, .invokevirtual 359, 0, [107, 2, 1, 1, 0]), (32, 3, .goto (25), 0, [57]), (35, 1, .iload_n 2, 0, [2]), (36, 1, .iconst 1, 1, []), (37, 3, .if_icmp .ne (20), 0, [57]), (40, 1, .iload_n 3, 0, [3]), (41, 2, .bipush 6, 6, []), (43, 3, .if_icmp .eq (8), 0, [51]), (46, 1, .iload_n 3, 0, [3]), (47, 1, .iconst 4, 4, []), (48, 3, .if_icmp .ne (9), 0, [57]), (51, 1, .aload_n 0, 0, [0]), (52, 2, .bipush 10, 10, []), (54, 3, .invokevirtual 359, 0, [107, 2, 1, 1, 0]), (57, 1, .return_, 0, [])]
def qw_111 : List (List Nat) := [[], [1329], [], [], [], [], [], [], [], [], [], [], [], [], [], [], [], [1759, 0, 119, 1761, 94], [], [], [], [], [], [], [], [], [], [], [], [], [1759, 0, 119, 1761, 94], []]
/-- 112: MarktongueModel.prints(I)V -/
def qc_112 : List (Nat × qI) := [(0, 1, .aload_n 0, 0, [0]), (1, 3, .invokevirtual 353, 0, [100, 1, 1, 1, 0]), (4, 1, .aload_n 0, 0, [0]), (5, 1, .iconst 0, 0, []), (6, 3, .putfield 356, 0, [1, 45, 0]), (9, 1, .iconst (-1), -1, []), (10, 1, .istore_n 2, 0, [2]), (11, 1, .iconst 0, 0, []), (12, 1, .istore_n 3, 0, [3]), (13, 1, .iload_n 3, 0, [3]), (14, 1, .aload_n 0, 0, [0]), (15, 3, .getfield 318, 0, [1, 20, 0]), (18, 3, .if_icmp .ge (43), 0, [61]), (21, 1, .iload_n 2, 0, [2]), (22, 1, .aload_n 0, 0, [0]), (23, 3, .getfield 65, 0, [1, 22, 1]), (26, 1, .iload_n 3, 0, [3]), (27, 1, .iaload, 0, []), (28, 3, .if_icmp .eq (19), 0, [47]), (31, 1, .aload_n 0, 0, [0]), (32, 1, .iload_n 2, 0, [2]), (33, 1, .iload_n 1, 0, [1]), (34, 3, .invokevirtual 367, 0, [111, 3, 1, 1, 0]), (37, 1, .aload_n 0, 0, [0]), (38, 3, .getfield 65, 0, [1, 22, 1]), (41, 1, .iload_n 2, 0, [2]), (42, 1, .iaload, 0, []), (43, 1, .istore_n 2, 0, [2]), (44, 3, .goto (-23), 0, [21]), (47, 1, .aload_n 0, 0, [0]), (48, 1, .iload_n 3, 0, [3]), (49, 1, .iload_n 1, 0, [1]), (50, 3, .invokevirtual 370, 0, [110, 3, 1, 1, 0]), (53, 1, .iload_n 3, 0, [3]), (54, 1, .istore_n 2, 0, [2]), (55, 3, .iinc 3 1, 1, [3]), (58, 3, .goto (-45), 0, [13]), (61, 1, .iload_n 2, 0, [2]), (62, 1, .iconst (-1), -1, []), (63, 3, .if_icmp .eq (19), 0, [82]), (66, 1, .aload_n 0, 0, [0]), (67, 1, .iload_n 2, 0, [2]), (68, 1, .iload_n 1, 0, [1]), (69, 3, .invokevirtual 367, 0, [111, 3, 1, 1, 0]), (72, 1, .aload_n 0, 0, [0]), (73, 3, .getfield 65, 0, [1, 22, 1]), (76, 1, .iload_n 2, 0, [2]), (77, 1, .iaload, 0, []), (78, 1, .istore_n 2, 0, [2]), (79, 3, .goto (-18), 0, [61]), (82, 1, .return_, 0, [])]
def qw_112 : List (List Nat) := [[], [1543, 0, 119, 1545, 49], [], [], [1352], [], [], [], [], [], [], [1328], [], [], [], [1330], [], [], [], [], [], [], [1755, 0, 119, 1757, 93], [], [1330], [], [], [], [], [], [], [], [1763, 0, 119, 1765, 95], [], [], [], [], [], [], [], [], [], [], [1755, 0, 119, 1757, 93], [], [1330], [], [], [], [], []]
/-- 113: MarktongueModel.print(I)I -/
def qc_113 : List (Nat × qI) := [(0, 1, .aload_n 0, 0, [0]), (1, 1, .iload_n 1, 0, [1]), (2, 1, .iconst 0, 0, []), (3, 1, .iconst 1, 1, []), (4, 3, .invokestatic 157, 0, [47, 3, 0, 0, 0]), (7, 3, .ifCond .eq (7), 0, [14]), (10, 1, .iconst 0, 0, []), (11, 3, .goto (4), 0, [15]), (14, 1, .iconst 1, 1, []), (15, 3, .invokevirtual 168, 0, [46, 2, 1, 1, 0]), (18, 3, .ifCond .ne (5), 0, [23]), (21, 1, .iconst 0, 0, []), (22, 1, .ireturn, 0, [0]), (23, 1, .aload_n 0, 0, [0]), (24, 1, .iload_n 1, 0, [1]), (25, 3, .invokevirtual 373, 0, [112, 2, 1, 1, 0]), (28, 1, .aload_n 0, 0, [0]), (29, 3, .getfield 356, 0, [1, 45, 0]), (32, 1, .ireturn, 0, [0])]
def qw_113 : List (List Nat) := [[], [], [], [], [1512, 0, 119, 1513], [], [], [], [], [1515, 0, 119, 1517, 47], [], [], [], [], [], [1751, 0, 119, 1753, 92], [], [1352], []]
/-- 114: MarktongueModel.printed(II)I -/
def qc_114 : List (Nat × qI) := [(0, 1, .aload_n 0, 0, [0]), (1, 1, .iload_n 1, 0, [1]), (2, 1, .iconst 0, 0, []), (3, 1, .iconst 1, 1, []), (4, 3, .invokestatic 157, 0, [47, 3, 0, 0, 0]), (7, 3, .ifCond .eq (7), 0, [14]), (10, 1, .iconst 0, 0, []), (11, 3, .goto (4), 0, [15]), (14, 1, .iconst 1, 1, []), (15, 3, .invokevirtual 168, 0, [46, 2, 1, 1, 0]), (18, 3, .ifCond .ne (5), 0, [23]), (21, 1, .iconst 0, 0, []), (22, 1, .ireturn, 0, [0]), (23, 1, .aload_n 0, 0, [0]), (24, 1, .iload_n 1, 0, [1]), (25, 3, .invokevirtual 373, 0, [112, 2, 1, 1, 0]), (28, 1, .aload_n 0, 0, [0]), (29, 1, .iload_n 2, 0, [2]), (30, 1, .iconst 0, 0, []), (31, 1, .aload_n 0, 0, [0]), (32, 3, .getfield 356, 0, [1, 45, 0]), (35, 1, .iconst 1, 1, []), (36, 1, .isub, 0, []), (37, 3, .invokestatic 157, 0, [47, 3, 0, 0, 0]), (40, 3, .ifCond .eq (7), 0, [47]), (43, 1, .iconst 0, 0, []), (44, 3, .goto (4), 0, [48]), (47, 1, .iconst 2, 2, []), (48, 3, .invokevirtual 168, 0, [46, 2, 1, 1, 0]), (51, 3, .ifCond .eq (12), 0, [63]), (54, 1, .aload_n 0, 0, [0]), (55, 3, .getfield 122, 0, [1, 46, 1]), (58, 1, .iload_n 2, 0, [2]), (59, 1, .iaload, 0, []), (60, 3, .goto (4), 0, [64]), (63, 1, .iconst 0, 0, []), (64, 1, .ireturn, 0, [0])]
def qw_114 : List (List Nat) := [[], [], [], [], [1512, 0, 119, 1513], [], [], [], [], [1515, 0, 119, 1517, 47], [], [], [], [], [], [1751, 0, 119, 1753, 92], [], [], [], [], [1352], [], [], [1512, 0, 119, 1513], [], [], [], [], [1515, 0, 119, 1517, 47], [], [], [1353], [], [], [], [], []]
/-- 115: MarktongueModel.isGap(I)Z -/
def qc_115 : List (Nat × qI) := [(0, 1, .aload_n 0, 0, [0]), (1, 3, .getfield 53, 0, [1, 16, 1]), (4, 1, .iload_n 1, 0, [1]), (5, 1, .baload, 0, []), (6, 3, .ifCond .ne (30), 0, [36]), (9, 1, .aload_n 0, 0, [0]), (10, 1, .aload_n 0, 0, [0]), (11, 3, .getfield 50, 0, [1, 15, 1]), (14, 1, .iload_n 1, 0, [1]), (15, 1, .iaload, 0, []), (16, 1, .aload_n 0, 0, [0]), (17, 1, .aload_n 0, 0, [0]), (18, 3, .getfield 50, 0, [1, 15, 1]), (21, 1, .iload_n 1, 0, [1]), (22, 1, .iaload, 0, []), (23, 3, .invokevirtual 218, 0, [56, 2, 1, 1, 0]), (26, 3, .invokevirtual 192, 0, [57, 3, 1, 1, 0]), (29, 3, .ifCond .eq (7), 0, [36]), (32, 1, .iconst 1, 1, []), (33, 3, .goto (4), 0, [37]), (36, 1, .iconst 0, 0, []), (37, 1, .ireturn, 0, [3])]
def qw_115 : List (List Nat) := [[], [1324], [], [], [], [], [], [1323], [], [], [], [], [1323], [], [], [1555, 0, 119, 1557, 52], [1566, 0, 119, 1568, 54], [], [], [], [], []]
/-- 116: MarktongueModel.stays(I)Z -/
def qc_116 : List (Nat × qI) := [(0, 1, .aload_n 0, 0, [0]), (1, 1, .iload_n 1, 0, [1]), (2, 3, .invokevirtual 376, 0, [115, 2, 1, 1, 0]), (5, 3, .ifCond .ne (5), 0, [10]), (8, 1, .iconst 1, 1, []), (9, 1, .ireturn, 0, [3]), (10, 1, .iconst 0, 0, []), (11, 1, .istore_n 2, 0, [2]), (12, 1, .iload_n 1, 0, [1]), (13, 1, .iconst 1, 1, []), (14, 1, .iadd, 0, []), (15, 1, .istore_n 3, 0, [3]), (16, 1, .iload_n 3, 0, [3]), (17, 1, .aload_n 0, 0, [0]), (18, 3, .getfield 215, 0, [1, 17, 0]), (21, 3, .if_icmp .ge (27), 0, [48]), (24, 1, .iload_n 2, 0, [2]), (25, 3, .ifCond .ne (11), 0, [36]), (28, 1, .aload_n 0, 0, [0]), (29, 1, .iload_n 3, 0, [3]), (30, 3, .invokevirtual 376, 0, [115, 2, 1, 1, 0]), (33, 3, .ifCond .ne (7), 0, [40]), (36, 1, .iconst 1, 1, []), (37, 3, .goto (4), 0, [41]), (40, 1, .iconst 0, 0, []), (41, 1, .istore_n 2, 0, [2]), (42, 3, .iinc 3 1, 1, [3]), (45, 3, .goto (-29), 0, [16]), (48, 1, .iload_n 1, 0, [1]), (49, 3, .ifCond .le (21), 0, [70]), (52, 1, .iload_n 2, 0, [2]), (53, 3, .ifCond .eq (17), 0, [70]), (56, 1, .aload_n 0, 0, [0]), (57, 1, .iload_n 1, 0, [1]), (58, 1, .iconst 1, 1, []), (59, 1, .isub, 0, []), (60, 3, .invokevirtual 376, 0, [115, 2, 1, 1, 0]), (63, 3, .ifCond .ne (7), 0, [70]), (66, 1, .iconst 1, 1, []), (67, 3, .goto (4), 0, [71]), (70, 1, .iconst 0, 0, []), (71, 1, .ireturn, 0, [3])]
def qw_116 : List (List Nat) := [[], [], [1787, 0, 119, 1789, 99], [], [], [], [], [], [], [], [], [], [], [], [1325], [], [], [], [], [], [1787, 0, 119, 1789, 99], [], [], [], [], [], [], [], [], [], [], [], [], [], [], [], [1787, 0, 119, 1789, 99], [], [], [], [], []]
/-- 117: MarktongueModel.format()I -/
def qc_117 : List (Nat × qI) := [(0, 1, .aload_n 0, 0, [0]), (1, 1, .iconst 0, 0, []), (2, 3, .putfield 153, 0, [1, 47, 0]), (5, 1, .aload_n 0, 0, [0]), (6, 3, .invokevirtual 348, 0, [76, 1, 1, 1, 0]), (9, 1, .aload_n 0, 0, [0]), (10, 3, .getfield 165, 0, [1, 0, 0]), (13, 1, .istore_n 1, 0, [1]), (14, 1, .iconst 0, 0, []), (15, 1, .istore_n 2, 0, [2]), (16, 1, .iconst 0, 0, []), (17, 1, .istore_n 3, 0, [3]), (18, 1, .iconst 0, 0, []), (19, 2, .istore 4, 0, [4]), (21, 2, .iload 4, 0, [4]), (23, 1, .aload_n 0, 0, [0]), (24, 3, .getfield 215, 0, [1, 17, 0]), (27, 3, .if_icmp .ge (116), 0, [143]), (30, 1, .aload_n 0, 0, [0]), (31, 2, .iload 4, 0, [4]), (33, 3, .invokevirtual 379, 0, [116, 2, 1, 1, 0]), (36, 3, .ifCond .eq (101), 0, [137]), (39, 1, .aload_n 0, 0, [0]), (40, 1, .aload_n 0, 0, [0]), (41, 3, .getfield 50, 0, [1, 15, 1]), (44, 2, .iload 4, 0, [4]), (46, 1, .iaload, 0, []), (47, 3, .invokevirtual 218, 0, [56, 2, 1, 1, 0]), (50, 2, .istore 5, 0, [5]), (52, 1, .aload_n 0, 0, [0]), (53, 3, .getfield 53, 0, [1, 16, 1]), (56, 2, .iload 4, 0, [4]), (58, 1, .baload, 0, []), (59, 3, .ifCond .eq (8), 0, [67]), (62, 2, .iload 5, 0, [5]), (64, 3, .goto (16), 0, [80]), (67, 1, .aload_n 0, 0, [0]), (68, 1, .aload_n 0, 0, [0]), (69, 3, .getfield 50, 0, [1, 15, 1]), (72, 2, .iload 4, 0, [4]), (74, 1, .iaload, 0, []), (75, 2, .iload 5, 0, [5]), (77, 3, .invokevirtual 208, 0, [65, 3, 1, 1, 0]), (80, 2, .istore 5, 0, [5]), (82, 1, .iload_n 3, 0, [3]), (83, 3, .ifCond .eq (14), 0, [97]), (86, 1, .aload_n 0, 0, [0]), (87, 3, .getfield 131, 0, [1, 56, 1]), (90, 1, .iload_n 2, 0, [2]), (91, 2, .bipush 10, 10, []), (93, 1, .iastore, 0, []), (94, 3, .iinc 2 1, 1, [2]), (97, 1, .iconst 1, 1, []), (98, 1, .istore_n 3, 0, [3]), (99, 1, .aload_n 0, 0, [0]), (100, 3, .getfield 50, 0, [1, 15, 1]), (103, 2, .iload 4, 0, [4]), (105, 1, .iaload, 0, []), (106, 2, .istore 6, 0, [6]), (108, 2, .iload 6, 0, [6]), (110, 2, .iload 5, 0, [5]), (112, 3, .if_icmp .ge (25), 0, [137]), (115, 1, .aload_n 0, 0, [0]), (116, 3, .getfield 131, 0, [1, 56, 1]), (119, 1, .iload_n 2, 0, [2]), (120, 1, .aload_n 0, 0, [0]), (121, 3, .getfield 7, 0, [1, 1, 1]), (124, 2, .iload 6, 0, [6]), (126, 1, .iaload, 0, []), (127, 1, .iastore, 0, []), (128, 3, .iinc 2 1, 1, [2]), (131, 3, .iinc 6 1, 1, [6]), (134, 3, .goto (-26), 0, [108]), (137, 3, .iinc 4 1, 1, [4]), (140, 3, .goto (-119), 0, [21]), (143, 1, .aload_n 0, 0, [0]), (144, 1, .iload_n 2, 0, [2]), (145, 3, .putfield 165, 0, [1, 0, 0]), (148, 1, .iconst 0, 0, []), (149, 2, .istore 4, 0, [4]), (151, 2, .iload 4, 0, [4]), (153, 1, .iload_n 2, 0, [2]), (154, 3, .if_icmp .ge (23), 0, [177]), (157, 1, .aload_n 0, 0, [0]), (158, 3, .getfield 7, 0, [1, 1, 1]), (161, 2, .iload 4, 0, [4]), (163, 1, .aload_n 0, 0, [0]), (164, 3, .getfield 131, 0, [1, 56, 1]), (167, 2, .iload 4, 0, [4]), (169, 1, .iaload, 0, []), (170, 1, .iastore, 0, []), (171, 3, .iinc 4 1, 1, [4]), (174, 3, .goto (-23), 0, [151]), (177, 1, .iload_n 1, 0, [1]), (178, 1, .iload_n 2, 0, [2]), (179, 1, .isub, 0, []), (180, 1, .ireturn, 0, [0])]
def qw_117 : List (List Nat) := [[], [], [1354], [], [1547, 0, 119, 1549, 50], [], [1308], [], [], [], [], [], [], [], [], [], [1325], [], [], [], [1783, 0, 119, 1785, 98], [], [], [], [1323], [], [], [1555, 0, 119, 1557, 52], [], [], [1324], [], [], [], [], [], [], [], [1323], [], [], [], [1582, 0, 119, 1584, 58], [], [], [], [], [1363], [], [], [], [], [], [], [], [1323], [], [], [], [], [], [], [], [1363], [], [], [1309], [], [], [], [], [], [], [], [], [], [], [1308], [], [], [], [], [], [], [1309], [], [], [1363], [], [], [], [], [], [], [], [], []]
/-- 118: MarktongueModel.keep(I)I -/
def qc_118 : List (Nat × qI) := [(0, 1, .aload_n 0, 0, [0]), (1, 1, .iload_n 1, 0, [1]), (2, 1, .iconst 0, 0, []), (3, 1, .iconst 1, 1, []), (4, 3, .invokestatic 157, 0, [47, 3, 0, 0, 0]), (7, 3, .ifCond .eq (7), 0, [14]), (10, 1, .iconst 0, 0, []), (11, 3, .goto (4), 0, [15]), (14, 1, .iconst 1, 1, []), (15, 3, .invokevirtual 168, 0, [46, 2, 1, 1, 0]), (18, 3, .ifCond .ne (5), 0, [23]), (21, 1, .iconst 0, 0, []), (22, 1, .ireturn, 0, [0]), (23, 1, .aload_n 0, 0, [0]), (24, 3, .getfield 16, 0, [1, 3, 1]), (27, 1, .iload_n 1, 0, [1]), (28, 1, .iaload, 0, []), (29, 1, .istore_n 2, 0, [2]), (30, 1, .aload_n 0, 0, [0]), (31, 3, .getfield 16, 0, [1, 3, 1]), (34, 1, .iload_n 1, 0, [1]), (35, 1, .aload_n 0, 0, [0]), (36, 3, .getfield 165, 0, [1, 0, 0]), (39, 1, .iastore, 0, []), (40, 1, .iconst 0, 0, []), (41, 1, .istore_n 3, 0, [3]), (42, 1, .iload_n 3, 0, [3]), (43, 1, .aload_n 0, 0, [0]), (44, 3, .getfield 165, 0, [1, 0, 0]), (47, 3, .if_icmp .ge (27), 0, [74]), (50, 1, .aload_n 0, 0, [0]), (51, 3, .getfield 13, 0, [1, 2, 1]), (54, 3, .sipush 240, 240, []), (57, 1, .iload_n 1, 0, [1]), (58, 1, .imul, 0, []), (59, 1, .iload_n 3, 0, [3]), (60, 1, .iadd, 0, []), (61, 1, .aload_n 0, 0, [0]), (62, 3, .getfield 7, 0, [1, 1, 1]), (65, 1, .iload_n 3, 0, [3]), (66, 1, .iaload, 0, []), (67, 1, .iastore, 0, []), (68, 3, .iinc 3 1, 1, [3]), (71, 3, .goto (-29), 0, [42]), (74, 1, .iload_n 2, 0, [2]), (75, 1, .ireturn, 0, [0])]
def qw_118 : List (List Nat) := [[], [], [], [], [1512, 0, 119, 1513], [], [], [], [], [1515, 0, 119, 1517, 47], [], [], [], [], [1311], [], [], [], [], [1311], [], [], [1308], [], [], [], [], [], [1308], [], [], [1310], [], [], [], [], [], [], [1309], [], [], [], [], [], [], []]
/-- 119: MarktongueModel.load(I)I -/
def qc_119 : List (Nat × qI) := [(0, 1, .aload_n 0, 0, [0]), (1, 1, .iload_n 1, 0, [1]), (2, 1, .iconst 0, 0, []), (3, 1, .iconst 1, 1, []), (4, 3, .invokestatic 157, 0, [47, 3, 0, 0, 0]), (7, 3, .ifCond .eq (7), 0, [14]), (10, 1, .iconst 0, 0, []), (11, 3, .goto (4), 0, [15]), (14, 1, .iconst 1, 1, []), (15, 3, .invokevirtual 168, 0, [46, 2, 1, 1, 0]), (18, 3, .ifCond .ne (5), 0, [23]), (21, 1, .iconst 0, 0, []), (22, 1, .ireturn, 0, [0]), (23, 1, .aload_n 0, 0, [0]), (24, 1, .aload_n 0, 0, [0]), (25, 3, .getfield 16, 0, [1, 3, 1]), (28, 1, .iload_n 1, 0, [1]), (29, 1, .iaload, 0, []), (30, 3, .putfield 165, 0, [1, 0, 0]), (33, 1, .iconst 0, 0, []), (34, 1, .istore_n 2, 0, [2]), (35, 1, .iload_n 2, 0, [2]), (36, 1, .aload_n 0, 0, [0]), (37, 3, .getfield 165, 0, [1, 0, 0]), (40, 3, .if_icmp .ge (27), 0, [67]), (43, 1, .aload_n 0, 0, [0]), (44, 3, .getfield 7, 0, [1, 1, 1]), (47, 1, .iload_n 2, 0, [2]), (48, 1, .aload_n 0, 0, [0]), (49, 3, .getfield 13, 0, [1, 2, 1]), (52, 3, .sipush 240, 240, []), (55, 1, .iload_n 1, 0, [1]), (56, 1, .imul, 0, []), (57, 1, .iload_n 2, 0, [2]), (58, 1, .iadd, 0, []), (59, 1, .iaload, 0, []), (60, 1, .iastore, 0, []), (61, 3, .iinc 2 1, 1, [2]), (64, 3, .goto (-29), 0, [35]), (67, 1, .aload_n 0, 0, [0]), (68, 3, .getfield 165, 0, [1, 0, 0]), (71, 1, .ireturn, 0, [0])]
def qw_119 : List (List Nat) := [[], [], [], [], [1512, 0, 119, 1513], [], [], [], [], [1515, 0, 119, 1517, 47], [], [], [], [], [], [1311], [], [], [1308], [], [], [], [], [1308], [], [], [1309], [], [], [1310], [], [], [], [], [], [], [], [], [], [], [1308], []]
/-- 120: MarktongueModel.splits(II)V -/
def qc_120 : List (Nat × qI) := [(0, 1, .iconst 0, 0, []), (1, 1, .istore_n 3, 0, [3]), (2, 1, .aload_n 0, 0, [0]), (3, 3, .getfield 140, 0, [1, 59, 1]), (6, 3, .sipush 241, 241, []), (9, 1, .iload_n 1, 0, [1]), (10, 1, .imul, 0, []), (11, 3, .sipush 240, 240, []), (14, 1, .iload_n 1, 0, [1]), (15, 1, .imul, 0, []), (16, 1, .iastore, 0, []), (17, 1, .iconst 0, 0, []), (18, 2, .istore 4, 0, [4]), (20, 2, .iload 4, 0, [4]), (22, 1, .iload_n 2, 0, [2]), (23, 3, .if_icmp .ge (72), 0, [95]), (26, 1, .aload_n 0, 0, [0]), (27, 3, .getfield 134, 0, [1, 57, 1]), (30, 3, .sipush 240, 240, []), (33, 1, .iload_n 1, 0, [1]), (34, 1, .imul, 0, []), (35, 2, .iload 4, 0, [4]), (37, 1, .iadd, 0, []), (38, 1, .iaload, 0, []), (39, 2, .bipush 10, 10, []), (41, 3, .if_icmp .ne (48), 0, [89]), (44, 1, .aload_n 0, 0, [0]), (45, 3, .getfield 143, 0, [1, 60, 1]), (48, 3, .sipush 241, 241, []), (51, 1, .iload_n 1, 0, [1]), (52, 1, .imul, 0, []), (53, 1, .iload_n 3, 0, [3]), (54, 1, .iadd, 0, []), (55, 3, .sipush 240, 240, []), (58, 1, .iload_n 1, 0, [1]), (59, 1, .imul, 0, []), (60, 2, .iload 4, 0, [4]), (62, 1, .iadd, 0, []), (63, 1, .iastore, 0, []), (64, 3, .iinc 3 1, 1, [3]), (67, 1, .aload_n 0, 0, [0]), (68, 3, .getfield 140, 0, [1, 59, 1]), (71, 3, .sipush 241, 241, []), (74, 1, .iload_n 1, 0, [1]), (75, 1, .imul, 0, []), (76, 1, .iload_n 3, 0, [3]), (77, 1, .iadd, 0, []), (78, 3, .sipush 240, 240, []), (81, 1, .iload_n 1, 0, [1]), (82, 1, .imul, 0, []), (83, 2, .iload 4, 0, [4]), (85, 1, .iadd, 0, []), (86, 1, .iconst 1, 1, []), (87, 1, .iadd, 0, []), (88, 1, .iastore, 0, []), (89, 3, .iinc 4 1, 1, [4]), (92, 3, .goto (-72), 0, [20]), (95, 1, .aload_n 0, 0, [0]), (96, 3, .getfield 143, 0, [1, 60, 1]), (99, 3, .sipush 241, 241, []), (102, 1, .iload_n 1, 0, [1]), (103, 1, .imul, 0, []), (104, 1, .iload_n 3, 0, [3]), (105, 1, .iadd, 0, []), (106, 3, .sipush 240, 240, []), (109, 1, .iload_n 1, 0, [1]), (110, 1, .imul, 0, []), (111, 1, .iload_n 2, 0, [2]), (112, 1, .iadd, 0, []), (113, 1, .iastore, 0, []), (114, 1, .aload_n 0, 0, [0]), (115, 3, .getfield 137, 0, [1, 58, 1]), (118, 1, .iload_n 1, 0, [1]), (119, 1, .iload_n 3, 0, [3]), (120, 1, .iconst 1, 1, []), (121, 1, .iadd, 0, []), (122, 1, .iastore, 0, []), (123, 1, .return_, 0, [])]
def qw_120 : List (List Nat) := [[], [], [], [1366], [], [], [], [], [], [], [], [], [], [], [], [], [], [1364], [], [], [], [], [], [], [], [], [], [1367], [], [], [], [], [], [], [], [], [], [], [], [], [], [1366], [], [], [], [], [], [], [], [], [], [], [], [], [], [], [], [], [1367], [], [], [], [], [], [], [], [], [], [], [], [], [1365], [], [], [], [], [], []]
/-- 121: MarktongueModel.isSameLine(II)Z -/
def qc_121 : List (Nat × qI) := [(0, 1, .aload_n 0, 0, [0]), (1, 3, .getfield 143, 0, [1, 60, 1]), (4, 1, .iload_n 1, 0, [1]), (5, 1, .iaload, 0, []), (6, 1, .aload_n 0, 0, [0]), (7, 3, .getfield 140, 0, [1, 59, 1]), (10, 1, .iload_n 1, 0, [1]), (11, 1, .iaload, 0, []), (12, 1, .isub, 0, []), (13, 1, .aload_n 0, 0, [0]), (14, 3, .getfield 143, 0, [1, 60, 1]), (17, 1, .iload_n 2, 0, [2]), (18, 1, .iaload, 0, []), (19, 1, .aload_n 0, 0, [0]), (20, 3, .getfield 140, 0, [1, 59, 1]), (23, 1, .iload_n 2, 0, [2]), (24, 1, .iaload, 0, []), (25, 1, .isub, 0, []), (26, 3, .if_icmp .ne (7), 0, [33]), (29, 1, .iconst 1, 1, []), (30, 3, .goto (4), 0, [34]), (33, 1, .iconst 0, 0, []), (34, 1, .istore_n 3, 0, [3]), (35, 1, .iconst 0, 0, []), (36, 2, .istore 4, 0, [4]), (38, 2, .iload 4, 0, [4]), (40, 1, .aload_n 0, 0, [0]), (41, 3, .getfield 143, 0, [1, 60, 1]), (44, 1, .iload_n 1, 0, [1]), (45, 1, .iaload, 0, []), (46, 1, .aload_n 0, 0, [0]), (47, 3, .getfield 140, 0, [1, 59, 1]), (50, 1, .iload_n 1, 0, [1]), (51, 1, .iaload, 0, []), (52, 1, .isub, 0, []), (53, 3, .if_icmp .ge (50), 0, [103]), (56, 1, .iload_n 3, 0, [3]), (57, 3, .ifCond .eq (46), 0, [103]), (60, 1, .aload_n 0, 0, [0]), (61, 3, .getfield 134, 0, [1, 57, 1]), (64, 1, .aload_n 0, 0, [0]), (65, 3, .getfield 140, 0, [1, 59, 1]), (68, 1, .iload_n 1, 0, [1]), (69, 1, .iaload, 0, []), (70, 2, .iload 4, 0, [4]), (72, 1, .iadd, 0, []), (73, 1, .iaload, 0, []), (74, 1, .aload_n 0, 0, [0]), (75, 3, .getfield 134, 0, [1, 57, 1]), (78, 1, .aload_n 0, 0, [0]), (79, 3, .getfield 140, 0, [1, 59, 1]), (82, 1, .iload_n 2, 0, [2]), (83, 1, .iaload, 0, []), (84, 2, .iload 4, 0, [4]), (86, 1, .iadd, 0, []), (87, 1, .iaload, 0, []), (88, 3, .if_icmp .ne (7), 0, [95]), (91, 1, .iconst 1, 1, []), (92, 3, .goto (4), 0, [96]), (95, 1, .iconst 0, 0, []), (96, 1, .istore_n 3, 0, [3]), (97, 3, .iinc 4 1, 1, [4]), (100, 3, .goto (-62), 0, [38]), (103, 1, .iload_n 3, 0, [3]), (104, 1, .ireturn, 0, [3])]
def qw_121 : List (List Nat) := [[], [1367], [], [], [], [1366], [], [], [], [], [1367], [], [], [], [1366], [], [], [], [], [], [], [], [], [], [], [], [], [1367], [], [], [], [1366], [], [], [], [], [], [], [], [1364], [], [1366], [], [], [], [], [], [], [1364], [], [1366], [], [], [], [], [], [], [], [], [], [], [], [], [], []]
/-- 122: MarktongueModel.takesTogether(I)V -/
def qc_122 : List (Nat × qI) := [(0, 1, .aload_n 0, 0, [0]), (1, 3, .getfield 137, 0, [1, 58, 1]), (4, 1, .iconst 0, 0, []), (5, 1, .iaload, 0, []), (6, 1, .istore_n 2, 0, [2]), (7, 1, .aload_n 0, 0, [0]), (8, 3, .getfield 137, 0, [1, 58, 1]), (11, 1, .iload_n 1, 0, [1]), (12, 1, .iaload, 0, []), (13, 1, .istore_n 3, 0, [3]), (14, 1, .iload_n 2, 0, [2]), (15, 2, .istore 4, 0, [4]), (17, 2, .iload 4, 0, [4]), (19, 3, .ifCond .lt (150), 0, [169]), (22, 1, .iload_n 3, 0, [3]), (23, 2, .istore 5, 0, [5]), (25, 2, .iload 5, 0, [5]), (27, 3, .ifCond .lt (136), 0, [163]), (30, 3, .sipush 242, 242, []), (33, 2, .iload 4, 0, [4]), (35, 1, .imul, 0, []), (36, 2, .iload 5, 0, [5]), (38, 1, .iadd, 0, []), (39, 2, .istore 6, 0, [6]), (41, 2, .iload 4, 0, [4]), (43, 1, .iload_n 2, 0, [2]), (44, 3, .if_icmp .eq (9), 0, [53]), (47, 2, .iload 5, 0, [5]), (49, 1, .iload_n 3, 0, [3]), (50, 3, .if_icmp .ne (14), 0, [64]), (53, 1, .aload_n 0, 0, [0]), (54, 3, .getfield 147, 0, [1, 61, 1]), (57, 2, .iload 6, 0, [6]), (59, 1, .iconst 0, 0, []), (60, 1, .iastore, 0, []), (61, 3, .goto (96), 0, [157]), (64, 1, .aload_n 0, 0, [0]), (65, 2, .iload 4, 0, [4]), (67, 3, .sipush 241, 241, []), (70, 1, .iload_n 1, 0, [1]), (71, 1, .imul, 0, []), (72, 2, .iload 5, 0, [5]), (74, 1, .iadd, 0, []), (75, 3, .invokevirtual 382, 0, [121, 3, 1, 1, 0]), (78, 3, .ifCond .eq (26), 0, [104]), (81, 1, .aload_n 0, 0, [0]), (82, 3, .getfield 147, 0, [1, 61, 1]), (85, 2, .iload 6, 0, [6]), (87, 1, .aload_n 0, 0, [0]), (88, 3, .getfield 147, 0, [1, 61, 1]), (91, 2, .iload 6, 0, [6]), (93, 3, .sipush 243, 243, []), (96, 1, .iadd, 0, []), (97, 1, .iaload, 0, []), (98, 1, .iconst 1, 1, []), (99, 1, .iadd, 0, []), (100, 1, .iastore, 0, []), (101, 3, .goto (56), 0, [157]), (104, 1, .aload_n 0, 0, [0]), (105, 3, .getfield 147, 0, [1, 61, 1]), (108, 2, .iload 6, 0, [6]), (110, 1, .aload_n 0, 0, [0]), (111, 3, .getfield 147, 0, [1, 61, 1]), (114, 2, .iload 6, 0, [6]), (116, 3, .sipush 242, 242, []), (119, 1, .iadd, 0, []), (120, 1, .iaload, 0, []), (121, 1, .aload_n 0, 0, [0]), (122, 3, .getfield 147, 0, [1, 61, 1]), (125, 2, .iload 6, 0, [6]), (127, 1, .iconst 1, 1, []), (128, 1, .iadd, 0, []), (129, 1, .iaload, 0, []), (130, 3, .if_icmp .le (17), 0, [147]), (133, 1, .aload_n 0, 0, [0]), (134, 3, .getfield 147, 0, [1, 61, 1]), (137, 2, .iload 6, 0, [6]), (139, 3, .sipush 242, 242, []), (142, 1, .iadd, 0, []), (143, 1, .iaload, 0, []), (144, 3, .goto (12), 0, [156]), (147, 1, .aload_n 0, 0, [0]), (148, 3, .getfield 147, 0, [1, 61, 1]), (151, 2, .iload 6, 0, [6]), (153, 1, .iconst 1, 1, []), (154, 1, .iadd, 0, []), (155, 1, .iaload, 0, []), (156, 1, .iastore, 0, []), (157, 3, .iinc 5 (-1), -1, [5]), (160, 3, .goto (-135), 0, [25]), (163, 3, .iinc 4 (-1), -1, [4]), (166, 3, .goto (-149), 0, [17]), (169, 1, .iconst 0, 0, []), (170, 2, .istore 4, 0, [4]), (172, 1, .iconst 0, 0, []), (173, 2, .istore 5, 0, [5]), (175, 1, .iconst 0, 0, []), (176, 2, .istore 6, 0, [6]), (178, 2, .iload 6, 0, [6]), (180, 1, .iload_n 2, 0, [2]), (181, 3, .if_icmp .ge (25), 0, [206]), (184, 1, .aload_n 0, 0, [0]), (185, 3, .getfield 150, 0, [1, 62, 1]), (188, 3, .sipush 241, 241, []), (191, 1, .iload_n 1, 0, [1]), (192, 1, .iconst 1, 1, []), (193, 1, .isub, 0, []), (194, 1, .imul, 0, []), (195, 2, .iload 6, 0, [6]), (197, 1, .iadd, 0, []), (198, 1, .iconst (-1), -1, []), (199, 1, .iastore, 0, []), (200, 3, .iinc 6 1, 1, [6]), (203, 3, .goto (-25), 0, [178]), (206, 2, .iload 4, 0, [4]), (208, 1, .iload_n 2, 0, [2]), (209, 3, .if_icmp .ge (97), 0, [306]), (212, 2, .iload 5, 0, [5]), (214, 1, .iload_n 3, 0, [3]), (215, 3, .if_icmp .ge (91), 0, [306]), (218, 1, .aload_n 0, 0, [0]), (219, 2, .iload 4, 0, [4]), (221, 3, .sipush 241, 241, []), (224, 1, .iload_n 1, 0, [1]), (225, 1, .imul, 0, []), (226, 2, .iload 5, 0, [5]), (228, 1, .iadd, 0, []), (229, 3, .invokevirtual 382, 0, [121, 3, 1, 1, 0]), (232, 3, .ifCond .eq (29), 0, [261]), (235, 1, .aload_n 0, 0, [0]), (236, 3, .getfield 150, 0, [1, 62, 1]), (239, 3, .sipush 241, 241, []), (242, 1, .iload_n 1, 0, [1]), (243, 1, .iconst 1, 1, []), (244, 1, .isub, 0, []), (245, 1, .imul, 0, []), (246, 2, .iload 4, 0, [4]), (248, 1, .iadd, 0, []), (249, 2, .iload 5, 0, [5]), (251, 1, .iastore, 0, []), (252, 3, .iinc 4 1, 1, [4]), (255, 3, .iinc 5 1, 1, [5]), (258, 3, .goto (-52), 0, [206]), (261, 1, .aload_n 0, 0, [0]), (262, 3, .getfield 147, 0, [1, 61, 1]), (265, 3, .sipush 242, 242, []), (268, 2, .iload 4, 0, [4]), (270, 1, .iconst 1, 1, []), (271, 1, .iadd, 0, []), (272, 1, .imul, 0, []), (273, 2, .iload 5, 0, [5]), (275, 1, .iadd, 0, []), (276, 1, .iaload, 0, []), (277, 1, .aload_n 0, 0, [0]), (278, 3, .getfield 147, 0, [1, 61, 1]), (281, 3, .sipush 242, 242, []), (284, 2, .iload 4, 0, [4]), (286, 1, .imul, 0, []), (287, 2, .iload 5, 0, [5]), (289, 1, .iadd, 0, []), (290, 1, .iaload, 0, []), (291, 3, .if_icmp .ne (9), 0, [300]), (294, 3, .iinc 4 1, 1, [4]), (297, 3, .goto (-91), 0, [206]), (300, 3, .iinc 5 1, 1, [5]), (303, 3, .goto (-97), 0, [206]), (306, 1, .return_, 0, [])]
def qw_122 : List (List Nat) := [[], [1365], [], [], [], [], [1365], [], [], [], [], [], [], [], [], [], [], [], [], [], [], [], [], [], [], [], [], [], [], [], [], [1368], [], [], [], [], [], [], [], [], [], [], [], [1811, 0, 119, 1813, 102], [], [], [1368], [], [], [1368], [], [], [], [], [], [], [], [], [], [1368], [], [], [1368], [], [], [], [], [], [1368], [], [], [], [], [], [], [1368], [], [], [], [], [], [], [1368], [], [], [], [], [], [], [], [], [], [], [], [], [], [], [], [], [], [], [], [1369], [], [], [], [], [], [], [], [], [], [], [], [], [], [], [], [], [], [], [], [], [], [], [], [], [1811, 0, 119, 1813, 102], [], [], [1369], [], [], [], [], [], [], [], [], [], [], [], [], [], [1368], [], [], [], [], [], [], [], [], [], [1368], [], [], [], [], [], [], [], [], [], [], [], []]
/-- 123: MarktongueModel.isSamePart(IIIIII)Z -/
def qc_123 : List (Nat × qI) := [(0, 1, .iload_n 3, 0, [3]), (1, 1, .iload_n 2, 0, [2]), (2, 1, .isub, 0, []), (3, 2, .iload 6, 0, [6]), (5, 2, .iload 5, 0, [5]), (7, 1, .isub, 0, []), (8, 3, .if_icmp .ne (7), 0, [15]), (11, 1, .iconst 1, 1, []), (12, 3, .goto (4), 0, [16]), (15, 1, .iconst 0, 0, []), (16, 2, .istore 7, 0, [7]), (18, 1, .iconst 0, 0, []), (19, 2, .istore 8, 0, [8]), (21, 2, .iload 8, 0, [8]), (23, 1, .iload_n 3, 0, [3]), (24, 1, .iload_n 2, 0, [2]), (25, 1, .isub, 0, []), (26, 3, .if_icmp .ge (42), 0, [68]), (29, 2, .iload 7, 0, [7]), (31, 3, .ifCond .eq (37), 0, [68]), (34, 1, .aload_n 0, 0, [0]), (35, 3, .sipush 241, 241, []), (38, 1, .iload_n 1, 0, [1]), (39, 1, .imul, 0, []), (40, 1, .iload_n 2, 0, [2]), (41, 1, .iadd, 0, []), (42, 2, .iload 8, 0, [8]), (44, 1, .iadd, 0, []), (45, 3, .sipush 241, 241, []), (48, 2, .iload 4, 0, [4]), (50, 1, .imul, 0, []), (51, 2, .iload 5, 0, [5]), (53, 1, .iadd, 0, []), (54, 2, .iload 8, 0, [8]), (56, 1, .iadd, 0, []), (57, 3, .invokevirtual 382, 0, [121, 3, 1, 1, 0]), (60, 2, .istore 7, 0, [7]), (62, 3, .iinc 8 1, 1, [8]), (65, 3, .goto (-44), 0, [21]), (68, 2, .iload 7, 0, [7]), (70, 1, .ireturn, 0, [3])]
def qw_123 : List (List Nat) := [[], [], [], [], [], [], [], [], [], [], [], [], [], [], [], [], [], [], [], [], [], [], [], [], [], [], [], [], [], [], [], [], [], [], [], [1811, 0, 119, 1813, 102], [], [], [], [], []]
/-- 124: MarktongueModel.takesLines(III)V -/
def qc_124 : List (Nat × qI) := [(0, 3, .sipush 241, 241, []), (3, 1, .iload_n 1, 0, [1]), (4, 1, .imul, 0, []), (5, 1, .iload_n 2, 0, [2]), (6, 1, .iadd, 0, []), (7, 2, .istore 4, 0, [4]), (9, 2, .iload 4, 0, [4]), (11, 3, .sipush 241, 241, []), (14, 1, .iload_n 1, 0, [1]), (15, 1, .imul, 0, []), (16, 1, .iload_n 3, 0, [3]), (17, 1, .iadd, 0, []), (18, 3, .if_icmp .ge (95), 0, [113]), (21, 1, .aload_n 0, 0, [0]), (22, 3, .getfield 385, 0, [1, 64, 3]), (25, 3, .ifCond .eq (24), 0, [49]), (28, 1, .aload_n 0, 0, [0]), (29, 3, .getfield 131, 0, [1, 56, 1]), (32, 1, .aload_n 0, 0, [0]), (33, 3, .getfield 388, 0, [1, 63, 0]), (36, 2, .bipush 10, 10, []), (38, 1, .iastore, 0, []), (39, 1, .aload_n 0, 0, [0]), (40, 1, .dup, 0, []), (41, 3, .getfield 388, 0, [1, 63, 0]), (44, 1, .iconst 1, 1, []), (45, 1, .iadd, 0, []), (46, 3, .putfield 388, 0, [1, 63, 0]), (49, 1, .aload_n 0, 0, [0]), (50, 1, .iconst 1, 1, []), (51, 3, .putfield 385, 0, [1, 64, 3]), (54, 1, .aload_n 0, 0, [0]), (55, 3, .getfield 140, 0, [1, 59, 1]), (58, 2, .iload 4, 0, [4]), (60, 1, .iaload, 0, []), (61, 2, .istore 5, 0, [5]), (63, 2, .iload 5, 0, [5]), (65, 1, .aload_n 0, 0, [0]), (66, 3, .getfield 143, 0, [1, 60, 1]), (69, 2, .iload 4, 0, [4]), (71, 1, .iaload, 0, []), (72, 3, .if_icmp .ge (35), 0, [107]), (75, 1, .aload_n 0, 0, [0]), (76, 3, .getfield 131, 0, [1, 56, 1]), (79, 1, .aload_n 0, 0, [0]), (80, 3, .getfield 388, 0, [1, 63, 0]), (83, 1, .aload_n 0, 0, [0]), (84, 3, .getfield 134, 0, [1, 57, 1]), (87, 2, .iload 5, 0, [5]), (89, 1, .iaload, 0, []), (90, 1, .iastore, 0, []), (91, 1, .aload_n 0, 0, [0]), (92, 1, .dup, 0, []), (93, 3, .getfield 388, 0, [1, 63, 0]), (96, 1, .iconst 1, 1, []), (97, 1, .iadd, 0, []), (98, 3, .putfield 388, 0, [1, 63, 0]), (101, 3, .iinc 5 1, 1, [5]), (104, 3, .goto (-41), 0, [63]), (107, 3, .iinc 4 1, 1, [4]), (110, 3, .goto (-101), 0, [9]), (113, 1, .return_, 0, [])]
def qw_124 : List (List Nat) := [[], [], [], [], [], [], [], [], [], [], [], [], [], [], [1371], [], [], [1363], [], [1370], [], [], [], [], [1370], [], [], [1370], [], [], [1371], [], [1366], [], [], [], [], [], [1367], [], [], [], [], [1363], [], [1370], [], [1364], [], [], [], [], [], [1370], [], [], [1370], [], [], [], [], []]
/-- 125: MarktongueModel.takesPart(IIIIII)Z -/
def qc_125 : List (Nat × qI) := [(0, 1, .aload_n 0, 0, [0]), (1, 1, .iconst 1, 1, []), (2, 1, .iload_n 3, 0, [3]), (3, 2, .iload 4, 0, [4]), (5, 1, .iconst 0, 0, []), (6, 1, .iload_n 1, 0, [1]), (7, 1, .iload_n 2, 0, [2]), (8, 3, .invokevirtual 391, 0, [123, 7, 1, 1, 0]), (11, 2, .istore 7, 0, [7]), (13, 2, .iload 7, 0, [7]), (15, 3, .ifCond .eq (15), 0, [30]), (18, 1, .aload_n 0, 0, [0]), (19, 1, .iconst 2, 2, []), (20, 2, .iload 5, 0, [5]), (22, 2, .iload 6, 0, [6]), (24, 3, .invokevirtual 395, 0, [124, 4, 1, 1, 0]), (27, 3, .goto (47), 0, [74]), (30, 1, .aload_n 0, 0, [0]), (31, 1, .iconst 2, 2, []), (32, 2, .iload 5, 0, [5]), (34, 2, .iload 6, 0, [6]), (36, 1, .iconst 0, 0, []), (37, 1, .iload_n 1, 0, [1]), (38, 1, .iload_n 2, 0, [2]), (39, 3, .invokevirtual 391, 0, [123, 7, 1, 1, 0]), (42, 3, .ifCond .ne (19), 0, [61]), (45, 1, .aload_n 0, 0, [0]), (46, 1, .iconst 2, 2, []), (47, 2, .iload 5, 0, [5]), (49, 2, .iload 6, 0, [6]), (51, 1, .iconst 1, 1, []), (52, 1, .iload_n 3, 0, [3]), (53, 2, .iload 4, 0, [4]), (55, 3, .invokevirtual 391, 0, [123, 7, 1, 1, 0]), (58, 3, .ifCond .eq (14), 0, [72]), (61, 1, .aload_n 0, 0, [0]), (62, 1, .iconst 1, 1, []), (63, 1, .iload_n 3, 0, [3]), (64, 2, .iload 4, 0, [4]), (66, 3, .invokevirtual 395, 0, [124, 4, 1, 1, 0]), (69, 3, .goto (5), 0, [74]), (72, 1, .iconst 1, 1, []), (73, 1, .ireturn, 0, [3]), (74, 1, .iconst 0, 0, []), (75, 1, .ireturn, 0, [3])]
def qw_125 : List (List Nat) := [[], [], [], [], [], [], [], [1819, 0, 119, 1821, 104], [], [], [], [], [], [], [], [1823, 0, 119, 1825, 105], [], [], [], [], [], [], [], [], [1819, 0, 119, 1821, 104], [], [], [], [], [], [], [], [], [1819, 0, 119, 1821, 104], [], [], [], [], [], [1823, 0, 119, 1825, 105], [], [], [], [], []]
/-- 126: MarktongueModel.merge()I -/
def qc_126 : List (Nat × qI) := [(0, 1, .aload_n 0, 0, [0]), (1, 1, .iconst 0, 0, []), (2, 3, .putfield 153, 0, [1, 47, 0]), (5, 1, .iconst 0, 0, []), (6, 1, .istore_n 1, 0, [1]), (7, 1, .iload_n 1, 0, [1]), (8, 3, .sipush 240, 240, []), (11, 3, .if_icmp .ge (57), 0, [68]), (14, 1, .aload_n 0, 0, [0]), (15, 3, .getfield 134, 0, [1, 57, 1]), (18, 1, .iload_n 1, 0, [1]), (19, 1, .aload_n 0, 0, [0]), (20, 3, .getfield 13, 0, [1, 2, 1]), (23, 1, .iload_n 1, 0, [1]), (24, 1, .iaload, 0, []), (25, 1, .iastore, 0, []), (26, 1, .aload_n 0, 0, [0]), (27, 3, .getfield 134, 0, [1, 57, 1]), (30, 3, .sipush 240, 240, []), (33, 1, .iload_n 1, 0, [1]), (34, 1, .iadd, 0, []), (35, 1, .aload_n 0, 0, [0]), (36, 3, .getfield 7, 0, [1, 1, 1]), (39, 1, .iload_n 1, 0, [1]), (40, 1, .iaload, 0, []), (41, 1, .iastore, 0, []), (42, 1, .aload_n 0, 0, [0]), (43, 3, .getfield 134, 0, [1, 57, 1]), (46, 3, .sipush 480, 480, []), (49, 1, .iload_n 1, 0, [1]), (50, 1, .iadd, 0, []), (51, 1, .aload_n 0, 0, [0]), (52, 3, .getfield 13, 0, [1, 2, 1]), (55, 3, .sipush 240, 240, []), (58, 1, .iload_n 1, 0, [1]), (59, 1, .iadd, 0, []), (60, 1, .iaload, 0, []), (61, 1, .iastore, 0, []), (62, 3, .iinc 1 1, 1, [1]), (65, 3, .goto (-58), 0, [7]), (68, 1, .aload_n 0, 0, [0]), (69, 1, .iconst 0, 0, []), (70, 1, .aload_n 0, 0, [0]), (71, 3, .getfield 16, 0, [1, 3, 1]), (74, 1, .iconst 0, 0, []), (75, 1, .iaload, 0, []), (76, 3, .invokevirtual 398, 0, [120, 3, 1, 1, 0]), (79, 1, .aload_n 0, 0, [0]), (80, 1, .iconst 1, 1, []), (81, 1, .aload_n 0, 0, [0]), (82, 3, .getfield 165, 0, [1, 0, 0]), (85, 3, .invokevirtual 398, 0, [120, 3, 1, 1, 0]), (88, 1, .aload_n 0, 0, [0]), (89, 1, .iconst 2, 2, []), (90, 1, .aload_n 0, 0, [0]), (91, 3, .getfield 16, 0, [1, 3, 1]), (94, 1, .iconst 1, 1, []), (95, 1, .iaload, 0, []), (96, 3, .invokevirtual 398, 0, [120, 3, 1, 1, 0]), (99, 1, .aload_n 0, 0, [0]), (100, 1, .iconst 1, 1, []), (101, 3, .invokevirtual 401, 0, [122, 2, 1, 1, 0]), (104, 1, .aload_n 0, 0, [0]), (105, 1, .iconst 2, 2, []), (106, 3, .invokevirtual 401, 0, [122, 2, 1, 1, 0]), (109, 1, .aload_n 0, 0, [0]), (110, 1, .iconst 0, 0, []), (111, 3, .putfield 388, 0, [1, 63, 0]), (114, 1, .aload_n 0, 0, [0]), (115, 1, .iconst 0, 0, []), (116, 3, .putfield 385, 0, [1, 64, 3]), (119, 1, .iconst 0, 0, []), (120, 1, .istore_n 1, 0, [1]), (121, 1, .iconst 0, 0, []), (122, 1, .istore_n 2, 0, [2]), (123, 1, .iconst 0, 0, []), (124, 1, .istore_n 3, 0, [3]), (125, 1, .iconst 0, 0, []), (126, 2, .istore 4, 0, [4]), (128, 1, .iconst 0, 0, []), (129, 2, .istore 5, 0, [5]), (131, 2, .iload 5, 0, [5]), (133, 1, .aload_n 0, 0, [0]), (134, 3, .getfield 137, 0, [1, 58, 1]), (137, 1, .iconst 0, 0, []), (138, 1, .iaload, 0, []), (139, 3, .if_icmp .gt (165), 0, [304]), (142, 2, .iload 5, 0, [5]), (144, 1, .aload_n 0, 0, [0]), (145, 3, .getfield 137, 0, [1, 58, 1]), (148, 1, .iconst 0, 0, []), (149, 1, .iaload, 0, []), (150, 3, .if_icmp .ne (7), 0, [157]), (153, 1, .iconst 1, 1, []), (154, 3, .goto (4), 0, [158]), (157, 1, .iconst 0, 0, []), (158, 2, .istore 6, 0, [6]), (160, 2, .iload 6, 0, [6]), (162, 3, .ifCond .ne (29), 0, [191]), (165, 1, .aload_n 0, 0, [0]), (166, 3, .getfield 150, 0, [1, 62, 1]), (169, 2, .iload 5, 0, [5]), (171, 1, .iaload, 0, []), (172, 1, .iconst (-1), -1, []), (173, 3, .if_icmp .eq (125), 0, [298]), (176, 1, .aload_n 0, 0, [0]), (177, 3, .getfield 150, 0, [1, 62, 1]), (180, 3, .sipush 241, 241, []), (183, 2, .iload 5, 0, [5]), (185, 1, .iadd, 0, []), (186, 1, .iaload, 0, []), (187, 1, .iconst (-1), -1, []), (188, 3, .if_icmp .eq (110), 0, [298]), (191, 2, .iload 6, 0, [6]), (193, 3, .ifCond .eq (12), 0, [205]), (196, 1, .aload_n 0, 0, [0]), (197, 3, .getfield 137, 0, [1, 58, 1]), (200, 1, .iconst 1, 1, []), (201, 1, .iaload, 0, []), (202, 3, .goto (10), 0, [212]), (205, 1, .aload_n 0, 0, [0]), (206, 3, .getfield 150, 0, [1, 62, 1]), (209, 2, .iload 5, 0, [5]), (211, 1, .iaload, 0, []), (212, 2, .istore 7, 0, [7]), (214, 2, .iload 6, 0, [6]), (216, 3, .ifCond .eq (12), 0, [228]), (219, 1, .aload_n 0, 0, [0]), (220, 3, .getfield 137, 0, [1, 58, 1]), (223, 1, .iconst 2, 2, []), (224, 1, .iaload, 0, []), (225, 3, .goto (14), 0, [239]), (228, 1, .aload_n 0, 0, [0]), (229, 3, .getfield 150, 0, [1, 62, 1]), (232, 3, .sipush 241, 241, []), (235, 2, .iload 5, 0, [5]), (237, 1, .iadd, 0, []), (238, 1, .iaload, 0, []), (239, 2, .istore 8, 0, [8]), (241, 1, .iload_n 1, 0, [1]), (242, 1, .aload_n 0, 0, [0]), (243, 1, .iload_n 2, 0, [2]), (244, 2, .iload 5, 0, [5]), (246, 1, .iload_n 3, 0, [3]), (247, 2, .iload 7, 0, [7]), (249, 2, .iload 4, 0, [4]), (251, 2, .iload 8, 0, [8]), (253, 3, .invokevirtual 404, 0, [125, 7, 1, 1, 0]), (256, 3, .ifCond .eq (7), 0, [263]), (259, 1, .iconst 1, 1, []), (260, 3, .goto (4), 0, [264]), (263, 1, .iconst 0, 0, []), (264, 1, .iadd, 0, []), (265, 1, .istore_n 1, 0, [1]), (266, 2, .iload 6, 0, [6]), (268, 3, .ifCond .ne (14), 0, [282]), (271, 1, .aload_n 0, 0, [0]), (272, 1, .iconst 0, 0, []), (273, 2, .iload 5, 0, [5]), (275, 2, .iload 5, 0, [5]), (277, 1, .iconst 1, 1, []), (278, 1, .iadd, 0, []), (279, 3, .invokevirtual 395, 0, [124, 4, 1, 1, 0]), (282, 2, .iload 5, 0, [5]), (284, 1, .iconst 1, 1, []), (285, 1, .iadd, 0, []), (286, 1, .istore_n 2, 0, [2]), (287, 2, .iload 7, 0, [7]), (289, 1, .iconst 1, 1, []), (290, 1, .iadd, 0, []), (291, 1, .istore_n 3, 0, [3]), (292, 2, .iload 8, 0, [8]), (294, 1, .iconst 1, 1, []), (295, 1, .iadd, 0, []), (296, 2, .istore 4, 0, [4]), (298, 3, .iinc 5 1, 1, [5]), (301, 3, .goto (-170), 0, [131]), (304, 1, .iload_n 1, 0, [1]), (305, 3, .ifCond .le (5), 0, [310]), (308, 1, .iload_n 1, 0, [1]), (309, 1, .ireturn, 0, [0]), (310, 1, .aload_n 0, 0, [0]), (311, 3, .getfield 388, 0, [1, 63, 0]), (314, 3, .sipush 240, 240, []), (317, 3, .if_icmp .le (6), 0, [323]), (320, 2, .bipush (-2), -2, []), (322, 1, .ireturn, 0, [0]), (323, 1, .aload_n 0, 0, [0]), (324, 1, .aload_n 0, 0, [0]), (325, 3, .getfield 388, 0, [1, 63, 0]), (328, 3, .putfield 165, 0, [1, 0, 0]), (331, 1, .iconst 0, 0, []), (332, 2, .istore 5, 0, [5]), (334, 2, .iload 5, 0, [5]), (336, 1, .aload_n 0, 0, [0]), (337, 3, .getfield 388, 0, [1, 63, 0]), (340, 3, .if_icmp .ge (23), 0, [363]), (343, 1, .aload_n 0, 0, [0]), (344, 3, .getfield 7, 0, [1, 1, 1]), (347, 2, .iload 5, 0, [5]), (349, 1, .aload_n 0, 0, [0]), (350, 3, .getfield 131, 0, [1, 56, 1]), (353, 2, .iload 5, 0, [5]), (355, 1, .iaload, 0, []), (356, 1, .iastore, 0, []), (357, 3, .iinc 5 1, 1, [5]), (360, 3, .goto (-26), 0, [334]), (363, 1, .iconst 0, 0, []), (364, 1, .ireturn, 0, [0])]
def qw_126 : List (List Nat) := [[], [], [1354], [], [], [], [], [], [], [1364], [], [], [1310], [], [], [], [], [1364], [], [], [], [], [1309], [], [], [], [], [1364], [], [], [], [], [1310], [], [], [], [], [], [], [], [], [], [], [1311], [], [], [1803, 0, 119, 1805, 100], [], [], [], [1308], [1803, 0, 119, 1805, 100], [], [], [], [1311], [], [], [1803, 0, 119, 1805, 100], [], [], [1807, 0, 119, 1809, 101], [], [], [1807, 0, 119, 1809, 101], [], [], [1370], [], [], [1371], [], [], [], [], [], [], [], [], [], [], [], [], [1365], [], [], [], [], [], [1365], [], [], [], [], [], [], [], [], [], [], [1369], [], [], [], [], [], [1369], [], [], [], [], [], [], [], [], [], [1365], [], [], [], [], [1369], [], [], [], [], [], [], [1365], [], [], [], [], [1369], [], [], [], [], [], [], [], [], [], [], [], [], [], [1815, 0, 119, 1817, 103], [], [], [], [], [], [], [], [], [], [], [], [], [], [], [1823, 0, 119, 1825, 105], [], [], [], [], [], [], [], [], [], [], [], [], [], [], [], [], [], [], [], [1370], [], [], [], [], [], [], [1370], [1308], [], [], [], [], [1370], [], [], [1309], [], [], [1363], [], [], [], [], [], [], []]
/-- 127: Marktongue$BlockReader.<init>(LMarktongue$Row;LMarktongue$Lines;LMarktongue$Blocks;)V -/
def qc_127 : List (Nat × qI) := [(0, 1, .aload_n 0, 0, [0]), (1, 3, .invokespecial 3, 0, [0, 1, 2, 0, 0]), (4, 1, .aload_n 0, 0, [0]), (5, 1, .iconst 0, 0, []), (6, 3, .putfield 9, 0, [2, 3, 0]), (9, 1, .aload_n 0, 0, [0]), (10, 1, .iconst 0, 0, []), (11, 3, .putfield 15, 0, [2, 4, 0]), (14, 1, .aload_n 0, 0, [0]), (15, 1, .iconst 0, 0, []), (16, 3, .putfield 18, 0, [2, 5, 0]), (19, 1, .aload_n 0, 0, [0]), (20, 1, .iconst (-1), -1, []), (21, 3, .putfield 21, 0, [2, 6, 0]), (24, 1, .aload_n 0, 0, [0]), (25, 1, .iconst 0, 0, []), (26, 3, .putfield 24, 0, [2, 7, 3]), (29, 1, .aload_n 0, 0, [0]), (30, 1, .iconst 0, 0, []), (31, 3, .putfield 28, 0, [2, 8, 3]), (34, 1, .aload_n 0, 0, [0]), (35, 1, .aload_n 1, 0, [1]), (36, 3, .putfield 31, 0, [2, 0, 1]), (39, 1, .aload_n 0, 0, [0]), (40, 1, .aload_n 2, 0, [2]), (41, 3, .putfield 35, 0, [2, 1, 1]), (44, 1, .aload_n 0, 0, [0]), (45, 1, .aload_n 3, 0, [3]), (46, 3, .putfield 39, 0, [2, 2, 1]), (49, 1, .return_, 0, [])]
def qw_127 : List (List Nat) := [[], [236, 133, 134], [], [], [240], [], [], [241], [], [], [242], [], [], [243], [], [], [244], [], [], [245], [], [], [237], [], [], [238], [], [], [239], []]
/-- 128: Marktongue$BlockReader.start()V -/
def qc_128 : List (Nat × qI) := [(0, 1, .aload_n 0, 0, [0]), (1, 3, .getfield 39, 0, [2, 2, 1]), (4, 1, .aload_n 0, 0, [0]), (5, 3, .getfield 31, 0, [2, 0, 1]), (8, 3, .invokevirtual 43, 0, [223, 1, 1, 10, 0]), (11, 1, .aload_n 0, 0, [0]), (12, 3, .getfield 35, 0, [2, 1, 1]), (15, 3, .invokevirtual 49, 0, [192, 1, 1, 5, 0]), (18, 3, .invokevirtual 54, 0, [147, 3, 1, 3, 0]), (21, 1, .aload_n 0, 0, [0]), (22, 3, .getfield 39, 0, [2, 2, 1]), (25, 1, .iconst 0, 0, []), (26, 1, .iconst (-1), -1, []), (27, 1, .iconst 0, 0, []), (28, 3, .invokevirtual 60, 0, [148, 4, 1, 3, 0]), (31, 1, .pop, 0, []), (32, 1, .aload_n 0, 0, [0]), (33, 1, .iconst 0, 0, []), (34, 3, .putfield 28, 0, [2, 8, 3]), (37, 1, .return_, 0, [])]
def qw_128 : List (List Nat) := [[], [239], [], [237], [515, 0, 108, 478, 479], [], [238], [516, 0, 109, 517, 518], [520, 0, 110, 521, 522], [], [239], [], [], [], [536, 0, 110, 537, 538], [], [], [], [245], []]
/-- 129: Marktongue$BlockReader.read(I)V -/
def qc_129 : List (Nat × qI) := [(0, 1, .aload_n 0, 0, [0]), (1, 1, .aload_n 0, 0, [0]), (2, 3, .getfield 35, 0, [2, 1, 1]), (5, 1, .iload_n 1, 0, [1]), (6, 3, .invokevirtual 64, 0, [193, 2, 1, 5, 0]), (9, 3, .putfield 9, 0, [2, 3, 0]), (12, 1, .aload_n 0, 0, [0]), (13, 1, .aload_n 0, 0, [0]), (14, 3, .getfield 35, 0, [2, 1, 1]), (17, 1, .iload_n 1, 0, [1]), (18, 3, .invokevirtual 68, 0, [194, 2, 1, 5, 0]), (21, 3, .putfield 15, 0, [2, 4, 0]), (24, 1, .aload_n 0, 0, [0]), (25, 1, .iconst 0, 0, []), (26, 3, .putfield 24, 0, [2, 7, 3]), (29, 1, .aload_n 0, 0, [0]), (30, 3, .invokevirtual 70, 0, [130, 1, 1, 2, 0]), (33, 1, .aload_n 0, 0, [0]), (34, 3, .getfield 21, 0, [2, 6, 0]), (37, 1, .iconst (-1), -1, []), (38, 3, .if_icmp .ne (17), 0, [55]), (41, 1, .aload_n 0, 0, [0]), (42, 3, .getfield 39, 0, [2, 2, 1]), (45, 1, .aload_n 0, 0, [0]), (46, 3, .getfield 18, 0, [2, 5, 0]), (49, 3, .invokevirtual 73, 0, [150, 2, 1, 3, 0]), (52, 3, .goto (4), 0, [56]), (55, 1, .iconst (-1), -1, []), (56, 1, .istore_n 2, 0, [2]), (57, 1, .iconst 0, 0, []), (58, 1, .istore_n 3, 0, [3]), (59, 1, .aload_n 0, 0, [0]), (60, 3, .getfield 39, 0, [2, 2, 1]), (63, 1, .iload_n 2, 0, [2]), (64, 3, .invokevirtual 76, 0, [153, 2, 1, 3, 0]), (67, 1, .iconst 5, 5, []), (68, 3, .if_icmp .ne (13), 0, [81]), (71, 1, .aload_n 0, 0, [0]), (72, 1, .iload_n 2, 0, [2]), (73, 3, .invokevirtual 79, 0, [132, 2, 1, 2, 0]), (76, 2, .istore 4, 0, [4]), (78, 3, .goto (70), 0, [148]), (81, 1, .aload_n 0, 0, [0]), (82, 3, .invokevirtual 82, 0, [133, 1, 1, 2, 0]), (85, 1, .aload_n 0, 0, [0]), (86, 3, .getfield 31, 0, [2, 0, 1]), (89, 1, .aload_n 0, 0, [0]), (90, 3, .getfield 9, 0, [2, 3, 0]), (93, 1, .aload_n 0, 0, [0]), (94, 3, .getfield 15, 0, [2, 4, 0]), (97, 3, .invokestatic 85, 0, [39, 3, 0, 0, 0]), (100, 1, .aload_n 0, 0, [0]), (101, 3, .getfield 15, 0, [2, 4, 0]), (104, 3, .if_icmp .ne (7), 0, [111]), (107, 1, .iconst 1, 1, []), (108, 3, .goto (4), 0, [112]), (111, 1, .iconst 0, 0, []), (112, 1, .istore_n 3, 0, [3]), (113, 1, .iload_n 3, 0, [3]), (114, 3, .ifCond .eq (10), 0, [124]), (117, 1, .aload_n 0, 0, [0]), (118, 3, .invokevirtual 89, 0, [136, 1, 1, 2, 0]), (121, 3, .goto (8), 0, [129]), (124, 1, .aload_n 0, 0, [0]), (125, 1, .iload_n 1, 0, [1]), (126, 3, .invokevirtual 92, 0, [137, 2, 1, 2, 0]), (129, 2, .istore 4, 0, [4]), (131, 1, .iload_n 3, 0, [3]), (132, 3, .ifCond .eq (14), 0, [146]), (135, 1, .aload_n 0, 0, [0]), (136, 3, .getfield 24, 0, [2, 7, 3]), (139, 3, .ifCond .ne (7), 0, [146]), (142, 1, .iconst 1, 1, []), (143, 3, .goto (4), 0, [147]), (146, 1, .iconst 0, 0, []), (147, 1, .istore_n 3, 0, [3]), (148, 1, .aload_n 0, 0, [0]), (149, 3, .getfield 39, 0, [2, 2, 1]), (152, 2, .iload 4, 0, [4]), (154, 3, .invokevirtual 76, 0, [153, 2, 1, 3, 0]), (157, 1, .iconst 4, 4, []), (158, 3, .if_icmp .eq (15), 0, [173]), (161, 1, .aload_n 0, 0, [0]), (162, 3, .getfield 39, 0, [2, 2, 1]), (165, 1, .iload_n 1, 0, [1]), (166, 1, .aload_n 0, 0, [0]), (167, 3, .getfield 9, 0, [2, 3, 0]), (170, 3, .invokevirtual 95, 0, [165, 3, 1, 3, 0]), (173, 1, .aload_n 0, 0, [0]), (174, 1, .iload_n 1, 0, [1]), (175, 2, .iload 4, 0, [4]), (177, 3, .invokevirtual 98, 0, [145, 3, 1, 2, 0]), (180, 1, .aload_n 0, 0, [0]), (181, 1, .iload_n 3, 0, [3]), (182, 3, .putfield 28, 0, [2, 8, 3]), (185, 1, .return_, 0, [])]
def qw_129 : List (List Nat) := [[], [], [238], [], [552, 0, 109, 553, 554], [240], [], [], [238], [], [556, 0, 109, 557, 558], [241], [], [], [244], [], [560, 0, 112, 562, 1], [], [243], [], [], [], [239], [], [242], [564, 0, 110, 565, 566], [], [], [], [], [], [], [239], [], [576, 0, 110, 577, 578], [], [], [], [], [601, 0, 112, 603, 5], [], [], [], [617, 0, 112, 619, 7], [], [237], [], [240], [], [241], [593, 1, 107, 594], [], [241], [], [], [], [], [], [], [], [], [644, 0, 112, 646, 10], [], [], [], [648, 0, 112, 650, 11], [], [], [], [], [244], [], [], [], [], [], [], [239], [], [576, 0, 110, 577, 578], [], [], [], [239], [], [], [240], [668, 0, 110, 669, 670], [], [], [], [710, 0, 112, 712, 16], [], [], [245], []]
/-- 130: Marktongue$BlockReader.goOn()V -/
def qc_130 : List (Nat × qI) := [(0, 1, .aload_n 0, 0, [0]), (1, 1, .iconst 0, 0, []), (2, 3, .putfield 18, 0, [2, 5, 0]), (5, 1, .aload_n 0, 0, [0]), (6, 1, .iconst (-1), -1, []), (7, 3, .putfield 21, 0, [2, 6, 0]), (10, 1, .aload_n 0, 0, [0]), (11, 3, .getfield 39, 0, [2, 2, 1]), (14, 1, .iconst 0, 0, []), (15, 3, .invokevirtual 73, 0, [150, 2, 1, 3, 0]), (18, 1, .istore_n 1, 0, [1]), (19, 1, .iconst 0, 0, []), (20, 1, .istore_n 2, 0, [2]), (21, 1, .iload_n 2, 0, [2]), (22, 3, .sipush 482, 482, []), (25, 3, .if_icmp .ge (60), 0, [85]), (28, 1, .aload_n 0, 0, [0]), (29, 3, .getfield 39, 0, [2, 2, 1]), (32, 1, .iload_n 1, 0, [1]), (33, 3, .invokevirtual 101, 0, [155, 2, 1, 3, 0]), (36, 3, .ifCond .eq (49), 0, [85]), (39, 1, .aload_n 0, 0, [0]), (40, 1, .iload_n 1, 0, [1]), (41, 3, .invokevirtual 105, 0, [131, 2, 1, 2, 0]), (44, 3, .ifCond .ne (9), 0, [53]), (47, 1, .aload_n 0, 0, [0]), (48, 1, .iload_n 1, 0, [1]), (49, 3, .putfield 21, 0, [2, 6, 0]), (52, 1, .return_, 0, []), (53, 1, .aload_n 0, 0, [0]), (54, 3, .getfield 39, 0, [2, 2, 1]), (57, 1, .iload_n 1, 0, [1]), (58, 3, .invokevirtual 76, 0, [153, 2, 1, 3, 0]), (61, 1, .iconst 2, 2, []), (62, 3, .if_icmp .eq (8), 0, [70]), (65, 1, .aload_n 0, 0, [0]), (66, 1, .iload_n 1, 0, [1]), (67, 3, .putfield 18, 0, [2, 5, 0]), (70, 1, .aload_n 0, 0, [0]), (71, 3, .getfield 39, 0, [2, 2, 1]), (74, 1, .iload_n 1, 0, [1]), (75, 3, .invokevirtual 73, 0, [150, 2, 1, 3, 0]), (78, 1, .istore_n 1, 0, [1]), (79, 3, .iinc 2 1, 1, [2]), (82, 3, .goto (-61), 0, [21]), (85, 1, .return_, 0, [])]
def qw_130 : List (List Nat) := [[], [], [242], [], [], [243], [], [239], [], [564, 0, 110, 565, 566], [], [], [], [], [], [], [], [239], [], [568, 0, 110, 569, 570], [], [], [], [572, 0, 112, 574, 2], [], [], [], [243], [], [], [239], [], [576, 0, 110, 577, 578], [], [], [], [], [242], [], [239], [], [564, 0, 110, 565, 566], [], [], [], []]
/-- 131: Marktongue$BlockReader.goesOn(I)Z -/
def qc_131 : List (Nat × qI) := [(0, 1, .aload_n 0, 0, [0]), (1, 3, .getfield 39, 0, [2, 2, 1]), (4, 1, .iload_n 1, 0, [1]), (5, 3, .invokevirtual 76, 0, [153, 2, 1, 3, 0]), (8, 1, .istore_n 2, 0, [2]), (9, 1, .iload_n 2, 0, [2]), (10, 1, .iconst 1, 1, []), (11, 3, .if_icmp .ne (38), 0, [49]), (14, 1, .aload_n 0, 0, [0]), (15, 1, .iconst 0, 0, []), (16, 3, .invokevirtual 108, 0, [143, 2, 1, 2, 0]), (19, 2, .bipush 62, 62, []), (21, 3, .if_icmp .eq (5), 0, [26]), (24, 1, .iconst 0, 0, []), (25, 1, .ireturn, 0, [3]), (26, 1, .aload_n 0, 0, [0]), (27, 1, .aload_n 0, 0, [0]), (28, 1, .iconst 1, 1, []), (29, 3, .invokevirtual 108, 0, [143, 2, 1, 2, 0]), (32, 2, .bipush 32, 32, []), (34, 3, .if_icmp .ne (7), 0, [41]), (37, 1, .iconst 2, 2, []), (38, 3, .goto (4), 0, [42]), (41, 1, .iconst 1, 1, []), (42, 1, .iload_n 1, 0, [1]), (43, 3, .invokevirtual 111, 0, [144, 3, 1, 2, 0]), (46, 3, .goto (88), 0, [134]), (49, 1, .iload_n 2, 0, [2]), (50, 1, .iconst 3, 3, []), (51, 3, .if_icmp .ne (83), 0, [134]), (54, 1, .aload_n 0, 0, [0]), (55, 3, .getfield 31, 0, [2, 0, 1]), (58, 1, .aload_n 0, 0, [0]), (59, 3, .getfield 9, 0, [2, 3, 0]), (62, 1, .aload_n 0, 0, [0]), (63, 3, .getfield 15, 0, [2, 4, 0]), (66, 3, .invokestatic 85, 0, [39, 3, 0, 0, 0]), (69, 1, .aload_n 0, 0, [0]), (70, 3, .getfield 9, 0, [2, 3, 0]), (73, 1, .isub, 0, []), (74, 1, .istore_n 3, 0, [3]), (75, 1, .aload_n 0, 0, [0]), (76, 3, .getfield 39, 0, [2, 2, 1]), (79, 1, .iload_n 1, 0, [1]), (80, 3, .invokevirtual 114, 0, [156, 2, 1, 3, 0]), (83, 2, .istore 4, 0, [4]), (85, 1, .aload_n 0, 0, [0]), (86, 3, .getfield 9, 0, [2, 3, 0]), (89, 1, .iload_n 3, 0, [3]), (90, 1, .iadd, 0, []), (91, 1, .aload_n 0, 0, [0]), (92, 3, .getfield 15, 0, [2, 4, 0]), (95, 3, .if_icmp .ne (7), 0, [102]), (98, 1, .iconst 1, 1, []), (99, 3, .goto (4), 0, [103]), (102, 1, .iconst 0, 0, []), (103, 2, .istore 5, 0, [5]), (105, 2, .iload 5, 0, [5]), (107, 3, .ifCond .ne (11), 0, [118]), (110, 1, .iload_n 3, 0, [3]), (111, 2, .iload 4, 0, [4]), (113, 3, .if_icmp .ge (5), 0, [118]), (116, 1, .iconst 0, 0, []), (117, 1, .ireturn, 0, [3]), (118, 1, .aload_n 0, 0, [0]), (119, 2, .iload 5, 0, [5]), (121, 3, .ifCond .eq (7), 0, [128]), (124, 1, .iload_n 3, 0, [3]), (125, 3, .goto (5), 0, [130]), (128, 2, .iload 4, 0, [4]), (130, 1, .iload_n 1, 0, [1]), (131, 3, .invokevirtual 111, 0, [144, 3, 1, 2, 0]), (134, 1, .iconst 1, 1, []), (135, 1, .ireturn, 0, [3])]
def qw_131 : List (List Nat) := [[], [239], [], [576, 0, 110, 577, 578], [], [], [], [], [], [], [580, 0, 112, 582, 3], [], [], [], [], [], [], [], [580, 0, 112, 582, 3], [], [], [], [], [], [], [585, 0, 112, 587, 4], [], [], [], [], [], [237], [], [240], [], [241], [593, 1, 107, 594], [], [240], [], [], [], [239], [], [597, 0, 110, 598, 599], [], [], [240], [], [], [], [241], [], [], [], [], [], [], [], [], [], [], [], [], [], [], [], [], [], [], [], [585, 0, 112, 587, 4], [], []]
/-- 132: Marktongue$BlockReader.readInFence(I)I -/
def qc_132 : List (Nat × qI) := [(0, 1, .aload_n 0, 0, [0]), (1, 3, .invokevirtual 117, 0, [141, 1, 1, 2, 0]), (4, 3, .ifCond .eq (14), 0, [18]), (7, 1, .aload_n 0, 0, [0]), (8, 3, .getfield 39, 0, [2, 2, 1]), (11, 1, .iload_n 1, 0, [1]), (12, 3, .invokevirtual 121, 0, [149, 2, 1, 3, 0]), (15, 3, .goto (11), 0, [26]), (18, 1, .aload_n 0, 0, [0]), (19, 3, .getfield 39, 0, [2, 2, 1]), (22, 1, .iload_n 1, 0, [1]), (23, 3, .invokevirtual 125, 0, [163, 2, 1, 3, 0]), (26, 1, .iload_n 1, 0, [1]), (27, 1, .ireturn, 0, [0])]
def qw_132 : List (List Nat) := [[], [605, 0, 112, 607, 6], [], [], [239], [], [609, 0, 110, 610, 611], [], [], [239], [], [613, 0, 110, 614, 615], [], []]
/-- 133: Marktongue$BlockReader.putContainersIn()V -/
def qc_133 : List (Nat × qI) := [(0, 1, .iconst 0, 0, []), (1, 1, .istore_n 1, 0, [1]), (2, 1, .iload_n 1, 0, [1]), (3, 3, .sipush 240, 240, []), (6, 3, .if_icmp .ge (86), 0, [92]), (9, 1, .aload_n 0, 0, [0]), (10, 3, .invokevirtual 128, 0, [134, 1, 1, 2, 0]), (13, 1, .istore_n 2, 0, [2]), (14, 1, .iload_n 2, 0, [2]), (15, 3, .ifCond .ne (4), 0, [19]), (18, 1, .return_, 0, []), (19, 1, .aload_n 0, 0, [0]), (20, 1, .iconst 0, 0, []), (21, 3, .invokevirtual 108, 0, [143, 2, 1, 2, 0]), (24, 2, .bipush 62, 62, []), (26, 3, .if_icmp .ne (22), 0, [48]), (29, 1, .aload_n 0, 0, [0]), (30, 3, .getfield 39, 0, [2, 2, 1]), (33, 1, .iconst 1, 1, []), (34, 1, .aload_n 0, 0, [0]), (35, 3, .getfield 18, 0, [2, 5, 0]), (38, 1, .aload_n 0, 0, [0]), (39, 3, .getfield 28, 0, [2, 8, 3]), (42, 3, .invokevirtual 60, 0, [148, 4, 1, 3, 0]), (45, 3, .goto (8), 0, [53]), (48, 1, .aload_n 0, 0, [0]), (49, 1, .iload_n 2, 0, [2]), (50, 3, .invokevirtual 131, 0, [135, 2, 1, 2, 0]), (53, 1, .istore_n 3, 0, [3]), (54, 1, .aload_n 0, 0, [0]), (55, 1, .aload_n 0, 0, [0]), (56, 1, .iload_n 2, 0, [2]), (57, 3, .invokevirtual 108, 0, [143, 2, 1, 2, 0]), (60, 2, .bipush 32, 32, []), (62, 3, .if_icmp .ne (9), 0, [71]), (65, 1, .iload_n 2, 0, [2]), (66, 1, .iconst 1, 1, []), (67, 1, .iadd, 0, []), (68, 3, .goto (4), 0, [72]), (71, 1, .iload_n 2, 0, [2]), (72, 1, .iload_n 3, 0, [3]), (73, 3, .invokevirtual 111, 0, [144, 3, 1, 2, 0]), (76, 1, .aload_n 0, 0, [0]), (77, 1, .iload_n 3, 0, [3]), (78, 3, .putfield 18, 0, [2, 5, 0]), (81, 1, .aload_n 0, 0, [0]), (82, 1, .iconst 1, 1, []), (83, 3, .putfield 24, 0, [2, 7, 3]), (86, 3, .iinc 1 1, 1, [1]), (89, 3, .goto (-87), 0, [2]), (92, 1, .return_, 0, [])]
def qw_133 : List (List Nat) := [[], [], [], [], [], [], [621, 0, 112, 623, 8], [], [], [], [], [], [], [580, 0, 112, 582, 3], [], [], [], [239], [], [], [242], [], [245], [536, 0, 110, 537, 538], [], [], [], [628, 0, 112, 630, 9], [], [], [], [], [580, 0, 112, 582, 3], [], [], [], [], [], [], [], [], [585, 0, 112, 587, 4], [], [], [242], [], [], [244], [], [], []]
/-- 134: Marktongue$BlockReader.markerSize()I -/
def qc_134 : List (Nat × qI) := [(0, 1, .aload_n 0, 0, [0]), (1, 1, .iconst 0, 0, []), (2, 3, .invokevirtual 108, 0, [143, 2, 1, 2, 0]), (5, 1, .istore_n 1, 0, [1]), (6, 1, .iload_n 1, 0, [1]), (7, 2, .bipush 62, 62, []), (9, 3, .if_icmp .ne (5), 0, [14]), (12, 1, .iconst 1, 1, []), (13, 1, .ireturn, 0, [0]), (14, 1, .iconst 0, 0, []), (15, 1, .istore_n 2, 0, [2]), (16, 1, .iload_n 1, 0, [1]), (17, 2, .bipush 45, 45, []), (19, 3, .if_icmp .eq (9), 0, [28]), (22, 1, .iload_n 1, 0, [1]), (23, 2, .bipush 43, 43, []), (25, 3, .if_icmp .ne (8), 0, [33]), (28, 1, .iconst 1, 1, []), (29, 1, .istore_n 2, 0, [2]), (30, 3, .goto (27), 0, [57]), (33, 1, .iload_n 1, 0, [1]), (34, 2, .bipush 48, 48, []), (36, 3, .if_icmp .lt (21), 0, [57]), (39, 1, .iload_n 1, 0, [1]), (40, 2, .bipush 57, 57, []), (42, 3, .if_icmp .gt (15), 0, [57]), (45, 1, .aload_n 0, 0, [0]), (46, 1, .iconst 1, 1, []), (47, 3, .invokevirtual 108, 0, [143, 2, 1, 2, 0]), (50, 2, .bipush 46, 46, []), (52, 3, .if_icmp .ne (5), 0, [57]), (55, 1, .iconst 2, 2, []), (56, 1, .istore_n 2, 0, [2]), (57, 1, .iload_n 2, 0, [2]), (58, 3, .ifCond .le (18), 0, [76]), (61, 1, .aload_n 0, 0, [0]), (62, 1, .iload_n 2, 0, [2]), (63, 3, .invokevirtual 108, 0, [143, 2, 1, 2, 0]), (66, 3, .invokestatic 134, 0, [38, 1, 0, 0, 0]), (69, 3, .ifCond .eq (7), 0, [76]), (72, 1, .iload_n 2, 0, [2]), (73, 3, .goto (4), 0, [77]), (76, 1, .iconst 0, 0, []), (77, 1, .ireturn, 0, [0])]
def qw_134 : List (List Nat) := [[], [], [580, 0, 112, 582, 3], [], [], [], [], [], [], [], [], [], [], [], [], [], [], [], [], [], [], [], [], [], [], [], [], [], [580, 0, 112, 582, 3], [], [], [], [], [], [], [], [], [580, 0, 112, 582, 3], [625, 1, 107, 626], [], [], [], [], []]
/-- 135: Marktongue$BlockReader.putItem(I)I -/
def qc_135 : List (Nat × qI) := [(0, 1, .iload_n 1, 0, [1]), (1, 1, .iconst 2, 2, []), (2, 3, .if_icmp .ne (8), 0, [10]), (5, 2, .bipush 48, 48, []), (7, 3, .goto (8), 0, [15]), (10, 1, .aload_n 0, 0, [0]), (11, 1, .iconst 0, 0, []), (12, 3, .invokevirtual 108, 0, [143, 2, 1, 2, 0]), (15, 1, .istore_n 2, 0, [2]), (16, 1, .aload_n 0, 0, [0]), (17, 3, .getfield 39, 0, [2, 2, 1]), (20, 1, .aload_n 0, 0, [0]), (21, 3, .getfield 18, 0, [2, 5, 0]), (24, 3, .invokevirtual 73, 0, [150, 2, 1, 3, 0]), (27, 1, .istore_n 3, 0, [3]), (28, 1, .aload_n 0, 0, [0]), (29, 3, .getfield 39, 0, [2, 2, 1]), (32, 1, .iload_n 3, 0, [3]), (33, 3, .invokevirtual 76, 0, [153, 2, 1, 3, 0]), (36, 1, .iconst 2, 2, []), (37, 3, .if_icmp .ne (15), 0, [52]), (40, 1, .aload_n 0, 0, [0]), (41, 3, .getfield 39, 0, [2, 2, 1]), (44, 1, .iload_n 3, 0, [3]), (45, 3, .invokevirtual 137, 0, [158, 2, 1, 3, 0]), (48, 1, .iload_n 2, 0, [2]), (49, 3, .if_icmp .eq (29), 0, [78]), (52, 1, .aload_n 0, 0, [0]), (53, 3, .getfield 39, 0, [2, 2, 1]), (56, 1, .iconst 2, 2, []), (57, 1, .aload_n 0, 0, [0]), (58, 3, .getfield 18, 0, [2, 5, 0]), (61, 1, .aload_n 0, 0, [0]), (62, 3, .getfield 28, 0, [2, 8, 3]), (65, 3, .invokevirtual 60, 0, [148, 4, 1, 3, 0]), (68, 1, .istore_n 3, 0, [3]), (69, 1, .aload_n 0, 0, [0]), (70, 3, .getfield 39, 0, [2, 2, 1]), (73, 1, .iload_n 3, 0, [3]), (74, 1, .iload_n 2, 0, [2]), (75, 3, .invokevirtual 140, 0, [159, 3, 1, 3, 0]), (78, 1, .aload_n 0, 0, [0]), (79, 3, .getfield 39, 0, [2, 2, 1]), (82, 1, .iconst 3, 3, []), (83, 1, .iload_n 3, 0, [3]), (84, 1, .aload_n 0, 0, [0]), (85, 3, .getfield 28, 0, [2, 8, 3]), (88, 3, .invokevirtual 60, 0, [148, 4, 1, 3, 0]), (91, 2, .istore 4, 0, [4]), (93, 1, .aload_n 0, 0, [0]), (94, 3, .getfield 39, 0, [2, 2, 1]), (97, 2, .iload 4, 0, [4]), (99, 1, .iload_n 1, 0, [1]), (100, 1, .iconst 1, 1, []), (101, 1, .iadd, 0, []), (102, 3, .invokevirtual 143, 0, [157, 3, 1, 3, 0]), (105, 2, .iload 4, 0, [4]), (107, 1, .ireturn, 0, [0])]
def qw_135 : List (List Nat) := [[], [], [], [], [], [], [], [580, 0, 112, 582, 3], [], [], [239], [], [242], [564, 0, 110, 565, 566], [], [], [239], [], [576, 0, 110, 577, 578], [], [], [], [239], [], [632, 0, 110, 633, 634], [], [], [], [239], [], [], [242], [], [245], [536, 0, 110, 537, 538], [], [], [239], [], [], [636, 0, 110, 637, 638], [], [239], [], [], [], [245], [536, 0, 110, 537, 538], [], [], [239], [], [], [], [], [640, 0, 110, 641, 642], [], []]
/-- 136: Marktongue$BlockReader.readBlank()I -/
def qc_136 : List (Nat × qI) := [(0, 1, .aload_n 0, 0, [0]), (1, 3, .getfield 39, 0, [2, 2, 1]), (4, 1, .aload_n 0, 0, [0]), (5, 3, .getfield 18, 0, [2, 5, 0]), (8, 3, .invokevirtual 73, 0, [150, 2, 1, 3, 0]), (11, 1, .istore_n 1, 0, [1]), (12, 1, .iload_n 1, 0, [1]), (13, 1, .aload_n 0, 0, [0]), (14, 3, .getfield 21, 0, [2, 6, 0]), (17, 3, .if_icmp .ne (8), 0, [25]), (20, 1, .iload_n 1, 0, [1]), (21, 1, .iconst (-1), -1, []), (22, 3, .if_icmp .ne (16), 0, [38]), (25, 1, .aload_n 0, 0, [0]), (26, 3, .getfield 39, 0, [2, 2, 1]), (29, 1, .iload_n 1, 0, [1]), (30, 3, .invokevirtual 76, 0, [153, 2, 1, 3, 0]), (33, 2, .bipush 6, 6, []), (35, 3, .if_icmp .ne (11), 0, [46]), (38, 1, .aload_n 0, 0, [0]), (39, 3, .getfield 39, 0, [2, 2, 1]), (42, 1, .iload_n 1, 0, [1]), (43, 3, .invokevirtual 121, 0, [149, 2, 1, 3, 0]), (46, 1, .aload_n 0, 0, [0]), (47, 3, .getfield 18, 0, [2, 5, 0]), (50, 1, .ireturn, 0, [0])]
def qw_136 : List (List Nat) := [[], [239], [], [242], [564, 0, 110, 565, 566], [], [], [], [243], [], [], [], [], [], [239], [], [576, 0, 110, 577, 578], [], [], [], [239], [], [609, 0, 110, 610, 611], [], [242], []]
/-- 137: Marktongue$BlockReader.readLeaf(I)I -/
def qc_137 : List (Nat × qI) := [(0, 1, .aload_n 0, 0, [0]), (1, 3, .invokevirtual 146, 0, [140, 1, 1, 2, 0]), (4, 1, .istore_n 2, 0, [2]), (5, 1, .iload_n 2, 0, [2]), (6, 3, .ifCond .le (10), 0, [16]), (9, 1, .aload_n 0, 0, [0]), (10, 1, .iload_n 1, 0, [1]), (11, 1, .iload_n 2, 0, [2]), (12, 3, .invokevirtual 149, 0, [138, 3, 1, 2, 0]), (15, 1, .ireturn, 0, [0]), (16, 1, .aload_n 0, 0, [0]), (17, 3, .invokevirtual 117, 0, [141, 1, 1, 2, 0]), (20, 3, .ifCond .eq (10), 0, [30]), (23, 1, .aload_n 0, 0, [0]), (24, 1, .iconst 5, 5, []), (25, 1, .iload_n 1, 0, [1]), (26, 3, .invokevirtual 153, 0, [139, 3, 1, 2, 0]), (29, 1, .ireturn, 0, [0]), (30, 1, .aload_n 0, 0, [0]), (31, 3, .getfield 39, 0, [2, 2, 1]), (34, 3, .invokevirtual 156, 0, [151, 1, 1, 3, 0]), (37, 1, .istore_n 3, 0, [3]), (38, 1, .aload_n 0, 0, [0]), (39, 3, .getfield 39, 0, [2, 2, 1]), (42, 1, .iload_n 3, 0, [3]), (43, 3, .invokevirtual 76, 0, [153, 2, 1, 3, 0]), (46, 2, .bipush 6, 6, []), (48, 3, .if_icmp .ne (20), 0, [68]), (51, 1, .aload_n 0, 0, [0]), (52, 3, .getfield 24, 0, [2, 7, 3]), (55, 3, .ifCond .ne (13), 0, [68]), (58, 1, .aload_n 0, 0, [0]), (59, 3, .getfield 39, 0, [2, 2, 1]), (62, 1, .iload_n 3, 0, [3]), (63, 3, .invokevirtual 125, 0, [163, 2, 1, 3, 0]), (66, 1, .iload_n 3, 0, [3]), (67, 1, .ireturn, 0, [0]), (68, 1, .aload_n 0, 0, [0]), (69, 3, .invokevirtual 159, 0, [142, 1, 1, 2, 0]), (72, 2, .lstore 4, 0, [4]), (74, 2, .lload 4, 0, [4]), (76, 1, .lconst 0, 0, []), (77, 1, .lcmp, 0, []), (78, 3, .ifCond .eq (35), 0, [113]), (81, 1, .aload_n 0, 0, [0]), (82, 2, .bipush 7, 7, []), (84, 1, .iload_n 1, 0, [1]), (85, 3, .invokevirtual 153, 0, [139, 3, 1, 2, 0]), (88, 2, .istore 6, 0, [6]), (90, 1, .aload_n 0, 0, [0]), (91, 3, .getfield 39, 0, [2, 2, 1]), (94, 2, .lload 4, 0, [4]), (96, 2, .iload 6, 0, [6]), (98, 3, .invokevirtual 163, 0, [170, 3, 1, 3, 0]), (101, 1, .aload_n 0, 0, [0]), (102, 3, .getfield 39, 0, [2, 2, 1]), (105, 2, .iload 6, 0, [6]), (107, 3, .invokevirtual 121, 0, [149, 2, 1, 3, 0]), (110, 2, .iload 6, 0, [6]), (112, 1, .ireturn, 0, [0]), (113, 1, .aload_n 0, 0, [0]), (114, 2, .bipush 6, 6, []), (116, 1, .iload_n 1, 0, [1]), (117, 3, .invokevirtual 153, 0, [139, 3, 1, 2, 0]), (120, 1, .istore_n 3, 0, [3]), (121, 1, .aload_n 0, 0, [0]), (122, 3, .getfield 39, 0, [2, 2, 1]), (125, 1, .iload_n 3, 0, [3]), (126, 3, .invokevirtual 125, 0, [163, 2, 1, 3, 0]), (129, 1, .iload_n 3, 0, [3]), (130, 1, .ireturn, 0, [0])]
def qw_137 : List (List Nat) := [[], [652, 0, 112, 654, 12], [], [], [], [], [], [], [656, 0, 112, 658, 13], [], [], [605, 0, 112, 607, 6], [], [], [], [], [660, 0, 112, 662, 14], [], [], [239], [690, 0, 110, 691, 692], [], [], [239], [], [576, 0, 110, 577, 578], [], [], [], [244], [], [], [239], [], [613, 0, 110, 614, 615], [], [], [], [695, 0, 112, 697, 15], [], [], [], [], [], [], [], [], [660, 0, 112, 662, 14], [], [], [239], [], [], [706, 0, 110, 707, 708], [], [239], [], [609, 0, 110, 610, 611], [], [], [], [], [], [660, 0, 112, 662, 14], [], [], [239], [], [613, 0, 110, 614, 615], [], []]
/-- 138: Marktongue$BlockReader.putHeading(II)I -/
def qc_138 : List (Nat × qI) := [(0, 1, .aload_n 0, 0, [0]), (1, 1, .iconst 4, 4, []), (2, 1, .iload_n 1, 0, [1]), (3, 3, .invokevirtual 153, 0, [139, 3, 1, 2, 0]), (6, 1, .istore_n 3, 0, [3]), (7, 1, .aload_n 0, 0, [0]), (8, 3, .getfield 39, 0, [2, 2, 1]), (11, 1, .iload_n 3, 0, [3]), (12, 1, .iload_n 2, 0, [2]), (13, 3, .invokevirtual 143, 0, [157, 3, 1, 3, 0]), (16, 1, .aload_n 0, 0, [0]), (17, 3, .getfield 39, 0, [2, 2, 1]), (20, 1, .iload_n 3, 0, [3]), (21, 3, .invokevirtual 125, 0, [163, 2, 1, 3, 0]), (24, 1, .aload_n 0, 0, [0]), (25, 3, .getfield 39, 0, [2, 2, 1]), (28, 1, .iload_n 1, 0, [1]), (29, 1, .aload_n 0, 0, [0]), (30, 3, .getfield 9, 0, [2, 3, 0]), (33, 1, .iload_n 2, 0, [2]), (34, 1, .iadd, 0, []), (35, 3, .invokevirtual 95, 0, [165, 3, 1, 3, 0]), (38, 1, .aload_n 0, 0, [0]), (39, 3, .getfield 39, 0, [2, 2, 1]), (42, 1, .aload_n 0, 0, [0]), (43, 3, .getfield 31, 0, [2, 0, 1]), (46, 1, .aload_n 0, 0, [0]), (47, 3, .getfield 9, 0, [2, 3, 0]), (50, 1, .iload_n 2, 0, [2]), (51, 1, .iadd, 0, []), (52, 1, .aload_n 0, 0, [0]), (53, 3, .getfield 15, 0, [2, 4, 0]), (56, 3, .invokestatic 167, 0, [43, 3, 0, 0, 0]), (59, 1, .iload_n 3, 0, [3]), (60, 3, .invokevirtual 171, 0, [171, 3, 1, 3, 0]), (63, 1, .aload_n 0, 0, [0]), (64, 3, .getfield 39, 0, [2, 2, 1]), (67, 1, .iload_n 3, 0, [3]), (68, 3, .invokevirtual 121, 0, [149, 2, 1, 3, 0]), (71, 1, .iload_n 3, 0, [3]), (72, 1, .ireturn, 0, [0])]
def qw_138 : List (List Nat) := [[], [], [], [660, 0, 112, 662, 14], [], [], [239], [], [], [640, 0, 110, 641, 642], [], [239], [], [613, 0, 110, 614, 615], [], [239], [], [], [240], [], [], [668, 0, 110, 669, 670], [], [239], [], [237], [], [240], [], [], [], [241], [672, 1, 107, 673], [], [680, 0, 110, 681, 682], [], [239], [], [609, 0, 110, 610, 611], [], []]
/-- 139: Marktongue$BlockReader.putLeaf(II)I -/
def qc_139 : List (Nat × qI) := [(0, 1, .aload_n 0, 0, [0]), (1, 3, .getfield 39, 0, [2, 2, 1]), (4, 1, .iload_n 1, 0, [1]), (5, 1, .aload_n 0, 0, [0]), (6, 3, .getfield 18, 0, [2, 5, 0]), (9, 1, .aload_n 0, 0, [0]), (10, 3, .getfield 28, 0, [2, 8, 3]), (13, 3, .invokevirtual 60, 0, [148, 4, 1, 3, 0]), (16, 1, .istore_n 3, 0, [3]), (17, 1, .aload_n 0, 0, [0]), (18, 3, .getfield 39, 0, [2, 2, 1]), (21, 1, .iload_n 3, 0, [3]), (22, 1, .iload_n 2, 0, [2]), (23, 3, .invokevirtual 174, 0, [162, 3, 1, 3, 0]), (26, 1, .iload_n 3, 0, [3]), (27, 1, .ireturn, 0, [0])]
def qw_139 : List (List Nat) := [[], [239], [], [], [242], [], [245], [536, 0, 110, 537, 538], [], [], [239], [], [], [664, 0, 110, 665, 666], [], []]
/-- 140: Marktongue$BlockReader.headingLevel()I -/
def qc_140 : List (Nat × qI) := [(0, 1, .iconst 0, 0, []), (1, 1, .istore_n 1, 0, [1]), (2, 1, .iconst 0, 0, []), (3, 1, .istore_n 2, 0, [2]), (4, 1, .iload_n 2, 0, [2]), (5, 1, .iconst 3, 3, []), (6, 3, .if_icmp .ge (22), 0, [28]), (9, 1, .aload_n 0, 0, [0]), (10, 1, .iload_n 2, 0, [2]), (11, 3, .invokevirtual 108, 0, [143, 2, 1, 2, 0]), (14, 2, .bipush 35, 35, []), (16, 3, .if_icmp .ne (12), 0, [28]), (19, 3, .iinc 1 1, 1, [1]), (22, 3, .iinc 2 1, 1, [2]), (25, 3, .goto (-21), 0, [4]), (28, 1, .aload_n 0, 0, [0]), (29, 1, .iload_n 1, 0, [1]), (30, 3, .invokevirtual 108, 0, [143, 2, 1, 2, 0]), (33, 3, .invokestatic 134, 0, [38, 1, 0, 0, 0]), (36, 3, .ifCond .eq (7), 0, [43]), (39, 1, .iload_n 1, 0, [1]), (40, 3, .goto (4), 0, [44]), (43, 1, .iconst 0, 0, []), (44, 1, .ireturn, 0, [0])]
def qw_140 : List (List Nat) := [[], [], [], [], [], [], [], [], [], [580, 0, 112, 582, 3], [], [], [], [], [], [], [], [580, 0, 112, 582, 3], [625, 1, 107, 626], [], [], [], [], []]
/-- 141: Marktongue$BlockReader.isFenceMark()Z -/
def qc_141 : List (Nat × qI) := [(0, 1, .aload_n 0, 0, [0]), (1, 1, .iconst 0, 0, []), (2, 3, .invokevirtual 108, 0, [143, 2, 1, 2, 0]), (5, 2, .bipush 126, 126, []), (7, 3, .if_icmp .ne (51), 0, [58]), (10, 1, .aload_n 0, 0, [0]), (11, 1, .iconst 1, 1, []), (12, 3, .invokevirtual 108, 0, [143, 2, 1, 2, 0]), (15, 2, .bipush 126, 126, []), (17, 3, .if_icmp .ne (41), 0, [58]), (20, 1, .aload_n 0, 0, [0]), (21, 1, .iconst 2, 2, []), (22, 3, .invokevirtual 108, 0, [143, 2, 1, 2, 0]), (25, 2, .bipush 126, 126, []), (27, 3, .if_icmp .ne (31), 0, [58]), (30, 1, .aload_n 0, 0, [0]), (31, 3, .getfield 31, 0, [2, 0, 1]), (34, 1, .aload_n 0, 0, [0]), (35, 3, .getfield 9, 0, [2, 3, 0]), (38, 1, .iconst 3, 3, []), (39, 1, .iadd, 0, []), (40, 1, .aload_n 0, 0, [0]), (41, 3, .getfield 15, 0, [2, 4, 0]), (44, 3, .invokestatic 85, 0, [39, 3, 0, 0, 0]), (47, 1, .aload_n 0, 0, [0]), (48, 3, .getfield 15, 0, [2, 4, 0]), (51, 3, .if_icmp .ne (7), 0, [58]), (54, 1, .iconst 1, 1, []), (55, 3, .goto (4), 0, [59]), (58, 1, .iconst 0, 0, []), (59, 1, .ireturn, 0, [3])]
def qw_141 : List (List Nat) := [[], [], [580, 0, 112, 582, 3], [], [], [], [], [580, 0, 112, 582, 3], [], [], [], [], [580, 0, 112, 582, 3], [], [], [], [237], [], [240], [], [], [], [241], [593, 1, 107, 594], [], [241], [], [], [], [], []]
/-- 142: Marktongue$BlockReader.definedName()J -/
def qc_142 : List (Nat × qI) := [(0, 1, .aload_n 0, 0, [0]), (1, 3, .getfield 31, 0, [2, 0, 1]), (4, 1, .aload_n 0, 0, [0]), (5, 3, .getfield 9, 0, [2, 3, 0]), (8, 1, .iconst 1, 1, []), (9, 1, .iadd, 0, []), (10, 1, .aload_n 0, 0, [0]), (11, 3, .getfield 15, 0, [2, 4, 0]), (14, 3, .invokestatic 177, 0, [41, 3, 0, 0, 0]), (17, 1, .istore_n 1, 0, [1]), (18, 1, .iload_n 1, 0, [1]), (19, 1, .iconst 2, 2, []), (20, 1, .iadd, 0, []), (21, 1, .istore_n 2, 0, [2]), (22, 1, .aload_n 0, 0, [0]), (23, 1, .iconst 0, 0, []), (24, 3, .invokevirtual 108, 0, [143, 2, 1, 2, 0]), (27, 2, .bipush 91, 91, []), (29, 3, .if_icmp .ne (35), 0, [64]), (32, 1, .aload_n 0, 0, [0]), (33, 1, .iload_n 1, 0, [1]), (34, 1, .aload_n 0, 0, [0]), (35, 3, .getfield 9, 0, [2, 3, 0]), (38, 1, .isub, 0, []), (39, 3, .invokevirtual 108, 0, [143, 2, 1, 2, 0]), (42, 2, .bipush 93, 93, []), (44, 3, .if_icmp .ne (20), 0, [64]), (47, 1, .aload_n 0, 0, [0]), (48, 1, .iload_n 1, 0, [1]), (49, 1, .iconst 1, 1, []), (50, 1, .iadd, 0, []), (51, 1, .aload_n 0, 0, [0]), (52, 3, .getfield 9, 0, [2, 3, 0]), (55, 1, .isub, 0, []), (56, 3, .invokevirtual 108, 0, [143, 2, 1, 2, 0]), (59, 2, .bipush 58, 58, []), (61, 3, .if_icmp .eq (5), 0, [66]), (64, 1, .lconst 0, 0, []), (65, 1, .lreturn, 0, []), (66, 1, .aload_n 0, 0, [0]), (67, 3, .getfield 31, 0, [2, 0, 1]), (70, 1, .iload_n 2, 0, [2]), (71, 1, .aload_n 0, 0, [0]), (72, 3, .getfield 15, 0, [2, 4, 0]), (75, 3, .invokestatic 85, 0, [39, 3, 0, 0, 0]), (78, 1, .istore_n 3, 0, [3]), (79, 1, .aload_n 0, 0, [0]), (80, 3, .getfield 31, 0, [2, 0, 1]), (83, 1, .iload_n 3, 0, [3]), (84, 1, .aload_n 0, 0, [0]), (85, 3, .getfield 15, 0, [2, 4, 0]), (88, 3, .invokestatic 177, 0, [41, 3, 0, 0, 0]), (91, 2, .istore 4, 0, [4]), (93, 2, .iload 4, 0, [4]), (95, 1, .iload_n 3, 0, [3]), (96, 1, .isub, 0, []), (97, 2, .istore 5, 0, [5]), (99, 1, .iload_n 3, 0, [3]), (100, 1, .iload_n 2, 0, [2]), (101, 3, .if_icmp .eq (36), 0, [137]), (104, 2, .iload 5, 0, [5]), (106, 1, .iconst 1, 1, []), (107, 3, .if_icmp .lt (30), 0, [137]), (110, 2, .iload 5, 0, [5]), (112, 2, .bipush 8, 8, []), (114, 3, .if_icmp .gt (23), 0, [137]), (117, 1, .aload_n 0, 0, [0]), (118, 3, .getfield 31, 0, [2, 0, 1]), (121, 2, .iload 4, 0, [4]), (123, 1, .aload_n 0, 0, [0]), (124, 3, .getfield 15, 0, [2, 4, 0]), (127, 3, .invokestatic 85, 0, [39, 3, 0, 0, 0]), (130, 1, .aload_n 0, 0, [0]), (131, 3, .getfield 15, 0, [2, 4, 0]), (134, 3, .if_icmp .ge (5), 0, [139]), (137, 1, .lconst 0, 0, []), (138, 1, .lreturn, 0, []), (139, 1, .aload_n 0, 0, [0]), (140, 3, .getfield 31, 0, [2, 0, 1]), (143, 1, .aload_n 0, 0, [0]), (144, 3, .getfield 9, 0, [2, 3, 0]), (147, 1, .iconst 1, 1, []), (148, 1, .iadd, 0, []), (149, 1, .iload_n 1, 0, [1]), (150, 3, .invokestatic 180, 0, [42, 3, 0, 0, 0]), (153, 1, .lreturn, 0, [])]
def qw_142 : List (List Nat) := [[], [237], [], [240], [], [], [], [241], [699, 1, 107, 700], [], [], [], [], [], [], [], [580, 0, 112, 582, 3], [], [], [], [], [], [240], [], [580, 0, 112, 582, 3], [], [], [], [], [], [], [], [240], [], [580, 0, 112, 582, 3], [], [], [], [], [], [237], [], [], [241], [593, 1, 107, 594], [], [], [237], [], [], [241], [699, 1, 107, 700], [], [], [], [], [], [], [], [], [], [], [], [], [], [], [], [237], [], [], [241], [593, 1, 107, 594], [], [241], [], [], [], [], [237], [], [240], [], [], [], [702, 1, 107, 703], []]
/-- 143: Marktongue$BlockReader.look(I)I -/
def qc_143 : List (Nat × qI) := [(0, 1, .aload_n 0, 0, [0]), (1, 3, .getfield 9, 0, [2, 3, 0]), (4, 1, .iload_n 1, 0, [1]), (5, 1, .iadd, 0, []), (6, 1, .aload_n 0, 0, [0]), (7, 3, .getfield 15, 0, [2, 4, 0]), (10, 3, .if_icmp .ge (19), 0, [29]), (13, 1, .aload_n 0, 0, [0]), (14, 3, .getfield 31, 0, [2, 0, 1]), (17, 1, .aload_n 0, 0, [0]), (18, 3, .getfield 9, 0, [2, 3, 0]), (21, 1, .iload_n 1, 0, [1]), (22, 1, .iadd, 0, []), (23, 3, .invokevirtual 183, 0, [224, 2, 1, 10, 0]), (26, 3, .goto (4), 0, [30]), (29, 1, .iconst (-1), -1, []), (30, 1, .ireturn, 0, [0])]
def qw_143 : List (List Nat) := [[], [240], [], [], [], [241], [], [], [237], [], [240], [], [], [584, 0, 108, 508, 509], [], [], []]
/-- 144: Marktongue$BlockReader.takeOff(II)V -/
def qc_144 : List (Nat × qI) := [(0, 1, .iconst 0, 0, []), (1, 1, .istore_n 3, 0, [3]), (2, 1, .iload_n 3, 0, [3]), (3, 1, .iload_n 1, 0, [1]), (4, 3, .if_icmp .ge (31), 0, [35]), (7, 1, .aload_n 0, 0, [0]), (8, 3, .getfield 39, 0, [2, 2, 1]), (11, 1, .aload_n 0, 0, [0]), (12, 3, .getfield 9, 0, [2, 3, 0]), (15, 1, .iload_n 2, 0, [2]), (16, 3, .invokevirtual 186, 0, [169, 3, 1, 3, 0]), (19, 1, .aload_n 0, 0, [0]), (20, 1, .dup, 0, []), (21, 3, .getfield 9, 0, [2, 3, 0]), (24, 1, .iconst 1, 1, []), (25, 1, .iadd, 0, []), (26, 3, .putfield 9, 0, [2, 3, 0]), (29, 3, .iinc 3 1, 1, [3]), (32, 3, .goto (-30), 0, [2]), (35, 1, .return_, 0, [])]
def qw_144 : List (List Nat) := [[], [], [], [], [], [], [239], [], [240], [], [589, 0, 110, 590, 591], [], [], [240], [], [], [240], [], [], []]
/-- 145: Marktongue$BlockReader.ownRest(II)V -/
def qc_145 : List (Nat × qI) := [(0, 1, .aload_n 0, 0, [0]), (1, 3, .getfield 39, 0, [2, 2, 1]), (4, 1, .iload_n 1, 0, [1]), (5, 1, .iload_n 2, 0, [2]), (6, 3, .invokevirtual 189, 0, [167, 3, 1, 3, 0]), (9, 1, .aload_n 0, 0, [0]), (10, 3, .getfield 9, 0, [2, 3, 0]), (13, 1, .istore_n 3, 0, [3]), (14, 1, .iload_n 3, 0, [3]), (15, 1, .aload_n 0, 0, [0]), (16, 3, .getfield 15, 0, [2, 4, 0]), (19, 3, .if_icmp .gt (18), 0, [37]), (22, 1, .aload_n 0, 0, [0]), (23, 3, .getfield 39, 0, [2, 2, 1]), (26, 1, .iload_n 3, 0, [3]), (27, 1, .iload_n 2, 0, [2]), (28, 3, .invokevirtual 186, 0, [169, 3, 1, 3, 0]), (31, 3, .iinc 3 1, 1, [3]), (34, 3, .goto (-20), 0, [14]), (37, 1, .return_, 0, [])]
def qw_145 : List (List Nat) := [[], [239], [], [], [714, 0, 110, 715, 716], [], [240], [], [], [], [241], [], [], [239], [], [], [589, 0, 110, 590, 591], [], [], []]
/-- 146: Marktongue$Blocks.<init>()V -/
def qc_146 : List (Nat × qI) := [(0, 1, .aload_n 0, 0, [0]), (1, 3, .invokespecial 3, 0, [0, 1, 2, 0, 0]), (4, 1, .aload_n 0, 0, [0]), (5, 3, .new 9, 0, [10, 2, 0]), (8, 1, .dup, 0, []), (9, 3, .sipush 482, 482, []), (12, 3, .invokespecial 11, 0, [222, 2, 1, 10, 0]), (15, 3, .putfield 14, 0, [3, 0, 1]), (18, 1, .aload_n 0, 0, [0]), (19, 3, .new 9, 0, [10, 2, 0]), (22, 1, .dup, 0, []), (23, 3, .sipush 482, 482, []), (26, 3, .invokespecial 11, 0, [222, 2, 1, 10, 0]), (29, 3, .putfield 20, 0, [3, 1, 1]), (32, 1, .aload_n 0, 0, [0]), (33, 3, .new 9, 0, [10, 2, 0]), (36, 1, .dup, 0, []), (37, 3, .sipush 482, 482, []), (40, 3, .invokespecial 11, 0, [222, 2, 1, 10, 0]), (43, 3, .putfield 23, 0, [3, 2, 1]), (46, 1, .aload_n 0, 0, [0]), (47, 3, .new 9, 0, [10, 2, 0]), (50, 1, .dup, 0, []), (51, 3, .sipush 482, 482, []), (54, 3, .invokespecial 11, 0, [222, 2, 1, 10, 0]), (57, 3, .putfield 26, 0, [3, 3, 1]), (60, 1, .aload_n 0, 0, [0]), (61, 3, .new 9, 0, [10, 2, 0]), (64, 1, .dup, 0, []), (65, 3, .sipush 482, 482, []), (68, 3, .invokespecial 11, 0, [222, 2, 1, 10, 0]), (71, 3, .putfield 29, 0, [3, 4, 1]), (74, 1, .aload_n 0, 0, [0]), (75, 3, .new 9, 0, [10, 2, 0]), (78, 1, .dup, 0, []), (79, 3, .sipush 482, 482, []), (82, 3, .invokespecial 11, 0, [222, 2, 1, 10, 0]), (85, 3, .putfield 32, 0, [3, 5, 1]), (88, 1, .aload_n 0, 0, [0]), (89, 3, .new 9, 0, [10, 2, 0]), (92, 1, .dup, 0, []), (93, 3, .sipush 482, 482, []), (96, 3, .invokespecial 11, 0, [222, 2, 1, 10, 0]), (99, 3, .putfield 35, 0, [3, 6, 1]), (102, 1, .aload_n 0, 0, [0]), (103, 3, .new 9, 0, [10, 2, 0]), (106, 1, .dup, 0, []), (107, 3, .sipush 482, 482, []), (110, 3, .invokespecial 11, 0, [222, 2, 1, 10, 0]), (113, 3, .putfield 38, 0, [3, 7, 1]), (116, 1, .aload_n 0, 0, [0]), (117, 3, .new 9, 0, [10, 2, 0]), (120, 1, .dup, 0, []), (121, 3, .sipush 241, 241, []), (124, 3, .invokespecial 11, 0, [222, 2, 1, 10, 0]), (127, 3, .putfield 41, 0, [3, 8, 1]), (130, 1, .aload_n 0, 0, [0]), (131, 3, .new 9, 0, [10, 2, 0]), (134, 1, .dup, 0, []), (135, 3, .sipush 241, 241, []), (138, 3, .invokespecial 11, 0, [222, 2, 1, 10, 0]), (141, 3, .putfield 44, 0, [3, 9, 1]), (144, 1, .aload_n 0, 0, [0]), (145, 3, .new 9, 0, [10, 2, 0]), (148, 1, .dup, 0, []), (149, 3, .sipush 240, 240, []), (152, 3, .invokespecial 11, 0, [222, 2, 1, 10, 0]), (155, 3, .putfield 47, 0, [3, 10, 1]), (158, 1, .aload_n 0, 0, [0]), (159, 3, .new 50, 0, [7, 2, 0]), (162, 1, .dup, 0, []), (163, 3, .invokespecial 52, 0, [206, 1, 1, 7, 0]), (166, 3, .putfield 53, 0, [3, 11, 1]), (169, 1, .aload_n 0, 0, [0]), (170, 3, .new 50, 0, [7, 2, 0]), (173, 1, .dup, 0, []), (174, 3, .invokespecial 52, 0, [206, 1, 1, 7, 0]), (177, 3, .putfield 57, 0, [3, 12, 1]), (180, 1, .return_, 0, [])]
def qw_146 : List (List Nat) := [[], [172, 133, 134], [], [173, 136, 108], [], [], [174, 0, 108, 138], [191], [], [173, 136, 108], [], [], [174, 0, 108, 138], [192], [], [173, 136, 108], [], [], [174, 0, 108, 138], [193], [], [173, 136, 108], [], [], [174, 0, 108, 138], [194], [], [173, 136, 108], [], [], [174, 0, 108, 138], [195], [], [173, 136, 108], [], [], [174, 0, 108, 138], [196], [], [173, 136, 108], [], [], [174, 0, 108, 138], [197], [], [173, 136, 108], [], [], [174, 0, 108, 138], [198], [], [173, 136, 108], [], [], [174, 0, 108, 138], [199], [], [173, 136, 108], [], [], [174, 0, 108, 138], [200], [], [173, 136, 108], [], [], [174, 0, 108, 138], [201], [], [175, 176, 111], [], [177, 1, 111, 178], [202], [], [175, 176, 111], [], [177, 1, 111, 178], [203], []]
/-- 147: Marktongue$Blocks.start(II)V -/
def qc_147 : List (Nat × qI) := [(0, 1, .aload_n 0, 0, [0]), (1, 3, .getfield 14, 0, [3, 0, 1]), (4, 3, .invokevirtual 60, 0, [227, 1, 1, 10, 0]), (7, 1, .aload_n 0, 0, [0]), (8, 3, .getfield 20, 0, [3, 1, 1]), (11, 3, .invokevirtual 60, 0, [227, 1, 1, 10, 0]), (14, 1, .aload_n 0, 0, [0]), (15, 3, .getfield 23, 0, [3, 2, 1]), (18, 3, .invokevirtual 60, 0, [227, 1, 1, 10, 0]), (21, 1, .aload_n 0, 0, [0]), (22, 3, .getfield 26, 0, [3, 3, 1]), (25, 3, .invokevirtual 60, 0, [227, 1, 1, 10, 0]), (28, 1, .aload_n 0, 0, [0]), (29, 3, .getfield 29, 0, [3, 4, 1]), (32, 3, .invokevirtual 60, 0, [227, 1, 1, 10, 0]), (35, 1, .aload_n 0, 0, [0]), (36, 3, .getfield 32, 0, [3, 5, 1]), (39, 3, .invokevirtual 60, 0, [227, 1, 1, 10, 0]), (42, 1, .aload_n 0, 0, [0]), (43, 3, .getfield 35, 0, [3, 6, 1]), (46, 3, .invokevirtual 60, 0, [227, 1, 1, 10, 0]), (49, 1, .aload_n 0, 0, [0]), (50, 3, .getfield 38, 0, [3, 7, 1]), (53, 3, .invokevirtual 60, 0, [227, 1, 1, 10, 0]), (56, 1, .aload_n 0, 0, [0]), (57, 3, .getfield 41, 0, [3, 8, 1]), (60, 1, .iload_n 2, 0, [2]), (61, 1, .iconst 0, 0, []), (62, 3, .invokevirtual 63, 0, [229, 3, 1, 10, 0]), (65, 1, .aload_n 0, 0, [0]), (66, 3, .getfield 44, 0, [3, 9, 1]), (69, 1, .iload_n 2, 0, [2]), (70, 1, .iconst 0, 0, []), (71, 3, .invokevirtual 63, 0, [229, 3, 1, 10, 0]), (74, 1, .aload_n 0, 0, [0]), (75, 3, .getfield 47, 0, [3, 10, 1]), (78, 1, .iload_n 1, 0, [1]), (79, 1, .iconst 0, 0, []), (80, 3, .invokevirtual 63, 0, [229, 3, 1, 10, 0]), (83, 1, .aload_n 0, 0, [0]), (84, 3, .getfield 53, 0, [3, 11, 1]), (87, 3, .invokevirtual 67, 0, [207, 1, 1, 7, 0]), (90, 1, .aload_n 0, 0, [0]), (91, 3, .getfield 57, 0, [3, 12, 1]), (94, 3, .invokevirtual 67, 0, [207, 1, 1, 7, 0]), (97, 1, .return_, 0, [])]
def qw_147 : List (List Nat) := [[], [191], [524, 0, 108, 486, 487], [], [192], [524, 0, 108, 486, 487], [], [193], [524, 0, 108, 486, 487], [], [194], [524, 0, 108, 486, 487], [], [195], [524, 0, 108, 486, 487], [], [196], [524, 0, 108, 486, 487], [], [197], [524, 0, 108, 486, 487], [], [198], [524, 0, 108, 486, 487], [], [199], [], [], [525, 0, 108, 526, 527], [], [200], [], [], [525, 0, 108, 526, 527], [], [201], [], [], [525, 0, 108, 526, 527], [], [202], [531, 0, 111, 532, 533], [], [203], [531, 0, 111, 532, 533], []]
/-- 148: Marktongue$Blocks.add(IIZ)I -/
def qc_148 : List (Nat × qI) := [(0, 1, .aload_n 0, 0, [0]), (1, 3, .getfield 14, 0, [3, 0, 1]), (4, 1, .iload_n 2, 0, [2]), (5, 3, .invokevirtual 68, 0, [224, 2, 1, 10, 0]), (8, 1, .iconst 3, 3, []), (9, 3, .if_icmp .ne (14), 0, [23]), (12, 1, .aload_n 0, 0, [0]), (13, 3, .getfield 20, 0, [3, 1, 1]), (16, 1, .iload_n 2, 0, [2]), (17, 3, .invokevirtual 68, 0, [224, 2, 1, 10, 0]), (20, 3, .goto (4), 0, [24]), (23, 1, .iload_n 2, 0, [2]), (24, 2, .istore 4, 0, [4]), (26, 1, .iload_n 3, 0, [3]), (27, 3, .ifCond .eq (38), 0, [65]), (30, 1, .aload_n 0, 0, [0]), (31, 3, .getfield 26, 0, [3, 3, 1]), (34, 1, .iload_n 2, 0, [2]), (35, 3, .invokevirtual 68, 0, [224, 2, 1, 10, 0]), (38, 1, .iconst 1, 1, []), (39, 3, .if_icmp .ne (26), 0, [65]), (42, 1, .aload_n 0, 0, [0]), (43, 3, .getfield 14, 0, [3, 0, 1]), (46, 2, .iload 4, 0, [4]), (48, 3, .invokevirtual 68, 0, [224, 2, 1, 10, 0]), (51, 1, .iconst 2, 2, []), (52, 3, .if_icmp .ne (13), 0, [65]), (55, 1, .aload_n 0, 0, [0]), (56, 3, .getfield 29, 0, [3, 4, 1]), (59, 2, .iload 4, 0, [4]), (61, 1, .iconst 1, 1, []), (62, 3, .invokevirtual 72, 0, [225, 3, 1, 10, 0]), (65, 1, .aload_n 0, 0, [0]), (66, 3, .getfield 14, 0, [3, 0, 1]), (69, 3, .invokevirtual 75, 0, [223, 1, 1, 10, 0]), (72, 2, .istore 5, 0, [5]), (74, 1, .aload_n 0, 0, [0]), (75, 3, .getfield 14, 0, [3, 0, 1]), (78, 1, .iload_n 1, 0, [1]), (79, 3, .invokevirtual 79, 0, [226, 2, 1, 10, 0]), (82, 1, .aload_n 0, 0, [0]), (83, 3, .getfield 20, 0, [3, 1, 1]), (86, 1, .iload_n 2, 0, [2]), (87, 3, .invokevirtual 79, 0, [226, 2, 1, 10, 0]), (90, 1, .aload_n 0, 0, [0]), (91, 3, .getfield 23, 0, [3, 2, 1]), (94, 1, .iconst (-1), -1, []), (95, 3, .invokevirtual 79, 0, [226, 2, 1, 10, 0]), (98, 1, .aload_n 0, 0, [0]), (99, 3, .getfield 26, 0, [3, 3, 1]), (102, 1, .iconst 0, 0, []), (103, 3, .invokevirtual 79, 0, [226, 2, 1, 10, 0]), (106, 1, .aload_n 0, 0, [0]), (107, 3, .getfield 29, 0, [3, 4, 1]), (110, 1, .iconst 0, 0, []), (111, 3, .invokevirtual 79, 0, [226, 2, 1, 10, 0]), (114, 1, .aload_n 0, 0, [0]), (115, 3, .getfield 32, 0, [3, 5, 1]), (118, 1, .iconst (-1), -1, []), (119, 3, .invokevirtual 79, 0, [226, 2, 1, 10, 0]), (122, 1, .aload_n 0, 0, [0]), (123, 3, .getfield 35, 0, [3, 6, 1]), (126, 1, .iconst (-1), -1, []), (127, 3, .invokevirtual 79, 0, [226, 2, 1, 10, 0]), (130, 1, .aload_n 0, 0, [0]), (131, 3, .getfield 38, 0, [3, 7, 1]), (134, 1, .iconst 0, 0, []), (135, 3, .invokevirtual 79, 0, [226, 2, 1, 10, 0]), (138, 1, .aload_n 0, 0, [0]), (139, 3, .getfield 26, 0, [3, 3, 1]), (142, 1, .iload_n 2, 0, [2]), (143, 1, .iconst 1, 1, []), (144, 3, .invokevirtual 72, 0, [225, 3, 1, 10, 0]), (147, 1, .aload_n 0, 0, [0]), (148, 3, .getfield 23, 0, [3, 2, 1]), (151, 1, .iload_n 2, 0, [2]), (152, 2, .iload 5, 0, [5]), (154, 3, .invokevirtual 72, 0, [225, 3, 1, 10, 0]), (157, 2, .iload 5, 0, [5]), (159, 1, .ireturn, 0, [0])]
def qw_148 : List (List Nat) := [[], [191], [], [540, 0, 108, 508, 509], [], [], [], [192], [], [540, 0, 108, 508, 509], [], [], [], [], [], [], [194], [], [540, 0, 108, 508, 509], [], [], [], [191], [], [540, 0, 108, 508, 509], [], [], [], [195], [], [], [541, 0, 108, 542, 543], [], [191], [545, 0, 108, 478, 479], [], [], [191], [], [546, 0, 108, 503, 504], [], [192], [], [546, 0, 108, 503, 504], [], [193], [], [546, 0, 108, 503, 504], [], [194], [], [546, 0, 108, 503, 504], [], [195], [], [546, 0, 108, 503, 504], [], [196], [], [546, 0, 108, 503, 504], [], [197], [], [546, 0, 108, 503, 504], [], [198], [], [546, 0, 108, 503, 504], [], [194], [], [], [541, 0, 108, 542, 543], [], [193], [], [], [541, 0, 108, 542, 543], [], []]
/-- 149: Marktongue$Blocks.close(I)V -/
def qc_149 : List (Nat × qI) := [(0, 1, .aload_n 0, 0, [0]), (1, 3, .getfield 23, 0, [3, 2, 1]), (4, 1, .aload_n 0, 0, [0]), (5, 3, .getfield 20, 0, [3, 1, 1]), (8, 1, .iload_n 1, 0, [1]), (9, 3, .invokevirtual 68, 0, [224, 2, 1, 10, 0]), (12, 1, .iconst (-1), -1, []), (13, 3, .invokevirtual 72, 0, [225, 3, 1, 10, 0]), (16, 1, .return_, 0, [])]
def qw_149 : List (List Nat) := [[], [193], [], [192], [], [540, 0, 108, 508, 509], [], [541, 0, 108, 542, 543], []]
/-- 150: Marktongue$Blocks.openIn(I)I -/
def qc_150 : List (Nat × qI) := [(0, 1, .aload_n 0, 0, [0]), (1, 3, .getfield 23, 0, [3, 2, 1]), (4, 1, .iload_n 1, 0, [1]), (5, 3, .invokevirtual 68, 0, [224, 2, 1, 10, 0]), (8, 1, .ireturn, 0, [0])]
def qw_150 : List (List Nat) := [[], [193], [], [540, 0, 108, 508, 509], []]
/-- 151: Marktongue$Blocks.innermostOpen()I -/
def qc_151 : List (Nat × qI) := [(0, 1, .iconst 0, 0, []), (1, 1, .istore_n 1, 0, [1]), (2, 1, .iconst 0, 0, []), (3, 1, .istore_n 2, 0, [2]), (4, 1, .iload_n 2, 0, [2]), (5, 3, .sipush 482, 482, []), (8, 3, .if_icmp .ge (24), 0, [32]), (11, 1, .aload_n 0, 0, [0]), (12, 1, .iload_n 1, 0, [1]), (13, 3, .invokevirtual 82, 0, [150, 2, 1, 3, 0]), (16, 1, .iconst (-1), -1, []), (17, 3, .if_icmp .eq (15), 0, [32]), (20, 1, .aload_n 0, 0, [0]), (21, 1, .iload_n 1, 0, [1]), (22, 3, .invokevirtual 82, 0, [150, 2, 1, 3, 0]), (25, 1, .istore_n 1, 0, [1]), (26, 3, .iinc 2 1, 1, [2]), (29, 3, .goto (-25), 0, [4]), (32, 1, .iload_n 1, 0, [1]), (33, 1, .ireturn, 0, [0])]
def qw_151 : List (List Nat) := [[], [], [], [], [], [], [], [], [], [694, 0, 110, 565, 566], [], [], [], [], [694, 0, 110, 565, 566], [], [], [], [], []]
/-- 152: Marktongue$Blocks.size()I -/
def qc_152 : List (Nat × qI) := [(0, 1, .aload_n 0, 0, [0]), (1, 3, .getfield 14, 0, [3, 0, 1]), (4, 3, .invokevirtual 75, 0, [223, 1, 1, 10, 0]), (7, 1, .ireturn, 0, [0])]
def qw_152 : List (List Nat) := [[], [191], [545, 0, 108, 478, 479], []]
/-- 153: Marktongue$Blocks.kindOf(I)I -/
def qc_153 : List (Nat × qI) := [(0, 1, .aload_n 0, 0, [0]), (1, 3, .getfield 14, 0, [3, 0, 1]), (4, 1, .iload_n 1, 0, [1]), (5, 3, .invokevirtual 68, 0, [224, 2, 1, 10, 0]), (8, 1, .ireturn, 0, [0])]
def qw_153 : List (List Nat) := [[], [191], [], [540, 0, 108, 508, 509], []]
/-- 154: Marktongue$Blocks.parentOf(I)I -/
def qc_154 : List (Nat × qI) := [(0, 1, .aload_n 0, 0, [0]), (1, 3, .getfield 20, 0, [3, 1, 1]), (4, 1, .iload_n 1, 0, [1]), (5, 3, .invokevirtual 68, 0, [224, 2, 1, 10, 0]), (8, 1, .ireturn, 0, [0])]
def qw_154 : List (List Nat) := [[], [192], [], [540, 0, 108, 508, 509], []]
/-- 155: Marktongue$Blocks.isContainer(I)Z -/
def qc_155 : List (Nat × qI) := [(0, 1, .aload_n 0, 0, [0]), (1, 3, .getfield 14, 0, [3, 0, 1]), (4, 1, .iload_n 1, 0, [1]), (5, 3, .invokevirtual 68, 0, [224, 2, 1, 10, 0]), (8, 1, .istore_n 2, 0, [2]), (9, 1, .iload_n 2, 0, [2]), (10, 3, .ifCond .lt (12), 0, [22]), (13, 1, .iload_n 2, 0, [2]), (14, 1, .iconst 3, 3, []), (15, 3, .if_icmp .gt (7), 0, [22]), (18, 1, .iconst 1, 1, []), (19, 3, .goto (4), 0, [23]), (22, 1, .iconst 0, 0, []), (23, 1, .ireturn, 0, [3])]
def qw_155 : List (List Nat) := [[], [191], [], [540, 0, 108, 508, 509], [], [], [], [], [], [], [], [], [], []]
/-- 156: Marktongue$Blocks.measureOf(I)I -/
def qc_156 : List (Nat × qI) := [(0, 1, .aload_n 0, 0, [0]), (1, 3, .getfield 14, 0, [3, 0, 1]), (4, 1, .iload_n 1, 0, [1]), (5, 3, .invokevirtual 68, 0, [224, 2, 1, 10, 0]), (8, 1, .iconst 5, 5, []), (9, 3, .if_icmp .ne (14), 0, [23]), (12, 1, .aload_n 0, 0, [0]), (13, 3, .getfield 38, 0, [3, 7, 1]), (16, 1, .iload_n 1, 0, [1]), (17, 3, .invokevirtual 68, 0, [224, 2, 1, 10, 0]), (20, 3, .goto (11), 0, [31]), (23, 1, .aload_n 0, 0, [0]), (24, 3, .getfield 29, 0, [3, 4, 1]), (27, 1, .iload_n 1, 0, [1]), (28, 3, .invokevirtual 68, 0, [224, 2, 1, 10, 0]), (31, 1, .ireturn, 0, [0])]
def qw_156 : List (List Nat) := [[], [191], [], [540, 0, 108, 508, 509], [], [], [], [198], [], [540, 0, 108, 508, 509], [], [], [195], [], [540, 0, 108, 508, 509], []]
/-- 157: Marktongue$Blocks.measure(II)V -/
def qc_157 : List (Nat × qI) := [(0, 1, .aload_n 0, 0, [0]), (1, 3, .getfield 29, 0, [3, 4, 1]), (4, 1, .iload_n 1, 0, [1]), (5, 1, .iload_n 2, 0, [2]), (6, 3, .invokevirtual 72, 0, [225, 3, 1, 10, 0]), (9, 1, .return_, 0, [])]
def qw_157 : List (List Nat) := [[], [195], [], [], [541, 0, 108, 542, 543], []]
/-- 158: Marktongue$Blocks.markerOf(I)I -/
def qc_158 : List (Nat × qI) := [(0, 1, .aload_n 0, 0, [0]), (1, 3, .getfield 32, 0, [3, 5, 1]), (4, 1, .iload_n 1, 0, [1]), (5, 3, .invokevirtual 68, 0, [224, 2, 1, 10, 0]), (8, 1, .ireturn, 0, [0])]
def qw_158 : List (List Nat) := [[], [196], [], [540, 0, 108, 508, 509], []]
/-- 159: Marktongue$Blocks.mark(II)V -/
def qc_159 : List (Nat × qI) := [(0, 1, .aload_n 0, 0, [0]), (1, 3, .getfield 32, 0, [3, 5, 1]), (4, 1, .iload_n 1, 0, [1]), (5, 1, .iload_n 2, 0, [2]), (6, 3, .invokevirtual 72, 0, [225, 3, 1, 10, 0]), (9, 1, .return_, 0, [])]
def qw_159 : List (List Nat) := [[], [196], [], [], [541, 0, 108, 542, 543], []]
/-- 160: Marktongue$Blocks.firstLineOf(I)I -/
def qc_160 : List (Nat × qI) := [(0, 1, .aload_n 0, 0, [0]), (1, 3, .getfield 35, 0, [3, 6, 1]), (4, 1, .iload_n 1, 0, [1]), (5, 3, .invokevirtual 68, 0, [224, 2, 1, 10, 0]), (8, 1, .ireturn, 0, [0])]
def qw_160 : List (List Nat) := [[], [197], [], [540, 0, 108, 508, 509], []]
/-- 161: Marktongue$Blocks.linesOf(I)I -/
def qc_161 : List (Nat × qI) := [(0, 1, .aload_n 0, 0, [0]), (1, 3, .getfield 38, 0, [3, 7, 1]), (4, 1, .iload_n 1, 0, [1]), (5, 3, .invokevirtual 68, 0, [224, 2, 1, 10, 0]), (8, 1, .ireturn, 0, [0])]
def qw_161 : List (List Nat) := [[], [198], [], [540, 0, 108, 508, 509], []]
/-- 162: Marktongue$Blocks.beginAt(II)V -/
def qc_162 : List (Nat × qI) := [(0, 1, .aload_n 0, 0, [0]), (1, 3, .getfield 35, 0, [3, 6, 1]), (4, 1, .iload_n 1, 0, [1]), (5, 1, .iload_n 2, 0, [2]), (6, 3, .invokevirtual 72, 0, [225, 3, 1, 10, 0]), (9, 1, .return_, 0, [])]
def qw_162 : List (List Nat) := [[], [197], [], [], [541, 0, 108, 542, 543], []]
/-- 163: Marktongue$Blocks.addLine(I)V -/
def qc_163 : List (Nat × qI) := [(0, 1, .aload_n 0, 0, [0]), (1, 3, .getfield 38, 0, [3, 7, 1]), (4, 1, .iload_n 1, 0, [1]), (5, 1, .aload_n 0, 0, [0]), (6, 3, .getfield 38, 0, [3, 7, 1]), (9, 1, .iload_n 1, 0, [1]), (10, 3, .invokevirtual 68, 0, [224, 2, 1, 10, 0]), (13, 1, .iconst 1, 1, []), (14, 1, .iadd, 0, []), (15, 3, .invokevirtual 72, 0, [225, 3, 1, 10, 0]), (18, 1, .return_, 0, [])]
def qw_163 : List (List Nat) := [[], [198], [], [], [198], [], [540, 0, 108, 508, 509], [], [], [541, 0, 108, 542, 543], []]
/-- 164: Marktongue$Blocks.contentBegin(I)I -/
def qc_164 : List (Nat × qI) := [(0, 1, .aload_n 0, 0, [0]), (1, 3, .getfield 41, 0, [3, 8, 1]), (4, 1, .iload_n 1, 0, [1]), (5, 3, .invokevirtual 68, 0, [224, 2, 1, 10, 0]), (8, 1, .ireturn, 0, [0])]
def qw_164 : List (List Nat) := [[], [199], [], [540, 0, 108, 508, 509], []]
/-- 165: Marktongue$Blocks.beginContent(II)V -/
def qc_165 : List (Nat × qI) := [(0, 1, .aload_n 0, 0, [0]), (1, 3, .getfield 41, 0, [3, 8, 1]), (4, 1, .iload_n 1, 0, [1]), (5, 1, .iload_n 2, 0, [2]), (6, 3, .invokevirtual 72, 0, [225, 3, 1, 10, 0]), (9, 1, .return_, 0, [])]
def qw_165 : List (List Nat) := [[], [199], [], [], [541, 0, 108, 542, 543], []]
/-- 166: Marktongue$Blocks.ownerOfLine(I)I -/
def qc_166 : List (Nat × qI) := [(0, 1, .aload_n 0, 0, [0]), (1, 3, .getfield 44, 0, [3, 9, 1]), (4, 1, .iload_n 1, 0, [1]), (5, 3, .invokevirtual 68, 0, [224, 2, 1, 10, 0]), (8, 1, .ireturn, 0, [0])]
def qw_166 : List (List Nat) := [[], [200], [], [540, 0, 108, 508, 509], []]
/-- 167: Marktongue$Blocks.ownLine(II)V -/
def qc_167 : List (Nat × qI) := [(0, 1, .aload_n 0, 0, [0]), (1, 3, .getfield 44, 0, [3, 9, 1]), (4, 1, .iload_n 1, 0, [1]), (5, 1, .iload_n 2, 0, [2]), (6, 3, .invokevirtual 72, 0, [225, 3, 1, 10, 0]), (9, 1, .return_, 0, [])]
def qw_167 : List (List Nat) := [[], [200], [], [], [541, 0, 108, 542, 543], []]
/-- 168: Marktongue$Blocks.ownerAt(I)I -/
def qc_168 : List (Nat × qI) := [(0, 1, .aload_n 0, 0, [0]), (1, 3, .getfield 47, 0, [3, 10, 1]), (4, 1, .iload_n 1, 0, [1]), (5, 3, .invokevirtual 68, 0, [224, 2, 1, 10, 0]), (8, 1, .ireturn, 0, [0])]
def qw_168 : List (List Nat) := [[], [201], [], [540, 0, 108, 508, 509], []]
/-- 169: Marktongue$Blocks.own(II)V -/
def qc_169 : List (Nat × qI) := [(0, 1, .aload_n 0, 0, [0]), (1, 3, .getfield 47, 0, [3, 10, 1]), (4, 1, .iload_n 1, 0, [1]), (5, 1, .iload_n 2, 0, [2]), (6, 3, .invokevirtual 72, 0, [225, 3, 1, 10, 0]), (9, 1, .return_, 0, [])]
def qw_169 : List (List Nat) := [[], [201], [], [], [541, 0, 108, 542, 543], []]
/-- 170: Marktongue$Blocks.define(JI)V -/
def qc_170 : List (Nat × qI) := [(0, 1, .aload_n 0, 0, [0]), (1, 3, .getfield 53, 0, [3, 11, 1]), (4, 1, .lload_n 1, 0, [1]), (5, 1, .iload_n 3, 0, [3]), (6, 3, .invokevirtual 85, 0, [208, 3, 1, 7, 0]), (9, 1, .return_, 0, [])]
def qw_170 : List (List Nat) := [[], [202], [], [], [684, 0, 111, 685, 686], []]
/-- 171: Marktongue$Blocks.anchor(JI)V -/
def qc_171 : List (Nat × qI) := [(0, 1, .aload_n 0, 0, [0]), (1, 3, .getfield 57, 0, [3, 12, 1]), (4, 1, .lload_n 1, 0, [1]), (5, 1, .iload_n 3, 0, [3]), (6, 3, .invokevirtual 85, 0, [208, 3, 1, 7, 0]), (9, 1, .return_, 0, [])]
def qw_171 : List (List Nat) := [[], [203], [], [], [684, 0, 111, 685, 686], []]
/-- 172: Marktongue$Blocks.linkSign(J)I -/
def qc_172 : List (Nat × qI) := [(0, 1, .aload_n 0, 0, [0]), (1, 3, .getfield 53, 0, [3, 11, 1]), (4, 1, .lload_n 1, 0, [1]), (5, 3, .invokevirtual 88, 0, [209, 2, 1, 7, 0]), (8, 1, .istore_n 3, 0, [3]), (9, 1, .aload_n 0, 0, [0]), (10, 3, .getfield 57, 0, [3, 12, 1]), (13, 1, .lload_n 1, 0, [1]), (14, 3, .invokevirtual 88, 0, [209, 2, 1, 7, 0]), (17, 2, .istore 4, 0, [4]), (19, 1, .iload_n 3, 0, [3]), (20, 1, .iconst (-1), -1, []), (21, 3, .if_icmp .eq (9), 0, [30]), (24, 3, .sipush 300, 300, []), (27, 1, .iload_n 3, 0, [3]), (28, 1, .iadd, 0, []), (29, 1, .ireturn, 0, [0]), (30, 2, .iload 4, 0, [4]), (32, 1, .iconst (-1), -1, []), (33, 3, .if_icmp .eq (12), 0, [45]), (36, 3, .sipush 400, 400, []), (39, 2, .iload 4, 0, [4]), (41, 1, .iadd, 0, []), (42, 3, .goto (4), 0, [46]), (45, 1, .iconst (-1), -1, []), (46, 1, .ireturn, 0, [0])]
def qw_172 : List (List Nat) := [[], [202], [], [834, 0, 111, 835, 836], [], [], [203], [], [834, 0, 111, 835, 836], [], [], [], [], [], [], [], [], [], [], [], [], [], [], [], [], []]
/-- 173: Marktongue$Blocks.linkedBlock(I)I -/
def qc_173 : List (Nat × qI) := [(0, 1, .iload_n 1, 0, [1]), (1, 3, .sipush 400, 400, []), (4, 3, .if_icmp .lt (18), 0, [22]), (7, 1, .aload_n 0, 0, [0]), (8, 3, .getfield 57, 0, [3, 12, 1]), (11, 1, .iload_n 1, 0, [1]), (12, 3, .sipush 400, 400, []), (15, 1, .isub, 0, []), (16, 3, .invokevirtual 92, 0, [210, 2, 1, 7, 0]), (19, 3, .goto (15), 0, [34]), (22, 1, .aload_n 0, 0, [0]), (23, 3, .getfield 53, 0, [3, 11, 1]), (26, 1, .iload_n 1, 0, [1]), (27, 3, .sipush 300, 300, []), (30, 1, .isub, 0, []), (31, 3, .invokevirtual 92, 0, [210, 2, 1, 7, 0]), (34, 1, .ireturn, 0, [0])]
def qw_173 : List (List Nat) := [[], [], [], [], [203], [], [], [], [1250, 0, 111, 1251, 1252], [], [], [202], [], [], [], [1250, 0, 111, 1251, 1252], []]
/-- 174: Marktongue$InlineReader.<init>(LMarktongue$Blocks;)V -/
def qc_174 : List (Nat × qI) := [(0, 1, .aload_n 0, 0, [0]), (1, 3, .invokespecial 3, 0, [0, 1, 2, 0, 0]), (4, 1, .aload_n 0, 0, [0]), (5, 3, .new 9, 0, [10, 2, 0]), (8, 1, .dup, 0, []), (9, 3, .sipush 240, 240, []), (12, 3, .invokespecial 11, 0, [222, 2, 1, 10, 0]), (15, 3, .putfield 14, 0, [4, 1, 1]), (18, 1, .aload_n 0, 0, [0]), (19, 3, .new 9, 0, [10, 2, 0]), (22, 1, .dup, 0, []), (23, 3, .sipush 240, 240, []), (26, 3, .invokespecial 11, 0, [222, 2, 1, 10, 0]), (29, 3, .putfield 20, 0, [4, 2, 1]), (32, 1, .aload_n 0, 0, [0]), (33, 3, .new 9, 0, [10, 2, 0]), (36, 1, .dup, 0, []), (37, 3, .sipush 240, 240, []), (40, 3, .invokespecial 11, 0, [222, 2, 1, 10, 0]), (43, 3, .putfield 23, 0, [4, 3, 1]), (46, 1, .aload_n 0, 0, [0]), (47, 3, .new 9, 0, [10, 2, 0]), (50, 1, .dup, 0, []), (51, 3, .sipush 240, 240, []), (54, 3, .invokespecial 11, 0, [222, 2, 1, 10, 0]), (57, 3, .putfield 26, 0, [4, 4, 1]), (60, 1, .aload_n 0, 0, [0]), (61, 3, .new 29, 0, [11, 5, 0]), (64, 1, .dup, 0, []), (65, 3, .invokespecial 31, 0, [233, 1, 1, 11, 0]), (68, 3, .putfield 32, 0, [4, 5, 1]), (71, 1, .aload_n 0, 0, [0]), (72, 1, .aload_n 1, 0, [1]), (73, 3, .putfield 36, 0, [4, 0, 1]), (76, 1, .return_, 0, [])]
def qw_174 : List (List Nat) := [[], [270, 133, 134], [], [271, 136, 108], [], [], [272, 0, 108, 138], [298], [], [271, 136, 108], [], [], [272, 0, 108, 138], [299], [], [271, 136, 108], [], [], [272, 0, 108, 138], [300], [], [271, 136, 108], [], [], [272, 0, 108, 138], [301], [], [273, 274, 114], [], [275, 1, 114, 276], [302], [], [], [297], []]
/-- 175: Marktongue$InlineReader.start()V -/
def qc_175 : List (Nat × qI) := [(0, 1, .aload_n 0, 0, [0]), (1, 3, .getfield 14, 0, [4, 1, 1]), (4, 3, .invokevirtual 40, 0, [227, 1, 1, 10, 0]), (7, 1, .aload_n 0, 0, [0]), (8, 3, .getfield 20, 0, [4, 2, 1]), (11, 3, .invokevirtual 40, 0, [227, 1, 1, 10, 0]), (14, 1, .aload_n 0, 0, [0]), (15, 3, .getfield 23, 0, [4, 3, 1]), (18, 3, .invokevirtual 40, 0, [227, 1, 1, 10, 0]), (21, 1, .aload_n 0, 0, [0]), (22, 3, .getfield 26, 0, [4, 4, 1]), (25, 3, .invokevirtual 40, 0, [227, 1, 1, 10, 0]), (28, 1, .aload_n 0, 0, [0]), (29, 3, .getfield 32, 0, [4, 5, 1]), (32, 3, .invokevirtual 43, 0, [234, 1, 1, 11, 0]), (35, 1, .return_, 0, [])]
def qw_175 : List (List Nat) := [[], [298], [754, 0, 108, 486, 487], [], [299], [754, 0, 108, 486, 487], [], [300], [754, 0, 108, 486, 487], [], [301], [754, 0, 108, 486, 487], [], [302], [755, 0, 114, 756, 757], []]
/-- 176: Marktongue$InlineReader.addCharacter(I)V -/
def qc_176 : List (Nat × qI) := [(0, 1, .aload_n 0, 0, [0]), (1, 3, .getfield 14, 0, [4, 1, 1]), (4, 1, .iload_n 1, 0, [1]), (5, 3, .invokevirtual 44, 0, [226, 2, 1, 10, 0]), (8, 1, .aload_n 0, 0, [0]), (9, 3, .getfield 20, 0, [4, 2, 1]), (12, 1, .iconst 0, 0, []), (13, 3, .invokevirtual 44, 0, [226, 2, 1, 10, 0]), (16, 1, .aload_n 0, 0, [0]), (17, 3, .getfield 23, 0, [4, 3, 1]), (20, 1, .iconst (-1), -1, []), (21, 3, .invokevirtual 44, 0, [226, 2, 1, 10, 0]), (24, 1, .return_, 0, [])]
def qw_176 : List (List Nat) := [[], [298], [], [779, 0, 108, 503, 504], [], [299], [], [779, 0, 108, 503, 504], [], [300], [], [779, 0, 108, 503, 504], []]
/-- 177: Marktongue$InlineReader.size()I -/
def qc_177 : List (Nat × qI) := [(0, 1, .aload_n 0, 0, [0]), (1, 3, .getfield 14, 0, [4, 1, 1]), (4, 3, .invokevirtual 47, 0, [223, 1, 1, 10, 0]), (7, 1, .ireturn, 0, [0])]
def qw_177 : List (List Nat) := [[], [298], [793, 0, 108, 478, 479], []]
/-- 178: Marktongue$InlineReader.characterAt(I)I -/
def qc_178 : List (Nat × qI) := [(0, 1, .aload_n 0, 0, [0]), (1, 3, .getfield 14, 0, [4, 1, 1]), (4, 1, .iload_n 1, 0, [1]), (5, 3, .invokevirtual 51, 0, [224, 2, 1, 10, 0]), (8, 1, .ireturn, 0, [0])]
def qw_178 : List (List Nat) := [[], [298], [], [794, 0, 108, 508, 509], []]
/-- 179: Marktongue$InlineReader.roleAt(I)I -/
def qc_179 : List (Nat × qI) := [(0, 1, .aload_n 0, 0, [0]), (1, 3, .getfield 20, 0, [4, 2, 1]), (4, 1, .iload_n 1, 0, [1]), (5, 3, .invokevirtual 51, 0, [224, 2, 1, 10, 0]), (8, 1, .ireturn, 0, [0])]
def qw_179 : List (List Nat) := [[], [299], [], [794, 0, 108, 508, 509], []]
/-- 180: Marktongue$InlineReader.signAt(I)I -/
def qc_180 : List (Nat × qI) := [(0, 1, .aload_n 0, 0, [0]), (1, 3, .getfield 23, 0, [4, 3, 1]), (4, 1, .iload_n 1, 0, [1]), (5, 3, .invokevirtual 51, 0, [224, 2, 1, 10, 0]), (8, 1, .ireturn, 0, [0])]
def qw_180 : List (List Nat) := [[], [300], [], [794, 0, 108, 508, 509], []]
/-- 181: Marktongue$InlineReader.read()V -/
def qc_181 : List (Nat × qI) := [(0, 1, .iconst 0, 0, []), (1, 1, .istore_n 1, 0, [1]), (2, 1, .iconst 0, 0, []), (3, 1, .istore_n 2, 0, [2]), (4, 1, .iload_n 2, 0, [2]), (5, 3, .sipush 240, 240, []), (8, 3, .if_icmp .ge (131), 0, [139]), (11, 1, .iload_n 1, 0, [1]), (12, 1, .aload_n 0, 0, [0]), (13, 3, .getfield 14, 0, [4, 1, 1]), (16, 3, .invokevirtual 47, 0, [223, 1, 1, 10, 0]), (19, 3, .if_icmp .ge (120), 0, [139]), (22, 1, .aload_n 0, 0, [0]), (23, 3, .getfield 14, 0, [4, 1, 1]), (26, 1, .iload_n 1, 0, [1]), (27, 3, .invokevirtual 51, 0, [224, 2, 1, 10, 0]), (30, 50, .lookupswitch (100) #[(42, 91), (91, 68), (92, 50), (93, 82), (96, 59)], 0, [130, 42, 121, 91, 98, 92, 80, 93, 112, 96, 89]), (80, 1, .aload_n 0, 0, [0]), (81, 1, .iload_n 1, 0, [1]), (82, 3, .invokevirtual 55, 0, [182, 2, 1, 4, 0]), (85, 1, .istore_n 1, 0, [1]), (86, 3, .goto (47), 0, [133]), (89, 1, .aload_n 0, 0, [0]), (90, 1, .iload_n 1, 0, [1]), (91, 3, .invokevirtual 58, 0, [183, 2, 1, 4, 0]), (94, 1, .istore_n 1, 0, [1]), (95, 3, .goto (38), 0, [133]), (98, 1, .aload_n 0, 0, [0]), (99, 3, .getfield 26, 0, [4, 4, 1]), (102, 1, .iload_n 1, 0, [1]), (103, 3, .invokevirtual 44, 0, [226, 2, 1, 10, 0]), (106, 3, .iinc 1 1, 1, [1]), (109, 3, .goto (24), 0, [133]), (112, 1, .aload_n 0, 0, [0]), (113, 1, .iload_n 1, 0, [1]), (114, 3, .invokevirtual 61, 0, [187, 2, 1, 4, 0]), (117, 1, .istore_n 1, 0, [1]), (118, 3, .goto (15), 0, [133]), (121, 1, .aload_n 0, 0, [0]), (122, 1, .iload_n 1, 0, [1]), (123, 3, .invokevirtual 64, 0, [189, 2, 1, 4, 0]), (126, 1, .istore_n 1, 0, [1]), (127, 3, .goto (6), 0, [133]), (130, 3, .iinc 1 1, 1, [1]), (133, 3, .iinc 2 1, 1, [2]), (136, 3, .goto (-132), 0, [4]), (139, 1, .aload_n 0, 0, [0]), (140, 3, .getfield 32, 0, [4, 5, 1]), (143, 1, .iconst 0, 0, []), (144, 1, .aload_n 0, 0, [0]), (145, 3, .getfield 20, 0, [4, 2, 1]), (148, 3, .invokevirtual 67, 0, [239, 3, 1, 11, 0]), (151, 1, .return_, 0, [])]
def qw_181 : List (List Nat) := [[], [], [], [], [], [], [], [], [], [298], [793, 0, 108, 478, 479], [], [], [298], [], [794, 0, 108, 508, 509], [], [], [], [795, 0, 113, 797, 20], [], [], [], [], [803, 0, 113, 805, 21], [], [], [], [301], [], [779, 0, 108, 503, 504], [], [], [], [], [819, 0, 113, 821, 25], [], [], [], [], [865, 0, 113, 867, 31], [], [], [], [], [], [], [302], [], [], [299], [844, 0, 114, 845, 846], []]
/-- 182: Marktongue$InlineReader.passEscape(I)I -/
def qc_182 : List (Nat × qI) := [(0, 1, .aload_n 0, 0, [0]), (1, 3, .getfield 14, 0, [4, 1, 1]), (4, 1, .iload_n 1, 0, [1]), (5, 1, .iconst 1, 1, []), (6, 1, .iadd, 0, []), (7, 3, .invokevirtual 51, 0, [224, 2, 1, 10, 0]), (10, 3, .invokestatic 71, 0, [37, 1, 0, 0, 0]), (13, 3, .ifCond .ne (7), 0, [20]), (16, 1, .iload_n 1, 0, [1]), (17, 1, .iconst 1, 1, []), (18, 1, .iadd, 0, []), (19, 1, .ireturn, 0, [0]), (20, 1, .aload_n 0, 0, [0]), (21, 3, .getfield 20, 0, [4, 2, 1]), (24, 1, .iload_n 1, 0, [1]), (25, 2, .bipush (-3), -3, []), (27, 3, .invokevirtual 75, 0, [225, 3, 1, 10, 0]), (30, 1, .iload_n 1, 0, [1]), (31, 1, .iconst 2, 2, []), (32, 1, .iadd, 0, []), (33, 1, .ireturn, 0, [0])]
def qw_182 : List (List Nat) := [[], [298], [], [], [], [794, 0, 108, 508, 509], [799, 1, 107, 800], [], [], [], [], [], [], [299], [], [], [802, 0, 108, 542, 543], [], [], [], []]
/-- 183: Marktongue$InlineReader.passTicks(I)I -/
def qc_183 : List (Nat × qI) := [(0, 1, .aload_n 0, 0, [0]), (1, 1, .iload_n 1, 0, [1]), (2, 3, .invokevirtual 79, 0, [185, 2, 1, 4, 0]), (5, 1, .istore_n 2, 0, [2]), (6, 1, .iload_n 2, 0, [2]), (7, 1, .iload_n 1, 0, [1]), (8, 1, .isub, 0, []), (9, 1, .istore_n 3, 0, [3]), (10, 1, .aload_n 0, 0, [0]), (11, 1, .iload_n 2, 0, [2]), (12, 1, .iload_n 3, 0, [3]), (13, 3, .invokevirtual 82, 0, [184, 3, 1, 4, 0]), (16, 2, .istore 4, 0, [4]), (18, 2, .iload 4, 0, [4]), (20, 1, .iconst (-1), -1, []), (21, 3, .if_icmp .ne (5), 0, [26]), (24, 1, .iload_n 2, 0, [2]), (25, 1, .ireturn, 0, [0]), (26, 1, .aload_n 0, 0, [0]), (27, 1, .iload_n 1, 0, [1]), (28, 1, .iload_n 2, 0, [2]), (29, 3, .invokevirtual 86, 0, [186, 3, 1, 4, 0]), (32, 1, .aload_n 0, 0, [0]), (33, 3, .getfield 20, 0, [4, 2, 1]), (36, 1, .iload_n 1, 0, [1]), (37, 2, .bipush 11, 11, []), (39, 3, .invokevirtual 75, 0, [225, 3, 1, 10, 0]), (42, 1, .aload_n 0, 0, [0]), (43, 2, .iload 4, 0, [4]), (45, 2, .iload 4, 0, [4]), (47, 1, .iload_n 3, 0, [3]), (48, 1, .iadd, 0, []), (49, 3, .invokevirtual 86, 0, [186, 3, 1, 4, 0]), (52, 1, .aload_n 0, 0, [0]), (53, 3, .getfield 20, 0, [4, 2, 1]), (56, 2, .iload 4, 0, [4]), (58, 2, .bipush (-4), -4, []), (60, 3, .invokevirtual 75, 0, [225, 3, 1, 10, 0]), (63, 2, .iload 4, 0, [4]), (65, 1, .iload_n 3, 0, [3]), (66, 1, .iadd, 0, []), (67, 1, .ireturn, 0, [0])]
def qw_183 : List (List Nat) := [[], [], [807, 0, 113, 809, 22], [], [], [], [], [], [], [], [], [811, 0, 113, 813, 23], [], [], [], [], [], [], [], [], [], [815, 0, 113, 817, 24], [], [299], [], [], [802, 0, 108, 542, 543], [], [], [], [], [], [815, 0, 113, 817, 24], [], [299], [], [], [802, 0, 108, 542, 543], [], [], [], []]
/-- 184: Marktongue$InlineReader.findTicks(II)I -/
def qc_184 : List (Nat × qI) := [(0, 1, .iload_n 1, 0, [1]), (1, 1, .istore_n 3, 0, [3]), (2, 1, .iconst 0, 0, []), (3, 2, .istore 4, 0, [4]), (5, 2, .iload 4, 0, [4]), (7, 3, .sipush 240, 240, []), (10, 3, .if_icmp .ge (53), 0, [63]), (13, 1, .iload_n 3, 0, [3]), (14, 1, .aload_n 0, 0, [0]), (15, 3, .getfield 14, 0, [4, 1, 1]), (18, 3, .invokevirtual 47, 0, [223, 1, 1, 10, 0]), (21, 3, .if_icmp .ge (42), 0, [63]), (24, 1, .aload_n 0, 0, [0]), (25, 1, .iload_n 3, 0, [3]), (26, 3, .invokevirtual 79, 0, [185, 2, 1, 4, 0]), (29, 2, .istore 5, 0, [5]), (31, 1, .aload_n 0, 0, [0]), (32, 3, .getfield 14, 0, [4, 1, 1]), (35, 1, .iload_n 3, 0, [3]), (36, 3, .invokevirtual 51, 0, [224, 2, 1, 10, 0]), (39, 2, .bipush 96, 96, []), (41, 3, .if_icmp .ne (13), 0, [54]), (44, 2, .iload 5, 0, [5]), (46, 1, .iload_n 3, 0, [3]), (47, 1, .isub, 0, []), (48, 1, .iload_n 2, 0, [2]), (49, 3, .if_icmp .ne (5), 0, [54]), (52, 1, .iload_n 3, 0, [3]), (53, 1, .ireturn, 0, [0]), (54, 2, .iload 5, 0, [5]), (56, 1, .istore_n 3, 0, [3]), (57, 3, .iinc 4 1, 1, [4]), (60, 3, .goto (-55), 0, [5]), (63, 1, .iconst (-1), -1, []), (64, 1, .ireturn, 0, [0])]
def qw_184 : List (List Nat) := [[], [], [], [], [], [], [], [], [], [298], [793, 0, 108, 478, 479], [], [], [], [807, 0, 113, 809, 22], [], [], [298], [], [794, 0, 108, 508, 509], [], [], [], [], [], [], [], [], [], [], [], [], [], [], []]
/-- 185: Marktongue$InlineReader.runEnd(I)I -/
def qc_185 : List (Nat × qI) := [(0, 1, .iload_n 1, 0, [1]), (1, 1, .iconst 1, 1, []), (2, 1, .iadd, 0, []), (3, 1, .istore_n 2, 0, [2]), (4, 1, .iload_n 2, 0, [2]), (5, 1, .aload_n 0, 0, [0]), (6, 3, .getfield 14, 0, [4, 1, 1]), (9, 3, .invokevirtual 47, 0, [223, 1, 1, 10, 0]), (12, 3, .if_icmp .ge (30), 0, [42]), (15, 1, .aload_n 0, 0, [0]), (16, 3, .getfield 14, 0, [4, 1, 1]), (19, 1, .iload_n 2, 0, [2]), (20, 3, .invokevirtual 51, 0, [224, 2, 1, 10, 0]), (23, 1, .aload_n 0, 0, [0]), (24, 3, .getfield 14, 0, [4, 1, 1]), (27, 1, .iload_n 1, 0, [1]), (28, 3, .invokevirtual 51, 0, [224, 2, 1, 10, 0]), (31, 3, .if_icmp .eq (5), 0, [36]), (34, 1, .iload_n 2, 0, [2]), (35, 1, .ireturn, 0, [0]), (36, 3, .iinc 2 1, 1, [2]), (39, 3, .goto (-35), 0, [4]), (42, 1, .aload_n 0, 0, [0]), (43, 3, .getfield 14, 0, [4, 1, 1]), (46, 3, .invokevirtual 47, 0, [223, 1, 1, 10, 0]), (49, 1, .ireturn, 0, [0])]
def qw_185 : List (List Nat) := [[], [], [], [], [], [], [298], [793, 0, 108, 478, 479], [], [], [298], [], [794, 0, 108, 508, 509], [], [298], [], [794, 0, 108, 508, 509], [], [], [], [], [], [], [298], [793, 0, 108, 478, 479], []]
/-- 186: Marktongue$InlineReader.pass(II)V -/
def qc_186 : List (Nat × qI) := [(0, 1, .iload_n 1, 0, [1]), (1, 1, .istore_n 3, 0, [3]), (2, 1, .iload_n 3, 0, [3]), (3, 1, .iload_n 2, 0, [2]), (4, 3, .if_icmp .ge (19), 0, [23]), (7, 1, .aload_n 0, 0, [0]), (8, 3, .getfield 20, 0, [4, 2, 1]), (11, 1, .iload_n 3, 0, [3]), (12, 2, .bipush (-3), -3, []), (14, 3, .invokevirtual 75, 0, [225, 3, 1, 10, 0]), (17, 3, .iinc 3 1, 1, [3]), (20, 3, .goto (-18), 0, [2]), (23, 1, .return_, 0, [])]
def qw_186 : List (List Nat) := [[], [], [], [], [], [], [299], [], [], [802, 0, 108, 542, 543], [], [], []]
/-- 187: Marktongue$InlineReader.passBracket(I)I -/
def qc_187 : List (Nat × qI) := [(0, 1, .aload_n 0, 0, [0]), (1, 3, .getfield 26, 0, [4, 4, 1]), (4, 3, .invokevirtual 47, 0, [223, 1, 1, 10, 0]), (7, 3, .ifCond .ne (7), 0, [14]), (10, 1, .iload_n 1, 0, [1]), (11, 1, .iconst 1, 1, []), (12, 1, .iadd, 0, []), (13, 1, .ireturn, 0, [0]), (14, 1, .aload_n 0, 0, [0]), (15, 3, .getfield 26, 0, [4, 4, 1]), (18, 1, .aload_n 0, 0, [0]), (19, 3, .getfield 26, 0, [4, 4, 1]), (22, 3, .invokevirtual 47, 0, [223, 1, 1, 10, 0]), (25, 1, .iconst 1, 1, []), (26, 1, .isub, 0, []), (27, 3, .invokevirtual 51, 0, [224, 2, 1, 10, 0]), (30, 1, .istore_n 2, 0, [2]), (31, 1, .aload_n 0, 0, [0]), (32, 3, .getfield 26, 0, [4, 4, 1]), (35, 1, .aload_n 0, 0, [0]), (36, 3, .getfield 26, 0, [4, 4, 1]), (39, 3, .invokevirtual 47, 0, [223, 1, 1, 10, 0]), (42, 1, .iconst 1, 1, []), (43, 1, .isub, 0, []), (44, 3, .invokevirtual 89, 0, [228, 2, 1, 10, 0]), (47, 1, .aload_n 0, 0, [0]), (48, 1, .iload_n 1, 0, [1]), (49, 1, .iconst 1, 1, []), (50, 1, .iadd, 0, []), (51, 3, .invokevirtual 92, 0, [188, 2, 1, 4, 0]), (54, 1, .istore_n 3, 0, [3]), (55, 1, .iload_n 3, 0, [3]), (56, 1, .iload_n 1, 0, [1]), (57, 1, .iconst 1, 1, []), (58, 1, .iadd, 0, []), (59, 3, .if_icmp .le (7), 0, [66]), (62, 1, .iconst 1, 1, []), (63, 3, .goto (4), 0, [67]), (66, 1, .iconst 0, 0, []), (67, 2, .istore 4, 0, [4]), (69, 2, .iload 4, 0, [4]), (71, 3, .ifCond .eq (19), 0, [90]), (74, 1, .aload_n 0, 0, [0]), (75, 3, .getfield 14, 0, [4, 1, 1]), (78, 1, .iload_n 1, 0, [1]), (79, 1, .iconst 2, 2, []), (80, 1, .iadd, 0, []), (81, 1, .iload_n 3, 0, [3]), (82, 1, .iconst 1, 1, []), (83, 1, .isub, 0, []), (84, 3, .invokestatic 95, 0, [42, 3, 0, 0, 0]), (87, 3, .goto (14), 0, [101]), (90, 1, .aload_n 0, 0, [0]), (91, 3, .getfield 14, 0, [4, 1, 1]), (94, 1, .iload_n 2, 0, [2]), (95, 1, .iconst 1, 1, []), (96, 1, .iadd, 0, []), (97, 1, .iload_n 1, 0, [1]), (98, 3, .invokestatic 95, 0, [42, 3, 0, 0, 0]), (101, 2, .lstore 5, 0, [5]), (103, 2, .lload 5, 0, [5]), (105, 1, .lconst 0, 0, []), (106, 1, .lcmp, 0, []), (107, 3, .ifCond .ne (7), 0, [114]), (110, 1, .iconst (-1), -1, []), (111, 3, .goto (12), 0, [123]), (114, 1, .aload_n 0, 0, [0]), (115, 3, .getfield 36, 0, [4, 0, 1]), (118, 2, .lload 5, 0, [5]), (120, 3, .invokevirtual 99, 0, [172, 2, 1, 3, 0]), (123, 2, .istore 7, 0, [7]), (125, 2, .iload 7, 0, [7]), (127, 1, .iconst (-1), -1, []), (128, 3, .if_icmp .ne (7), 0, [135]), (131, 1, .iload_n 1, 0, [1]), (132, 1, .iconst 1, 1, []), (133, 1, .iadd, 0, []), (134, 1, .ireturn, 0, [0]), (135, 1, .aload_n 0, 0, [0]), (136, 3, .getfield 20, 0, [4, 2, 1]), (139, 1, .iload_n 2, 0, [2]), (140, 2, .bipush 12, 12, []), (142, 3, .invokevirtual 75, 0, [225, 3, 1, 10, 0]), (145, 1, .aload_n 0, 0, [0]), (146, 3, .getfield 23, 0, [4, 3, 1]), (149, 1, .iload_n 2, 0, [2]), (150, 2, .iload 7, 0, [7]), (152, 3, .invokevirtual 75, 0, [225, 3, 1, 10, 0]), (155, 1, .aload_n 0, 0, [0]), (156, 3, .getfield 20, 0, [4, 2, 1]), (159, 1, .iload_n 1, 0, [1]), (160, 2, .bipush (-4), -4, []), (162, 3, .invokevirtual 75, 0, [225, 3, 1, 10, 0]), (165, 1, .aload_n 0, 0, [0]), (166, 1, .iload_n 1, 0, [1]), (167, 1, .iconst 1, 1, []), (168, 1, .iadd, 0, []), (169, 1, .iload_n 3, 0, [3]), (170, 3, .invokevirtual 86, 0, [186, 3, 1, 4, 0]), (173, 1, .aload_n 0, 0, [0]), (174, 3, .getfield 26, 0, [4, 4, 1]), (177, 3, .invokevirtual 40, 0, [227, 1, 1, 10, 0]), (180, 1, .aload_n 0, 0, [0]), (181, 3, .getfield 32, 0, [4, 5, 1]), (184, 1, .aload_n 0, 0, [0]), (185, 3, .getfield 32, 0, [4, 5, 1]), (188, 1, .iload_n 2, 0, [2]), (189, 3, .invokevirtual 105, 0, [238, 2, 1, 11, 0]), (192, 1, .aload_n 0, 0, [0]), (193, 3, .getfield 20, 0, [4, 2, 1]), (196, 3, .invokevirtual 67, 0, [239, 3, 1, 11, 0]), (199, 1, .iload_n 3, 0, [3]), (200, 1, .ireturn, 0, [0])]
def qw_187 : List (List Nat) := [[], [301], [793, 0, 108, 478, 479], [], [], [], [], [], [], [301], [], [301], [793, 0, 108, 478, 479], [], [], [794, 0, 108, 508, 509], [], [], [301], [], [301], [793, 0, 108, 478, 479], [], [], [823, 0, 108, 764, 765], [], [], [], [], [824, 0, 113, 826, 26], [], [], [], [], [], [], [], [], [], [], [], [], [], [298], [], [], [], [], [], [], [829, 1, 107, 703], [], [], [298], [], [], [], [], [829, 1, 107, 703], [], [], [], [], [], [], [], [], [297], [], [830, 0, 110, 831, 832], [], [], [], [], [], [], [], [], [], [299], [], [], [802, 0, 108, 542, 543], [], [300], [], [], [802, 0, 108, 542, 543], [], [299], [], [], [802, 0, 108, 542, 543], [], [], [], [], [], [815, 0, 113, 817, 24], [], [301], [754, 0, 108, 486, 487], [], [302], [], [302], [], [838, 0, 114, 839, 840], [], [299], [844, 0, 114, 845, 846], [], []]
/-- 188: Marktongue$InlineReader.referenceEnd(I)I -/
def qc_188 : List (Nat × qI) := [(0, 1, .aload_n 0, 0, [0]), (1, 3, .getfield 14, 0, [4, 1, 1]), (4, 1, .iload_n 1, 0, [1]), (5, 3, .invokevirtual 51, 0, [224, 2, 1, 10, 0]), (8, 2, .bipush 91, 91, []), (10, 3, .if_icmp .eq (5), 0, [15]), (13, 1, .iload_n 1, 0, [1]), (14, 1, .ireturn, 0, [0]), (15, 1, .aload_n 0, 0, [0]), (16, 3, .getfield 14, 0, [4, 1, 1]), (19, 1, .iload_n 1, 0, [1]), (20, 1, .iconst 1, 1, []), (21, 1, .iadd, 0, []), (22, 1, .aload_n 0, 0, [0]), (23, 3, .getfield 14, 0, [4, 1, 1]), (26, 3, .invokevirtual 47, 0, [223, 1, 1, 10, 0]), (29, 3, .invokestatic 108, 0, [41, 3, 0, 0, 0]), (32, 1, .istore_n 2, 0, [2]), (33, 1, .iload_n 2, 0, [2]), (34, 1, .iload_n 1, 0, [1]), (35, 1, .isub, 0, []), (36, 1, .iconst 1, 1, []), (37, 1, .isub, 0, []), (38, 1, .istore_n 3, 0, [3]), (39, 1, .iload_n 3, 0, [3]), (40, 1, .iconst 1, 1, []), (41, 3, .if_icmp .lt (28), 0, [69]), (44, 1, .iload_n 3, 0, [3]), (45, 2, .bipush 6, 6, []), (47, 3, .if_icmp .gt (22), 0, [69]), (50, 1, .aload_n 0, 0, [0]), (51, 3, .getfield 14, 0, [4, 1, 1]), (54, 1, .iload_n 2, 0, [2]), (55, 3, .invokevirtual 51, 0, [224, 2, 1, 10, 0]), (58, 2, .bipush 93, 93, []), (60, 3, .if_icmp .ne (9), 0, [69]), (63, 1, .iload_n 2, 0, [2]), (64, 1, .iconst 1, 1, []), (65, 1, .iadd, 0, []), (66, 3, .goto (4), 0, [70]), (69, 1, .iload_n 1, 0, [1]), (70, 1, .ireturn, 0, [0])]
def qw_188 : List (List Nat) := [[], [298], [], [794, 0, 108, 508, 509], [], [], [], [], [], [298], [], [], [], [], [298], [793, 0, 108, 478, 479], [828, 1, 107, 700], [], [], [], [], [], [], [], [], [], [], [], [], [], [], [298], [], [794, 0, 108, 508, 509], [], [], [], [], [], [], [], []]
/-- 189: Marktongue$InlineReader.passStars(I)I -/
def qc_189 : List (Nat × qI) := [(0, 1, .aload_n 0, 0, [0]), (1, 1, .iload_n 1, 0, [1]), (2, 3, .invokevirtual 79, 0, [185, 2, 1, 4, 0]), (5, 1, .istore_n 2, 0, [2]), (6, 1, .aload_n 0, 0, [0]), (7, 3, .getfield 32, 0, [4, 5, 1]), (10, 1, .iload_n 1, 0, [1]), (11, 1, .iload_n 2, 0, [2]), (12, 1, .aload_n 0, 0, [0]), (13, 3, .getfield 14, 0, [4, 1, 1]), (16, 1, .iload_n 1, 0, [1]), (17, 1, .iconst 1, 1, []), (18, 1, .isub, 0, []), (19, 3, .invokevirtual 51, 0, [224, 2, 1, 10, 0]), (22, 1, .aload_n 0, 0, [0]), (23, 3, .getfield 14, 0, [4, 1, 1]), (26, 1, .iload_n 2, 0, [2]), (27, 3, .invokevirtual 51, 0, [224, 2, 1, 10, 0]), (30, 3, .invokevirtual 112, 0, [236, 5, 1, 11, 0]), (33, 1, .iload_n 2, 0, [2]), (34, 1, .ireturn, 0, [0])]
def qw_189 : List (List Nat) := [[], [], [807, 0, 113, 809, 22], [], [], [302], [], [], [], [298], [], [], [], [794, 0, 108, 508, 509], [], [298], [], [794, 0, 108, 508, 509], [869, 0, 114, 870, 871], [], []]
/-- 190: Marktongue$Lines.<init>(LMarktongue$Row;)V -/
def qc_190 : List (Nat × qI) := [(0, 1, .aload_n 0, 0, [0]), (1, 3, .invokespecial 3, 0, [0, 1, 2, 0, 0]), (4, 1, .aload_n 0, 0, [0]), (5, 3, .new 9, 0, [10, 2, 0]), (8, 1, .dup, 0, []), (9, 3, .sipush 241, 241, []), (12, 3, .invokespecial 11, 0, [222, 2, 1, 10, 0]), (15, 3, .putfield 14, 0, [5, 1, 1]), (18, 1, .aload_n 0, 0, [0]), (19, 3, .new 9, 0, [10, 2, 0]), (22, 1, .dup, 0, []), (23, 3, .sipush 241, 241, []), (26, 3, .invokespecial 11, 0, [222, 2, 1, 10, 0]), (29, 3, .putfield 20, 0, [5, 2, 1]), (32, 1, .aload_n 0, 0, [0]), (33, 1, .aload_n 1, 0, [1]), (34, 3, .putfield 23, 0, [5, 0, 1]), (37, 1, .return_, 0, [])]
def qw_190 : List (List Nat) := [[], [154, 133, 134], [], [155, 136, 108], [], [], [156, 0, 108, 138], [158], [], [155, 136, 108], [], [], [156, 0, 108, 138], [159], [], [], [157], []]
/-- 191: Marktongue$Lines.split()V -/
def qc_191 : List (Nat × qI) := [(0, 1, .aload_n 0, 0, [0]), (1, 3, .getfield 14, 0, [5, 1, 1]), (4, 3, .invokevirtual 26, 0, [227, 1, 1, 10, 0]), (7, 1, .aload_n 0, 0, [0]), (8, 3, .getfield 20, 0, [5, 2, 1]), (11, 3, .invokevirtual 26, 0, [227, 1, 1, 10, 0]), (14, 1, .aload_n 0, 0, [0]), (15, 3, .getfield 14, 0, [5, 1, 1]), (18, 1, .iconst 0, 0, []), (19, 3, .invokevirtual 29, 0, [226, 2, 1, 10, 0]), (22, 1, .iconst 0, 0, []), (23, 1, .istore_n 1, 0, [1]), (24, 1, .iload_n 1, 0, [1]), (25, 1, .aload_n 0, 0, [0]), (26, 3, .getfield 23, 0, [5, 0, 1]), (29, 3, .invokevirtual 32, 0, [223, 1, 1, 10, 0]), (32, 3, .if_icmp .ge (40), 0, [72]), (35, 1, .aload_n 0, 0, [0]), (36, 3, .getfield 23, 0, [5, 0, 1]), (39, 1, .iload_n 1, 0, [1]), (40, 3, .invokevirtual 36, 0, [224, 2, 1, 10, 0]), (43, 2, .bipush 10, 10, []), (45, 3, .if_icmp .ne (21), 0, [66]), (48, 1, .aload_n 0, 0, [0]), (49, 3, .getfield 20, 0, [5, 2, 1]), (52, 1, .iload_n 1, 0, [1]), (53, 3, .invokevirtual 29, 0, [226, 2, 1, 10, 0]), (56, 1, .aload_n 0, 0, [0]), (57, 3, .getfield 14, 0, [5, 1, 1]), (60, 1, .iload_n 1, 0, [1]), (61, 1, .iconst 1, 1, []), (62, 1, .iadd, 0, []), (63, 3, .invokevirtual 29, 0, [226, 2, 1, 10, 0]), (66, 3, .iinc 1 1, 1, [1]), (69, 3, .goto (-45), 0, [24]), (72, 1, .aload_n 0, 0, [0]), (73, 3, .getfield 20, 0, [5, 2, 1]), (76, 1, .aload_n 0, 0, [0]), (77, 3, .getfield 23, 0, [5, 0, 1]), (80, 3, .invokevirtual 32, 0, [223, 1, 1, 10, 0]), (83, 3, .invokevirtual 29, 0, [226, 2, 1, 10, 0]), (86, 1, .return_, 0, [])]
def qw_191 : List (List Nat) := [[], [158], [501, 0, 108, 486, 487], [], [159], [501, 0, 108, 486, 487], [], [158], [], [502, 0, 108, 503, 504], [], [], [], [], [157], [506, 0, 108, 478, 479], [], [], [157], [], [507, 0, 108, 508, 509], [], [], [], [159], [], [502, 0, 108, 503, 504], [], [158], [], [], [], [502, 0, 108, 503, 504], [], [], [], [159], [], [157], [506, 0, 108, 478, 479], [502, 0, 108, 503, 504], []]
/-- 192: Marktongue$Lines.many()I -/
def qc_192 : List (Nat × qI) := [(0, 1, .aload_n 0, 0, [0]), (1, 3, .getfield 20, 0, [5, 2, 1]), (4, 3, .invokevirtual 32, 0, [223, 1, 1, 10, 0]), (7, 1, .ireturn, 0, [0])]
def qw_192 : List (List Nat) := [[], [159], [506, 0, 108, 478, 479], []]
/-- 193: Marktongue$Lines.begin(I)I -/
def qc_193 : List (Nat × qI) := [(0, 1, .aload_n 0, 0, [0]), (1, 3, .getfield 14, 0, [5, 1, 1]), (4, 1, .iload_n 1, 0, [1]), (5, 3, .invokevirtual 36, 0, [224, 2, 1, 10, 0]), (8, 1, .ireturn, 0, [0])]
def qw_193 : List (List Nat) := [[], [158], [], [507, 0, 108, 508, 509], []]
/-- 194: Marktongue$Lines.end(I)I -/
def qc_194 : List (Nat × qI) := [(0, 1, .aload_n 0, 0, [0]), (1, 3, .getfield 20, 0, [5, 2, 1]), (4, 1, .iload_n 1, 0, [1]), (5, 3, .invokevirtual 36, 0, [224, 2, 1, 10, 0]), (8, 1, .ireturn, 0, [0])]
def qw_194 : List (List Nat) := [[], [159], [], [507, 0, 108, 508, 509], []]
/-- 195: Marktongue$Lines.characterAt(I)I -/
def qc_195 : List (Nat × qI) := [(0, 1, .aload_n 0, 0, [0]), (1, 3, .getfield 23, 0, [5, 0, 1]), (4, 1, .iload_n 1, 0, [1]), (5, 3, .invokevirtual 36, 0, [224, 2, 1, 10, 0]), (8, 1, .ireturn, 0, [0])]
def qw_195 : List (List Nat) := [[], [157], [], [507, 0, 108, 508, 509], []]
/-- 196: Marktongue$Lines.isSame(ILMarktongue$Lines;I)Z -/
def qc_196 : List (Nat × qI) := [(0, 1, .aload_n 0, 0, [0]), (1, 3, .getfield 14, 0, [5, 1, 1]), (4, 1, .iload_n 1, 0, [1]), (5, 3, .invokevirtual 36, 0, [224, 2, 1, 10, 0]), (8, 2, .istore 4, 0, [4]), (10, 1, .aload_n 2, 0, [2]), (11, 1, .iload_n 3, 0, [3]), (12, 3, .invokevirtual 40, 0, [193, 2, 1, 5, 0]), (15, 2, .istore 5, 0, [5]), (17, 1, .aload_n 0, 0, [0]), (18, 3, .getfield 20, 0, [5, 2, 1]), (21, 1, .iload_n 1, 0, [1]), (22, 3, .invokevirtual 36, 0, [224, 2, 1, 10, 0]), (25, 2, .iload 4, 0, [4]), (27, 1, .isub, 0, []), (28, 2, .istore 6, 0, [6]), (30, 1, .aload_n 2, 0, [2]), (31, 1, .iload_n 3, 0, [3]), (32, 3, .invokevirtual 43, 0, [194, 2, 1, 5, 0]), (35, 2, .iload 5, 0, [5]), (37, 1, .isub, 0, []), (38, 2, .iload 6, 0, [6]), (40, 3, .if_icmp .eq (5), 0, [45]), (43, 1, .iconst 0, 0, []), (44, 1, .ireturn, 0, [3]), (45, 1, .iconst 0, 0, []), (46, 2, .istore 7, 0, [7]), (48, 2, .iload 7, 0, [7]), (50, 2, .iload 6, 0, [6]), (52, 3, .if_icmp .ge (35), 0, [87]), (55, 1, .aload_n 0, 0, [0]), (56, 3, .getfield 23, 0, [5, 0, 1]), (59, 2, .iload 4, 0, [4]), (61, 2, .iload 7, 0, [7]), (63, 1, .iadd, 0, []), (64, 3, .invokevirtual 36, 0, [224, 2, 1, 10, 0]), (67, 1, .aload_n 2, 0, [2]), (68, 2, .iload 5, 0, [5]), (70, 2, .iload 7, 0, [7]), (72, 1, .iadd, 0, []), (73, 3, .invokevirtual 46, 0, [195, 2, 1, 5, 0]), (76, 3, .if_icmp .eq (5), 0, [81]), (79, 1, .iconst 0, 0, []), (80, 1, .ireturn, 0, [3]), (81, 3, .iinc 7 1, 1, [7]), (84, 3, .goto (-36), 0, [48]), (87, 1, .iconst 1, 1, []), (88, 1, .ireturn, 0, [3])]
def qw_196 : List (List Nat) := [[], [158], [], [507, 0, 108, 508, 509], [], [], [], [1005, 0, 109, 553, 554], [], [], [159], [], [507, 0, 108, 508, 509], [], [], [], [], [], [1006, 0, 109, 557, 558], [], [], [], [], [], [], [], [], [], [], [], [], [157], [], [], [], [507, 0, 108, 508, 509], [], [], [], [], [1007, 0, 109, 1008, 1009], [], [], [], [], [], [], []]
/-- 197: Marktongue$Merger.<init>(LMarktongue$Lines;LMarktongue$Lines;LMarktongue$Lines;)V -/
def qc_197 : List (Nat × qI) := [(0, 1, .aload_n 0, 0, [0]), (1, 3, .invokespecial 3, 0, [0, 1, 2, 0, 0]), (4, 1, .aload_n 0, 0, [0]), (5, 3, .new 9, 0, [8, 3, 0]), (8, 1, .dup, 0, []), (9, 3, .invokespecial 11, 0, [211, 1, 1, 8, 0]), (12, 3, .putfield 12, 0, [6, 3, 1]), (15, 1, .aload_n 0, 0, [0]), (16, 3, .new 18, 0, [10, 2, 0]), (19, 1, .dup, 0, []), (20, 3, .sipush 241, 241, []), (23, 3, .invokespecial 20, 0, [222, 2, 1, 10, 0]), (26, 3, .putfield 23, 0, [6, 4, 1]), (29, 1, .aload_n 0, 0, [0]), (30, 3, .new 18, 0, [10, 2, 0]), (33, 1, .dup, 0, []), (34, 3, .sipush 241, 241, []), (37, 3, .invokespecial 20, 0, [222, 2, 1, 10, 0]), (40, 3, .putfield 27, 0, [6, 5, 1]), (43, 1, .aload_n 0, 0, [0]), (44, 3, .new 18, 0, [10, 2, 0]), (47, 1, .dup, 0, []), (48, 3, .sipush 240, 240, []), (51, 3, .invokespecial 20, 0, [222, 2, 1, 10, 0]), (54, 3, .putfield 30, 0, [6, 6, 1]), (57, 1, .aload_n 0, 0, [0]), (58, 1, .iconst 0, 0, []), (59, 3, .putfield 33, 0, [6, 7, 0]), (62, 1, .aload_n 0, 0, [0]), (63, 1, .iconst 0, 0, []), (64, 3, .putfield 37, 0, [6, 8, 0]), (67, 1, .aload_n 0, 0, [0]), (68, 1, .iconst 0, 0, []), (69, 3, .putfield 40, 0, [6, 9, 0]), (72, 1, .aload_n 0, 0, [0]), (73, 1, .iconst 0, 0, []), (74, 3, .putfield 43, 0, [6, 10, 0]), (77, 1, .aload_n 0, 0, [0]), (78, 1, .iconst 0, 0, []), (79, 3, .putfield 46, 0, [6, 11, 0]), (82, 1, .aload_n 0, 0, [0]), (83, 1, .iconst 0, 0, []), (84, 3, .putfield 49, 0, [6, 12, 0]), (87, 1, .aload_n 0, 0, [0]), (88, 1, .aload_n 1, 0, [1]), (89, 3, .putfield 52, 0, [6, 0, 1]), (92, 1, .aload_n 0, 0, [0]), (93, 1, .aload_n 2, 0, [2]), (94, 3, .putfield 56, 0, [6, 1, 1]), (97, 1, .aload_n 0, 0, [0]), (98, 1, .aload_n 3, 0, [3]), (99, 3, .putfield 59, 0, [6, 2, 1]), (102, 1, .return_, 0, [])]
def qw_197 : List (List Nat) := [[], [375, 133, 134], [], [376, 377, 118], [], [378, 1, 118, 379], [399], [], [394, 136, 108], [], [], [395, 0, 108, 138], [400], [], [394, 136, 108], [], [], [395, 0, 108, 138], [401], [], [394, 136, 108], [], [], [395, 0, 108, 138], [402], [], [], [403], [], [], [404], [], [], [405], [], [], [406], [], [], [407], [], [], [408], [], [], [396], [], [], [397], [], [], [398], []]
/-- 198: Marktongue$Merger.merged()LMarktongue$Row; -/
def qc_198 : List (Nat × qI) := [(0, 1, .aload_n 0, 0, [0]), (1, 3, .getfield 30, 0, [6, 6, 1]), (4, 1, .areturn, 0, [])]
def qw_198 : List (List Nat) := [[], [402], []]
/-- 199: Marktongue$Merger.mergedSize()I -/
def qc_199 : List (Nat × qI) := [(0, 1, .aload_n 0, 0, [0]), (1, 3, .getfield 37, 0, [6, 8, 0]), (4, 1, .ireturn, 0, [0])]
def qw_199 : List (List Nat) := [[], [404], []]
/-- 200: Marktongue$Merger.conflicts()I -/
def qc_200 : List (Nat × qI) := [(0, 1, .aload_n 0, 0, [0]), (1, 3, .getfield 40, 0, [6, 9, 0]), (4, 1, .ireturn, 0, [0])]
def qw_200 : List (List Nat) := [[], [405], []]
/-- 201: Marktongue$Merger.run()V -/
def qc_201 : List (Nat × qI) := [(0, 1, .aload_n 0, 0, [0]), (1, 3, .getfield 52, 0, [6, 0, 1]), (4, 3, .invokevirtual 62, 0, [191, 1, 1, 5, 0]), (7, 1, .aload_n 0, 0, [0]), (8, 3, .getfield 56, 0, [6, 1, 1]), (11, 3, .invokevirtual 62, 0, [191, 1, 1, 5, 0]), (14, 1, .aload_n 0, 0, [0]), (15, 3, .getfield 59, 0, [6, 2, 1]), (18, 3, .invokevirtual 62, 0, [191, 1, 1, 5, 0]), (21, 1, .aload_n 0, 0, [0]), (22, 3, .getfield 12, 0, [6, 3, 1]), (25, 1, .aload_n 0, 0, [0]), (26, 3, .getfield 52, 0, [6, 0, 1]), (29, 1, .aload_n 0, 0, [0]), (30, 3, .getfield 56, 0, [6, 1, 1]), (33, 1, .aload_n 0, 0, [0]), (34, 3, .getfield 23, 0, [6, 4, 1]), (37, 3, .invokevirtual 67, 0, [212, 4, 1, 8, 0]), (40, 1, .aload_n 0, 0, [0]), (41, 3, .getfield 12, 0, [6, 3, 1]), (44, 1, .aload_n 0, 0, [0]), (45, 3, .getfield 52, 0, [6, 0, 1]), (48, 1, .aload_n 0, 0, [0]), (49, 3, .getfield 59, 0, [6, 2, 1]), (52, 1, .aload_n 0, 0, [0]), (53, 3, .getfield 27, 0, [6, 5, 1]), (56, 3, .invokevirtual 67, 0, [212, 4, 1, 8, 0]), (59, 1, .aload_n 0, 0, [0]), (60, 3, .getfield 30, 0, [6, 6, 1]), (63, 3, .invokevirtual 71, 0, [227, 1, 1, 10, 0]), (66, 1, .aload_n 0, 0, [0]), (67, 1, .iconst 0, 0, []), (68, 3, .putfield 33, 0, [6, 7, 0]), (71, 1, .aload_n 0, 0, [0]), (72, 1, .iconst 0, 0, []), (73, 3, .putfield 37, 0, [6, 8, 0]), (76, 1, .aload_n 0, 0, [0]), (77, 1, .iconst 0, 0, []), (78, 3, .putfield 40, 0, [6, 9, 0]), (81, 1, .aload_n 0, 0, [0]), (82, 1, .iconst (-1), -1, []), (83, 1, .iconst (-1), -1, []), (84, 1, .iconst (-1), -1, []), (85, 3, .invokevirtual 74, 0, [202, 4, 1, 6, 0]), (88, 1, .iconst 0, 0, []), (89, 1, .istore_n 1, 0, [1]), (90, 1, .iload_n 1, 0, [1]), (91, 1, .aload_n 0, 0, [0]), (92, 3, .getfield 52, 0, [6, 0, 1]), (95, 3, .invokevirtual 78, 0, [192, 1, 1, 5, 0]), (98, 3, .if_icmp .ge (63), 0, [161]), (101, 1, .aload_n 0, 0, [0]), (102, 3, .getfield 23, 0, [6, 4, 1]), (105, 1, .iload_n 1, 0, [1]), (106, 3, .invokevirtual 82, 0, [224, 2, 1, 10, 0]), (109, 1, .istore_n 2, 0, [2]), (110, 1, .aload_n 0, 0, [0]), (111, 3, .getfield 27, 0, [6, 5, 1]), (114, 1, .iload_n 1, 0, [1]), (115, 3, .invokevirtual 82, 0, [224, 2, 1, 10, 0]), (118, 1, .istore_n 3, 0, [3]), (119, 1, .iload_n 2, 0, [2]), (120, 1, .iconst (-1), -1, []), (121, 3, .if_icmp .eq (34), 0, [155]), (124, 1, .iload_n 3, 0, [3]), (125, 1, .iconst (-1), -1, []), (126, 3, .if_icmp .eq (29), 0, [155]), (129, 1, .aload_n 0, 0, [0]), (130, 1, .iload_n 1, 0, [1]), (131, 1, .iload_n 2, 0, [2]), (132, 1, .iload_n 3, 0, [3]), (133, 3, .invokevirtual 86, 0, [203, 4, 1, 6, 0]), (136, 1, .aload_n 0, 0, [0]), (137, 1, .aload_n 0, 0, [0]), (138, 3, .getfield 52, 0, [6, 0, 1]), (141, 1, .iload_n 1, 0, [1]), (142, 1, .iload_n 1, 0, [1]), (143, 1, .iconst 1, 1, []), (144, 1, .iadd, 0, []), (145, 3, .invokevirtual 89, 0, [205, 4, 1, 6, 0]), (148, 1, .aload_n 0, 0, [0]), (149, 1, .iload_n 1, 0, [1]), (150, 1, .iload_n 2, 0, [2]), (151, 1, .iload_n 3, 0, [3]), (152, 3, .invokevirtual 74, 0, [202, 4, 1, 6, 0]), (155, 3, .iinc 1 1, 1, [1]), (158, 3, .goto (-68), 0, [90]), (161, 1, .aload_n 0, 0, [0]), (162, 1, .aload_n 0, 0, [0]), (163, 3, .getfield 52, 0, [6, 0, 1]), (166, 3, .invokevirtual 78, 0, [192, 1, 1, 5, 0]), (169, 1, .aload_n 0, 0, [0]), (170, 3, .getfield 56, 0, [6, 1, 1]), (173, 3, .invokevirtual 78, 0, [192, 1, 1, 5, 0]), (176, 1, .aload_n 0, 0, [0]), (177, 3, .getfield 59, 0, [6, 2, 1]), (180, 3, .invokevirtual 78, 0, [192, 1, 1, 5, 0]), (183, 3, .invokevirtual 86, 0, [203, 4, 1, 6, 0]), (186, 1, .return_, 0, [])]
def qw_201 : List (List Nat) := [[], [396], [984, 0, 109, 498, 499], [], [397], [984, 0, 109, 498, 499], [], [398], [984, 0, 109, 498, 499], [], [399], [], [396], [], [397], [], [400], [985, 0, 118, 986, 987], [], [399], [], [396], [], [398], [], [401], [985, 0, 118, 986, 987], [], [402], [1020, 0, 108, 486, 487], [], [], [403], [], [], [404], [], [], [405], [], [], [], [], [1021, 0, 117, 1023, 42], [], [], [], [], [396], [1025, 0, 109, 517, 518], [], [], [400], [], [1026, 0, 108, 508, 509], [], [], [401], [], [1026, 0, 108, 508, 509], [], [], [], [], [], [], [], [], [], [], [], [1027, 0, 117, 1029, 43], [], [], [396], [], [], [], [], [1036, 0, 117, 1038, 45], [], [], [], [], [1021, 0, 117, 1023, 42], [], [], [], [], [396], [1025, 0, 109, 517, 518], [], [397], [1025, 0, 109, 517, 518], [], [398], [1025, 0, 109, 517, 518], [1027, 0, 117, 1029, 43], []]
/-- 202: Marktongue$Merger.startBehind(III)V -/
def qc_202 : List (Nat × qI) := [(0, 1, .aload_n 0, 0, [0]), (1, 1, .iload_n 1, 0, [1]), (2, 1, .iconst 1, 1, []), (3, 1, .iadd, 0, []), (4, 3, .putfield 43, 0, [6, 10, 0]), (7, 1, .aload_n 0, 0, [0]), (8, 1, .iload_n 2, 0, [2]), (9, 1, .iconst 1, 1, []), (10, 1, .iadd, 0, []), (11, 3, .putfield 46, 0, [6, 11, 0]), (14, 1, .aload_n 0, 0, [0]), (15, 1, .iload_n 3, 0, [3]), (16, 1, .iconst 1, 1, []), (17, 1, .iadd, 0, []), (18, 3, .putfield 49, 0, [6, 12, 0]), (21, 1, .return_, 0, [])]
def qw_202 : List (List Nat) := [[], [], [], [], [406], [], [], [], [], [407], [], [], [], [], [408], []]
/-- 203: Marktongue$Merger.settle(III)V -/
def qc_203 : List (Nat × qI) := [(0, 1, .aload_n 0, 0, [0]), (1, 1, .aload_n 0, 0, [0]), (2, 3, .getfield 56, 0, [6, 1, 1]), (5, 1, .aload_n 0, 0, [0]), (6, 3, .getfield 46, 0, [6, 11, 0]), (9, 1, .iload_n 2, 0, [2]), (10, 1, .aload_n 0, 0, [0]), (11, 3, .getfield 52, 0, [6, 0, 1]), (14, 1, .aload_n 0, 0, [0]), (15, 3, .getfield 43, 0, [6, 10, 0]), (18, 1, .iload_n 1, 0, [1]), (19, 3, .invokevirtual 93, 0, [204, 7, 1, 6, 0]), (22, 3, .ifCond .eq (19), 0, [41]), (25, 1, .aload_n 0, 0, [0]), (26, 1, .aload_n 0, 0, [0]), (27, 3, .getfield 59, 0, [6, 2, 1]), (30, 1, .aload_n 0, 0, [0]), (31, 3, .getfield 49, 0, [6, 12, 0]), (34, 1, .iload_n 3, 0, [3]), (35, 3, .invokevirtual 89, 0, [205, 4, 1, 6, 0]), (38, 3, .goto (79), 0, [117]), (41, 1, .aload_n 0, 0, [0]), (42, 1, .aload_n 0, 0, [0]), (43, 3, .getfield 59, 0, [6, 2, 1]), (46, 1, .aload_n 0, 0, [0]), (47, 3, .getfield 49, 0, [6, 12, 0]), (50, 1, .iload_n 3, 0, [3]), (51, 1, .aload_n 0, 0, [0]), (52, 3, .getfield 52, 0, [6, 0, 1]), (55, 1, .aload_n 0, 0, [0]), (56, 3, .getfield 43, 0, [6, 10, 0]), (59, 1, .iload_n 1, 0, [1]), (60, 3, .invokevirtual 93, 0, [204, 7, 1, 6, 0]), (63, 3, .ifCond .ne (28), 0, [91]), (66, 1, .aload_n 0, 0, [0]), (67, 1, .aload_n 0, 0, [0]), (68, 3, .getfield 59, 0, [6, 2, 1]), (71, 1, .aload_n 0, 0, [0]), (72, 3, .getfield 49, 0, [6, 12, 0]), (75, 1, .iload_n 3, 0, [3]), (76, 1, .aload_n 0, 0, [0]), (77, 3, .getfield 56, 0, [6, 1, 1]), (80, 1, .aload_n 0, 0, [0]), (81, 3, .getfield 46, 0, [6, 11, 0]), (84, 1, .iload_n 2, 0, [2]), (85, 3, .invokevirtual 93, 0, [204, 7, 1, 6, 0]), (88, 3, .ifCond .eq (19), 0, [107]), (91, 1, .aload_n 0, 0, [0]), (92, 1, .aload_n 0, 0, [0]), (93, 3, .getfield 56, 0, [6, 1, 1]), (96, 1, .aload_n 0, 0, [0]), (97, 3, .getfield 46, 0, [6, 11, 0]), (100, 1, .iload_n 2, 0, [2]), (101, 3, .invokevirtual 89, 0, [205, 4, 1, 6, 0]), (104, 3, .goto (13), 0, [117]), (107, 1, .aload_n 0, 0, [0]), (108, 1, .dup, 0, []), (109, 3, .getfield 40, 0, [6, 9, 0]), (112, 1, .iconst 1, 1, []), (113, 1, .iadd, 0, []), (114, 3, .putfield 40, 0, [6, 9, 0]), (117, 1, .return_, 0, [])]
def qw_203 : List (List Nat) := [[], [], [397], [], [407], [], [], [396], [], [406], [], [1031, 0, 117, 1033, 44], [], [], [], [398], [], [408], [], [1036, 0, 117, 1038, 45], [], [], [], [398], [], [408], [], [], [396], [], [406], [], [1031, 0, 117, 1033, 44], [], [], [], [398], [], [408], [], [], [397], [], [407], [], [1031, 0, 117, 1033, 44], [], [], [], [397], [], [407], [], [1036, 0, 117, 1038, 45], [], [], [], [405], [], [], [405], []]
/-- 204: Marktongue$Merger.areSame(LMarktongue$Lines;IILMarktongue$Lines;II)Z -/
def qc_204 : List (Nat × qI) := [(0, 1, .iload_n 3, 0, [3]), (1, 1, .iload_n 2, 0, [2]), (2, 1, .isub, 0, []), (3, 2, .iload 6, 0, [6]), (5, 2, .iload 5, 0, [5]), (7, 1, .isub, 0, []), (8, 3, .if_icmp .eq (5), 0, [13]), (11, 1, .iconst 0, 0, []), (12, 1, .ireturn, 0, [3]), (13, 1, .iconst 0, 0, []), (14, 2, .istore 7, 0, [7]), (16, 2, .iload 7, 0, [7]), (18, 1, .iload_n 3, 0, [3]), (19, 1, .iload_n 2, 0, [2]), (20, 1, .isub, 0, []), (21, 3, .if_icmp .ge (29), 0, [50]), (24, 1, .aload_n 1, 0, [1]), (25, 1, .iload_n 2, 0, [2]), (26, 2, .iload 7, 0, [7]), (28, 1, .iadd, 0, []), (29, 2, .aload 4, 0, [4]), (31, 2, .iload 5, 0, [5]), (33, 2, .iload 7, 0, [7]), (35, 1, .iadd, 0, []), (36, 3, .invokevirtual 97, 0, [196, 4, 1, 5, 0]), (39, 3, .ifCond .ne (5), 0, [44]), (42, 1, .iconst 0, 0, []), (43, 1, .ireturn, 0, [3]), (44, 3, .iinc 7 1, 1, [7]), (47, 3, .goto (-31), 0, [16]), (50, 1, .iconst 1, 1, []), (51, 1, .ireturn, 0, [3])]
def qw_204 : List (List Nat) := [[], [], [], [], [], [], [], [], [], [], [], [], [], [], [], [], [], [], [], [], [], [], [], [], [1035, 0, 109, 1002, 1003], [], [], [], [], [], [], []]
/-- 205: Marktongue$Merger.write(LMarktongue$Lines;II)V -/
def qc_205 : List (Nat × qI) := [(0, 1, .iload_n 2, 0, [2]), (1, 2, .istore 4, 0, [4]), (3, 2, .iload 4, 0, [4]), (5, 1, .iload_n 3, 0, [3]), (6, 3, .if_icmp .ge (93), 0, [99]), (9, 1, .aload_n 0, 0, [0]), (10, 3, .getfield 33, 0, [6, 7, 0]), (13, 3, .ifCond .le (22), 0, [35]), (16, 1, .aload_n 0, 0, [0]), (17, 3, .getfield 30, 0, [6, 6, 1]), (20, 2, .bipush 10, 10, []), (22, 3, .invokevirtual 101, 0, [226, 2, 1, 10, 0]), (25, 1, .aload_n 0, 0, [0]), (26, 1, .dup, 0, []), (27, 3, .getfield 37, 0, [6, 8, 0]), (30, 1, .iconst 1, 1, []), (31, 1, .iadd, 0, []), (32, 3, .putfield 37, 0, [6, 8, 0]), (35, 1, .aload_n 1, 0, [1]), (36, 2, .iload 4, 0, [4]), (38, 3, .invokevirtual 104, 0, [193, 2, 1, 5, 0]), (41, 2, .istore 5, 0, [5]), (43, 2, .iload 5, 0, [5]), (45, 1, .aload_n 1, 0, [1]), (46, 2, .iload 4, 0, [4]), (48, 3, .invokevirtual 107, 0, [194, 2, 1, 5, 0]), (51, 3, .if_icmp .ge (32), 0, [83]), (54, 1, .aload_n 0, 0, [0]), (55, 3, .getfield 30, 0, [6, 6, 1]), (58, 1, .aload_n 1, 0, [1]), (59, 2, .iload 5, 0, [5]), (61, 3, .invokevirtual 110, 0, [195, 2, 1, 5, 0]), (64, 3, .invokevirtual 101, 0, [226, 2, 1, 10, 0]), (67, 1, .aload_n 0, 0, [0]), (68, 1, .dup, 0, []), (69, 3, .getfield 37, 0, [6, 8, 0]), (72, 1, .iconst 1, 1, []), (73, 1, .iadd, 0, []), (74, 3, .putfield 37, 0, [6, 8, 0]), (77, 3, .iinc 5 1, 1, [5]), (80, 3, .goto (-37), 0, [43]), (83, 1, .aload_n 0, 0, [0]), (84, 1, .dup, 0, []), (85, 3, .getfield 33, 0, [6, 7, 0]), (88, 1, .iconst 1, 1, []), (89, 1, .iadd, 0, []), (90, 3, .putfield 33, 0, [6, 7, 0]), (93, 3, .iinc 4 1, 1, [4]), (96, 3, .goto (-93), 0, [3]), (99, 1, .return_, 0, [])]
def qw_205 : List (List Nat) := [[], [], [], [], [], [], [403], [], [], [402], [], [1040, 0, 108, 503, 504], [], [], [404], [], [], [404], [], [], [1041, 0, 109, 553, 554], [], [], [], [], [1042, 0, 109, 557, 558], [], [], [402], [], [], [1043, 0, 109, 1008, 1009], [1040, 0, 108, 503, 504], [], [], [404], [], [], [404], [], [], [], [], [403], [], [], [403], [], [], []]
/-- 206: Marktongue$Names.<init>()V -/
def qc_206 : List (Nat × qI) := [(0, 1, .aload_n 0, 0, [0]), (1, 3, .invokespecial 3, 0, [0, 1, 2, 0, 0]), (4, 1, .aload_n 0, 0, [0]), (5, 3, .sipush 241, 241, []), (8, 2, .newarray .long, 0, [2]), (10, 3, .putfield 9, 0, [7, 0, 1]), (13, 1, .aload_n 0, 0, [0]), (14, 3, .new 15, 0, [10, 2, 0]), (17, 1, .dup, 0, []), (18, 3, .sipush 241, 241, []), (21, 3, .invokespecial 17, 0, [222, 2, 1, 10, 0]), (24, 3, .putfield 20, 0, [7, 1, 1]), (27, 1, .return_, 0, [])]
def qw_206 : List (List Nat) := [[], [180, 133, 134], [], [], [190], [183], [], [181, 136, 108], [], [], [182, 0, 108, 138], [184], []]
/-- 207: Marktongue$Names.empty()V -/
def qc_207 : List (Nat × qI) := [(0, 1, .aload_n 0, 0, [0]), (1, 3, .getfield 20, 0, [7, 1, 1]), (4, 3, .invokevirtual 24, 0, [227, 1, 1, 10, 0]), (7, 1, .return_, 0, [])]
def qw_207 : List (List Nat) := [[], [184], [535, 0, 108, 486, 487], []]
/-- 208: Marktongue$Names.add(JI)V -/
def qc_208 : List (Nat × qI) := [(0, 1, .aload_n 0, 0, [0]), (1, 3, .getfield 20, 0, [7, 1, 1]), (4, 3, .invokevirtual 27, 0, [223, 1, 1, 10, 0]), (7, 2, .istore 4, 0, [4]), (9, 2, .iload 4, 0, [4]), (11, 3, .ifCond .lt (29), 0, [40]), (14, 2, .iload 4, 0, [4]), (16, 1, .aload_n 0, 0, [0]), (17, 3, .getfield 9, 0, [7, 0, 1]), (20, 1, .arraylength, 0, []), (21, 3, .if_icmp .ge (19), 0, [40]), (24, 1, .aload_n 0, 0, [0]), (25, 3, .getfield 9, 0, [7, 0, 1]), (28, 2, .iload 4, 0, [4]), (30, 1, .lload_n 1, 0, [1]), (31, 1, .lastore, 0, []), (32, 1, .aload_n 0, 0, [0]), (33, 3, .getfield 20, 0, [7, 1, 1]), (36, 1, .iload_n 3, 0, [3]), (37, 3, .invokevirtual 31, 0, [226, 2, 1, 10, 0]), (40, 1, .return_, 0, [])]
def qw_208 : List (List Nat) := [[], [184], [688, 0, 108, 478, 479], [], [], [], [], [], [183], [], [], [], [183], [], [], [], [], [184], [], [689, 0, 108, 503, 504], []]
/-- 209: Marktongue$Names.find(J)I -/
def qc_209 : List (Nat × qI) := [(0, 1, .iconst 0, 0, []), (1, 1, .istore_n 3, 0, [3]), (2, 1, .iload_n 3, 0, [3]), (3, 1, .aload_n 0, 0, [0]), (4, 3, .getfield 20, 0, [7, 1, 1]), (7, 3, .invokevirtual 27, 0, [223, 1, 1, 10, 0]), (10, 3, .if_icmp .ge (31), 0, [41]), (13, 1, .iload_n 3, 0, [3]), (14, 1, .aload_n 0, 0, [0]), (15, 3, .getfield 9, 0, [7, 0, 1]), (18, 1, .arraylength, 0, []), (19, 3, .if_icmp .ge (22), 0, [41]), (22, 1, .aload_n 0, 0, [0]), (23, 3, .getfield 9, 0, [7, 0, 1]), (26, 1, .iload_n 3, 0, [3]), (27, 1, .laload, 0, []), (28, 1, .lload_n 1, 0, [1]), (29, 1, .lcmp, 0, []), (30, 3, .ifCond .ne (5), 0, [35]), (33, 1, .iload_n 3, 0, [3]), (34, 1, .ireturn, 0, [0]), (35, 3, .iinc 3 1, 1, [3]), (38, 3, .goto (-36), 0, [2]), (41, 1, .iconst (-1), -1, []), (42, 1, .ireturn, 0, [0])]
def qw_209 : List (List Nat) := [[], [], [], [], [184], [688, 0, 108, 478, 479], [], [], [], [183], [], [], [], [183], [], [], [], [], [], [], [], [], [], [], []]
/-- 210: Marktongue$Names.blockAt(I)I -/
def qc_210 : List (Nat × qI) := [(0, 1, .aload_n 0, 0, [0]), (1, 3, .getfield 20, 0, [7, 1, 1]), (4, 1, .iload_n 1, 0, [1]), (5, 3, .invokevirtual 34, 0, [224, 2, 1, 10, 0]), (8, 1, .ireturn, 0, [0])]
def qw_210 : List (List Nat) := [[], [184], [], [1254, 0, 108, 508, 509], []]
/-- 211: Marktongue$Pairing.<init>()V -/
def qc_211 : List (Nat × qI) := [(0, 1, .aload_n 0, 0, [0]), (1, 3, .invokespecial 3, 0, [0, 1, 2, 0, 0]), (4, 1, .aload_n 0, 0, [0]), (5, 3, .sipush 964, 964, []), (8, 2, .newarray .long, 0, [2]), (10, 3, .putfield 11, 0, [8, 0, 1]), (13, 1, .aload_n 0, 0, [0]), (14, 3, .new 15, 0, [10, 2, 0]), (17, 1, .dup, 0, []), (18, 3, .sipush 242, 242, []), (21, 3, .invokespecial 17, 0, [222, 2, 1, 10, 0]), (24, 3, .putfield 20, 0, [8, 1, 1]), (27, 1, .aload_n 0, 0, [0]), (28, 3, .new 15, 0, [10, 2, 0]), (31, 1, .dup, 0, []), (32, 3, .sipush 242, 242, []), (35, 3, .invokespecial 17, 0, [222, 2, 1, 10, 0]), (38, 3, .putfield 24, 0, [8, 2, 1]), (41, 1, .return_, 0, [])]
def qw_211 : List (List Nat) := [[], [381, 133, 134], [], [], [190], [384], [], [382, 136, 108], [], [], [383, 0, 108, 138], [385], [], [382, 136, 108], [], [], [383, 0, 108, 138], [386], []]
/-- 212: Marktongue$Pairing.pair(LMarktongue$Lines;LMarktongue$Lines;LMarktongue$Row;)V -/
def qc_212 : List (Nat × qI) := [(0, 1, .aload_n 0, 0, [0]), (1, 1, .aload_n 1, 0, [1]), (2, 1, .aload_n 2, 0, [2]), (3, 3, .invokevirtual 27, 0, [213, 3, 1, 8, 0]), (6, 1, .aload_n 3, 0, [3]), (7, 1, .aload_n 1, 0, [1]), (8, 3, .invokevirtual 31, 0, [192, 1, 1, 5, 0]), (11, 1, .iconst (-1), -1, []), (12, 3, .invokevirtual 36, 0, [229, 3, 1, 10, 0]), (15, 1, .iconst 0, 0, []), (16, 2, .istore 4, 0, [4]), (18, 1, .iconst 0, 0, []), (19, 2, .istore 5, 0, [5]), (21, 1, .iconst 0, 0, []), (22, 2, .istore 6, 0, [6]), (24, 2, .iload 6, 0, [6]), (26, 3, .sipush 482, 482, []), (29, 3, .if_icmp .ge (76), 0, [105]), (32, 2, .iload 4, 0, [4]), (34, 1, .aload_n 1, 0, [1]), (35, 3, .invokevirtual 31, 0, [192, 1, 1, 5, 0]), (38, 3, .if_icmp .ge (67), 0, [105]), (41, 2, .iload 5, 0, [5]), (43, 1, .aload_n 2, 0, [2]), (44, 3, .invokevirtual 31, 0, [192, 1, 1, 5, 0]), (47, 3, .if_icmp .ge (58), 0, [105]), (50, 1, .aload_n 1, 0, [1]), (51, 2, .iload 4, 0, [4]), (53, 1, .aload_n 2, 0, [2]), (54, 2, .iload 5, 0, [5]), (56, 3, .invokevirtual 40, 0, [196, 4, 1, 5, 0]), (59, 3, .ifCond .eq (20), 0, [79]), (62, 1, .aload_n 3, 0, [3]), (63, 2, .iload 4, 0, [4]), (65, 2, .iload 5, 0, [5]), (67, 3, .invokevirtual 44, 0, [225, 3, 1, 10, 0]), (70, 3, .iinc 4 1, 1, [4]), (73, 3, .iinc 5 1, 1, [5]), (76, 3, .goto (23), 0, [99]), (79, 1, .aload_n 0, 0, [0]), (80, 2, .iload 4, 0, [4]), (82, 2, .iload 5, 0, [5]), (84, 3, .invokevirtual 47, 0, [214, 3, 1, 8, 0]), (87, 3, .ifCond .eq (9), 0, [96]), (90, 3, .iinc 4 1, 1, [4]), (93, 3, .goto (6), 0, [99]), (96, 3, .iinc 5 1, 1, [5]), (99, 3, .iinc 6 1, 1, [6]), (102, 3, .goto (-78), 0, [24]), (105, 1, .return_, 0, [])]
def qw_212 : List (List Nat) := [[], [], [], [989, 0, 118, 991, 39], [], [], [993, 0, 109, 517, 518], [], [994, 0, 108, 526, 527], [], [], [], [], [], [], [], [], [], [], [], [993, 0, 109, 517, 518], [], [], [], [993, 0, 109, 517, 518], [], [], [], [], [], [1001, 0, 109, 1002, 1003], [], [], [], [], [1014, 0, 108, 542, 543], [], [], [], [], [], [], [1016, 0, 118, 1018, 41], [], [], [], [], [], [], []]
/-- 213: Marktongue$Pairing.fillLeavings(LMarktongue$Lines;LMarktongue$Lines;)V -/
def qc_213 : List (Nat × qI) := [(0, 1, .aload_n 0, 0, [0]), (1, 3, .getfield 24, 0, [8, 2, 1]), (4, 1, .aload_n 2, 0, [2]), (5, 3, .invokevirtual 31, 0, [192, 1, 1, 5, 0]), (8, 1, .iconst 1, 1, []), (9, 1, .iadd, 0, []), (10, 1, .iconst 0, 0, []), (11, 3, .invokevirtual 36, 0, [229, 3, 1, 10, 0]), (14, 1, .aload_n 0, 0, [0]), (15, 3, .getfield 20, 0, [8, 1, 1]), (18, 1, .aload_n 2, 0, [2]), (19, 3, .invokevirtual 31, 0, [192, 1, 1, 5, 0]), (22, 1, .iconst 1, 1, []), (23, 1, .iadd, 0, []), (24, 1, .iconst 0, 0, []), (25, 3, .invokevirtual 36, 0, [229, 3, 1, 10, 0]), (28, 1, .aload_n 1, 0, [1]), (29, 3, .invokevirtual 31, 0, [192, 1, 1, 5, 0]), (32, 1, .iconst 1, 1, []), (33, 1, .isub, 0, []), (34, 1, .istore_n 3, 0, [3]), (35, 1, .iload_n 3, 0, [3]), (36, 3, .ifCond .lt (129), 0, [165]), (39, 1, .aload_n 2, 0, [2]), (40, 3, .invokevirtual 31, 0, [192, 1, 1, 5, 0]), (43, 1, .iconst 1, 1, []), (44, 1, .isub, 0, []), (45, 2, .istore 4, 0, [4]), (47, 2, .iload 4, 0, [4]), (49, 3, .ifCond .lt (99), 0, [148]), (52, 1, .aload_n 0, 0, [0]), (53, 3, .getfield 24, 0, [8, 2, 1]), (56, 2, .iload 4, 0, [4]), (58, 3, .invokevirtual 51, 0, [224, 2, 1, 10, 0]), (61, 2, .istore 5, 0, [5]), (63, 1, .aload_n 0, 0, [0]), (64, 3, .getfield 20, 0, [8, 1, 1]), (67, 2, .iload 4, 0, [4]), (69, 1, .iconst 1, 1, []), (70, 1, .iadd, 0, []), (71, 3, .invokevirtual 51, 0, [224, 2, 1, 10, 0]), (74, 2, .istore 6, 0, [6]), (76, 1, .aload_n 0, 0, [0]), (77, 1, .iload_n 3, 0, [3]), (78, 2, .iload 4, 0, [4]), (80, 2, .iload 5, 0, [5]), (82, 2, .iload 6, 0, [6]), (84, 3, .if_icmp .lt (7), 0, [91]), (87, 1, .iconst 1, 1, []), (88, 3, .goto (4), 0, [92]), (91, 1, .iconst 0, 0, []), (92, 3, .invokevirtual 55, 0, [215, 4, 1, 8, 0]), (95, 1, .aload_n 1, 0, [1]), (96, 1, .iload_n 3, 0, [3]), (97, 1, .aload_n 2, 0, [2]), (98, 2, .iload 4, 0, [4]), (100, 3, .invokevirtual 40, 0, [196, 4, 1, 5, 0]), (103, 2, .istore 7, 0, [7]), (105, 1, .aload_n 0, 0, [0]), (106, 3, .getfield 20, 0, [8, 1, 1]), (109, 2, .iload 4, 0, [4]), (111, 2, .iload 7, 0, [7]), (113, 3, .ifCond .eq (19), 0, [132]), (116, 1, .aload_n 0, 0, [0]), (117, 3, .getfield 24, 0, [8, 2, 1]), (120, 2, .iload 4, 0, [4]), (122, 1, .iconst 1, 1, []), (123, 1, .iadd, 0, []), (124, 3, .invokevirtual 51, 0, [224, 2, 1, 10, 0]), (127, 1, .iconst 1, 1, []), (128, 1, .iadd, 0, []), (129, 3, .goto (10), 0, [139]), (132, 2, .iload 5, 0, [5]), (134, 2, .iload 6, 0, [6]), (136, 3, .invokestatic 59, 0, [0, 2, 3, 0, 0]), (139, 3, .invokevirtual 44, 0, [225, 3, 1, 10, 0]), (142, 3, .iinc 4 (-1), -1, [4]), (145, 3, .goto (-98), 0, [47]), (148, 1, .aload_n 0, 0, [0]), (149, 3, .getfield 24, 0, [8, 2, 1]), (152, 1, .aload_n 0, 0, [0]), (153, 3, .getfield 20, 0, [8, 1, 1]), (156, 3, .invokevirtual 65, 0, [232, 2, 1, 10, 0]), (159, 3, .iinc 3 (-1), -1, [3]), (162, 3, .goto (-127), 0, [35]), (165, 1, .return_, 0, [])]
def qw_213 : List (List Nat) := [[], [386], [], [993, 0, 109, 517, 518], [], [], [], [994, 0, 108, 526, 527], [], [385], [], [993, 0, 109, 517, 518], [], [], [], [994, 0, 108, 526, 527], [], [993, 0, 109, 517, 518], [], [], [], [], [], [], [993, 0, 109, 517, 518], [], [], [], [], [], [], [386], [], [995, 0, 108, 508, 509], [], [], [385], [], [], [], [995, 0, 108, 508, 509], [], [], [], [], [], [], [], [], [], [], [996, 0, 118, 998, 40], [], [], [], [], [1001, 0, 109, 1002, 1003], [], [], [385], [], [], [], [], [386], [], [], [], [995, 0, 108, 508, 509], [], [], [], [], [], [1011, 1012, 126, 1013], [1014, 0, 108, 542, 543], [], [], [], [386], [], [385], [1015, 0, 108, 971, 972], [], [], []]
/-- 214: Marktongue$Pairing.isLeftOut(II)Z -/
def qc_214 : List (Nat × qI) := [(0, 1, .iload_n 1, 0, [1]), (1, 1, .iconst 4, 4, []), (2, 1, .imul, 0, []), (3, 1, .iload_n 2, 0, [2]), (4, 2, .bipush 64, 64, []), (6, 1, .idiv, 0, []), (7, 1, .iadd, 0, []), (8, 1, .istore_n 3, 0, [3]), (9, 1, .iload_n 3, 0, [3]), (10, 3, .ifCond .lt (34), 0, [44]), (13, 1, .iload_n 3, 0, [3]), (14, 1, .aload_n 0, 0, [0]), (15, 3, .getfield 11, 0, [8, 0, 1]), (18, 1, .arraylength, 0, []), (19, 3, .if_icmp .ge (25), 0, [44]), (22, 1, .aload_n 0, 0, [0]), (23, 3, .getfield 11, 0, [8, 0, 1]), (26, 1, .iload_n 3, 0, [3]), (27, 1, .laload, 0, []), (28, 1, .iload_n 2, 0, [2]), (29, 2, .bipush 63, 63, []), (31, 1, .iand, 0, []), (32, 1, .lushr, 0, []), (33, 1, .lconst 1, 1, []), (34, 1, .land, 0, []), (35, 1, .lconst 1, 1, []), (36, 1, .lcmp, 0, []), (37, 3, .ifCond .ne (7), 0, [44]), (40, 1, .iconst 1, 1, []), (41, 3, .goto (4), 0, [45]), (44, 1, .iconst 0, 0, []), (45, 1, .ireturn, 0, [3])]
def qw_214 : List (List Nat) := [[], [], [], [], [], [], [], [], [], [], [], [], [384], [], [], [], [384], [], [], [], [], [], [], [], [], [], [], [], [], [], [], []]
/-- 215: Marktongue$Pairing.leaveOut(IIZ)V -/
def qc_215 : List (Nat × qI) := [(0, 1, .iload_n 1, 0, [1]), (1, 1, .iconst 4, 4, []), (2, 1, .imul, 0, []), (3, 1, .iload_n 2, 0, [2]), (4, 2, .bipush 64, 64, []), (6, 1, .idiv, 0, []), (7, 1, .iadd, 0, []), (8, 2, .istore 4, 0, [4]), (10, 1, .lconst 1, 1, []), (11, 1, .iload_n 2, 0, [2]), (12, 2, .bipush 63, 63, []), (14, 1, .iand, 0, []), (15, 1, .lshl, 0, []), (16, 2, .lstore 5, 0, [5]), (18, 2, .iload 4, 0, [4]), (20, 3, .ifCond .lt (51), 0, [71]), (23, 2, .iload 4, 0, [4]), (25, 1, .aload_n 0, 0, [0]), (26, 3, .getfield 11, 0, [8, 0, 1]), (29, 1, .arraylength, 0, []), (30, 3, .if_icmp .ge (41), 0, [71]), (33, 1, .aload_n 0, 0, [0]), (34, 3, .getfield 11, 0, [8, 0, 1]), (37, 2, .iload 4, 0, [4]), (39, 1, .iload_n 3, 0, [3]), (40, 3, .ifCond .eq (16), 0, [56]), (43, 1, .aload_n 0, 0, [0]), (44, 3, .getfield 11, 0, [8, 0, 1]), (47, 2, .iload 4, 0, [4]), (49, 1, .laload, 0, []), (50, 2, .lload 5, 0, [5]), (52, 1, .lor, 0, []), (53, 3, .goto (17), 0, [70]), (56, 1, .aload_n 0, 0, [0]), (57, 3, .getfield 11, 0, [8, 0, 1]), (60, 2, .iload 4, 0, [4]), (62, 1, .laload, 0, []), (63, 2, .lload 5, 0, [5]), (65, 3, .ldc2_w 69, -1, []), (68, 1, .lxor, 0, []), (69, 1, .land, 0, []), (70, 1, .lastore, 0, []), (71, 1, .return_, 0, [])]
def qw_215 : List (List Nat) := [[], [], [], [], [], [], [], [], [], [], [], [], [], [], [], [], [], [], [384], [], [], [], [384], [], [], [], [], [384], [], [], [], [], [], [], [384], [], [], [], [1000], [], [], [], []]
/-- 216: Marktongue$Printer.<init>(LMarktongue$Tree;)V -/
def qc_216 : List (Nat × qI) := [(0, 1, .aload_n 0, 0, [0]), (1, 3, .invokespecial 3, 0, [0, 1, 2, 0, 0]), (4, 1, .aload_n 0, 0, [0]), (5, 3, .new 9, 0, [10, 2, 0]), (8, 1, .dup, 0, []), (9, 3, .sipush 1927, 1927, []), (12, 3, .invokespecial 11, 0, [222, 2, 1, 10, 0]), (15, 3, .putfield 14, 0, [9, 1, 1]), (18, 1, .aload_n 0, 0, [0]), (19, 3, .new 9, 0, [10, 2, 0]), (22, 1, .dup, 0, []), (23, 3, .sipush 1927, 1927, []), (26, 3, .invokespecial 11, 0, [222, 2, 1, 10, 0]), (29, 3, .putfield 20, 0, [9, 2, 1]), (32, 1, .aload_n 0, 0, [0]), (33, 1, .aload_n 1, 0, [1]), (34, 3, .putfield 23, 0, [9, 0, 1]), (37, 1, .return_, 0, [])]
def qw_216 : List (List Nat) := [[], [357, 133, 134], [], [358, 136, 108], [], [], [359, 0, 108, 138], [361], [], [358, 136, 108], [], [], [359, 0, 108, 138], [362], [], [], [360], []]
/-- 217: Marktongue$Printer.of(I)LMarktongue$Row; -/
def qc_217 : List (Nat × qI) := [(0, 1, .iload_n 1, 0, [1]), (1, 3, .ifCond .ne (10), 0, [11]), (4, 1, .aload_n 0, 0, [0]), (5, 3, .getfield 14, 0, [9, 1, 1]), (8, 3, .goto (7), 0, [15]), (11, 1, .aload_n 0, 0, [0]), (12, 3, .getfield 20, 0, [9, 2, 1]), (15, 1, .areturn, 0, [])]
def qw_217 : List (List Nat) := [[], [], [], [361], [], [], [362], []]
/-- 218: Marktongue$Printer.write()V -/
def qc_218 : List (Nat × qI) := [(0, 1, .aload_n 0, 0, [0]), (1, 3, .getfield 14, 0, [9, 1, 1]), (4, 3, .invokevirtual 27, 0, [227, 1, 1, 10, 0]), (7, 1, .aload_n 0, 0, [0]), (8, 3, .getfield 20, 0, [9, 2, 1]), (11, 3, .invokevirtual 27, 0, [227, 1, 1, 10, 0]), (14, 1, .iconst (-1), -1, []), (15, 1, .istore_n 1, 0, [1]), (16, 1, .iconst 0, 0, []), (17, 1, .istore_n 2, 0, [2]), (18, 1, .iload_n 2, 0, [2]), (19, 1, .aload_n 0, 0, [0]), (20, 3, .getfield 23, 0, [9, 0, 1]), (23, 3, .invokevirtual 30, 0, [250, 1, 1, 12, 0]), (26, 3, .if_icmp .ge (29), 0, [55]), (29, 1, .aload_n 0, 0, [0]), (30, 1, .aload_n 0, 0, [0]), (31, 3, .getfield 23, 0, [9, 0, 1]), (34, 1, .iload_n 2, 0, [2]), (35, 3, .invokevirtual 36, 0, [252, 2, 1, 12, 0]), (38, 1, .iload_n 1, 0, [1]), (39, 3, .invokevirtual 40, 0, [220, 3, 1, 9, 0]), (42, 1, .aload_n 0, 0, [0]), (43, 1, .iload_n 2, 0, [2]), (44, 3, .invokevirtual 44, 0, [219, 2, 1, 9, 0]), (47, 1, .iload_n 2, 0, [2]), (48, 1, .istore_n 1, 0, [1]), (49, 3, .iinc 2 1, 1, [2]), (52, 3, .goto (-34), 0, [18]), (55, 1, .aload_n 0, 0, [0]), (56, 1, .iconst (-1), -1, []), (57, 1, .iload_n 1, 0, [1]), (58, 3, .invokevirtual 40, 0, [220, 3, 1, 9, 0]), (61, 1, .return_, 0, [])]
def qw_218 : List (List Nat) := [[], [361], [913, 0, 108, 486, 487], [], [362], [913, 0, 108, 486, 487], [], [], [], [], [], [], [360], [914, 0, 115, 915, 916], [], [], [], [360], [], [918, 0, 115, 919, 920], [], [922, 0, 116, 924, 34], [], [], [935, 0, 116, 937, 36], [], [], [], [], [], [], [], [922, 0, 116, 924, 34], []]
/-- 219: Marktongue$Printer.begin(I)V -/
def qc_219 : List (Nat × qI) := [(0, 1, .aload_n 0, 0, [0]), (1, 1, .iload_n 1, 0, [1]), (2, 3, .invokevirtual 47, 0, [221, 2, 1, 9, 0]), (5, 3, .ifCond .eq (49), 0, [54]), (8, 1, .aload_n 0, 0, [0]), (9, 3, .getfield 14, 0, [9, 1, 1]), (12, 3, .sipush 1000, 1000, []), (15, 1, .aload_n 0, 0, [0]), (16, 3, .getfield 23, 0, [9, 0, 1]), (19, 1, .iload_n 1, 0, [1]), (20, 3, .invokevirtual 51, 0, [251, 2, 1, 12, 0]), (23, 1, .iadd, 0, []), (24, 3, .invokevirtual 54, 0, [226, 2, 1, 10, 0]), (27, 1, .aload_n 0, 0, [0]), (28, 3, .getfield 23, 0, [9, 0, 1]), (31, 1, .iload_n 1, 0, [1]), (32, 3, .invokevirtual 57, 0, [255, 2, 1, 12, 0]), (35, 1, .iconst (-1), -1, []), (36, 3, .if_icmp .eq (18), 0, [54]), (39, 1, .aload_n 0, 0, [0]), (40, 3, .getfield 14, 0, [9, 1, 1]), (43, 1, .aload_n 0, 0, [0]), (44, 3, .getfield 23, 0, [9, 0, 1]), (47, 1, .iload_n 1, 0, [1]), (48, 3, .invokevirtual 57, 0, [255, 2, 1, 12, 0]), (51, 3, .invokevirtual 54, 0, [226, 2, 1, 10, 0]), (54, 1, .iconst 0, 0, []), (55, 1, .istore_n 2, 0, [2]), (56, 1, .iload_n 2, 0, [2]), (57, 1, .aload_n 0, 0, [0]), (58, 3, .getfield 23, 0, [9, 0, 1]), (61, 1, .iload_n 1, 0, [1]), (62, 3, .invokevirtual 60, 0, [259, 2, 1, 12, 0]), (65, 3, .if_icmp .ge (41), 0, [106]), (68, 1, .aload_n 0, 0, [0]), (69, 3, .getfield 14, 0, [9, 1, 1]), (72, 1, .aload_n 0, 0, [0]), (73, 3, .getfield 23, 0, [9, 0, 1]), (76, 1, .iload_n 1, 0, [1]), (77, 1, .iload_n 2, 0, [2]), (78, 3, .invokevirtual 63, 0, [260, 3, 1, 12, 0]), (81, 3, .invokevirtual 54, 0, [226, 2, 1, 10, 0]), (84, 1, .aload_n 0, 0, [0]), (85, 3, .getfield 20, 0, [9, 2, 1]), (88, 1, .aload_n 0, 0, [0]), (89, 3, .getfield 23, 0, [9, 0, 1]), (92, 1, .iload_n 1, 0, [1]), (93, 1, .iload_n 2, 0, [2]), (94, 3, .invokevirtual 63, 0, [260, 3, 1, 12, 0]), (97, 3, .invokevirtual 54, 0, [226, 2, 1, 10, 0]), (100, 3, .iinc 2 1, 1, [2]), (103, 3, .goto (-47), 0, [56]), (106, 1, .return_, 0, [])]
def qw_219 : List (List Nat) := [[], [], [926, 0, 116, 928, 35], [], [], [361], [], [], [360], [], [930, 0, 115, 931, 932], [], [934, 0, 108, 503, 504], [], [360], [], [939, 0, 115, 940, 941], [], [], [], [361], [], [360], [], [939, 0, 115, 940, 941], [934, 0, 108, 503, 504], [], [], [], [], [360], [], [943, 0, 115, 944, 945], [], [], [361], [], [360], [], [], [947, 0, 115, 948, 949], [934, 0, 108, 503, 504], [], [362], [], [360], [], [], [947, 0, 115, 948, 949], [934, 0, 108, 503, 504], [], [], []]
/-- 220: Marktongue$Printer.endUpTo(II)V -/
def qc_220 : List (Nat × qI) := [(0, 1, .iload_n 2, 0, [2]), (1, 1, .istore_n 3, 0, [3]), (2, 1, .iconst 0, 0, []), (3, 2, .istore 4, 0, [4]), (5, 2, .iload 4, 0, [4]), (7, 3, .sipush 482, 482, []), (10, 3, .if_icmp .ge (84), 0, [94]), (13, 1, .iload_n 3, 0, [3]), (14, 1, .iload_n 1, 0, [1]), (15, 3, .if_icmp .eq (79), 0, [94]), (18, 1, .aload_n 0, 0, [0]), (19, 1, .iload_n 3, 0, [3]), (20, 3, .invokevirtual 47, 0, [221, 2, 1, 9, 0]), (23, 3, .ifCond .eq (22), 0, [45]), (26, 1, .aload_n 0, 0, [0]), (27, 3, .getfield 14, 0, [9, 1, 1]), (30, 3, .sipush 2000, 2000, []), (33, 1, .aload_n 0, 0, [0]), (34, 3, .getfield 23, 0, [9, 0, 1]), (37, 1, .iload_n 3, 0, [3]), (38, 3, .invokevirtual 51, 0, [251, 2, 1, 12, 0]), (41, 1, .iadd, 0, []), (42, 3, .invokevirtual 54, 0, [226, 2, 1, 10, 0]), (45, 1, .aload_n 0, 0, [0]), (46, 3, .getfield 23, 0, [9, 0, 1]), (49, 1, .iload_n 3, 0, [3]), (50, 3, .invokevirtual 51, 0, [251, 2, 1, 12, 0]), (53, 2, .bipush 6, 6, []), (55, 3, .if_icmp .eq (15), 0, [70]), (58, 1, .aload_n 0, 0, [0]), (59, 3, .getfield 23, 0, [9, 0, 1]), (62, 1, .iload_n 3, 0, [3]), (63, 3, .invokevirtual 51, 0, [251, 2, 1, 12, 0]), (66, 1, .iconst 4, 4, []), (67, 3, .if_icmp .ne (12), 0, [79]), (70, 1, .aload_n 0, 0, [0]), (71, 3, .getfield 20, 0, [9, 2, 1]), (74, 2, .bipush 10, 10, []), (76, 3, .invokevirtual 54, 0, [226, 2, 1, 10, 0]), (79, 1, .aload_n 0, 0, [0]), (80, 3, .getfield 23, 0, [9, 0, 1]), (83, 1, .iload_n 3, 0, [3]), (84, 3, .invokevirtual 36, 0, [252, 2, 1, 12, 0]), (87, 1, .istore_n 3, 0, [3]), (88, 3, .iinc 4 1, 1, [4]), (91, 3, .goto (-86), 0, [5]), (94, 1, .return_, 0, [])]
def qw_220 : List (List Nat) := [[], [], [], [], [], [], [], [], [], [], [], [], [926, 0, 116, 928, 35], [], [], [361], [], [], [360], [], [930, 0, 115, 931, 932], [], [934, 0, 108, 503, 504], [], [360], [], [930, 0, 115, 931, 932], [], [], [], [360], [], [930, 0, 115, 931, 932], [], [], [], [362], [], [934, 0, 108, 503, 504], [], [360], [], [918, 0, 115, 919, 920], [], [], [], []]
/-- 221: Marktongue$Printer.isMarked(I)Z -/
def qc_221 : List (Nat × qI) := [(0, 1, .aload_n 0, 0, [0]), (1, 3, .getfield 23, 0, [9, 0, 1]), (4, 1, .iload_n 1, 0, [1]), (5, 3, .invokevirtual 51, 0, [251, 2, 1, 12, 0]), (8, 2, .bipush 8, 8, []), (10, 3, .if_icmp .eq (20), 0, [30]), (13, 1, .aload_n 0, 0, [0]), (14, 3, .getfield 23, 0, [9, 0, 1]), (17, 1, .iload_n 1, 0, [1]), (18, 3, .invokevirtual 51, 0, [251, 2, 1, 12, 0]), (21, 2, .bipush 7, 7, []), (23, 3, .if_icmp .eq (7), 0, [30]), (26, 1, .iconst 1, 1, []), (27, 3, .goto (4), 0, [31]), (30, 1, .iconst 0, 0, []), (31, 1, .ireturn, 0, [3])]
def qw_221 : List (List Nat) := [[], [360], [], [930, 0, 115, 931, 932], [], [], [], [360], [], [930, 0, 115, 931, 932], [], [], [], [], [], []]
/-- 222: Marktongue$Row.<init>(I)V -/
def qc_222 : List (Nat × qI) := [(0, 1, .aload_n 0, 0, [0]), (1, 3, .invokespecial 3, 0, [0, 1, 2, 0, 0]), (4, 1, .aload_n 0, 0, [0]), (5, 1, .iconst 0, 0, []), (6, 3, .putfield 9, 0, [10, 1, 0]), (9, 1, .aload_n 0, 0, [0]), (10, 1, .iload_n 1, 0, [1]), (11, 3, .ifCond .ge (7), 0, [18]), (14, 1, .iconst 0, 0, []), (15, 3, .goto (4), 0, [19]), (18, 1, .iload_n 1, 0, [1]), (19, 2, .newarray .int, 0, [0]), (21, 3, .putfield 15, 0, [10, 0, 1]), (24, 1, .return_, 0, [])]
def qw_222 : List (List Nat) := [[], [140, 133, 134], [], [], [142], [], [], [], [], [], [], [148], [141], []]
/-- 223: Marktongue$Row.size()I -/
def qc_223 : List (Nat × qI) := [(0, 1, .aload_n 0, 0, [0]), (1, 3, .getfield 9, 0, [10, 1, 0]), (4, 1, .ireturn, 0, [0])]
def qw_223 : List (List Nat) := [[], [142], []]
/-- 224: Marktongue$Row.at(I)I -/
def qc_224 : List (Nat × qI) := [(0, 1, .iload_n 1, 0, [1]), (1, 3, .ifCond .lt (29), 0, [30]), (4, 1, .iload_n 1, 0, [1]), (5, 1, .aload_n 0, 0, [0]), (6, 3, .getfield 9, 0, [10, 1, 0]), (9, 3, .if_icmp .ge (21), 0, [30]), (12, 1, .iload_n 1, 0, [1]), (13, 1, .aload_n 0, 0, [0]), (14, 3, .getfield 15, 0, [10, 0, 1]), (17, 1, .arraylength, 0, []), (18, 3, .if_icmp .ge (12), 0, [30]), (21, 1, .aload_n 0, 0, [0]), (22, 3, .getfield 15, 0, [10, 0, 1]), (25, 1, .iload_n 1, 0, [1]), (26, 1, .iaload, 0, []), (27, 3, .goto (4), 0, [31]), (30, 1, .iconst (-1), -1, []), (31, 1, .ireturn, 0, [0])]
def qw_224 : List (List Nat) := [[], [], [], [], [142], [], [], [], [141], [], [], [], [141], [], [], [], [], []]
/-- 225: Marktongue$Row.set(II)V -/
def qc_225 : List (Nat × qI) := [(0, 1, .iload_n 1, 0, [1]), (1, 3, .ifCond .lt (27), 0, [28]), (4, 1, .iload_n 1, 0, [1]), (5, 1, .aload_n 0, 0, [0]), (6, 3, .getfield 9, 0, [10, 1, 0]), (9, 3, .if_icmp .ge (19), 0, [28]), (12, 1, .iload_n 1, 0, [1]), (13, 1, .aload_n 0, 0, [0]), (14, 3, .getfield 15, 0, [10, 0, 1]), (17, 1, .arraylength, 0, []), (18, 3, .if_icmp .ge (10), 0, [28]), (21, 1, .aload_n 0, 0, [0]), (22, 3, .getfield 15, 0, [10, 0, 1]), (25, 1, .iload_n 1, 0, [1]), (26, 1, .iload_n 2, 0, [2]), (27, 1, .iastore, 0, []), (28, 1, .return_, 0, [])]
def qw_225 : List (List Nat) := [[], [], [], [], [142], [], [], [], [141], [], [], [], [141], [], [], [], []]
/-- 226: Marktongue$Row.add(I)V -/
def qc_226 : List (Nat × qI) := [(0, 1, .aload_n 0, 0, [0]), (1, 3, .getfield 9, 0, [10, 1, 0]), (4, 3, .ifCond .lt (35), 0, [39]), (7, 1, .aload_n 0, 0, [0]), (8, 3, .getfield 9, 0, [10, 1, 0]), (11, 1, .aload_n 0, 0, [0]), (12, 3, .getfield 15, 0, [10, 0, 1]), (15, 1, .arraylength, 0, []), (16, 3, .if_icmp .ge (23), 0, [39]), (19, 1, .aload_n 0, 0, [0]), (20, 3, .getfield 15, 0, [10, 0, 1]), (23, 1, .aload_n 0, 0, [0]), (24, 3, .getfield 9, 0, [10, 1, 0]), (27, 1, .iload_n 1, 0, [1]), (28, 1, .iastore, 0, []), (29, 1, .aload_n 0, 0, [0]), (30, 1, .dup, 0, []), (31, 3, .getfield 9, 0, [10, 1, 0]), (34, 1, .iconst 1, 1, []), (35, 1, .iadd, 0, []), (36, 3, .putfield 9, 0, [10, 1, 0]), (39, 1, .return_, 0, [])]
def qw_226 : List (List Nat) := [[], [142], [], [], [142], [], [141], [], [], [], [141], [], [142], [], [], [], [], [142], [], [], [142], []]
/-- 227: Marktongue$Row.empty()V -/
def qc_227 : List (Nat × qI) := [(0, 1, .aload_n 0, 0, [0]), (1, 1, .iconst 0, 0, []), (2, 3, .putfield 9, 0, [10, 1, 0]), (5, 1, .return_, 0, [])]
def qw_227 : List (List Nat) := [[], [], [142], []]
/-- 228: Marktongue$Row.cut(I)V -/
def qc_228 : List (Nat × qI) := [(0, 1, .iload_n 1, 0, [1]), (1, 3, .ifCond .lt (16), 0, [17]), (4, 1, .iload_n 1, 0, [1]), (5, 1, .aload_n 0, 0, [0]), (6, 3, .getfield 9, 0, [10, 1, 0]), (9, 3, .if_icmp .ge (8), 0, [17]), (12, 1, .aload_n 0, 0, [0]), (13, 1, .iload_n 1, 0, [1]), (14, 3, .putfield 9, 0, [10, 1, 0]), (17, 1, .return_, 0, [])]
def qw_228 : List (List Nat) := [[], [], [], [], [142], [], [], [], [142], []]
/-- 229: Marktongue$Row.fill(II)V -/
def qc_229 : List (Nat × qI) := [(0, 1, .aload_n 0, 0, [0]), (1, 3, .invokevirtual 19, 0, [227, 1, 1, 10, 0]), (4, 1, .iconst 0, 0, []), (5, 1, .istore_n 3, 0, [3]), (6, 1, .iload_n 3, 0, [3]), (7, 1, .iload_n 1, 0, [1]), (8, 3, .if_icmp .ge (14), 0, [22]), (11, 1, .aload_n 0, 0, [0]), (12, 1, .iload_n 2, 0, [2]), (13, 3, .invokevirtual 22, 0, [226, 2, 1, 10, 0]), (16, 3, .iinc 3 1, 1, [3]), (19, 3, .goto (-13), 0, [6]), (22, 1, .return_, 0, [])]
def qw_229 : List (List Nat) := [[], [529, 0, 108, 486, 487], [], [], [], [], [], [], [], [530, 0, 108, 503, 504], [], [], []]
/-- 230: Marktongue$Row.insert(II)V -/
def qc_230 : List (Nat × qI) := [(0, 1, .aload_n 0, 0, [0]), (1, 1, .iload_n 2, 0, [2]), (2, 3, .invokevirtual 22, 0, [226, 2, 1, 10, 0]), (5, 1, .aload_n 0, 0, [0]), (6, 3, .getfield 9, 0, [10, 1, 0]), (9, 1, .iconst 1, 1, []), (10, 1, .isub, 0, []), (11, 1, .istore_n 3, 0, [3]), (12, 1, .iload_n 3, 0, [3]), (13, 1, .iload_n 1, 0, [1]), (14, 3, .if_icmp .le (21), 0, [35]), (17, 1, .aload_n 0, 0, [0]), (18, 1, .iload_n 3, 0, [3]), (19, 1, .aload_n 0, 0, [0]), (20, 1, .iload_n 3, 0, [3]), (21, 1, .iconst 1, 1, []), (22, 1, .isub, 0, []), (23, 3, .invokevirtual 26, 0, [224, 2, 1, 10, 0]), (26, 3, .invokevirtual 30, 0, [225, 3, 1, 10, 0]), (29, 3, .iinc 3 (-1), -1, [3]), (32, 3, .goto (-20), 0, [12]), (35, 1, .aload_n 0, 0, [0]), (36, 1, .iload_n 1, 0, [1]), (37, 1, .iload_n 2, 0, [2]), (38, 3, .invokevirtual 30, 0, [225, 3, 1, 10, 0]), (41, 1, .return_, 0, [])]
def qw_230 : List (List Nat) := [[], [], [530, 0, 108, 503, 504], [], [142], [], [], [], [], [], [], [], [], [], [], [], [], [975, 0, 108, 508, 509], [1170, 0, 108, 542, 543], [], [], [], [], [], [1170, 0, 108, 542, 543], []]
/-- 231: Marktongue$Row.remove(II)V -/
def qc_231 : List (Nat × qI) := [(0, 1, .iload_n 1, 0, [1]), (1, 1, .iload_n 2, 0, [2]), (2, 1, .iadd, 0, []), (3, 1, .istore_n 3, 0, [3]), (4, 1, .iload_n 3, 0, [3]), (5, 1, .aload_n 0, 0, [0]), (6, 3, .getfield 9, 0, [10, 1, 0]), (9, 3, .if_icmp .ge (21), 0, [30]), (12, 1, .aload_n 0, 0, [0]), (13, 1, .iload_n 3, 0, [3]), (14, 1, .iload_n 2, 0, [2]), (15, 1, .isub, 0, []), (16, 1, .aload_n 0, 0, [0]), (17, 1, .iload_n 3, 0, [3]), (18, 3, .invokevirtual 26, 0, [224, 2, 1, 10, 0]), (21, 3, .invokevirtual 30, 0, [225, 3, 1, 10, 0]), (24, 3, .iinc 3 1, 1, [3]), (27, 3, .goto (-23), 0, [4]), (30, 1, .aload_n 0, 0, [0]), (31, 1, .aload_n 0, 0, [0]), (32, 3, .getfield 9, 0, [10, 1, 0]), (35, 1, .iload_n 2, 0, [2]), (36, 1, .isub, 0, []), (37, 3, .invokevirtual 34, 0, [228, 2, 1, 10, 0]), (40, 1, .return_, 0, [])]
def qw_231 : List (List Nat) := [[], [], [], [], [], [], [142], [], [], [], [], [], [], [], [975, 0, 108, 508, 509], [1170, 0, 108, 542, 543], [], [], [], [], [142], [], [], [1183, 0, 108, 764, 765], []]
/-- 232: Marktongue$Row.become(LMarktongue$Row;)V -/
def qc_232 : List (Nat × qI) := [(0, 1, .aload_n 0, 0, [0]), (1, 3, .invokevirtual 19, 0, [227, 1, 1, 10, 0]), (4, 1, .iconst 0, 0, []), (5, 1, .istore_n 2, 0, [2]), (6, 1, .iload_n 2, 0, [2]), (7, 1, .aload_n 1, 0, [1]), (8, 3, .invokevirtual 37, 0, [223, 1, 1, 10, 0]), (11, 3, .if_icmp .ge (18), 0, [29]), (14, 1, .aload_n 0, 0, [0]), (15, 1, .aload_n 1, 0, [1]), (16, 1, .iload_n 2, 0, [2]), (17, 3, .invokevirtual 26, 0, [224, 2, 1, 10, 0]), (20, 3, .invokevirtual 22, 0, [226, 2, 1, 10, 0]), (23, 3, .iinc 2 1, 1, [2]), (26, 3, .goto (-20), 0, [6]), (29, 1, .return_, 0, [])]
def qw_232 : List (List Nat) := [[], [529, 0, 108, 486, 487], [], [], [], [], [974, 0, 108, 478, 479], [], [], [], [], [975, 0, 108, 508, 509], [530, 0, 108, 503, 504], [], [], []]
/-- 233: Marktongue$Runs.<init>()V -/
def qc_233 : List (Nat × qI) := [(0, 1, .aload_n 0, 0, [0]), (1, 3, .invokespecial 3, 0, [0, 1, 2, 0, 0]), (4, 1, .aload_n 0, 0, [0]), (5, 3, .new 9, 0, [10, 2, 0]), (8, 1, .dup, 0, []), (9, 3, .sipush 240, 240, []), (12, 3, .invokespecial 11, 0, [222, 2, 1, 10, 0]), (15, 3, .putfield 14, 0, [11, 0, 1]), (18, 1, .aload_n 0, 0, [0]), (19, 3, .new 9, 0, [10, 2, 0]), (22, 1, .dup, 0, []), (23, 3, .sipush 240, 240, []), (26, 3, .invokespecial 11, 0, [222, 2, 1, 10, 0]), (29, 3, .putfield 20, 0, [11, 1, 1]), (32, 1, .aload_n 0, 0, [0]), (33, 3, .new 9, 0, [10, 2, 0]), (36, 1, .dup, 0, []), (37, 3, .sipush 240, 240, []), (40, 3, .invokespecial 11, 0, [222, 2, 1, 10, 0]), (43, 3, .putfield 23, 0, [11, 2, 1]), (46, 1, .aload_n 0, 0, [0]), (47, 3, .new 9, 0, [10, 2, 0]), (50, 1, .dup, 0, []), (51, 3, .sipush 240, 240, []), (54, 3, .invokespecial 11, 0, [222, 2, 1, 10, 0]), (57, 3, .putfield 26, 0, [11, 3, 1]), (60, 1, .aload_n 0, 0, [0]), (61, 3, .new 9, 0, [10, 2, 0]), (64, 1, .dup, 0, []), (65, 3, .sipush 240, 240, []), (68, 3, .invokespecial 11, 0, [222, 2, 1, 10, 0]), (71, 3, .putfield 29, 0, [11, 4, 1]), (74, 1, .return_, 0, [])]
def qw_233 : List (List Nat) := [[], [278, 133, 134], [], [279, 136, 108], [], [], [280, 0, 108, 138], [281], [], [279, 136, 108], [], [], [280, 0, 108, 138], [282], [], [279, 136, 108], [], [], [280, 0, 108, 138], [283], [], [279, 136, 108], [], [], [280, 0, 108, 138], [284], [], [279, 136, 108], [], [], [280, 0, 108, 138], [285], []]
/-- 234: Marktongue$Runs.empty()V -/
def qc_234 : List (Nat × qI) := [(0, 1, .aload_n 0, 0, [0]), (1, 1, .iconst 0, 0, []), (2, 3, .invokevirtual 32, 0, [235, 2, 1, 11, 0]), (5, 1, .return_, 0, [])]
def qw_234 : List (List Nat) := [[], [], [759, 0, 114, 761, 19], []]
/-- 235: Marktongue$Runs.cut(I)V -/
def qc_235 : List (Nat × qI) := [(0, 1, .aload_n 0, 0, [0]), (1, 3, .getfield 14, 0, [11, 0, 1]), (4, 1, .iload_n 1, 0, [1]), (5, 3, .invokevirtual 35, 0, [228, 2, 1, 10, 0]), (8, 1, .aload_n 0, 0, [0]), (9, 3, .getfield 20, 0, [11, 1, 1]), (12, 1, .iload_n 1, 0, [1]), (13, 3, .invokevirtual 35, 0, [228, 2, 1, 10, 0]), (16, 1, .aload_n 0, 0, [0]), (17, 3, .getfield 23, 0, [11, 2, 1]), (20, 1, .iload_n 1, 0, [1]), (21, 3, .invokevirtual 35, 0, [228, 2, 1, 10, 0]), (24, 1, .aload_n 0, 0, [0]), (25, 3, .getfield 26, 0, [11, 3, 1]), (28, 1, .iload_n 1, 0, [1]), (29, 3, .invokevirtual 35, 0, [228, 2, 1, 10, 0]), (32, 1, .aload_n 0, 0, [0]), (33, 3, .getfield 29, 0, [11, 4, 1]), (36, 1, .iload_n 1, 0, [1]), (37, 3, .invokevirtual 35, 0, [228, 2, 1, 10, 0]), (40, 1, .return_, 0, [])]
def qw_235 : List (List Nat) := [[], [281], [], [763, 0, 108, 764, 765], [], [282], [], [763, 0, 108, 764, 765], [], [283], [], [763, 0, 108, 764, 765], [], [284], [], [763, 0, 108, 764, 765], [], [285], [], [763, 0, 108, 764, 765], []]
/-- 236: Marktongue$Runs.add(IIII)V -/
def qc_236 : List (Nat × qI) := [(0, 1, .aload_n 0, 0, [0]), (1, 3, .getfield 14, 0, [11, 0, 1]), (4, 1, .iload_n 1, 0, [1]), (5, 3, .invokevirtual 36, 0, [226, 2, 1, 10, 0]), (8, 1, .aload_n 0, 0, [0]), (9, 3, .getfield 20, 0, [11, 1, 1]), (12, 1, .iload_n 2, 0, [2]), (13, 3, .invokevirtual 36, 0, [226, 2, 1, 10, 0]), (16, 1, .aload_n 0, 0, [0]), (17, 3, .getfield 23, 0, [11, 2, 1]), (20, 1, .iload_n 2, 0, [2]), (21, 1, .iload_n 1, 0, [1]), (22, 1, .isub, 0, []), (23, 3, .invokevirtual 36, 0, [226, 2, 1, 10, 0]), (26, 1, .aload_n 0, 0, [0]), (27, 3, .getfield 26, 0, [11, 3, 1]), (30, 1, .aload_n 0, 0, [0]), (31, 2, .iload 4, 0, [4]), (33, 1, .iload_n 3, 0, [3]), (34, 3, .invokevirtual 39, 0, [237, 3, 1, 11, 0]), (37, 3, .ifCond .eq (7), 0, [44]), (40, 1, .iconst 1, 1, []), (41, 3, .goto (4), 0, [45]), (44, 1, .iconst 0, 0, []), (45, 3, .invokevirtual 36, 0, [226, 2, 1, 10, 0]), (48, 1, .aload_n 0, 0, [0]), (49, 3, .getfield 29, 0, [11, 4, 1]), (52, 1, .aload_n 0, 0, [0]), (53, 1, .iload_n 3, 0, [3]), (54, 2, .iload 4, 0, [4]), (56, 3, .invokevirtual 39, 0, [237, 3, 1, 11, 0]), (59, 3, .ifCond .eq (7), 0, [66]), (62, 1, .iconst 1, 1, []), (63, 3, .goto (4), 0, [67]), (66, 1, .iconst 0, 0, []), (67, 3, .invokevirtual 36, 0, [226, 2, 1, 10, 0]), (70, 1, .return_, 0, [])]
def qw_236 : List (List Nat) := [[], [281], [], [873, 0, 108, 503, 504], [], [282], [], [873, 0, 108, 503, 504], [], [283], [], [], [], [873, 0, 108, 503, 504], [], [284], [], [], [], [874, 0, 114, 876, 32], [], [], [], [], [873, 0, 108, 503, 504], [], [285], [], [], [], [874, 0, 114, 876, 32], [], [], [], [], [873, 0, 108, 503, 504], []]
/-- 237: Marktongue$Runs.isFlank(II)Z -/
def qc_237 : List (Nat × qI) := [(0, 1, .iload_n 1, 0, [1]), (1, 3, .invokestatic 43, 0, [38, 1, 0, 0, 0]), (4, 3, .ifCond .ne (28), 0, [32]), (7, 1, .iload_n 1, 0, [1]), (8, 3, .invokestatic 47, 0, [37, 1, 0, 0, 0]), (11, 3, .ifCond .eq (17), 0, [28]), (14, 1, .iload_n 2, 0, [2]), (15, 3, .invokestatic 43, 0, [38, 1, 0, 0, 0]), (18, 3, .ifCond .ne (10), 0, [28]), (21, 1, .iload_n 2, 0, [2]), (22, 3, .invokestatic 47, 0, [37, 1, 0, 0, 0]), (25, 3, .ifCond .eq (7), 0, [32]), (28, 1, .iconst 1, 1, []), (29, 3, .goto (4), 0, [33]), (32, 1, .iconst 0, 0, []), (33, 1, .ireturn, 0, [3])]
def qw_237 : List (List Nat) := [[], [878, 1, 107, 626], [], [], [879, 1, 107, 800], [], [], [878, 1, 107, 626], [], [], [879, 1, 107, 800], [], [], [], [], []]
/-- 238: Marktongue$Runs.firstBehind(I)I -/
def qc_238 : List (Nat × qI) := [(0, 1, .iconst 0, 0, []), (1, 1, .istore_n 2, 0, [2]), (2, 1, .iload_n 2, 0, [2]), (3, 1, .aload_n 0, 0, [0]), (4, 3, .getfield 14, 0, [11, 0, 1]), (7, 3, .invokevirtual 50, 0, [223, 1, 1, 10, 0]), (10, 3, .if_icmp .ge (23), 0, [33]), (13, 1, .aload_n 0, 0, [0]), (14, 3, .getfield 14, 0, [11, 0, 1]), (17, 1, .iload_n 2, 0, [2]), (18, 3, .invokevirtual 54, 0, [224, 2, 1, 10, 0]), (21, 1, .iload_n 1, 0, [1]), (22, 3, .if_icmp .le (5), 0, [27]), (25, 1, .iload_n 2, 0, [2]), (26, 1, .ireturn, 0, [0]), (27, 3, .iinc 2 1, 1, [2]), (30, 3, .goto (-28), 0, [2]), (33, 1, .aload_n 0, 0, [0]), (34, 3, .getfield 14, 0, [11, 0, 1]), (37, 3, .invokevirtual 50, 0, [223, 1, 1, 10, 0]), (40, 1, .ireturn, 0, [0])]
def qw_238 : List (List Nat) := [[], [], [], [], [281], [842, 0, 108, 478, 479], [], [], [281], [], [843, 0, 108, 508, 509], [], [], [], [], [], [], [], [281], [842, 0, 108, 478, 479], []]
/-- 239: Marktongue$Runs.resolve(ILMarktongue$Row;)V -/
def qc_239 : List (Nat × qI) := [(0, 1, .iload_n 1, 0, [1]), (1, 1, .istore_n 3, 0, [3]), (2, 1, .iload_n 3, 0, [3]), (3, 1, .aload_n 0, 0, [0]), (4, 3, .getfield 14, 0, [11, 0, 1]), (7, 3, .invokevirtual 50, 0, [223, 1, 1, 10, 0]), (10, 3, .if_icmp .ge (71), 0, [81]), (13, 1, .iconst 0, 0, []), (14, 2, .istore 4, 0, [4]), (16, 2, .iload 4, 0, [4]), (18, 3, .sipush 240, 240, []), (21, 3, .if_icmp .ge (54), 0, [75]), (24, 1, .aload_n 0, 0, [0]), (25, 3, .getfield 29, 0, [11, 4, 1]), (28, 1, .iload_n 3, 0, [3]), (29, 3, .invokevirtual 54, 0, [224, 2, 1, 10, 0]), (32, 1, .iconst 1, 1, []), (33, 3, .if_icmp .ne (42), 0, [75]), (36, 1, .aload_n 0, 0, [0]), (37, 1, .iload_n 3, 0, [3]), (38, 3, .invokevirtual 58, 0, [240, 2, 1, 11, 0]), (41, 3, .ifCond .le (34), 0, [75]), (44, 1, .aload_n 0, 0, [0]), (45, 1, .iload_n 3, 0, [3]), (46, 1, .iload_n 1, 0, [1]), (47, 3, .invokevirtual 61, 0, [241, 3, 1, 11, 0]), (50, 2, .istore 5, 0, [5]), (52, 2, .iload 5, 0, [5]), (54, 1, .iconst (-1), -1, []), (55, 3, .if_icmp .ne (6), 0, [61]), (58, 3, .goto (17), 0, [75]), (61, 1, .aload_n 0, 0, [0]), (62, 2, .iload 5, 0, [5]), (64, 1, .iload_n 3, 0, [3]), (65, 1, .aload_n 2, 0, [2]), (66, 3, .invokevirtual 65, 0, [243, 4, 1, 11, 0]), (69, 3, .iinc 4 1, 1, [4]), (72, 3, .goto (-56), 0, [16]), (75, 3, .iinc 3 1, 1, [3]), (78, 3, .goto (-76), 0, [2]), (81, 1, .aload_n 0, 0, [0]), (82, 1, .iload_n 1, 0, [1]), (83, 3, .invokevirtual 32, 0, [235, 2, 1, 11, 0]), (86, 1, .return_, 0, [])]
def qw_239 : List (List Nat) := [[], [], [], [], [281], [842, 0, 108, 478, 479], [], [], [], [], [], [], [], [285], [], [843, 0, 108, 508, 509], [], [], [], [], [848, 0, 114, 850, 27], [], [], [], [], [852, 0, 114, 854, 28], [], [], [], [], [], [], [], [], [], [860, 0, 114, 862, 30], [], [], [], [], [], [], [759, 0, 114, 761, 19], []]
/-- 240: Marktongue$Runs.left(I)I -/
def qc_240 : List (Nat × qI) := [(0, 1, .aload_n 0, 0, [0]), (1, 3, .getfield 20, 0, [11, 1, 1]), (4, 1, .iload_n 1, 0, [1]), (5, 3, .invokevirtual 54, 0, [224, 2, 1, 10, 0]), (8, 1, .aload_n 0, 0, [0]), (9, 3, .getfield 14, 0, [11, 0, 1]), (12, 1, .iload_n 1, 0, [1]), (13, 3, .invokevirtual 54, 0, [224, 2, 1, 10, 0]), (16, 1, .isub, 0, []), (17, 1, .ireturn, 0, [0])]
def qw_240 : List (List Nat) := [[], [282], [], [843, 0, 108, 508, 509], [], [281], [], [843, 0, 108, 508, 509], [], []]
/-- 241: Marktongue$Runs.openerOf(II)I -/
def qc_241 : List (Nat × qI) := [(0, 1, .iload_n 1, 0, [1]), (1, 1, .iconst 1, 1, []), (2, 1, .isub, 0, []), (3, 1, .istore_n 3, 0, [3]), (4, 1, .iload_n 3, 0, [3]), (5, 1, .iload_n 2, 0, [2]), (6, 3, .if_icmp .lt (40), 0, [46]), (9, 1, .aload_n 0, 0, [0]), (10, 3, .getfield 26, 0, [11, 3, 1]), (13, 1, .iload_n 3, 0, [3]), (14, 3, .invokevirtual 54, 0, [224, 2, 1, 10, 0]), (17, 1, .iconst 1, 1, []), (18, 3, .if_icmp .ne (22), 0, [40]), (21, 1, .aload_n 0, 0, [0]), (22, 1, .iload_n 3, 0, [3]), (23, 3, .invokevirtual 58, 0, [240, 2, 1, 11, 0]), (26, 3, .ifCond .le (14), 0, [40]), (29, 1, .aload_n 0, 0, [0]), (30, 1, .iload_n 3, 0, [3]), (31, 1, .iload_n 1, 0, [1]), (32, 3, .invokevirtual 69, 0, [242, 3, 1, 11, 0]), (35, 3, .ifCond .ne (5), 0, [40]), (38, 1, .iload_n 3, 0, [3]), (39, 1, .ireturn, 0, [0]), (40, 3, .iinc 3 (-1), -1, [3]), (43, 3, .goto (-39), 0, [4]), (46, 1, .iconst (-1), -1, []), (47, 1, .ireturn, 0, [0])]
def qw_241 : List (List Nat) := [[], [], [], [], [], [], [], [], [284], [], [843, 0, 108, 508, 509], [], [], [], [], [848, 0, 114, 850, 27], [], [], [], [], [856, 0, 114, 858, 29], [], [], [], [], [], [], []]
/-- 242: Marktongue$Runs.breaksRule(II)Z -/
def qc_242 : List (Nat × qI) := [(0, 1, .aload_n 0, 0, [0]), (1, 3, .getfield 29, 0, [11, 4, 1]), (4, 1, .iload_n 1, 0, [1]), (5, 3, .invokevirtual 54, 0, [224, 2, 1, 10, 0]), (8, 1, .iconst 1, 1, []), (9, 3, .if_icmp .eq (15), 0, [24]), (12, 1, .aload_n 0, 0, [0]), (13, 3, .getfield 26, 0, [11, 3, 1]), (16, 1, .iload_n 2, 0, [2]), (17, 3, .invokevirtual 54, 0, [224, 2, 1, 10, 0]), (20, 1, .iconst 1, 1, []), (21, 3, .if_icmp .ne (7), 0, [28]), (24, 1, .iconst 1, 1, []), (25, 3, .goto (4), 0, [29]), (28, 1, .iconst 0, 0, []), (29, 1, .istore_n 3, 0, [3]), (30, 1, .aload_n 0, 0, [0]), (31, 3, .getfield 23, 0, [11, 2, 1]), (34, 1, .iload_n 1, 0, [1]), (35, 3, .invokevirtual 54, 0, [224, 2, 1, 10, 0]), (38, 2, .istore 4, 0, [4]), (40, 2, .iload 4, 0, [4]), (42, 1, .aload_n 0, 0, [0]), (43, 3, .getfield 23, 0, [11, 2, 1]), (46, 1, .iload_n 2, 0, [2]), (47, 3, .invokevirtual 54, 0, [224, 2, 1, 10, 0]), (50, 1, .iadd, 0, []), (51, 2, .istore 5, 0, [5]), (53, 1, .iload_n 3, 0, [3]), (54, 3, .ifCond .eq (21), 0, [75]), (57, 2, .iload 5, 0, [5]), (59, 1, .iconst 3, 3, []), (60, 1, .irem, 0, []), (61, 3, .ifCond .ne (14), 0, [75]), (64, 2, .iload 4, 0, [4]), (66, 1, .iconst 3, 3, []), (67, 1, .irem, 0, []), (68, 3, .ifCond .eq (7), 0, [75]), (71, 1, .iconst 1, 1, []), (72, 3, .goto (4), 0, [76]), (75, 1, .iconst 0, 0, []), (76, 1, .ireturn, 0, [3])]
def qw_242 : List (List Nat) := [[], [285], [], [843, 0, 108, 508, 509], [], [], [], [284], [], [843, 0, 108, 508, 509], [], [], [], [], [], [], [], [283], [], [843, 0, 108, 508, 509], [], [], [], [283], [], [843, 0, 108, 508, 509], [], [], [], [], [], [], [], [], [], [], [], [], [], [], [], []]
/-- 243: Marktongue$Runs.pair(IILMarktongue$Row;)V -/
def qc_243 : List (Nat × qI) := [(0, 1, .aload_n 0, 0, [0]), (1, 1, .iload_n 1, 0, [1]), (2, 3, .invokevirtual 58, 0, [240, 2, 1, 11, 0]), (5, 1, .iconst 2, 2, []), (6, 3, .if_icmp .lt (16), 0, [22]), (9, 1, .aload_n 0, 0, [0]), (10, 1, .iload_n 2, 0, [2]), (11, 3, .invokevirtual 58, 0, [240, 2, 1, 11, 0]), (14, 1, .iconst 2, 2, []), (15, 3, .if_icmp .lt (7), 0, [22]), (18, 1, .iconst 2, 2, []), (19, 3, .goto (4), 0, [23]), (22, 1, .iconst 1, 1, []), (23, 2, .istore 4, 0, [4]), (25, 1, .aload_n 0, 0, [0]), (26, 3, .getfield 20, 0, [11, 1, 1]), (29, 1, .iload_n 1, 0, [1]), (30, 3, .invokevirtual 54, 0, [224, 2, 1, 10, 0]), (33, 2, .iload 4, 0, [4]), (35, 1, .isub, 0, []), (36, 2, .istore 5, 0, [5]), (38, 1, .aload_n 0, 0, [0]), (39, 3, .getfield 14, 0, [11, 0, 1]), (42, 1, .iload_n 2, 0, [2]), (43, 3, .invokevirtual 54, 0, [224, 2, 1, 10, 0]), (46, 2, .istore 6, 0, [6]), (48, 2, .iload 4, 0, [4]), (50, 1, .iconst 2, 2, []), (51, 3, .if_icmp .ne (23), 0, [74]), (54, 1, .aload_n 3, 0, [3]), (55, 2, .iload 5, 0, [5]), (57, 1, .iconst 1, 1, []), (58, 1, .iadd, 0, []), (59, 2, .bipush (-3), -3, []), (61, 3, .invokevirtual 72, 0, [225, 3, 1, 10, 0]), (64, 1, .aload_n 3, 0, [3]), (65, 2, .iload 6, 0, [6]), (67, 1, .iconst 1, 1, []), (68, 1, .iadd, 0, []), (69, 2, .bipush (-3), -3, []), (71, 3, .invokevirtual 72, 0, [225, 3, 1, 10, 0]), (74, 1, .aload_n 3, 0, [3]), (75, 2, .iload 5, 0, [5]), (77, 2, .iload 4, 0, [4]), (79, 1, .iconst 2, 2, []), (80, 3, .if_icmp .ne (8), 0, [88]), (83, 2, .bipush 10, 10, []), (85, 3, .goto (5), 0, [90]), (88, 2, .bipush 9, 9, []), (90, 3, .invokevirtual 72, 0, [225, 3, 1, 10, 0]), (93, 1, .aload_n 3, 0, [3]), (94, 2, .iload 6, 0, [6]), (96, 2, .bipush (-4), -4, []), (98, 3, .invokevirtual 72, 0, [225, 3, 1, 10, 0]), (101, 1, .aload_n 0, 0, [0]), (102, 3, .getfield 20, 0, [11, 1, 1]), (105, 1, .iload_n 1, 0, [1]), (106, 2, .iload 5, 0, [5]), (108, 3, .invokevirtual 72, 0, [225, 3, 1, 10, 0]), (111, 1, .aload_n 0, 0, [0]), (112, 3, .getfield 14, 0, [11, 0, 1]), (115, 1, .iload_n 2, 0, [2]), (116, 2, .iload 6, 0, [6]), (118, 2, .iload 4, 0, [4]), (120, 1, .iadd, 0, []), (121, 3, .invokevirtual 72, 0, [225, 3, 1, 10, 0]), (124, 1, .iload_n 1, 0, [1]), (125, 1, .iconst 1, 1, []), (126, 1, .iadd, 0, []), (127, 2, .istore 7, 0, [7]), (129, 2, .iload 7, 0, [7]), (131, 1, .iload_n 2, 0, [2]), (132, 3, .if_icmp .ge (27), 0, [159]), (135, 1, .aload_n 0, 0, [0]), (136, 3, .getfield 20, 0, [11, 1, 1]), (139, 2, .iload 7, 0, [7]), (141, 1, .aload_n 0, 0, [0]), (142, 3, .getfield 14, 0, [11, 0, 1]), (145, 2, .iload 7, 0, [7]), (147, 3, .invokevirtual 54, 0, [224, 2, 1, 10, 0]), (150, 3, .invokevirtual 72, 0, [225, 3, 1, 10, 0]), (153, 3, .iinc 7 1, 1, [7]), (156, 3, .goto (-27), 0, [129]), (159, 1, .return_, 0, [])]
def qw_243 : List (List Nat) := [[], [], [848, 0, 114, 850, 27], [], [], [], [], [848, 0, 114, 850, 27], [], [], [], [], [], [], [], [282], [], [843, 0, 108, 508, 509], [], [], [], [], [281], [], [843, 0, 108, 508, 509], [], [], [], [], [], [], [], [], [], [864, 0, 108, 542, 543], [], [], [], [], [], [864, 0, 108, 542, 543], [], [], [], [], [], [], [], [], [864, 0, 108, 542, 543], [], [], [], [864, 0, 108, 542, 543], [], [282], [], [], [864, 0, 108, 542, 543], [], [281], [], [], [], [], [864, 0, 108, 542, 543], [], [], [], [], [], [], [], [], [282], [], [], [281], [], [843, 0, 108, 508, 509], [864, 0, 108, 542, 543], [], [], []]
/-- 244: Marktongue$Tree.<init>()V -/
def qc_244 : List (Nat × qI) := [(0, 1, .aload_n 0, 0, [0]), (1, 3, .invokespecial 3, 0, [0, 1, 2, 0, 0]), (4, 1, .aload_n 0, 0, [0]), (5, 3, .new 9, 0, [10, 2, 0]), (8, 1, .dup, 0, []), (9, 3, .sipush 482, 482, []), (12, 3, .invokespecial 11, 0, [222, 2, 1, 10, 0]), (15, 3, .putfield 14, 0, [12, 0, 1]), (18, 1, .aload_n 0, 0, [0]), (19, 3, .new 9, 0, [10, 2, 0]), (22, 1, .dup, 0, []), (23, 3, .sipush 482, 482, []), (26, 3, .invokespecial 11, 0, [222, 2, 1, 10, 0]), (29, 3, .putfield 20, 0, [12, 1, 1]), (32, 1, .aload_n 0, 0, [0]), (33, 3, .new 9, 0, [10, 2, 0]), (36, 1, .dup, 0, []), (37, 3, .sipush 482, 482, []), (40, 3, .invokespecial 11, 0, [222, 2, 1, 10, 0]), (43, 3, .putfield 23, 0, [12, 2, 1]), (46, 1, .aload_n 0, 0, [0]), (47, 3, .new 9, 0, [10, 2, 0]), (50, 1, .dup, 0, []), (51, 3, .sipush 482, 482, []), (54, 3, .invokespecial 11, 0, [222, 2, 1, 10, 0]), (57, 3, .putfield 26, 0, [12, 3, 1]), (60, 1, .aload_n 0, 0, [0]), (61, 3, .new 9, 0, [10, 2, 0]), (64, 1, .dup, 0, []), (65, 3, .sipush 482, 482, []), (68, 3, .invokespecial 11, 0, [222, 2, 1, 10, 0]), (71, 3, .putfield 29, 0, [12, 4, 1]), (74, 1, .aload_n 0, 0, [0]), (75, 3, .new 9, 0, [10, 2, 0]), (78, 1, .dup, 0, []), (79, 3, .sipush 482, 482, []), (82, 3, .invokespecial 11, 0, [222, 2, 1, 10, 0]), (85, 3, .putfield 32, 0, [12, 5, 1]), (88, 1, .aload_n 0, 0, [0]), (89, 3, .new 9, 0, [10, 2, 0]), (92, 1, .dup, 0, []), (93, 3, .sipush 482, 482, []), (96, 3, .invokespecial 11, 0, [222, 2, 1, 10, 0]), (99, 3, .putfield 35, 0, [12, 6, 1]), (102, 1, .aload_n 0, 0, [0]), (103, 3, .new 9, 0, [10, 2, 0]), (106, 1, .dup, 0, []), (107, 3, .sipush 481, 481, []), (110, 3, .invokespecial 11, 0, [222, 2, 1, 10, 0]), (113, 3, .putfield 38, 0, [12, 7, 1]), (116, 1, .aload_n 0, 0, [0]), (117, 3, .new 9, 0, [10, 2, 0]), (120, 1, .dup, 0, []), (121, 3, .sipush 482, 482, []), (124, 3, .invokespecial 11, 0, [222, 2, 1, 10, 0]), (127, 3, .putfield 41, 0, [12, 8, 1]), (130, 1, .return_, 0, [])]
def qw_244 : List (List Nat) := [[], [321, 133, 134], [], [322, 136, 108], [], [], [323, 0, 108, 138], [324], [], [322, 136, 108], [], [], [323, 0, 108, 138], [325], [], [322, 136, 108], [], [], [323, 0, 108, 138], [326], [], [322, 136, 108], [], [], [323, 0, 108, 138], [327], [], [322, 136, 108], [], [], [323, 0, 108, 138], [328], [], [322, 136, 108], [], [], [323, 0, 108, 138], [329], [], [322, 136, 108], [], [], [323, 0, 108, 138], [330], [], [322, 136, 108], [], [], [323, 0, 108, 138], [331], [], [322, 136, 108], [], [], [323, 0, 108, 138], [332], []]
/-- 245: Marktongue$Tree.start()V -/
def qc_245 : List (Nat × qI) := [(0, 1, .aload_n 0, 0, [0]), (1, 3, .getfield 14, 0, [12, 0, 1]), (4, 3, .invokevirtual 44, 0, [227, 1, 1, 10, 0]), (7, 1, .aload_n 0, 0, [0]), (8, 3, .getfield 20, 0, [12, 1, 1]), (11, 3, .invokevirtual 44, 0, [227, 1, 1, 10, 0]), (14, 1, .aload_n 0, 0, [0]), (15, 3, .getfield 23, 0, [12, 2, 1]), (18, 3, .invokevirtual 44, 0, [227, 1, 1, 10, 0]), (21, 1, .aload_n 0, 0, [0]), (22, 3, .getfield 26, 0, [12, 3, 1]), (25, 3, .invokevirtual 44, 0, [227, 1, 1, 10, 0]), (28, 1, .aload_n 0, 0, [0]), (29, 3, .getfield 29, 0, [12, 4, 1]), (32, 3, .invokevirtual 44, 0, [227, 1, 1, 10, 0]), (35, 1, .aload_n 0, 0, [0]), (36, 3, .getfield 32, 0, [12, 5, 1]), (39, 3, .invokevirtual 44, 0, [227, 1, 1, 10, 0]), (42, 1, .aload_n 0, 0, [0]), (43, 3, .getfield 35, 0, [12, 6, 1]), (46, 3, .invokevirtual 44, 0, [227, 1, 1, 10, 0]), (49, 1, .aload_n 0, 0, [0]), (50, 3, .getfield 38, 0, [12, 7, 1]), (53, 3, .invokevirtual 44, 0, [227, 1, 1, 10, 0]), (56, 1, .aload_n 0, 0, [0]), (57, 3, .getfield 41, 0, [12, 8, 1]), (60, 3, .invokevirtual 44, 0, [227, 1, 1, 10, 0]), (63, 1, .return_, 0, [])]
def qw_245 : List (List Nat) := [[], [324], [722, 0, 108, 486, 487], [], [325], [722, 0, 108, 486, 487], [], [326], [722, 0, 108, 486, 487], [], [327], [722, 0, 108, 486, 487], [], [328], [722, 0, 108, 486, 487], [], [329], [722, 0, 108, 486, 487], [], [330], [722, 0, 108, 486, 487], [], [331], [722, 0, 108, 486, 487], [], [332], [722, 0, 108, 486, 487], []]
/-- 246: Marktongue$Tree.addBlock(LMarktongue$Blocks;I)I -/
def qc_246 : List (Nat × qI) := [(0, 1, .aload_n 1, 0, [1]), (1, 1, .iload_n 2, 0, [2]), (2, 3, .invokevirtual 47, 0, [153, 2, 1, 3, 0]), (5, 1, .istore_n 3, 0, [3]), (6, 1, .aload_n 1, 0, [1]), (7, 1, .iload_n 2, 0, [2]), (8, 3, .invokevirtual 53, 0, [156, 2, 1, 3, 0]), (11, 2, .istore 4, 0, [4]), (13, 1, .iconst (-1), -1, []), (14, 2, .istore 5, 0, [5]), (16, 1, .iload_n 3, 0, [3]), (17, 1, .iconst 4, 4, []), (18, 3, .if_icmp .ne (13), 0, [31]), (21, 2, .bipush 100, 100, []), (23, 2, .iload 4, 0, [4]), (25, 1, .iadd, 0, []), (26, 2, .istore 5, 0, [5]), (28, 3, .goto (12), 0, [40]), (31, 1, .iload_n 3, 0, [3]), (32, 1, .iconst 2, 2, []), (33, 3, .if_icmp .ne (7), 0, [40]), (36, 2, .iload 4, 0, [4]), (38, 2, .istore 5, 0, [5]), (40, 1, .aload_n 0, 0, [0]), (41, 1, .iload_n 3, 0, [3]), (42, 1, .aload_n 0, 0, [0]), (43, 3, .getfield 41, 0, [12, 8, 1]), (46, 1, .aload_n 1, 0, [1]), (47, 1, .iload_n 2, 0, [2]), (48, 3, .invokevirtual 56, 0, [154, 2, 1, 3, 0]), (51, 3, .invokevirtual 59, 0, [224, 2, 1, 10, 0]), (54, 2, .iload 5, 0, [5]), (56, 3, .invokevirtual 62, 0, [247, 4, 1, 12, 0]), (59, 2, .istore 6, 0, [6]), (61, 1, .aload_n 0, 0, [0]), (62, 3, .getfield 26, 0, [12, 3, 1]), (65, 2, .iload 6, 0, [6]), (67, 2, .iload 4, 0, [4]), (69, 3, .invokevirtual 66, 0, [225, 3, 1, 10, 0]), (72, 1, .aload_n 0, 0, [0]), (73, 3, .getfield 41, 0, [12, 8, 1]), (76, 2, .iload 6, 0, [6]), (78, 3, .invokevirtual 70, 0, [226, 2, 1, 10, 0]), (81, 2, .iload 6, 0, [6]), (83, 1, .ireturn, 0, [0])]
def qw_246 : List (List Nat) := [[], [], [731, 0, 110, 577, 578], [], [], [], [732, 0, 110, 598, 599], [], [], [], [], [], [], [], [], [], [], [], [], [], [], [], [], [], [], [], [332], [], [], [733, 0, 110, 734, 735], [737, 0, 108, 508, 509], [], [738, 0, 115, 740, 17], [], [], [327], [], [], [744, 0, 108, 542, 543], [], [332], [], [743, 0, 108, 503, 504], [], []]
/-- 247: Marktongue$Tree.add(III)I -/
def qc_247 : List (Nat × qI) := [(0, 1, .aload_n 0, 0, [0]), (1, 3, .getfield 14, 0, [12, 0, 1]), (4, 3, .invokevirtual 72, 0, [223, 1, 1, 10, 0]), (7, 2, .istore 4, 0, [4]), (9, 1, .aload_n 0, 0, [0]), (10, 3, .getfield 14, 0, [12, 0, 1]), (13, 1, .iload_n 1, 0, [1]), (14, 3, .invokevirtual 70, 0, [226, 2, 1, 10, 0]), (17, 1, .aload_n 0, 0, [0]), (18, 3, .getfield 20, 0, [12, 1, 1]), (21, 1, .iload_n 2, 0, [2]), (22, 3, .invokevirtual 70, 0, [226, 2, 1, 10, 0]), (25, 1, .aload_n 0, 0, [0]), (26, 3, .getfield 23, 0, [12, 2, 1]), (29, 1, .iconst 0, 0, []), (30, 3, .invokevirtual 70, 0, [226, 2, 1, 10, 0]), (33, 1, .aload_n 0, 0, [0]), (34, 3, .getfield 26, 0, [12, 3, 1]), (37, 1, .iconst 0, 0, []), (38, 3, .invokevirtual 70, 0, [226, 2, 1, 10, 0]), (41, 1, .aload_n 0, 0, [0]), (42, 3, .getfield 29, 0, [12, 4, 1]), (45, 1, .iload_n 3, 0, [3]), (46, 3, .invokevirtual 70, 0, [226, 2, 1, 10, 0]), (49, 1, .aload_n 0, 0, [0]), (50, 3, .getfield 32, 0, [12, 5, 1]), (53, 1, .aload_n 0, 0, [0]), (54, 3, .getfield 38, 0, [12, 7, 1]), (57, 3, .invokevirtual 72, 0, [223, 1, 1, 10, 0]), (60, 3, .invokevirtual 70, 0, [226, 2, 1, 10, 0]), (63, 1, .aload_n 0, 0, [0]), (64, 3, .getfield 35, 0, [12, 6, 1]), (67, 1, .iconst 0, 0, []), (68, 3, .invokevirtual 70, 0, [226, 2, 1, 10, 0]), (71, 1, .aload_n 0, 0, [0]), (72, 3, .getfield 23, 0, [12, 2, 1]), (75, 1, .iload_n 2, 0, [2]), (76, 1, .aload_n 0, 0, [0]), (77, 3, .getfield 23, 0, [12, 2, 1]), (80, 1, .iload_n 2, 0, [2]), (81, 3, .invokevirtual 59, 0, [224, 2, 1, 10, 0]), (84, 1, .iconst 1, 1, []), (85, 1, .iadd, 0, []), (86, 3, .invokevirtual 66, 0, [225, 3, 1, 10, 0]), (89, 2, .iload 4, 0, [4]), (91, 1, .ireturn, 0, [0])]
def qw_247 : List (List Nat) := [[], [324], [742, 0, 108, 478, 479], [], [], [324], [], [743, 0, 108, 503, 504], [], [325], [], [743, 0, 108, 503, 504], [], [326], [], [743, 0, 108, 503, 504], [], [327], [], [743, 0, 108, 503, 504], [], [328], [], [743, 0, 108, 503, 504], [], [329], [], [331], [742, 0, 108, 478, 479], [743, 0, 108, 503, 504], [], [330], [], [743, 0, 108, 503, 504], [], [326], [], [], [326], [], [737, 0, 108, 508, 509], [], [], [744, 0, 108, 542, 543], [], []]
/-- 248: Marktongue$Tree.addContent(II)V -/
def qc_248 : List (Nat × qI) := [(0, 1, .aload_n 0, 0, [0]), (1, 3, .getfield 38, 0, [12, 7, 1]), (4, 1, .iload_n 2, 0, [2]), (5, 3, .invokevirtual 70, 0, [226, 2, 1, 10, 0]), (8, 1, .aload_n 0, 0, [0]), (9, 3, .getfield 35, 0, [12, 6, 1]), (12, 1, .iload_n 1, 0, [1]), (13, 1, .aload_n 0, 0, [0]), (14, 3, .getfield 35, 0, [12, 6, 1]), (17, 1, .iload_n 1, 0, [1]), (18, 3, .invokevirtual 59, 0, [224, 2, 1, 10, 0]), (21, 1, .iconst 1, 1, []), (22, 1, .iadd, 0, []), (23, 3, .invokevirtual 66, 0, [225, 3, 1, 10, 0]), (26, 1, .return_, 0, [])]
def qw_248 : List (List Nat) := [[], [331], [], [743, 0, 108, 503, 504], [], [330], [], [], [330], [], [737, 0, 108, 508, 509], [], [], [744, 0, 108, 542, 543], []]
/-- 249: Marktongue$Tree.addInline(LMarktongue$InlineReader;I)V -/
def qc_249 : List (Nat × qI) := [(0, 1, .iload_n 2, 0, [2]), (1, 1, .istore_n 3, 0, [3]), (2, 1, .iconst (-1), -1, []), (3, 2, .istore 4, 0, [4]), (5, 1, .iconst 0, 0, []), (6, 2, .istore 5, 0, [5]), (8, 2, .iload 5, 0, [5]), (10, 1, .aload_n 1, 0, [1]), (11, 3, .invokevirtual 76, 0, [177, 1, 1, 4, 0]), (14, 3, .if_icmp .ge (136), 0, [150]), (17, 1, .aload_n 1, 0, [1]), (18, 2, .iload 5, 0, [5]), (20, 3, .invokevirtual 79, 0, [179, 2, 1, 4, 0]), (23, 2, .istore 6, 0, [6]), (25, 2, .iload 6, 0, [6]), (27, 3, .ifCond .ne (71), 0, [98]), (30, 1, .aload_n 0, 0, [0]), (31, 3, .getfield 14, 0, [12, 0, 1]), (34, 1, .iload_n 3, 0, [3]), (35, 3, .invokevirtual 59, 0, [224, 2, 1, 10, 0]), (38, 2, .bipush 11, 11, []), (40, 3, .if_icmp .ne (9), 0, [49]), (43, 1, .iload_n 3, 0, [3]), (44, 2, .istore 4, 0, [4]), (46, 3, .goto (19), 0, [65]), (49, 2, .iload 4, 0, [4]), (51, 1, .iconst (-1), -1, []), (52, 3, .if_icmp .ne (13), 0, [65]), (55, 1, .aload_n 0, 0, [0]), (56, 2, .bipush 8, 8, []), (58, 1, .iload_n 3, 0, [3]), (59, 1, .iconst (-1), -1, []), (60, 3, .invokevirtual 62, 0, [247, 4, 1, 12, 0]), (63, 2, .istore 4, 0, [4]), (65, 1, .aload_n 0, 0, [0]), (66, 2, .iload 4, 0, [4]), (68, 1, .aload_n 1, 0, [1]), (69, 2, .iload 5, 0, [5]), (71, 3, .invokevirtual 82, 0, [178, 2, 1, 4, 0]), (74, 3, .invokevirtual 85, 0, [248, 3, 1, 12, 0]), (77, 1, .aload_n 0, 0, [0]), (78, 3, .getfield 26, 0, [12, 3, 1]), (81, 2, .iload 4, 0, [4]), (83, 1, .aload_n 0, 0, [0]), (84, 3, .getfield 35, 0, [12, 6, 1]), (87, 2, .iload 4, 0, [4]), (89, 3, .invokevirtual 59, 0, [224, 2, 1, 10, 0]), (92, 3, .invokevirtual 66, 0, [225, 3, 1, 10, 0]), (95, 3, .goto (49), 0, [144]), (98, 2, .iload 6, 0, [6]), (100, 2, .bipush (-4), -4, []), (102, 3, .if_icmp .ne (18), 0, [120]), (105, 1, .aload_n 0, 0, [0]), (106, 3, .getfield 20, 0, [12, 1, 1]), (109, 1, .iload_n 3, 0, [3]), (110, 3, .invokevirtual 59, 0, [224, 2, 1, 10, 0]), (113, 1, .istore_n 3, 0, [3]), (114, 1, .iconst (-1), -1, []), (115, 2, .istore 4, 0, [4]), (117, 3, .goto (27), 0, [144]), (120, 2, .iload 6, 0, [6]), (122, 2, .bipush (-3), -3, []), (124, 3, .if_icmp .eq (20), 0, [144]), (127, 1, .aload_n 0, 0, [0]), (128, 2, .iload 6, 0, [6]), (130, 1, .iload_n 3, 0, [3]), (131, 1, .aload_n 1, 0, [1]), (132, 2, .iload 5, 0, [5]), (134, 3, .invokevirtual 88, 0, [180, 2, 1, 4, 0]), (137, 3, .invokevirtual 62, 0, [247, 4, 1, 12, 0]), (140, 1, .istore_n 3, 0, [3]), (141, 1, .iconst (-1), -1, []), (142, 2, .istore 4, 0, [4]), (144, 3, .iinc 5 1, 1, [5]), (147, 3, .goto (-139), 0, [8]), (150, 1, .return_, 0, [])]
def qw_249 : List (List Nat) := [[], [], [], [], [], [], [], [], [884, 0, 113, 885, 886], [], [], [], [888, 0, 113, 889, 890], [], [], [], [], [324], [], [737, 0, 108, 508, 509], [], [], [], [], [], [], [], [], [], [], [], [], [738, 0, 115, 740, 17], [], [], [], [], [], [892, 0, 113, 893, 894], [896, 0, 115, 897, 898], [], [327], [], [], [330], [], [737, 0, 108, 508, 509], [744, 0, 108, 542, 543], [], [], [], [], [], [325], [], [737, 0, 108, 508, 509], [], [], [], [], [], [], [], [], [], [], [], [], [900, 0, 113, 901, 902], [738, 0, 115, 740, 17], [], [], [], [], [], []]
/-- 250: Marktongue$Tree.size()I -/
def qc_250 : List (Nat × qI) := [(0, 1, .aload_n 0, 0, [0]), (1, 3, .getfield 14, 0, [12, 0, 1]), (4, 3, .invokevirtual 72, 0, [223, 1, 1, 10, 0]), (7, 1, .ireturn, 0, [0])]
def qw_250 : List (List Nat) := [[], [324], [742, 0, 108, 478, 479], []]
/-- 251: Marktongue$Tree.kindOf(I)I -/
def qc_251 : List (Nat × qI) := [(0, 1, .aload_n 0, 0, [0]), (1, 3, .getfield 14, 0, [12, 0, 1]), (4, 1, .iload_n 1, 0, [1]), (5, 3, .invokevirtual 59, 0, [224, 2, 1, 10, 0]), (8, 1, .ireturn, 0, [0])]
def qw_251 : List (List Nat) := [[], [324], [], [737, 0, 108, 508, 509], []]
/-- 252: Marktongue$Tree.parentOf(I)I -/
def qc_252 : List (Nat × qI) := [(0, 1, .aload_n 0, 0, [0]), (1, 3, .getfield 20, 0, [12, 1, 1]), (4, 1, .iload_n 1, 0, [1]), (5, 3, .invokevirtual 59, 0, [224, 2, 1, 10, 0]), (8, 1, .ireturn, 0, [0])]
def qw_252 : List (List Nat) := [[], [325], [], [737, 0, 108, 508, 509], []]
/-- 253: Marktongue$Tree.childrenOf(I)I -/
def qc_253 : List (Nat × qI) := [(0, 1, .aload_n 0, 0, [0]), (1, 3, .getfield 23, 0, [12, 2, 1]), (4, 1, .iload_n 1, 0, [1]), (5, 3, .invokevirtual 59, 0, [224, 2, 1, 10, 0]), (8, 1, .ireturn, 0, [0])]
def qw_253 : List (List Nat) := [[], [326], [], [737, 0, 108, 508, 509], []]
/-- 254: Marktongue$Tree.measureOf(I)I -/
def qc_254 : List (Nat × qI) := [(0, 1, .aload_n 0, 0, [0]), (1, 3, .getfield 26, 0, [12, 3, 1]), (4, 1, .iload_n 1, 0, [1]), (5, 3, .invokevirtual 59, 0, [224, 2, 1, 10, 0]), (8, 1, .ireturn, 0, [0])]
def qw_254 : List (List Nat) := [[], [327], [], [737, 0, 108, 508, 509], []]
/-- 255: Marktongue$Tree.signOf(I)I -/
def qc_255 : List (Nat × qI) := [(0, 1, .aload_n 0, 0, [0]), (1, 3, .getfield 29, 0, [12, 4, 1]), (4, 1, .iload_n 1, 0, [1]), (5, 3, .invokevirtual 59, 0, [224, 2, 1, 10, 0]), (8, 1, .ireturn, 0, [0])]
def qw_255 : List (List Nat) := [[], [328], [], [737, 0, 108, 508, 509], []]
/-- 256: Marktongue$Tree.numberOf(I)I -/
def qc_256 : List (Nat × qI) := [(0, 1, .aload_n 0, 0, [0]), (1, 3, .getfield 41, 0, [12, 8, 1]), (4, 1, .iload_n 1, 0, [1]), (5, 3, .invokevirtual 59, 0, [224, 2, 1, 10, 0]), (8, 1, .ireturn, 0, [0])]
def qw_256 : List (List Nat) := [[], [332], [], [737, 0, 108, 508, 509], []]
/-- 257: Marktongue$Tree.childOf(II)I -/
def qc_257 : List (Nat × qI) := [(0, 1, .iconst 0, 0, []), (1, 1, .istore_n 3, 0, [3]), (2, 1, .iload_n 1, 0, [1]), (3, 1, .iconst 1, 1, []), (4, 1, .iadd, 0, []), (5, 2, .istore 4, 0, [4]), (7, 2, .iload 4, 0, [4]), (9, 1, .aload_n 0, 0, [0]), (10, 3, .getfield 20, 0, [12, 1, 1]), (13, 3, .invokevirtual 72, 0, [223, 1, 1, 10, 0]), (16, 3, .if_icmp .ge (33), 0, [49]), (19, 1, .aload_n 0, 0, [0]), (20, 3, .getfield 20, 0, [12, 1, 1]), (23, 2, .iload 4, 0, [4]), (25, 3, .invokevirtual 59, 0, [224, 2, 1, 10, 0]), (28, 1, .iload_n 1, 0, [1]), (29, 3, .if_icmp .ne (14), 0, [43]), (32, 1, .iload_n 3, 0, [3]), (33, 1, .iload_n 2, 0, [2]), (34, 3, .if_icmp .ne (6), 0, [40]), (37, 2, .iload 4, 0, [4]), (39, 1, .ireturn, 0, [0]), (40, 3, .iinc 3 1, 1, [3]), (43, 3, .iinc 4 1, 1, [4]), (46, 3, .goto (-39), 0, [7]), (49, 1, .iconst (-1), -1, []), (50, 1, .ireturn, 0, [0])]
def qw_257 : List (List Nat) := [[], [], [], [], [], [], [], [], [325], [742, 0, 108, 478, 479], [], [], [325], [], [737, 0, 108, 508, 509], [], [], [], [], [], [], [], [], [], [], [], []]
/-- 258: Marktongue$Tree.manyOf(I)I -/
def qc_258 : List (Nat × qI) := [(0, 1, .iconst 0, 0, []), (1, 1, .istore_n 2, 0, [2]), (2, 1, .iconst 0, 0, []), (3, 1, .istore_n 3, 0, [3]), (4, 1, .iload_n 3, 0, [3]), (5, 1, .aload_n 0, 0, [0]), (6, 3, .getfield 14, 0, [12, 0, 1]), (9, 3, .invokevirtual 72, 0, [223, 1, 1, 10, 0]), (12, 3, .if_icmp .ge (24), 0, [36]), (15, 1, .aload_n 0, 0, [0]), (16, 3, .getfield 14, 0, [12, 0, 1]), (19, 1, .iload_n 3, 0, [3]), (20, 3, .invokevirtual 59, 0, [224, 2, 1, 10, 0]), (23, 1, .iload_n 1, 0, [1]), (24, 3, .if_icmp .ne (6), 0, [30]), (27, 3, .iinc 2 1, 1, [2]), (30, 3, .iinc 3 1, 1, [3]), (33, 3, .goto (-29), 0, [4]), (36, 1, .iload_n 2, 0, [2]), (37, 1, .ireturn, 0, [0])]
def qw_258 : List (List Nat) := [[], [], [], [], [], [], [324], [742, 0, 108, 478, 479], [], [], [324], [], [737, 0, 108, 508, 509], [], [], [], [], [], [], []]
/-- 259: Marktongue$Tree.contentSizeOf(I)I -/
def qc_259 : List (Nat × qI) := [(0, 1, .aload_n 0, 0, [0]), (1, 3, .getfield 35, 0, [12, 6, 1]), (4, 1, .iload_n 1, 0, [1]), (5, 3, .invokevirtual 59, 0, [224, 2, 1, 10, 0]), (8, 1, .ireturn, 0, [0])]
def qw_259 : List (List Nat) := [[], [330], [], [737, 0, 108, 508, 509], []]
/-- 260: Marktongue$Tree.contentOf(II)I -/
def qc_260 : List (Nat × qI) := [(0, 1, .aload_n 0, 0, [0]), (1, 3, .getfield 38, 0, [12, 7, 1]), (4, 1, .aload_n 0, 0, [0]), (5, 3, .getfield 32, 0, [12, 5, 1]), (8, 1, .iload_n 1, 0, [1]), (9, 3, .invokevirtual 59, 0, [224, 2, 1, 10, 0]), (12, 1, .iload_n 2, 0, [2]), (13, 1, .iadd, 0, []), (14, 3, .invokevirtual 59, 0, [224, 2, 1, 10, 0]), (17, 1, .ireturn, 0, [0])]
def qw_260 : List (List Nat) := [[], [331], [], [329], [], [737, 0, 108, 508, 509], [], [], [737, 0, 108, 508, 509], []]
def q_dec (b : ByteArray) (l : List (Nat × qI)) : Bool := l.all fun e => decide (decode b e.1 = .ok (e.2.2.1, e.2.1))
def q_codes : List (List (Nat × qI)) := [qc_0, qc_1, qc_2, qc_3, qc_4, qc_5, qc_6, qc_7, qc_8, qc_9, qc_10, qc_11, qc_12, qc_13, qc_14, qc_15, qc_16, qc_17, qc_18, qc_19, qc_20, qc_21, qc_22, qc_23, qc_24, qc_25, qc_26, qc_27, qc_28, qc_29, qc_30, qc_31, qc_32, qc_33, qc_34, qc_35, qc_36, qc_37, qc_38, qc_39, qc_40, qc_41, qc_42, qc_43, qc_44, qc_45, qc_46, qc_47, qc_48, qc_49, qc_50, qc_51, qc_52, qc_53, qc_54, qc_55, qc_56, qc_57, qc_58, qc_59, qc_60, qc_61, qc_62, qc_63, qc_64, qc_65, qc_66, qc_67, qc_68, qc_69, qc_70, qc_71, qc_72, qc_73, qc_74, qc_75, qc_76, qc_77, qc_78, qc_79, qc_80, qc_81, qc_82, qc_83, qc_84, qc_85, qc_86, qc_87, qc_88, qc_89, qc_90, qc_91, qc_92, qc_93, qc_94, qc_95, qc_96, qc_97, qc_98, qc_99, qc_100, qc_101, qc_102, qc_103, qc_104, qc_105, qc_106, qc_107, qc_108, qc_109, qc_110, qc_111, qc_112, qc_113, qc_114, qc_115, qc_116, qc_117, qc_118, qc_119, qc_120, qc_121, qc_122, qc_123, qc_124, qc_125, qc_126, qc_127, qc_128, qc_129, qc_130, qc_131, qc_132, qc_133, qc_134, qc_135, qc_136, qc_137, qc_138, qc_139, qc_140, qc_141, qc_142, qc_143, qc_144, qc_145, qc_146, qc_147, qc_148, qc_149, qc_150, qc_151, qc_152, qc_153, qc_154, qc_155, qc_156, qc_157, qc_158, qc_159, qc_160, qc_161, qc_162, qc_163, qc_164, qc_165, qc_166, qc_167, qc_168, qc_169, qc_170, qc_171, qc_172, qc_173, qc_174, qc_175, qc_176, qc_177, qc_178, qc_179, qc_180, qc_181, qc_182, qc_183, qc_184, qc_185, qc_186, qc_187, qc_188, qc_189, qc_190, qc_191, qc_192, qc_193, qc_194, qc_195, qc_196, qc_197, qc_198, qc_199, qc_200, qc_201, qc_202, qc_203, qc_204, qc_205, qc_206, qc_207, qc_208, qc_209, qc_210, qc_211, qc_212, qc_213, qc_214, qc_215, qc_216, qc_217, qc_218, qc_219, qc_220, qc_221, qc_222, qc_223, qc_224, qc_225, qc_226, qc_227, qc_228, qc_229, qc_230, qc_231, qc_232, qc_233, qc_234, qc_235, qc_236, qc_237, qc_238, qc_239, qc_240, qc_241, qc_242, qc_243, qc_244, qc_245, qc_246, qc_247, qc_248, qc_249, qc_250, qc_251, qc_252, qc_253, qc_254, qc_255, qc_256, qc_257, qc_258, qc_259, qc_260]
def q_ft1 (M pc : Nat) : Option qI := (q_codes.getD M []).lookup pc
end
section
/-! The entries decode. -/
set_option maxRecDepth 100000 in
theorem q_dc_0_0 : q_dec code ((qc_0.drop 0).take 100) = true := by decide +kernel
set_option maxRecDepth 100000 in
theorem q_dc_0_1 : q_dec code ((qc_0.drop 100).take 100) = true := by decide +kernel
set_option maxRecDepth 100000 in
theorem q_dc_0_2 : q_dec code ((qc_0.drop 200).take 100) = true := by decide +kernel
set_option maxRecDepth 100000 in
theorem q_dc_0_3 : q_dec code ((qc_0.drop 300).take 100) = true := by decide +kernel
set_option maxRecDepth 100000 in
theorem q_dc_0_4 : q_dec code ((qc_0.drop 400).take 100) = true := by decide +kernel
set_option maxRecDepth 100000 in
theorem q_dc_0_5 : q_dec code ((qc_0.drop 500).take 100) = true := by decide +kernel
set_option maxRecDepth 100000 in
theorem q_dc_1_0 : q_dec method_3_code ((qc_1.drop 0).take 100) = true := by decide +kernel
set_option maxRecDepth 100000 in
theorem q_dc_2_0 : q_dec method_4_code ((qc_2.drop 0).take 100) = true := by decide +kernel
set_option maxRecDepth 100000 in
theorem q_dc_3_0 : q_dec method_5_code ((qc_3.drop 0).take 100) = true := by decide +kernel
set_option maxRecDepth 100000 in
theorem q_dc_4_0 : q_dec method_6_code ((qc_4.drop 0).take 100) = true := by decide +kernel
end
section
/-! The entries decode. -/
set_option maxRecDepth 100000 in
theorem q_dc_5_0 : q_dec method_7_code ((qc_5.drop 0).take 100) = true := by decide +kernel
set_option maxRecDepth 100000 in
theorem q_dc_6_0 : q_dec method_8_code ((qc_6.drop 0).take 100) = true := by decide +kernel
set_option maxRecDepth 100000 in
theorem q_dc_7_0 : q_dec method_9_code ((qc_7.drop 0).take 100) = true := by decide +kernel
set_option maxRecDepth 100000 in
theorem q_dc_8_0 : q_dec method_10_code ((qc_8.drop 0).take 100) = true := by decide +kernel
set_option maxRecDepth 100000 in
theorem q_dc_9_0 : q_dec method_11_code ((qc_9.drop 0).take 100) = true := by decide +kernel
set_option maxRecDepth 100000 in
theorem q_dc_10_0 : q_dec method_12_code ((qc_10.drop 0).take 100) = true := by decide +kernel
set_option maxRecDepth 100000 in
theorem q_dc_11_0 : q_dec method_13_code ((qc_11.drop 0).take 100) = true := by decide +kernel
set_option maxRecDepth 100000 in
theorem q_dc_12_0 : q_dec method_14_code ((qc_12.drop 0).take 100) = true := by decide +kernel
set_option maxRecDepth 100000 in
theorem q_dc_13_0 : q_dec prog_1_method_1_code ((qc_13.drop 0).take 100) = true := by decide +kernel
set_option maxRecDepth 100000 in
theorem q_dc_14_0 : q_dec prog_1_method_2_code ((qc_14.drop 0).take 100) = true := by decide +kernel
set_option maxRecDepth 100000 in
theorem q_dc_15_0 : q_dec prog_1_method_3_code ((qc_15.drop 0).take 100) = true := by decide +kernel
set_option maxRecDepth 100000 in
theorem q_dc_16_0 : q_dec prog_1_method_4_code ((qc_16.drop 0).take 100) = true := by decide +kernel
set_option maxRecDepth 100000 in
theorem q_dc_17_0 : q_dec prog_1_method_5_code ((qc_17.drop 0).take 100) = true := by decide +kernel
set_option maxRecDepth 100000 in
theorem q_dc_18_0 : q_dec prog_1_method_6_code ((qc_18.drop 0).take 100) = true := by decide +kernel
set_option maxRecDepth 100000 in
theorem q_dc_19_0 : q_dec prog_1_method_7_code ((qc_19.drop 0).take 100) = true := by decide +kernel
set_option maxRecDepth 100000 in
theorem q_dc_20_0 : q_dec prog_1_method_8_code ((qc_20.drop 0).take 100) = true := by decide +kernel
set_option maxRecDepth 100000 in
theorem q_dc_21_0 : q_dec prog_1_method_9_code ((qc_21.drop 0).take 100) = true := by decide +kernel
set_option maxRecDepth 100000 in
theorem q_dc_22_0 : q_dec prog_1_method_10_code ((qc_22.drop 0).take 100) = true := by decide +kernel
set_option maxRecDepth 100000 in
theorem q_dc_23_0 : q_dec prog_1_method_11_code ((qc_23.drop 0).take 100) = true := by decide +kernel
set_option maxRecDepth 100000 in
theorem q_dc_24_0 : q_dec prog_1_method_12_code ((qc_24.drop 0).take 100) = true := by decide +kernel
set_option maxRecDepth 100000 in
theorem q_dc_25_0 : q_dec prog_1_method_13_code ((qc_25.drop 0).take 100) = true := by decide +kernel
set_option maxRecDepth 100000 in
theorem q_dc_26_0 : q_dec prog_1_method_14_code ((qc_26.drop 0).take 100) = true := by decide +kernel
set_option maxRecDepth 100000 in
theorem q_dc_27_0 : q_dec prog_1_method_15_code ((qc_27.drop 0).take 100) = true := by decide +kernel
set_option maxRecDepth 100000 in
theorem q_dc_28_0 : q_dec prog_1_method_16_code ((qc_28.drop 0).take 100) = true := by decide +kernel
set_option maxRecDepth 100000 in
theorem q_dc_29_0 : q_dec prog_1_method_17_code ((qc_29.drop 0).take 100) = true := by decide +kernel
set_option maxRecDepth 100000 in
theorem q_dc_30_0 : q_dec prog_1_method_18_code ((qc_30.drop 0).take 100) = true := by decide +kernel
set_option maxRecDepth 100000 in
theorem q_dc_31_0 : q_dec prog_1_method_19_code ((qc_31.drop 0).take 100) = true := by decide +kernel
set_option maxRecDepth 100000 in
theorem q_dc_32_0 : q_dec prog_1_method_20_code ((qc_32.drop 0).take 100) = true := by decide +kernel
set_option maxRecDepth 100000 in
theorem q_dc_33_0 : q_dec prog_1_method_21_code ((qc_33.drop 0).take 100) = true := by decide +kernel
set_option maxRecDepth 100000 in
theorem q_dc_34_0 : q_dec prog_1_method_22_code ((qc_34.drop 0).take 100) = true := by decide +kernel
set_option maxRecDepth 100000 in
theorem q_dc_35_0 : q_dec prog_1_method_23_code ((qc_35.drop 0).take 100) = true := by decide +kernel
set_option maxRecDepth 100000 in
theorem q_dc_36_0 : q_dec prog_1_method_24_code ((qc_36.drop 0).take 100) = true := by decide +kernel
set_option maxRecDepth 100000 in
theorem q_dc_37_0 : q_dec prog_1_method_25_code ((qc_37.drop 0).take 100) = true := by decide +kernel
set_option maxRecDepth 100000 in
theorem q_dc_38_0 : q_dec prog_1_method_26_code ((qc_38.drop 0).take 100) = true := by decide +kernel
set_option maxRecDepth 100000 in
theorem q_dc_39_0 : q_dec prog_1_method_27_code ((qc_39.drop 0).take 100) = true := by decide +kernel
set_option maxRecDepth 100000 in
theorem q_dc_40_0 : q_dec prog_1_method_28_code ((qc_40.drop 0).take 100) = true := by decide +kernel
set_option maxRecDepth 100000 in
theorem q_dc_41_0 : q_dec prog_1_method_29_code ((qc_41.drop 0).take 100) = true := by decide +kernel
set_option maxRecDepth 100000 in
theorem q_dc_42_0 : q_dec prog_1_method_30_code ((qc_42.drop 0).take 100) = true := by decide +kernel
set_option maxRecDepth 100000 in
theorem q_dc_43_0 : q_dec prog_1_method_31_code ((qc_43.drop 0).take 100) = true := by decide +kernel
set_option maxRecDepth 100000 in
theorem q_dc_44_0 : q_dec prog_14_method_1_code ((qc_44.drop 0).take 100) = true := by decide +kernel
set_option maxRecDepth 100000 in
theorem q_dc_44_1 : q_dec prog_14_method_1_code ((qc_44.drop 100).take 100) = true := by decide +kernel
set_option maxRecDepth 100000 in
theorem q_dc_45_0 : q_dec prog_14_method_2_code ((qc_45.drop 0).take 100) = true := by decide +kernel
set_option maxRecDepth 100000 in
theorem q_dc_46_0 : q_dec prog_14_method_3_code ((qc_46.drop 0).take 100) = true := by decide +kernel
set_option maxRecDepth 100000 in
theorem q_dc_47_0 : q_dec prog_14_method_4_code ((qc_47.drop 0).take 100) = true := by decide +kernel
set_option maxRecDepth 100000 in
theorem q_dc_48_0 : q_dec prog_14_method_5_code ((qc_48.drop 0).take 100) = true := by decide +kernel
set_option maxRecDepth 100000 in
theorem q_dc_49_0 : q_dec prog_14_method_6_code ((qc_49.drop 0).take 100) = true := by decide +kernel
set_option maxRecDepth 100000 in
theorem q_dc_50_0 : q_dec prog_14_method_7_code ((qc_50.drop 0).take 100) = true := by decide +kernel
set_option maxRecDepth 100000 in
theorem q_dc_51_0 : q_dec prog_14_method_8_code ((qc_51.drop 0).take 100) = true := by decide +kernel
end
section
/-! The entries decode. -/
set_option maxRecDepth 100000 in
theorem q_dc_52_0 : q_dec prog_14_method_9_code ((qc_52.drop 0).take 100) = true := by decide +kernel
set_option maxRecDepth 100000 in
theorem q_dc_53_0 : q_dec prog_14_method_10_code ((qc_53.drop 0).take 100) = true := by decide +kernel
set_option maxRecDepth 100000 in
theorem q_dc_54_0 : q_dec prog_14_method_11_code ((qc_54.drop 0).take 100) = true := by decide +kernel
set_option maxRecDepth 100000 in
theorem q_dc_55_0 : q_dec prog_14_method_12_code ((qc_55.drop 0).take 100) = true := by decide +kernel
set_option maxRecDepth 100000 in
theorem q_dc_56_0 : q_dec prog_14_method_14_code ((qc_56.drop 0).take 100) = true := by decide +kernel
set_option maxRecDepth 100000 in
theorem q_dc_57_0 : q_dec prog_14_method_15_code ((qc_57.drop 0).take 100) = true := by decide +kernel
set_option maxRecDepth 100000 in
theorem q_dc_58_0 : q_dec prog_14_method_16_code ((qc_58.drop 0).take 100) = true := by decide +kernel
set_option maxRecDepth 100000 in
theorem q_dc_59_0 : q_dec prog_14_method_17_code ((qc_59.drop 0).take 100) = true := by decide +kernel
set_option maxRecDepth 100000 in
theorem q_dc_60_0 : q_dec prog_14_method_18_code ((qc_60.drop 0).take 100) = true := by decide +kernel
set_option maxRecDepth 100000 in
theorem q_dc_60_1 : q_dec prog_14_method_18_code ((qc_60.drop 100).take 100) = true := by decide +kernel
set_option maxRecDepth 100000 in
theorem q_dc_61_0 : q_dec prog_14_method_19_code ((qc_61.drop 0).take 100) = true := by decide +kernel
set_option maxRecDepth 100000 in
theorem q_dc_62_0 : q_dec prog_14_method_20_code ((qc_62.drop 0).take 100) = true := by decide +kernel
set_option maxRecDepth 100000 in
theorem q_dc_62_1 : q_dec prog_14_method_20_code ((qc_62.drop 100).take 100) = true := by decide +kernel
set_option maxRecDepth 100000 in
theorem q_dc_63_0 : q_dec prog_14_method_21_code ((qc_63.drop 0).take 100) = true := by decide +kernel
set_option maxRecDepth 100000 in
theorem q_dc_64_0 : q_dec prog_14_method_22_code ((qc_64.drop 0).take 100) = true := by decide +kernel
set_option maxRecDepth 100000 in
theorem q_dc_64_1 : q_dec prog_14_method_22_code ((qc_64.drop 100).take 100) = true := by decide +kernel
set_option maxRecDepth 100000 in
theorem q_dc_65_0 : q_dec prog_14_method_23_code ((qc_65.drop 0).take 100) = true := by decide +kernel
set_option maxRecDepth 100000 in
theorem q_dc_66_0 : q_dec prog_14_method_24_code ((qc_66.drop 0).take 100) = true := by decide +kernel
set_option maxRecDepth 100000 in
theorem q_dc_67_0 : q_dec prog_14_method_25_code ((qc_67.drop 0).take 100) = true := by decide +kernel
set_option maxRecDepth 100000 in
theorem q_dc_68_0 : q_dec prog_14_method_26_code ((qc_68.drop 0).take 100) = true := by decide +kernel
set_option maxRecDepth 100000 in
theorem q_dc_69_0 : q_dec prog_14_method_27_code ((qc_69.drop 0).take 100) = true := by decide +kernel
set_option maxRecDepth 100000 in
theorem q_dc_69_1 : q_dec prog_14_method_27_code ((qc_69.drop 100).take 100) = true := by decide +kernel
set_option maxRecDepth 100000 in
theorem q_dc_70_0 : q_dec prog_14_method_28_code ((qc_70.drop 0).take 100) = true := by decide +kernel
set_option maxRecDepth 100000 in
theorem q_dc_71_0 : q_dec prog_14_method_29_code ((qc_71.drop 0).take 100) = true := by decide +kernel
set_option maxRecDepth 100000 in
theorem q_dc_72_0 : q_dec prog_14_method_30_code ((qc_72.drop 0).take 100) = true := by decide +kernel
set_option maxRecDepth 100000 in
theorem q_dc_73_0 : q_dec prog_14_method_31_code ((qc_73.drop 0).take 100) = true := by decide +kernel
set_option maxRecDepth 100000 in
theorem q_dc_74_0 : q_dec prog_14_method_32_code ((qc_74.drop 0).take 100) = true := by decide +kernel
set_option maxRecDepth 100000 in
theorem q_dc_74_1 : q_dec prog_14_method_32_code ((qc_74.drop 100).take 100) = true := by decide +kernel
end
section
/-! The entries decode. -/
set_option maxRecDepth 100000 in
theorem q_dc_74_2 : q_dec prog_14_method_32_code ((qc_74.drop 200).take 100) = true := by decide +kernel
set_option maxRecDepth 100000 in
theorem q_dc_75_0 : q_dec prog_14_method_33_code ((qc_75.drop 0).take 100) = true := by decide +kernel
set_option maxRecDepth 100000 in
theorem q_dc_76_0 : q_dec prog_14_method_34_code ((qc_76.drop 0).take 100) = true := by decide +kernel
set_option maxRecDepth 100000 in
theorem q_dc_77_0 : q_dec prog_14_method_35_code ((qc_77.drop 0).take 100) = true := by decide +kernel
set_option maxRecDepth 100000 in
theorem q_dc_78_0 : q_dec prog_14_method_36_code ((qc_78.drop 0).take 100) = true := by decide +kernel
set_option maxRecDepth 100000 in
theorem q_dc_79_0 : q_dec prog_14_method_37_code ((qc_79.drop 0).take 100) = true := by decide +kernel
set_option maxRecDepth 100000 in
theorem q_dc_80_0 : q_dec prog_14_method_38_code ((qc_80.drop 0).take 100) = true := by decide +kernel
set_option maxRecDepth 100000 in
theorem q_dc_81_0 : q_dec prog_14_method_39_code ((qc_81.drop 0).take 100) = true := by decide +kernel
set_option maxRecDepth 100000 in
theorem q_dc_82_0 : q_dec prog_14_method_40_code ((qc_82.drop 0).take 100) = true := by decide +kernel
set_option maxRecDepth 100000 in
theorem q_dc_83_0 : q_dec prog_14_method_41_code ((qc_83.drop 0).take 100) = true := by decide +kernel
set_option maxRecDepth 100000 in
theorem q_dc_84_0 : q_dec prog_14_method_42_code ((qc_84.drop 0).take 100) = true := by decide +kernel
set_option maxRecDepth 100000 in
theorem q_dc_85_0 : q_dec prog_14_method_43_code ((qc_85.drop 0).take 100) = true := by decide +kernel
set_option maxRecDepth 100000 in
theorem q_dc_86_0 : q_dec prog_14_method_44_code ((qc_86.drop 0).take 100) = true := by decide +kernel
set_option maxRecDepth 100000 in
theorem q_dc_87_0 : q_dec prog_14_method_45_code ((qc_87.drop 0).take 100) = true := by decide +kernel
set_option maxRecDepth 100000 in
theorem q_dc_88_0 : q_dec prog_14_method_46_code ((qc_88.drop 0).take 100) = true := by decide +kernel
set_option maxRecDepth 100000 in
theorem q_dc_88_1 : q_dec prog_14_method_46_code ((qc_88.drop 100).take 100) = true := by decide +kernel
set_option maxRecDepth 100000 in
theorem q_dc_89_0 : q_dec prog_14_method_47_code ((qc_89.drop 0).take 100) = true := by decide +kernel
set_option maxRecDepth 100000 in
theorem q_dc_90_0 : q_dec prog_14_method_48_code ((qc_90.drop 0).take 100) = true := by decide +kernel
set_option maxRecDepth 100000 in
theorem q_dc_91_0 : q_dec prog_14_method_49_code ((qc_91.drop 0).take 100) = true := by decide +kernel
set_option maxRecDepth 100000 in
theorem q_dc_91_1 : q_dec prog_14_method_49_code ((qc_91.drop 100).take 100) = true := by decide +kernel
set_option maxRecDepth 100000 in
theorem q_dc_92_0 : q_dec prog_14_method_50_code ((qc_92.drop 0).take 100) = true := by decide +kernel
set_option maxRecDepth 100000 in
theorem q_dc_93_0 : q_dec prog_14_method_51_code ((qc_93.drop 0).take 100) = true := by decide +kernel
set_option maxRecDepth 100000 in
theorem q_dc_94_0 : q_dec prog_14_method_52_code ((qc_94.drop 0).take 100) = true := by decide +kernel
set_option maxRecDepth 100000 in
theorem q_dc_95_0 : q_dec prog_14_method_53_code ((qc_95.drop 0).take 100) = true := by decide +kernel
end
section
/-! The entries decode. -/
set_option maxRecDepth 100000 in
theorem q_dc_96_0 : q_dec prog_14_method_54_code ((qc_96.drop 0).take 100) = true := by decide +kernel
set_option maxRecDepth 100000 in
theorem q_dc_97_0 : q_dec prog_14_method_55_code ((qc_97.drop 0).take 100) = true := by decide +kernel
set_option maxRecDepth 100000 in
theorem q_dc_98_0 : q_dec prog_14_method_56_code ((qc_98.drop 0).take 100) = true := by decide +kernel
set_option maxRecDepth 100000 in
theorem q_dc_98_1 : q_dec prog_14_method_56_code ((qc_98.drop 100).take 100) = true := by decide +kernel
set_option maxRecDepth 100000 in
theorem q_dc_99_0 : q_dec prog_14_method_57_code ((qc_99.drop 0).take 100) = true := by decide +kernel
set_option maxRecDepth 100000 in
theorem q_dc_100_0 : q_dec prog_14_method_58_code ((qc_100.drop 0).take 100) = true := by decide +kernel
set_option maxRecDepth 100000 in
theorem q_dc_101_0 : q_dec prog_14_method_59_code ((qc_101.drop 0).take 100) = true := by decide +kernel
set_option maxRecDepth 100000 in
theorem q_dc_102_0 : q_dec prog_14_method_60_code ((qc_102.drop 0).take 100) = true := by decide +kernel
set_option maxRecDepth 100000 in
theorem q_dc_103_0 : q_dec prog_14_method_61_code ((qc_103.drop 0).take 100) = true := by decide +kernel
set_option maxRecDepth 100000 in
theorem q_dc_104_0 : q_dec prog_14_method_62_code ((qc_104.drop 0).take 100) = true := by decide +kernel
set_option maxRecDepth 100000 in
theorem q_dc_105_0 : q_dec prog_14_method_63_code ((qc_105.drop 0).take 100) = true := by decide +kernel
set_option maxRecDepth 100000 in
theorem q_dc_106_0 : q_dec prog_14_method_64_code ((qc_106.drop 0).take 100) = true := by decide +kernel
set_option maxRecDepth 100000 in
theorem q_dc_107_0 : q_dec prog_14_method_65_code ((qc_107.drop 0).take 100) = true := by decide +kernel
set_option maxRecDepth 100000 in
theorem q_dc_108_0 : q_dec prog_14_method_66_code ((qc_108.drop 0).take 100) = true := by decide +kernel
set_option maxRecDepth 100000 in
theorem q_dc_109_0 : q_dec prog_14_method_67_code ((qc_109.drop 0).take 100) = true := by decide +kernel
set_option maxRecDepth 100000 in
theorem q_dc_110_0 : q_dec prog_14_method_68_code ((qc_110.drop 0).take 100) = true := by decide +kernel
set_option maxRecDepth 100000 in
theorem q_dc_110_1 : q_dec prog_14_method_68_code ((qc_110.drop 100).take 100) = true := by decide +kernel
set_option maxRecDepth 100000 in
theorem q_dc_111_0 : q_dec prog_14_method_69_code ((qc_111.drop 0).take 100) = true := by decide +kernel
set_option maxRecDepth 100000 in
theorem q_dc_112_0 : q_dec prog_14_method_70_code ((qc_112.drop 0).take 100) = true := by decide +kernel
set_option maxRecDepth 100000 in
theorem q_dc_113_0 : q_dec prog_14_method_71_code ((qc_113.drop 0).take 100) = true := by decide +kernel
set_option maxRecDepth 100000 in
theorem q_dc_114_0 : q_dec prog_14_method_72_code ((qc_114.drop 0).take 100) = true := by decide +kernel
set_option maxRecDepth 100000 in
theorem q_dc_115_0 : q_dec prog_14_method_73_code ((qc_115.drop 0).take 100) = true := by decide +kernel
set_option maxRecDepth 100000 in
theorem q_dc_116_0 : q_dec prog_14_method_74_code ((qc_116.drop 0).take 100) = true := by decide +kernel
set_option maxRecDepth 100000 in
theorem q_dc_117_0 : q_dec prog_14_method_75_code ((qc_117.drop 0).take 100) = true := by decide +kernel
set_option maxRecDepth 100000 in
theorem q_dc_118_0 : q_dec prog_14_method_76_code ((qc_118.drop 0).take 100) = true := by decide +kernel
set_option maxRecDepth 100000 in
theorem q_dc_119_0 : q_dec prog_14_method_77_code ((qc_119.drop 0).take 100) = true := by decide +kernel
set_option maxRecDepth 100000 in
theorem q_dc_120_0 : q_dec prog_14_method_78_code ((qc_120.drop 0).take 100) = true := by decide +kernel
set_option maxRecDepth 100000 in
theorem q_dc_121_0 : q_dec prog_14_method_79_code ((qc_121.drop 0).take 100) = true := by decide +kernel
set_option maxRecDepth 100000 in
theorem q_dc_122_0 : q_dec prog_14_method_80_code ((qc_122.drop 0).take 100) = true := by decide +kernel
end
section
/-! The entries decode. -/
set_option maxRecDepth 100000 in
theorem q_dc_122_1 : q_dec prog_14_method_80_code ((qc_122.drop 100).take 100) = true := by decide +kernel
set_option maxRecDepth 100000 in
theorem q_dc_123_0 : q_dec prog_14_method_81_code ((qc_123.drop 0).take 100) = true := by decide +kernel
set_option maxRecDepth 100000 in
theorem q_dc_124_0 : q_dec prog_14_method_82_code ((qc_124.drop 0).take 100) = true := by decide +kernel
set_option maxRecDepth 100000 in
theorem q_dc_125_0 : q_dec prog_14_method_83_code ((qc_125.drop 0).take 100) = true := by decide +kernel
set_option maxRecDepth 100000 in
theorem q_dc_126_0 : q_dec prog_14_method_84_code ((qc_126.drop 0).take 100) = true := by decide +kernel
set_option maxRecDepth 100000 in
theorem q_dc_126_1 : q_dec prog_14_method_84_code ((qc_126.drop 100).take 100) = true := by decide +kernel
set_option maxRecDepth 100000 in
theorem q_dc_126_2 : q_dec prog_14_method_84_code ((qc_126.drop 200).take 100) = true := by decide +kernel
set_option maxRecDepth 100000 in
theorem q_dc_127_0 : q_dec prog_2_method_1_code ((qc_127.drop 0).take 100) = true := by decide +kernel
set_option maxRecDepth 100000 in
theorem q_dc_128_0 : q_dec prog_2_method_2_code ((qc_128.drop 0).take 100) = true := by decide +kernel
set_option maxRecDepth 100000 in
theorem q_dc_129_0 : q_dec prog_2_method_3_code ((qc_129.drop 0).take 100) = true := by decide +kernel
set_option maxRecDepth 100000 in
theorem q_dc_130_0 : q_dec prog_2_method_4_code ((qc_130.drop 0).take 100) = true := by decide +kernel
set_option maxRecDepth 100000 in
theorem q_dc_131_0 : q_dec prog_2_method_5_code ((qc_131.drop 0).take 100) = true := by decide +kernel
set_option maxRecDepth 100000 in
theorem q_dc_132_0 : q_dec prog_2_method_6_code ((qc_132.drop 0).take 100) = true := by decide +kernel
set_option maxRecDepth 100000 in
theorem q_dc_133_0 : q_dec prog_2_method_7_code ((qc_133.drop 0).take 100) = true := by decide +kernel
set_option maxRecDepth 100000 in
theorem q_dc_134_0 : q_dec prog_2_method_8_code ((qc_134.drop 0).take 100) = true := by decide +kernel
set_option maxRecDepth 100000 in
theorem q_dc_135_0 : q_dec prog_2_method_9_code ((qc_135.drop 0).take 100) = true := by decide +kernel
set_option maxRecDepth 100000 in
theorem q_dc_136_0 : q_dec prog_2_method_10_code ((qc_136.drop 0).take 100) = true := by decide +kernel
set_option maxRecDepth 100000 in
theorem q_dc_137_0 : q_dec prog_2_method_11_code ((qc_137.drop 0).take 100) = true := by decide +kernel
set_option maxRecDepth 100000 in
theorem q_dc_138_0 : q_dec prog_2_method_12_code ((qc_138.drop 0).take 100) = true := by decide +kernel
set_option maxRecDepth 100000 in
theorem q_dc_139_0 : q_dec prog_2_method_13_code ((qc_139.drop 0).take 100) = true := by decide +kernel
set_option maxRecDepth 100000 in
theorem q_dc_140_0 : q_dec prog_2_method_14_code ((qc_140.drop 0).take 100) = true := by decide +kernel
set_option maxRecDepth 100000 in
theorem q_dc_141_0 : q_dec prog_2_method_15_code ((qc_141.drop 0).take 100) = true := by decide +kernel
set_option maxRecDepth 100000 in
theorem q_dc_142_0 : q_dec prog_2_method_16_code ((qc_142.drop 0).take 100) = true := by decide +kernel
set_option maxRecDepth 100000 in
theorem q_dc_143_0 : q_dec prog_2_method_17_code ((qc_143.drop 0).take 100) = true := by decide +kernel
set_option maxRecDepth 100000 in
theorem q_dc_144_0 : q_dec prog_2_method_18_code ((qc_144.drop 0).take 100) = true := by decide +kernel
set_option maxRecDepth 100000 in
theorem q_dc_145_0 : q_dec prog_2_method_19_code ((qc_145.drop 0).take 100) = true := by decide +kernel
set_option maxRecDepth 100000 in
theorem q_dc_146_0 : q_dec prog_3_method_1_code ((qc_146.drop 0).take 100) = true := by decide +kernel
end
section
/-! The entries decode. -/
set_option maxRecDepth 100000 in
theorem q_dc_147_0 : q_dec prog_3_method_2_code ((qc_147.drop 0).take 100) = true := by decide +kernel
set_option maxRecDepth 100000 in
theorem q_dc_148_0 : q_dec prog_3_method_3_code ((qc_148.drop 0).take 100) = true := by decide +kernel
set_option maxRecDepth 100000 in
theorem q_dc_149_0 : q_dec prog_3_method_4_code ((qc_149.drop 0).take 100) = true := by decide +kernel
set_option maxRecDepth 100000 in
theorem q_dc_150_0 : q_dec prog_3_method_5_code ((qc_150.drop 0).take 100) = true := by decide +kernel
set_option maxRecDepth 100000 in
theorem q_dc_151_0 : q_dec prog_3_method_6_code ((qc_151.drop 0).take 100) = true := by decide +kernel
set_option maxRecDepth 100000 in
theorem q_dc_152_0 : q_dec prog_3_method_7_code ((qc_152.drop 0).take 100) = true := by decide +kernel
set_option maxRecDepth 100000 in
theorem q_dc_153_0 : q_dec prog_3_method_8_code ((qc_153.drop 0).take 100) = true := by decide +kernel
set_option maxRecDepth 100000 in
theorem q_dc_154_0 : q_dec prog_3_method_9_code ((qc_154.drop 0).take 100) = true := by decide +kernel
set_option maxRecDepth 100000 in
theorem q_dc_155_0 : q_dec prog_3_method_10_code ((qc_155.drop 0).take 100) = true := by decide +kernel
set_option maxRecDepth 100000 in
theorem q_dc_156_0 : q_dec prog_3_method_11_code ((qc_156.drop 0).take 100) = true := by decide +kernel
set_option maxRecDepth 100000 in
theorem q_dc_157_0 : q_dec prog_3_method_12_code ((qc_157.drop 0).take 100) = true := by decide +kernel
set_option maxRecDepth 100000 in
theorem q_dc_158_0 : q_dec prog_3_method_13_code ((qc_158.drop 0).take 100) = true := by decide +kernel
set_option maxRecDepth 100000 in
theorem q_dc_159_0 : q_dec prog_3_method_14_code ((qc_159.drop 0).take 100) = true := by decide +kernel
set_option maxRecDepth 100000 in
theorem q_dc_160_0 : q_dec prog_3_method_15_code ((qc_160.drop 0).take 100) = true := by decide +kernel
set_option maxRecDepth 100000 in
theorem q_dc_161_0 : q_dec prog_3_method_16_code ((qc_161.drop 0).take 100) = true := by decide +kernel
set_option maxRecDepth 100000 in
theorem q_dc_162_0 : q_dec prog_3_method_17_code ((qc_162.drop 0).take 100) = true := by decide +kernel
set_option maxRecDepth 100000 in
theorem q_dc_163_0 : q_dec prog_3_method_18_code ((qc_163.drop 0).take 100) = true := by decide +kernel
set_option maxRecDepth 100000 in
theorem q_dc_164_0 : q_dec prog_3_method_19_code ((qc_164.drop 0).take 100) = true := by decide +kernel
set_option maxRecDepth 100000 in
theorem q_dc_165_0 : q_dec prog_3_method_20_code ((qc_165.drop 0).take 100) = true := by decide +kernel
set_option maxRecDepth 100000 in
theorem q_dc_166_0 : q_dec prog_3_method_21_code ((qc_166.drop 0).take 100) = true := by decide +kernel
set_option maxRecDepth 100000 in
theorem q_dc_167_0 : q_dec prog_3_method_22_code ((qc_167.drop 0).take 100) = true := by decide +kernel
set_option maxRecDepth 100000 in
theorem q_dc_168_0 : q_dec prog_3_method_23_code ((qc_168.drop 0).take 100) = true := by decide +kernel
set_option maxRecDepth 100000 in
theorem q_dc_169_0 : q_dec prog_3_method_24_code ((qc_169.drop 0).take 100) = true := by decide +kernel
set_option maxRecDepth 100000 in
theorem q_dc_170_0 : q_dec prog_3_method_25_code ((qc_170.drop 0).take 100) = true := by decide +kernel
set_option maxRecDepth 100000 in
theorem q_dc_171_0 : q_dec prog_3_method_26_code ((qc_171.drop 0).take 100) = true := by decide +kernel
set_option maxRecDepth 100000 in
theorem q_dc_172_0 : q_dec prog_3_method_27_code ((qc_172.drop 0).take 100) = true := by decide +kernel
set_option maxRecDepth 100000 in
theorem q_dc_173_0 : q_dec prog_3_method_28_code ((qc_173.drop 0).take 100) = true := by decide +kernel
set_option maxRecDepth 100000 in
theorem q_dc_174_0 : q_dec prog_4_method_1_code ((qc_174.drop 0).take 100) = true := by decide +kernel
set_option maxRecDepth 100000 in
theorem q_dc_175_0 : q_dec prog_4_method_2_code ((qc_175.drop 0).take 100) = true := by decide +kernel
set_option maxRecDepth 100000 in
theorem q_dc_176_0 : q_dec prog_4_method_3_code ((qc_176.drop 0).take 100) = true := by decide +kernel
set_option maxRecDepth 100000 in
theorem q_dc_177_0 : q_dec prog_4_method_4_code ((qc_177.drop 0).take 100) = true := by decide +kernel
set_option maxRecDepth 100000 in
theorem q_dc_178_0 : q_dec prog_4_method_5_code ((qc_178.drop 0).take 100) = true := by decide +kernel
set_option maxRecDepth 100000 in
theorem q_dc_179_0 : q_dec prog_4_method_6_code ((qc_179.drop 0).take 100) = true := by decide +kernel
set_option maxRecDepth 100000 in
theorem q_dc_180_0 : q_dec prog_4_method_7_code ((qc_180.drop 0).take 100) = true := by decide +kernel
set_option maxRecDepth 100000 in
theorem q_dc_181_0 : q_dec prog_4_method_8_code ((qc_181.drop 0).take 100) = true := by decide +kernel
set_option maxRecDepth 100000 in
theorem q_dc_182_0 : q_dec prog_4_method_9_code ((qc_182.drop 0).take 100) = true := by decide +kernel
set_option maxRecDepth 100000 in
theorem q_dc_183_0 : q_dec prog_4_method_10_code ((qc_183.drop 0).take 100) = true := by decide +kernel
set_option maxRecDepth 100000 in
theorem q_dc_184_0 : q_dec prog_4_method_11_code ((qc_184.drop 0).take 100) = true := by decide +kernel
set_option maxRecDepth 100000 in
theorem q_dc_185_0 : q_dec prog_4_method_12_code ((qc_185.drop 0).take 100) = true := by decide +kernel
set_option maxRecDepth 100000 in
theorem q_dc_186_0 : q_dec prog_4_method_13_code ((qc_186.drop 0).take 100) = true := by decide +kernel
set_option maxRecDepth 100000 in
theorem q_dc_187_0 : q_dec prog_4_method_14_code ((qc_187.drop 0).take 100) = true := by decide +kernel
set_option maxRecDepth 100000 in
theorem q_dc_187_1 : q_dec prog_4_method_14_code ((qc_187.drop 100).take 100) = true := by decide +kernel
set_option maxRecDepth 100000 in
theorem q_dc_188_0 : q_dec prog_4_method_15_code ((qc_188.drop 0).take 100) = true := by decide +kernel
set_option maxRecDepth 100000 in
theorem q_dc_189_0 : q_dec prog_4_method_16_code ((qc_189.drop 0).take 100) = true := by decide +kernel
set_option maxRecDepth 100000 in
theorem q_dc_190_0 : q_dec prog_5_method_1_code ((qc_190.drop 0).take 100) = true := by decide +kernel
set_option maxRecDepth 100000 in
theorem q_dc_191_0 : q_dec prog_5_method_2_code ((qc_191.drop 0).take 100) = true := by decide +kernel
set_option maxRecDepth 100000 in
theorem q_dc_192_0 : q_dec prog_5_method_3_code ((qc_192.drop 0).take 100) = true := by decide +kernel
set_option maxRecDepth 100000 in
theorem q_dc_193_0 : q_dec prog_5_method_4_code ((qc_193.drop 0).take 100) = true := by decide +kernel
set_option maxRecDepth 100000 in
theorem q_dc_194_0 : q_dec prog_5_method_5_code ((qc_194.drop 0).take 100) = true := by decide +kernel
set_option maxRecDepth 100000 in
theorem q_dc_195_0 : q_dec prog_5_method_6_code ((qc_195.drop 0).take 100) = true := by decide +kernel
set_option maxRecDepth 100000 in
theorem q_dc_196_0 : q_dec prog_5_method_7_code ((qc_196.drop 0).take 100) = true := by decide +kernel
set_option maxRecDepth 100000 in
theorem q_dc_197_0 : q_dec prog_6_method_1_code ((qc_197.drop 0).take 100) = true := by decide +kernel
set_option maxRecDepth 100000 in
theorem q_dc_198_0 : q_dec prog_6_method_2_code ((qc_198.drop 0).take 100) = true := by decide +kernel
set_option maxRecDepth 100000 in
theorem q_dc_199_0 : q_dec prog_6_method_3_code ((qc_199.drop 0).take 100) = true := by decide +kernel
set_option maxRecDepth 100000 in
theorem q_dc_200_0 : q_dec prog_6_method_4_code ((qc_200.drop 0).take 100) = true := by decide +kernel
set_option maxRecDepth 100000 in
theorem q_dc_201_0 : q_dec prog_6_method_5_code ((qc_201.drop 0).take 100) = true := by decide +kernel
set_option maxRecDepth 100000 in
theorem q_dc_202_0 : q_dec prog_6_method_6_code ((qc_202.drop 0).take 100) = true := by decide +kernel
set_option maxRecDepth 100000 in
theorem q_dc_203_0 : q_dec prog_6_method_7_code ((qc_203.drop 0).take 100) = true := by decide +kernel
set_option maxRecDepth 100000 in
theorem q_dc_204_0 : q_dec prog_6_method_8_code ((qc_204.drop 0).take 100) = true := by decide +kernel
set_option maxRecDepth 100000 in
theorem q_dc_205_0 : q_dec prog_6_method_9_code ((qc_205.drop 0).take 100) = true := by decide +kernel
set_option maxRecDepth 100000 in
theorem q_dc_206_0 : q_dec prog_7_method_1_code ((qc_206.drop 0).take 100) = true := by decide +kernel
set_option maxRecDepth 100000 in
theorem q_dc_207_0 : q_dec prog_7_method_2_code ((qc_207.drop 0).take 100) = true := by decide +kernel
set_option maxRecDepth 100000 in
theorem q_dc_208_0 : q_dec prog_7_method_3_code ((qc_208.drop 0).take 100) = true := by decide +kernel
set_option maxRecDepth 100000 in
theorem q_dc_209_0 : q_dec prog_7_method_4_code ((qc_209.drop 0).take 100) = true := by decide +kernel
set_option maxRecDepth 100000 in
theorem q_dc_210_0 : q_dec prog_7_method_5_code ((qc_210.drop 0).take 100) = true := by decide +kernel
set_option maxRecDepth 100000 in
theorem q_dc_211_0 : q_dec prog_8_method_1_code ((qc_211.drop 0).take 100) = true := by decide +kernel
set_option maxRecDepth 100000 in
theorem q_dc_212_0 : q_dec prog_8_method_2_code ((qc_212.drop 0).take 100) = true := by decide +kernel
set_option maxRecDepth 100000 in
theorem q_dc_213_0 : q_dec prog_8_method_3_code ((qc_213.drop 0).take 100) = true := by decide +kernel
end
section
/-! The entries decode. -/
set_option maxRecDepth 100000 in
theorem q_dc_214_0 : q_dec prog_8_method_4_code ((qc_214.drop 0).take 100) = true := by decide +kernel
set_option maxRecDepth 100000 in
theorem q_dc_215_0 : q_dec prog_8_method_5_code ((qc_215.drop 0).take 100) = true := by decide +kernel
set_option maxRecDepth 100000 in
theorem q_dc_216_0 : q_dec prog_9_method_1_code ((qc_216.drop 0).take 100) = true := by decide +kernel
set_option maxRecDepth 100000 in
theorem q_dc_217_0 : q_dec prog_9_method_2_code ((qc_217.drop 0).take 100) = true := by decide +kernel
set_option maxRecDepth 100000 in
theorem q_dc_218_0 : q_dec prog_9_method_3_code ((qc_218.drop 0).take 100) = true := by decide +kernel
set_option maxRecDepth 100000 in
theorem q_dc_219_0 : q_dec prog_9_method_4_code ((qc_219.drop 0).take 100) = true := by decide +kernel
set_option maxRecDepth 100000 in
theorem q_dc_220_0 : q_dec prog_9_method_5_code ((qc_220.drop 0).take 100) = true := by decide +kernel
set_option maxRecDepth 100000 in
theorem q_dc_221_0 : q_dec prog_9_method_6_code ((qc_221.drop 0).take 100) = true := by decide +kernel
set_option maxRecDepth 100000 in
theorem q_dc_222_0 : q_dec prog_10_method_1_code ((qc_222.drop 0).take 100) = true := by decide +kernel
set_option maxRecDepth 100000 in
theorem q_dc_223_0 : q_dec prog_10_method_2_code ((qc_223.drop 0).take 100) = true := by decide +kernel
set_option maxRecDepth 100000 in
theorem q_dc_224_0 : q_dec prog_10_method_3_code ((qc_224.drop 0).take 100) = true := by decide +kernel
set_option maxRecDepth 100000 in
theorem q_dc_225_0 : q_dec prog_10_method_4_code ((qc_225.drop 0).take 100) = true := by decide +kernel
set_option maxRecDepth 100000 in
theorem q_dc_226_0 : q_dec prog_10_method_5_code ((qc_226.drop 0).take 100) = true := by decide +kernel
set_option maxRecDepth 100000 in
theorem q_dc_227_0 : q_dec prog_10_method_6_code ((qc_227.drop 0).take 100) = true := by decide +kernel
set_option maxRecDepth 100000 in
theorem q_dc_228_0 : q_dec prog_10_method_7_code ((qc_228.drop 0).take 100) = true := by decide +kernel
set_option maxRecDepth 100000 in
theorem q_dc_229_0 : q_dec prog_10_method_8_code ((qc_229.drop 0).take 100) = true := by decide +kernel
set_option maxRecDepth 100000 in
theorem q_dc_230_0 : q_dec prog_10_method_9_code ((qc_230.drop 0).take 100) = true := by decide +kernel
set_option maxRecDepth 100000 in
theorem q_dc_231_0 : q_dec prog_10_method_10_code ((qc_231.drop 0).take 100) = true := by decide +kernel
set_option maxRecDepth 100000 in
theorem q_dc_232_0 : q_dec prog_10_method_11_code ((qc_232.drop 0).take 100) = true := by decide +kernel
set_option maxRecDepth 100000 in
theorem q_dc_233_0 : q_dec prog_11_method_1_code ((qc_233.drop 0).take 100) = true := by decide +kernel
set_option maxRecDepth 100000 in
theorem q_dc_234_0 : q_dec prog_11_method_2_code ((qc_234.drop 0).take 100) = true := by decide +kernel
set_option maxRecDepth 100000 in
theorem q_dc_235_0 : q_dec prog_11_method_3_code ((qc_235.drop 0).take 100) = true := by decide +kernel
set_option maxRecDepth 100000 in
theorem q_dc_236_0 : q_dec prog_11_method_4_code ((qc_236.drop 0).take 100) = true := by decide +kernel
set_option maxRecDepth 100000 in
theorem q_dc_237_0 : q_dec prog_11_method_5_code ((qc_237.drop 0).take 100) = true := by decide +kernel
set_option maxRecDepth 100000 in
theorem q_dc_238_0 : q_dec prog_11_method_6_code ((qc_238.drop 0).take 100) = true := by decide +kernel
set_option maxRecDepth 100000 in
theorem q_dc_239_0 : q_dec prog_11_method_7_code ((qc_239.drop 0).take 100) = true := by decide +kernel
set_option maxRecDepth 100000 in
theorem q_dc_240_0 : q_dec prog_11_method_8_code ((qc_240.drop 0).take 100) = true := by decide +kernel
set_option maxRecDepth 100000 in
theorem q_dc_241_0 : q_dec prog_11_method_9_code ((qc_241.drop 0).take 100) = true := by decide +kernel
set_option maxRecDepth 100000 in
theorem q_dc_242_0 : q_dec prog_11_method_10_code ((qc_242.drop 0).take 100) = true := by decide +kernel
set_option maxRecDepth 100000 in
theorem q_dc_243_0 : q_dec prog_11_method_11_code ((qc_243.drop 0).take 100) = true := by decide +kernel
set_option maxRecDepth 100000 in
theorem q_dc_244_0 : q_dec prog_12_method_1_code ((qc_244.drop 0).take 100) = true := by decide +kernel
set_option maxRecDepth 100000 in
theorem q_dc_245_0 : q_dec prog_12_method_2_code ((qc_245.drop 0).take 100) = true := by decide +kernel
set_option maxRecDepth 100000 in
theorem q_dc_246_0 : q_dec prog_12_method_3_code ((qc_246.drop 0).take 100) = true := by decide +kernel
set_option maxRecDepth 100000 in
theorem q_dc_247_0 : q_dec prog_12_method_4_code ((qc_247.drop 0).take 100) = true := by decide +kernel
set_option maxRecDepth 100000 in
theorem q_dc_248_0 : q_dec prog_12_method_5_code ((qc_248.drop 0).take 100) = true := by decide +kernel
set_option maxRecDepth 100000 in
theorem q_dc_249_0 : q_dec prog_12_method_6_code ((qc_249.drop 0).take 100) = true := by decide +kernel
set_option maxRecDepth 100000 in
theorem q_dc_250_0 : q_dec prog_12_method_7_code ((qc_250.drop 0).take 100) = true := by decide +kernel
set_option maxRecDepth 100000 in
theorem q_dc_251_0 : q_dec prog_12_method_8_code ((qc_251.drop 0).take 100) = true := by decide +kernel
set_option maxRecDepth 100000 in
theorem q_dc_252_0 : q_dec prog_12_method_9_code ((qc_252.drop 0).take 100) = true := by decide +kernel
set_option maxRecDepth 100000 in
theorem q_dc_253_0 : q_dec prog_12_method_10_code ((qc_253.drop 0).take 100) = true := by decide +kernel
set_option maxRecDepth 100000 in
theorem q_dc_254_0 : q_dec prog_12_method_11_code ((qc_254.drop 0).take 100) = true := by decide +kernel
set_option maxRecDepth 100000 in
theorem q_dc_255_0 : q_dec prog_12_method_12_code ((qc_255.drop 0).take 100) = true := by decide +kernel
set_option maxRecDepth 100000 in
theorem q_dc_256_0 : q_dec prog_12_method_13_code ((qc_256.drop 0).take 100) = true := by decide +kernel
set_option maxRecDepth 100000 in
theorem q_dc_257_0 : q_dec prog_12_method_14_code ((qc_257.drop 0).take 100) = true := by decide +kernel
set_option maxRecDepth 100000 in
theorem q_dc_258_0 : q_dec prog_12_method_15_code ((qc_258.drop 0).take 100) = true := by decide +kernel
set_option maxRecDepth 100000 in
theorem q_dc_259_0 : q_dec prog_12_method_16_code ((qc_259.drop 0).take 100) = true := by decide +kernel
set_option maxRecDepth 100000 in
theorem q_dc_260_0 : q_dec prog_12_method_17_code ((qc_260.drop 0).take 100) = true := by decide +kernel
end
section
/-! What a code entry must be for the machine to do as the pure machine does; decided by program. -/
def q_cl : List vw_C := q_ft.map fun z => (z.1, (fun k => z.2.getD k ("", "", "", false)), z.2.length)
def q_T (ci k : Nat) : String × String × String × Bool := (q_ft.getD ci ("", [])).2.getD k ("", "", "", false)
def q_C (ci : Nat) : String := (q_ft.getD ci ("", [])).1
def q_N (ci : Nat) : Nat := (q_ft.getD ci ("", [])).2.length
def q_own (M : Nat) : String := (q_y M).cls
def q_has (w : Nat) (c : Jvm.Cond) : Bool := decide (lw_tbl[w]? = some c) && goodWord c
/-- a nest mate's link -/
def q_hasN (w : Nat) (c : Jvm.Cond) : Bool := decide (lw_tbl[w]? = some c)
def q_i32 (v : Int) : Bool := decide (-2147483648 ≤ v) && decide (v < 2147483648)
def q_tsc (pc : Nat) : Int → List Int → List Nat → Bool
  | _, [], [] => true
  | lo, o :: os, k :: t :: r => decide ((k : Int) = lo) && decide ((pc : Int) + o = (t : Int)) && q_tsc pc (lo + 1) os r
  | _, _, _ => false
def q_lsc (pc : Nat) : List (Int × Int) → List Nat → Bool
  | [], [] => true
  | o :: os, k :: t :: r => decide ((k : Int) = o.1) && decide ((pc : Int) + o.2 = (t : Int)) && q_lsc pc os r
  | _, _ => false
/-- a field's kind by its descriptor -/
def q_dk (d : String) : Nat := if d = "I" then 0 else if d = "Z" then 3 else 1
def q_par (d : String) : Option Nat := (parseMethodDescriptor d).map (fun d => d.parameters.length)
/-- the words of a call that every call wants: link, class initialised, code; its room -/
def q_chkC (M idx : Nat) (a ws : List Nat) : Bool :=
  (if q_a ws 1 = 1 then q_hasN (q_a ws 0) (.methodLinkNest (q_own M) idx (q_y (q_a a 0)) "Marktongue") else q_has (q_a ws 0) (.methodLink (q_own M) idx (q_y (q_a a 0)))) &&
  q_has (q_a ws 2) (.initialized (q_own (q_a a 0))) && decide (q_a a 0 < q_ys.length) &&
  decide (q_par (q_y (q_a a 0)).desc = some (q_a a 1 - q_a a 2)) && decide (q_a a 2 ≤ 1) && decide (q_a a 2 ≤ q_a a 1) &&
  decide ((q_rm (q_a a 0)).1 + 1 ≤ (q_rm M).1) && decide (8 + (q_nL (q_a a 0) + 11) + (q_rm (q_a a 0)).2.1 ≤ (q_rm M).2.1)
def q_chk2 (M pc len : Nat) (i : Instr) (v : Int) (a ws : List Nat) : Bool := match i with
  | .iconst n => len == 1 && decide (Int32.ofInt n = Int32.ofInt v) && q_i32 v
  | .bipush n => len == 2 && decide ((Int8.ofInt n).toInt32 = Int32.ofInt v) && q_i32 v
  | .sipush n => len == 3 && decide ((Int16.ofInt n).toInt32 = Int32.ofInt v) && q_i32 v
  | .ldc idx => len == 2 && q_has (q_a ws 0) (.constant (q_own M) idx (Int32.ofInt v)) && q_i32 v
  | .lconst n => len == 1 && decide (Int64.ofNat n = Int64.ofInt v) && q_i32 v
  | .ldc2_w idx => len == 3 && q_has (q_a ws 0) (.constantLong (q_own M) idx (Int64.ofInt v)) && q_i32 v
  | .iload k => len == 2 && decide (q_a a 0 = k)
  | .lload k => len == 2 && decide (q_a a 0 = k)
  | .aload k => len == 2 && decide (q_a a 0 = k)
  | .istore k => len == 2 && decide (q_a a 0 = k)
  | .lstore k => len == 2 && decide (q_a a 0 = k)
  | .astore k => len == 2 && decide (q_a a 0 = k)
  | .iload_n k => len == 1 && decide (q_a a 0 = k)
  | .lload_n k => len == 1 && decide (q_a a 0 = k)
  | .aload_n k => len == 1 && decide (q_a a 0 = k)
  | .istore_n k => len == 1 && decide (q_a a 0 = k)
  | .lstore_n k => len == 1 && decide (q_a a 0 = k)
  | .astore_n k => len == 1 && decide (q_a a 0 = k)
  | .iinc k n => len == 3 && decide (q_a a 0 = k) && decide (n = v) && q_i32 v
  | .goto off => len == 3 && decide ((pc : Int) + off = (q_a a 0 : Int))
  | .ifCond _ off => len == 3 && decide ((pc : Int) + off = (q_a a 0 : Int))
  | .if_icmp _ off => len == 3 && decide ((pc : Int) + off = (q_a a 0 : Int))
  | .tableswitch d lo hi offs => decide ((pc : Int) + d = (q_a a 0 : Int)) && q_tsc pc lo offs.toList a.tail && decide (hi = lo + offs.toList.length - 1) && decide (a ≠ [])
  | .lookupswitch d ps => decide ((pc : Int) + d = (q_a a 0 : Int)) && q_lsc pc ps.toList a.tail && (ps.toList.zip (ps.toList.drop 1)).all (fun (a, next) => a.1 < next.1) && decide (a ≠ [])
  | .ireturn => len == 1 && (if q_a a 0 = 3 then decide (q_rt M = some .boolean) else decide (q_rt M = some .int))
  | .lreturn => len == 1 && decide (q_rt M = some .long)
  | .areturn => len == 1 && (match q_rt M with
    | some (.object _) => true
    | _ => false)
  | .return_ => len == 1 && decide (q_rt M = none)
  | .getfield idx => len == 3 && q_has (q_a ws 0) (.fieldLink (q_own M) idx (q_C (q_a a 0)) (q_T (q_a a 0) (q_a a 1)).2.1 (q_T (q_a a 0) (q_a a 1)).2.2.1) && decide (q_a a 0 < q_ft.length) && decide (q_a a 1 < q_N (q_a a 0)) && decide (q_a a 2 = (q_kd.getD (q_a a 0) []).getD (q_a a 1) 0) && decide ((q_T (q_a a 0) (q_a a 1)).1 = q_C (q_a a 0))
  | .putfield idx => len == 3 && q_has (q_a ws 0) (.fieldLink (q_own M) idx (q_C (q_a a 0)) (q_T (q_a a 0) (q_a a 1)).2.1 (q_T (q_a a 0) (q_a a 1)).2.2.1) && decide (q_a a 0 < q_ft.length) && decide (q_a a 1 < q_N (q_a a 0)) && decide (q_a a 2 = (q_kd.getD (q_a a 0) []).getD (q_a a 1) 0) && decide ((q_T (q_a a 0) (q_a a 1)).1 = q_C (q_a a 0)) &&
      (decide ((q_T (q_a a 0) (q_a a 1)).2.2.2 = false) || (decide ((q_y M).name = "<init>") && decide (q_own M = q_C (q_a a 0))))
  | .new idx => len == 3 && (q_a a 2 == 1 || (decide (q_a a 0 < q_ft.length) && decide (q_a a 1 = q_N (q_a a 0)) && decide (q_a a 2 = 0) && q_has (q_a ws 0) (.classLink (q_own M) idx (q_C (q_a a 0))) && q_has (q_a ws 1) (.instantiable (q_C (q_a a 0)) (q_N (q_a a 0))) && q_has (q_a ws 2) (.initialized (q_C (q_a a 0)))))
  | .newarray t => len == 2 && (match t with
    | .int => decide (q_a a 0 = 0) && q_has (q_a ws 0) (.arrayClass .int)
    | .boolean => decide (q_a a 0 = 1) && q_has (q_a ws 0) (.arrayClass .boolean)
    | .long => decide (q_a a 0 = 2) && q_has (q_a ws 0) (.arrayClass .long)
    | _ => false)
  | .invokestatic idx => len == 3 && (if q_a a 2 = 3
      then q_has (q_a ws 0) (.methodLink (q_own M) idx Lib.Math.max.name) && q_has (q_a ws 1) (.static Lib.Math.max.name) && q_has (q_a ws 2) (.initialized "java/lang/Math") && q_has (q_a ws 3) (.code Lib.Math.max.name Lib.Math.max.code 2 (some .int)) && decide (1 ≤ (q_rm M).1) && decide (21 ≤ (q_rm M).2.1)
      else decide (q_a a 2 = 0) && q_chkC M idx a ws && q_has (q_a ws 3) (.static (q_y (q_a a 0))))
  | .invokevirtual idx => len == 3 && decide (q_a a 2 = 1) && q_chkC M idx a ws && q_has (q_a ws 3) (.instanceMethod (q_y (q_a a 0))) && q_has (q_a ws 4) (.selects (q_C (q_a a 3)) (q_y (q_a a 0)) (q_y (q_a a 0))) && decide (q_a a 3 < q_ft.length)
  | .invokespecial idx => len == 3 && (if q_a a 2 = 2
      then q_has (q_a ws 0) (.methodLink (q_own M) idx Lib.objectInit) && q_has (q_a ws 1) (.instanceMethod Lib.objectInit) && q_has (q_a ws 2) (.code Lib.objectInit ⟨#[0xb1]⟩ 1 none) && decide (1 ≤ (q_rm M).1) && decide (20 ≤ (q_rm M).2.1)
      else decide (q_a a 2 = 1) && q_chkC M idx a ws && q_has (q_a ws 3) (.instanceMethod (q_y (q_a a 0))) && decide ((q_y (q_a a 0)).name = "<init>") && decide (q_rt (q_a a 0) = none) && decide (q_a a 3 < q_ft.length))
  | .iadd | .isub | .imul | .idiv | .irem | .iand | .ladd | .lmul | .land | .lor | .lxor | .lushr | .lshl | .lcmp | .i2l | .dup | .dup2 | .pop | .arraylength | .iaload | .baload | .laload | .iastore | .bastore | .lastore => len == 1
  | _ => false
def q_chk (M : Nat) (e : Nat × qI) (ws : List Nat) : Bool := q_chk2 M e.1 e.2.1 e.2.2.1 e.2.2.2.1 e.2.2.2.2 ws
def q_all (M : Nat) : List (Nat × qI) → List (List Nat) → Bool
  | [], [] => true
  | e :: es, w :: ws => q_chk M e w && q_all M es ws
  | _, _ => false
/-- a method's own code word, its class's name plain -/
def q_chkM (M : Nat) : Bool := decide ((q_y M).cls ≠ "java/lang/invoke/MethodHandle") && decide ((q_y M).cls ≠ "java/lang/invoke/VarHandle") && plainName (q_y M).cls &&
  (if q_mk M = 0 then q_has (q_ci M) (.code (q_y M) (q_b M) (q_nL M) (q_rt M)) else true)
/-- a class: the words that lay it out; its fields' types; their names apart -/
def q_chkF (ci : Nat) : Bool := (List.range (q_N ci)).all fun k => q_has ((q_fw.getD ci []).getD k 0) (u_lay (q_C ci) (q_T ci) k) &&
  decide (q_dk (q_T ci k).2.2.1 = (q_kd.getD ci []).getD k 0) && (parseFieldDescriptor (q_T ci k).2.2.1).isSome &&
  (match (parseFieldDescriptor (q_T ci k).2.2.1) with
    | some .int => decide ((q_kd.getD ci []).getD k 0 = 0)
    | some .boolean => decide ((q_kd.getD ci []).getD k 0 = 3)
    | some (.object _) => decide ((q_kd.getD ci []).getD k 0 = 1)
    | some (.array _) => decide ((q_kd.getD ci []).getD k 0 = 1)
    | _ => false) &&
  (List.range (q_N ci)).all fun j => decide (j = k) || decide ((q_T ci j).2.1 ≠ (q_T ci k).2.1)
end
section
/-! The words of the entries. -/
set_option maxRecDepth 100000 in
theorem q_ok_0 : (q_chkM 0 && q_all 0 qc_0 qw_0) = true := by decide +kernel
set_option maxRecDepth 100000 in
theorem q_ok_1 : (q_chkM 1 && q_all 1 qc_1 qw_1) = true := by decide +kernel
set_option maxRecDepth 100000 in
theorem q_ok_2 : (q_chkM 2 && q_all 2 qc_2 qw_2) = true := by decide +kernel
set_option maxRecDepth 100000 in
theorem q_ok_3 : (q_chkM 3 && q_all 3 qc_3 qw_3) = true := by decide +kernel
set_option maxRecDepth 100000 in
theorem q_ok_4 : (q_chkM 4 && q_all 4 qc_4 qw_4) = true := by decide +kernel
set_option maxRecDepth 100000 in
theorem q_ok_5 : (q_chkM 5 && q_all 5 qc_5 qw_5) = true := by decide +kernel
set_option maxRecDepth 100000 in
theorem q_ok_6 : (q_chkM 6 && q_all 6 qc_6 qw_6) = true := by decide +kernel
set_option maxRecDepth 100000 in
theorem q_ok_7 : (q_chkM 7 && q_all 7 qc_7 qw_7) = true := by decide +kernel
set_option maxRecDepth 100000 in
theorem q_ok_8 : (q_chkM 8 && q_all 8 qc_8 qw_8) = true := by decide +kernel
set_option maxRecDepth 100000 in
theorem q_ok_9 : (q_chkM 9 && q_all 9 qc_9 qw_9) = true := by decide +kernel
set_option maxRecDepth 100000 in
theorem q_ok_10 : (q_chkM 10 && q_all 10 qc_10 qw_10) = true := by decide +kernel
set_option maxRecDepth 100000 in
theorem q_ok_11 : (q_chkM 11 && q_all 11 qc_11 qw_11) = true := by decide +kernel
set_option maxRecDepth 100000 in
theorem q_ok_12 : (q_chkM 12 && q_all 12 qc_12 qw_12) = true := by decide +kernel
set_option maxRecDepth 100000 in
theorem q_ok_13 : (q_chkM 13 && q_all 13 qc_13 qw_13) = true := by decide +kernel
set_option maxRecDepth 100000 in
theorem q_ok_14 : (q_chkM 14 && q_all 14 qc_14 qw_14) = true := by decide +kernel
set_option maxRecDepth 100000 in
theorem q_ok_15 : (q_chkM 15 && q_all 15 qc_15 qw_15) = true := by decide +kernel
set_option maxRecDepth 100000 in
theorem q_ok_16 : (q_chkM 16 && q_all 16 qc_16 qw_16) = true := by decide +kernel
set_option maxRecDepth 100000 in
theorem q_ok_17 : (q_chkM 17 && q_all 17 qc_17 qw_17) = true := by decide +kernel
set_option maxRecDepth 100000 in
theorem q_ok_18 : (q_chkM 18 && q_all 18 qc_18 qw_18) = true := by decide +kernel
set_option maxRecDepth 100000 in
theorem q_ok_19 : (q_chkM 19 && q_all 19 qc_19 qw_19) = true := by decide +kernel
set_option maxRecDepth 100000 in
theorem q_ok_20 : (q_chkM 20 && q_all 20 qc_20 qw_20) = true := by decide +kernel
set_option maxRecDepth 100000 in
theorem q_ok_21 : (q_chkM 21 && q_all 21 qc_21 qw_21) = true := by decide +kernel
set_option maxRecDepth 100000 in
theorem q_ok_22 : (q_chkM 22 && q_all 22 qc_22 qw_22) = true := by decide +kernel
set_option maxRecDepth 100000 in
theorem q_ok_23 : (q_chkM 23 && q_all 23 qc_23 qw_23) = true := by decide +kernel
set_option maxRecDepth 100000 in
theorem q_ok_24 : (q_chkM 24 && q_all 24 qc_24 qw_24) = true := by decide +kernel
set_option maxRecDepth 100000 in
theorem q_ok_25 : (q_chkM 25 && q_all 25 qc_25 qw_25) = true := by decide +kernel
set_option maxRecDepth 100000 in
theorem q_ok_26 : (q_chkM 26 && q_all 26 qc_26 qw_26) = true := by decide +kernel
set_option maxRecDepth 100000 in
theorem q_ok_27 : (q_chkM 27 && q_all 27 qc_27 qw_27) = true := by decide +kernel
set_option maxRecDepth 100000 in
theorem q_ok_28 : (q_chkM 28 && q_all 28 qc_28 qw_28) = true := by decide +kernel
set_option maxRecDepth 100000 in
theorem q_ok_29 : (q_chkM 29 && q_all 29 qc_29 qw_29) = true := by decide +kernel
set_option maxRecDepth 100000 in
theorem q_ok_30 : (q_chkM 30 && q_all 30 qc_30 qw_30) = true := by decide +kernel
set_option maxRecDepth 100000 in
theorem q_ok_31 : (q_chkM 31 && q_all 31 qc_31 qw_31) = true := by decide +kernel
set_option maxRecDepth 100000 in
theorem q_ok_32 : (q_chkM 32 && q_all 32 qc_32 qw_32) = true := by decide +kernel
set_option maxRecDepth 100000 in
theorem q_ok_33 : (q_chkM 33 && q_all 33 qc_33 qw_33) = true := by decide +kernel
set_option maxRecDepth 100000 in
theorem q_ok_34 : (q_chkM 34 && q_all 34 qc_34 qw_34) = true := by decide +kernel
set_option maxRecDepth 100000 in
theorem q_ok_35 : (q_chkM 35 && q_all 35 qc_35 qw_35) = true := by decide +kernel
set_option maxRecDepth 100000 in
theorem q_ok_36 : (q_chkM 36 && q_all 36 qc_36 qw_36) = true := by decide +kernel
set_option maxRecDepth 100000 in
theorem q_ok_37 : (q_chkM 37 && q_all 37 qc_37 qw_37) = true := by decide +kernel
set_option maxRecDepth 100000 in
theorem q_ok_38 : (q_chkM 38 && q_all 38 qc_38 qw_38) = true := by decide +kernel
set_option maxRecDepth 100000 in
theorem q_ok_39 : (q_chkM 39 && q_all 39 qc_39 qw_39) = true := by decide +kernel
set_option maxRecDepth 100000 in
theorem q_ok_40 : (q_chkM 40 && q_all 40 qc_40 qw_40) = true := by decide +kernel
set_option maxRecDepth 100000 in
theorem q_ok_41 : (q_chkM 41 && q_all 41 qc_41 qw_41) = true := by decide +kernel
set_option maxRecDepth 100000 in
theorem q_ok_42 : (q_chkM 42 && q_all 42 qc_42 qw_42) = true := by decide +kernel
set_option maxRecDepth 100000 in
theorem q_ok_43 : (q_chkM 43 && q_all 43 qc_43 qw_43) = true := by decide +kernel
set_option maxRecDepth 100000 in
theorem q_ok_44 : (q_chkM 44 && q_all 44 qc_44 qw_44) = true := by decide +kernel
set_option maxRecDepth 100000 in
theorem q_ok_45 : (q_chkM 45 && q_all 45 qc_45 qw_45) = true := by decide +kernel
set_option maxRecDepth 100000 in
theorem q_ok_46 : (q_chkM 46 && q_all 46 qc_46 qw_46) = true := by decide +kernel
set_option maxRecDepth 100000 in
theorem q_ok_47 : (q_chkM 47 && q_all 47 qc_47 qw_47) = true := by decide +kernel
set_option maxRecDepth 100000 in
theorem q_ok_48 : (q_chkM 48 && q_all 48 qc_48 qw_48) = true := by decide +kernel
set_option maxRecDepth 100000 in
theorem q_ok_49 : (q_chkM 49 && q_all 49 qc_49 qw_49) = true := by decide +kernel
end
section
/-! The words of the entries. -/
set_option maxRecDepth 100000 in
theorem q_ok_50 : (q_chkM 50 && q_all 50 qc_50 qw_50) = true := by decide +kernel
set_option maxRecDepth 100000 in
theorem q_ok_51 : (q_chkM 51 && q_all 51 qc_51 qw_51) = true := by decide +kernel
set_option maxRecDepth 100000 in
theorem q_ok_52 : (q_chkM 52 && q_all 52 qc_52 qw_52) = true := by decide +kernel
set_option maxRecDepth 100000 in
theorem q_ok_53 : (q_chkM 53 && q_all 53 qc_53 qw_53) = true := by decide +kernel
set_option maxRecDepth 100000 in
theorem q_ok_54 : (q_chkM 54 && q_all 54 qc_54 qw_54) = true := by decide +kernel
set_option maxRecDepth 100000 in
theorem q_ok_55 : (q_chkM 55 && q_all 55 qc_55 qw_55) = true := by decide +kernel
set_option maxRecDepth 100000 in
theorem q_ok_56 : (q_chkM 56 && q_all 56 qc_56 qw_56) = true := by decide +kernel
set_option maxRecDepth 100000 in
theorem q_ok_57 : (q_chkM 57 && q_all 57 qc_57 qw_57) = true := by decide +kernel
set_option maxRecDepth 100000 in
theorem q_ok_58 : (q_chkM 58 && q_all 58 qc_58 qw_58) = true := by decide +kernel
set_option maxRecDepth 100000 in
theorem q_ok_59 : (q_chkM 59 && q_all 59 qc_59 qw_59) = true := by decide +kernel
set_option maxRecDepth 100000 in
theorem q_ok_60 : (q_chkM 60 && q_all 60 qc_60 qw_60) = true := by decide +kernel
set_option maxRecDepth 100000 in
theorem q_ok_61 : (q_chkM 61 && q_all 61 qc_61 qw_61) = true := by decide +kernel
set_option maxRecDepth 100000 in
theorem q_ok_62 : (q_chkM 62 && q_all 62 qc_62 qw_62) = true := by decide +kernel
set_option maxRecDepth 100000 in
theorem q_ok_63 : (q_chkM 63 && q_all 63 qc_63 qw_63) = true := by decide +kernel
set_option maxRecDepth 100000 in
theorem q_ok_64 : (q_chkM 64 && q_all 64 qc_64 qw_64) = true := by decide +kernel
set_option maxRecDepth 100000 in
theorem q_ok_65 : (q_chkM 65 && q_all 65 qc_65 qw_65) = true := by decide +kernel
set_option maxRecDepth 100000 in
theorem q_ok_66 : (q_chkM 66 && q_all 66 qc_66 qw_66) = true := by decide +kernel
set_option maxRecDepth 100000 in
theorem q_ok_67 : (q_chkM 67 && q_all 67 qc_67 qw_67) = true := by decide +kernel
set_option maxRecDepth 100000 in
theorem q_ok_68 : (q_chkM 68 && q_all 68 qc_68 qw_68) = true := by decide +kernel
set_option maxRecDepth 100000 in
theorem q_ok_69 : (q_chkM 69 && q_all 69 qc_69 qw_69) = true := by decide +kernel
set_option maxRecDepth 100000 in
theorem q_ok_70 : (q_chkM 70 && q_all 70 qc_70 qw_70) = true := by decide +kernel
set_option maxRecDepth 100000 in
theorem q_ok_71 : (q_chkM 71 && q_all 71 qc_71 qw_71) = true := by decide +kernel
set_option maxRecDepth 100000 in
theorem q_ok_72 : (q_chkM 72 && q_all 72 qc_72 qw_72) = true := by decide +kernel
set_option maxRecDepth 100000 in
theorem q_ok_73 : (q_chkM 73 && q_all 73 qc_73 qw_73) = true := by decide +kernel
set_option maxRecDepth 100000 in
theorem q_ok_74 : (q_chkM 74 && q_all 74 qc_74 qw_74) = true := by decide +kernel
set_option maxRecDepth 100000 in
theorem q_ok_75 : (q_chkM 75 && q_all 75 qc_75 qw_75) = true := by decide +kernel
set_option maxRecDepth 100000 in
theorem q_ok_76 : (q_chkM 76 && q_all 76 qc_76 qw_76) = true := by decide +kernel
set_option maxRecDepth 100000 in
theorem q_ok_77 : (q_chkM 77 && q_all 77 qc_77 qw_77) = true := by decide +kernel
set_option maxRecDepth 100000 in
theorem q_ok_78 : (q_chkM 78 && q_all 78 qc_78 qw_78) = true := by decide +kernel
set_option maxRecDepth 100000 in
theorem q_ok_79 : (q_chkM 79 && q_all 79 qc_79 qw_79) = true := by decide +kernel
set_option maxRecDepth 100000 in
theorem q_ok_80 : (q_chkM 80 && q_all 80 qc_80 qw_80) = true := by decide +kernel
set_option maxRecDepth 100000 in
theorem q_ok_81 : (q_chkM 81 && q_all 81 qc_81 qw_81) = true := by decide +kernel
set_option maxRecDepth 100000 in
theorem q_ok_82 : (q_chkM 82 && q_all 82 qc_82 qw_82) = true := by decide +kernel
set_option maxRecDepth 100000 in
theorem q_ok_83 : (q_chkM 83 && q_all 83 qc_83 qw_83) = true := by decide +kernel
set_option maxRecDepth 100000 in
theorem q_ok_84 : (q_chkM 84 && q_all 84 qc_84 qw_84) = true := by decide +kernel
set_option maxRecDepth 100000 in
theorem q_ok_85 : (q_chkM 85 && q_all 85 qc_85 qw_85) = true := by decide +kernel
set_option maxRecDepth 100000 in
theorem q_ok_86 : (q_chkM 86 && q_all 86 qc_86 qw_86) = true := by decide +kernel
set_option maxRecDepth 100000 in
theorem q_ok_87 : (q_chkM 87 && q_all 87 qc_87 qw_87) = true := by decide +kernel
end
section
/-! The words of the entries. -/
set_option maxRecDepth 100000 in
theorem q_ok_88 : (q_chkM 88 && q_all 88 qc_88 qw_88) = true := by decide +kernel
set_option maxRecDepth 100000 in
theorem q_ok_89 : (q_chkM 89 && q_all 89 qc_89 qw_89) = true := by decide +kernel
set_option maxRecDepth 100000 in
theorem q_ok_90 : (q_chkM 90 && q_all 90 qc_90 qw_90) = true := by decide +kernel
set_option maxRecDepth 100000 in
theorem q_ok_91 : (q_chkM 91 && q_all 91 qc_91 qw_91) = true := by decide +kernel
set_option maxRecDepth 100000 in
theorem q_ok_92 : (q_chkM 92 && q_all 92 qc_92 qw_92) = true := by decide +kernel
set_option maxRecDepth 100000 in
theorem q_ok_93 : (q_chkM 93 && q_all 93 qc_93 qw_93) = true := by decide +kernel
set_option maxRecDepth 100000 in
theorem q_ok_94 : (q_chkM 94 && q_all 94 qc_94 qw_94) = true := by decide +kernel
set_option maxRecDepth 100000 in
theorem q_ok_95 : (q_chkM 95 && q_all 95 qc_95 qw_95) = true := by decide +kernel
set_option maxRecDepth 100000 in
theorem q_ok_96 : (q_chkM 96 && q_all 96 qc_96 qw_96) = true := by decide +kernel
set_option maxRecDepth 100000 in
theorem q_ok_97 : (q_chkM 97 && q_all 97 qc_97 qw_97) = true := by decide +kernel
set_option maxRecDepth 100000 in
theorem q_ok_98 : (q_chkM 98 && q_all 98 qc_98 qw_98) = true := by decide +kernel
set_option maxRecDepth 100000 in
theorem q_ok_99 : (q_chkM 99 && q_all 99 qc_99 qw_99) = true := by decide +kernel
set_option maxRecDepth 100000 in
theorem q_ok_100 : (q_chkM 100 && q_all 100 qc_100 qw_100) = true := by decide +kernel
set_option maxRecDepth 100000 in
theorem q_ok_101 : (q_chkM 101 && q_all 101 qc_101 qw_101) = true := by decide +kernel
set_option maxRecDepth 100000 in
theorem q_ok_102 : (q_chkM 102 && q_all 102 qc_102 qw_102) = true := by decide +kernel
set_option maxRecDepth 100000 in
theorem q_ok_103 : (q_chkM 103 && q_all 103 qc_103 qw_103) = true := by decide +kernel
set_option maxRecDepth 100000 in
theorem q_ok_104 : (q_chkM 104 && q_all 104 qc_104 qw_104) = true := by decide +kernel
set_option maxRecDepth 100000 in
theorem q_ok_105 : (q_chkM 105 && q_all 105 qc_105 qw_105) = true := by decide +kernel
set_option maxRecDepth 100000 in
theorem q_ok_106 : (q_chkM 106 && q_all 106 qc_106 qw_106) = true := by decide +kernel
set_option maxRecDepth 100000 in
theorem q_ok_107 : (q_chkM 107 && q_all 107 qc_107 qw_107) = true := by decide +kernel
set_option maxRecDepth 100000 in
theorem q_ok_108 : (q_chkM 108 && q_all 108 qc_108 qw_108) = true := by decide +kernel
set_option maxRecDepth 100000 in
theorem q_ok_109 : (q_chkM 109 && q_all 109 qc_109 qw_109) = true := by decide +kernel
set_option maxRecDepth 100000 in
theorem q_ok_110 : (q_chkM 110 && q_all 110 qc_110 qw_110) = true := by decide +kernel
set_option maxRecDepth 100000 in
theorem q_ok_111 : (q_chkM 111 && q_all 111 qc_111 qw_111) = true := by decide +kernel
set_option maxRecDepth 100000 in
theorem q_ok_112 : (q_chkM 112 && q_all 112 qc_112 qw_112) = true := by decide +kernel
set_option maxRecDepth 100000 in
theorem q_ok_113 : (q_chkM 113 && q_all 113 qc_113 qw_113) = true := by decide +kernel
set_option maxRecDepth 100000 in
theorem q_ok_114 : (q_chkM 114 && q_all 114 qc_114 qw_114) = true := by decide +kernel
set_option maxRecDepth 100000 in
theorem q_ok_115 : (q_chkM 115 && q_all 115 qc_115 qw_115) = true := by decide +kernel
set_option maxRecDepth 100000 in
theorem q_ok_116 : (q_chkM 116 && q_all 116 qc_116 qw_116) = true := by decide +kernel
set_option maxRecDepth 100000 in
theorem q_ok_117 : (q_chkM 117 && q_all 117 qc_117 qw_117) = true := by decide +kernel
set_option maxRecDepth 100000 in
theorem q_ok_118 : (q_chkM 118 && q_all 118 qc_118 qw_118) = true := by decide +kernel
set_option maxRecDepth 100000 in
theorem q_ok_119 : (q_chkM 119 && q_all 119 qc_119 qw_119) = true := by decide +kernel
set_option maxRecDepth 100000 in
theorem q_ok_120 : (q_chkM 120 && q_all 120 qc_120 qw_120) = true := by decide +kernel
set_option maxRecDepth 100000 in
theorem q_ok_121 : (q_chkM 121 && q_all 121 qc_121 qw_121) = true := by decide +kernel
end
section
/-! The words of the entries. -/
set_option maxRecDepth 100000 in
theorem q_ok_122 : (q_chkM 122 && q_all 122 qc_122 qw_122) = true := by decide +kernel
set_option maxRecDepth 100000 in
theorem q_ok_123 : (q_chkM 123 && q_all 123 qc_123 qw_123) = true := by decide +kernel
set_option maxRecDepth 100000 in
theorem q_ok_124 : (q_chkM 124 && q_all 124 qc_124 qw_124) = true := by decide +kernel
set_option maxRecDepth 100000 in
theorem q_ok_125 : (q_chkM 125 && q_all 125 qc_125 qw_125) = true := by decide +kernel
set_option maxRecDepth 100000 in
theorem q_ok_126 : (q_chkM 126 && q_all 126 qc_126 qw_126) = true := by decide +kernel
set_option maxRecDepth 100000 in
theorem q_ok_127 : (q_chkM 127 && q_all 127 qc_127 qw_127) = true := by decide +kernel
set_option maxRecDepth 100000 in
theorem q_ok_128 : (q_chkM 128 && q_all 128 qc_128 qw_128) = true := by decide +kernel
set_option maxRecDepth 100000 in
theorem q_ok_129 : (q_chkM 129 && q_all 129 qc_129 qw_129) = true := by decide +kernel
set_option maxRecDepth 100000 in
theorem q_ok_130 : (q_chkM 130 && q_all 130 qc_130 qw_130) = true := by decide +kernel
set_option maxRecDepth 100000 in
theorem q_ok_131 : (q_chkM 131 && q_all 131 qc_131 qw_131) = true := by decide +kernel
set_option maxRecDepth 100000 in
theorem q_ok_132 : (q_chkM 132 && q_all 132 qc_132 qw_132) = true := by decide +kernel
set_option maxRecDepth 100000 in
theorem q_ok_133 : (q_chkM 133 && q_all 133 qc_133 qw_133) = true := by decide +kernel
set_option maxRecDepth 100000 in
theorem q_ok_134 : (q_chkM 134 && q_all 134 qc_134 qw_134) = true := by decide +kernel
set_option maxRecDepth 100000 in
theorem q_ok_135 : (q_chkM 135 && q_all 135 qc_135 qw_135) = true := by decide +kernel
set_option maxRecDepth 100000 in
theorem q_ok_136 : (q_chkM 136 && q_all 136 qc_136 qw_136) = true := by decide +kernel
set_option maxRecDepth 100000 in
theorem q_ok_137 : (q_chkM 137 && q_all 137 qc_137 qw_137) = true := by decide +kernel
set_option maxRecDepth 100000 in
theorem q_ok_138 : (q_chkM 138 && q_all 138 qc_138 qw_138) = true := by decide +kernel
set_option maxRecDepth 100000 in
theorem q_ok_139 : (q_chkM 139 && q_all 139 qc_139 qw_139) = true := by decide +kernel
set_option maxRecDepth 100000 in
theorem q_ok_140 : (q_chkM 140 && q_all 140 qc_140 qw_140) = true := by decide +kernel
set_option maxRecDepth 100000 in
theorem q_ok_141 : (q_chkM 141 && q_all 141 qc_141 qw_141) = true := by decide +kernel
set_option maxRecDepth 100000 in
theorem q_ok_142 : (q_chkM 142 && q_all 142 qc_142 qw_142) = true := by decide +kernel
set_option maxRecDepth 100000 in
theorem q_ok_143 : (q_chkM 143 && q_all 143 qc_143 qw_143) = true := by decide +kernel
set_option maxRecDepth 100000 in
theorem q_ok_144 : (q_chkM 144 && q_all 144 qc_144 qw_144) = true := by decide +kernel
set_option maxRecDepth 100000 in
theorem q_ok_145 : (q_chkM 145 && q_all 145 qc_145 qw_145) = true := by decide +kernel
set_option maxRecDepth 100000 in
theorem q_ok_146 : (q_chkM 146 && q_all 146 qc_146 qw_146) = true := by decide +kernel
set_option maxRecDepth 100000 in
theorem q_ok_147 : (q_chkM 147 && q_all 147 qc_147 qw_147) = true := by decide +kernel
set_option maxRecDepth 100000 in
theorem q_ok_148 : (q_chkM 148 && q_all 148 qc_148 qw_148) = true := by decide +kernel
set_option maxRecDepth 100000 in
theorem q_ok_149 : (q_chkM 149 && q_all 149 qc_149 qw_149) = true := by decide +kernel
set_option maxRecDepth 100000 in
theorem q_ok_150 : (q_chkM 150 && q_all 150 qc_150 qw_150) = true := by decide +kernel
set_option maxRecDepth 100000 in
theorem q_ok_151 : (q_chkM 151 && q_all 151 qc_151 qw_151) = true := by decide +kernel
set_option maxRecDepth 100000 in
theorem q_ok_152 : (q_chkM 152 && q_all 152 qc_152 qw_152) = true := by decide +kernel
set_option maxRecDepth 100000 in
theorem q_ok_153 : (q_chkM 153 && q_all 153 qc_153 qw_153) = true := by decide +kernel
set_option maxRecDepth 100000 in
theorem q_ok_154 : (q_chkM 154 && q_all 154 qc_154 qw_154) = true := by decide +kernel
set_option maxRecDepth 100000 in
theorem q_ok_155 : (q_chkM 155 && q_all 155 qc_155 qw_155) = true := by decide +kernel
set_option maxRecDepth 100000 in
theorem q_ok_156 : (q_chkM 156 && q_all 156 qc_156 qw_156) = true := by decide +kernel
set_option maxRecDepth 100000 in
theorem q_ok_157 : (q_chkM 157 && q_all 157 qc_157 qw_157) = true := by decide +kernel
set_option maxRecDepth 100000 in
theorem q_ok_158 : (q_chkM 158 && q_all 158 qc_158 qw_158) = true := by decide +kernel
set_option maxRecDepth 100000 in
theorem q_ok_159 : (q_chkM 159 && q_all 159 qc_159 qw_159) = true := by decide +kernel
set_option maxRecDepth 100000 in
theorem q_ok_160 : (q_chkM 160 && q_all 160 qc_160 qw_160) = true := by decide +kernel
set_option maxRecDepth 100000 in
theorem q_ok_161 : (q_chkM 161 && q_all 161 qc_161 qw_161) = true := by decide +kernel
set_option maxRecDepth 100000 in
theorem q_ok_162 : (q_chkM 162 && q_all 162 qc_162 qw_162) = true := by decide +kernel
set_option maxRecDepth 100000 in
theorem q_ok_163 : (q_chkM 163 && q_all 163 qc_163 qw_163) = true := by decide +kernel
set_option maxRecDepth 100000 in
theorem q_ok_164 : (q_chkM 164 && q_all 164 qc_164 qw_164) = true := by decide +kernel
set_option maxRecDepth 100000 in
theorem q_ok_165 : (q_chkM 165 && q_all 165 qc_165 qw_165) = true := by decide +kernel
set_option maxRecDepth 100000 in
theorem q_ok_166 : (q_chkM 166 && q_all 166 qc_166 qw_166) = true := by decide +kernel
set_option maxRecDepth 100000 in
theorem q_ok_167 : (q_chkM 167 && q_all 167 qc_167 qw_167) = true := by decide +kernel
set_option maxRecDepth 100000 in
theorem q_ok_168 : (q_chkM 168 && q_all 168 qc_168 qw_168) = true := by decide +kernel
set_option maxRecDepth 100000 in
theorem q_ok_169 : (q_chkM 169 && q_all 169 qc_169 qw_169) = true := by decide +kernel
set_option maxRecDepth 100000 in
theorem q_ok_170 : (q_chkM 170 && q_all 170 qc_170 qw_170) = true := by decide +kernel
set_option maxRecDepth 100000 in
theorem q_ok_171 : (q_chkM 171 && q_all 171 qc_171 qw_171) = true := by decide +kernel
set_option maxRecDepth 100000 in
theorem q_ok_172 : (q_chkM 172 && q_all 172 qc_172 qw_172) = true := by decide +kernel
set_option maxRecDepth 100000 in
theorem q_ok_173 : (q_chkM 173 && q_all 173 qc_173 qw_173) = true := by decide +kernel
set_option maxRecDepth 100000 in
theorem q_ok_174 : (q_chkM 174 && q_all 174 qc_174 qw_174) = true := by decide +kernel
set_option maxRecDepth 100000 in
theorem q_ok_175 : (q_chkM 175 && q_all 175 qc_175 qw_175) = true := by decide +kernel
set_option maxRecDepth 100000 in
theorem q_ok_176 : (q_chkM 176 && q_all 176 qc_176 qw_176) = true := by decide +kernel
set_option maxRecDepth 100000 in
theorem q_ok_177 : (q_chkM 177 && q_all 177 qc_177 qw_177) = true := by decide +kernel
set_option maxRecDepth 100000 in
theorem q_ok_178 : (q_chkM 178 && q_all 178 qc_178 qw_178) = true := by decide +kernel
set_option maxRecDepth 100000 in
theorem q_ok_179 : (q_chkM 179 && q_all 179 qc_179 qw_179) = true := by decide +kernel
set_option maxRecDepth 100000 in
theorem q_ok_180 : (q_chkM 180 && q_all 180 qc_180 qw_180) = true := by decide +kernel
set_option maxRecDepth 100000 in
theorem q_ok_181 : (q_chkM 181 && q_all 181 qc_181 qw_181) = true := by decide +kernel
set_option maxRecDepth 100000 in
theorem q_ok_182 : (q_chkM 182 && q_all 182 qc_182 qw_182) = true := by decide +kernel
end
section
/-! The words of the entries. -/
set_option maxRecDepth 100000 in
theorem q_ok_183 : (q_chkM 183 && q_all 183 qc_183 qw_183) = true := by decide +kernel
set_option maxRecDepth 100000 in
theorem q_ok_184 : (q_chkM 184 && q_all 184 qc_184 qw_184) = true := by decide +kernel
set_option maxRecDepth 100000 in
theorem q_ok_185 : (q_chkM 185 && q_all 185 qc_185 qw_185) = true := by decide +kernel
set_option maxRecDepth 100000 in
theorem q_ok_186 : (q_chkM 186 && q_all 186 qc_186 qw_186) = true := by decide +kernel
set_option maxRecDepth 100000 in
theorem q_ok_187 : (q_chkM 187 && q_all 187 qc_187 qw_187) = true := by decide +kernel
set_option maxRecDepth 100000 in
theorem q_ok_188 : (q_chkM 188 && q_all 188 qc_188 qw_188) = true := by decide +kernel
set_option maxRecDepth 100000 in
theorem q_ok_189 : (q_chkM 189 && q_all 189 qc_189 qw_189) = true := by decide +kernel
set_option maxRecDepth 100000 in
theorem q_ok_190 : (q_chkM 190 && q_all 190 qc_190 qw_190) = true := by decide +kernel
set_option maxRecDepth 100000 in
theorem q_ok_191 : (q_chkM 191 && q_all 191 qc_191 qw_191) = true := by decide +kernel
set_option maxRecDepth 100000 in
theorem q_ok_192 : (q_chkM 192 && q_all 192 qc_192 qw_192) = true := by decide +kernel
set_option maxRecDepth 100000 in
theorem q_ok_193 : (q_chkM 193 && q_all 193 qc_193 qw_193) = true := by decide +kernel
set_option maxRecDepth 100000 in
theorem q_ok_194 : (q_chkM 194 && q_all 194 qc_194 qw_194) = true := by decide +kernel
set_option maxRecDepth 100000 in
theorem q_ok_195 : (q_chkM 195 && q_all 195 qc_195 qw_195) = true := by decide +kernel
set_option maxRecDepth 100000 in
theorem q_ok_196 : (q_chkM 196 && q_all 196 qc_196 qw_196) = true := by decide +kernel
set_option maxRecDepth 100000 in
theorem q_ok_197 : (q_chkM 197 && q_all 197 qc_197 qw_197) = true := by decide +kernel
set_option maxRecDepth 100000 in
theorem q_ok_198 : (q_chkM 198 && q_all 198 qc_198 qw_198) = true := by decide +kernel
set_option maxRecDepth 100000 in
theorem q_ok_199 : (q_chkM 199 && q_all 199 qc_199 qw_199) = true := by decide +kernel
set_option maxRecDepth 100000 in
theorem q_ok_200 : (q_chkM 200 && q_all 200 qc_200 qw_200) = true := by decide +kernel
set_option maxRecDepth 100000 in
theorem q_ok_201 : (q_chkM 201 && q_all 201 qc_201 qw_201) = true := by decide +kernel
set_option maxRecDepth 100000 in
theorem q_ok_202 : (q_chkM 202 && q_all 202 qc_202 qw_202) = true := by decide +kernel
set_option maxRecDepth 100000 in
theorem q_ok_203 : (q_chkM 203 && q_all 203 qc_203 qw_203) = true := by decide +kernel
set_option maxRecDepth 100000 in
theorem q_ok_204 : (q_chkM 204 && q_all 204 qc_204 qw_204) = true := by decide +kernel
set_option maxRecDepth 100000 in
theorem q_ok_205 : (q_chkM 205 && q_all 205 qc_205 qw_205) = true := by decide +kernel
set_option maxRecDepth 100000 in
theorem q_ok_206 : (q_chkM 206 && q_all 206 qc_206 qw_206) = true := by decide +kernel
set_option maxRecDepth 100000 in
theorem q_ok_207 : (q_chkM 207 && q_all 207 qc_207 qw_207) = true := by decide +kernel
set_option maxRecDepth 100000 in
theorem q_ok_208 : (q_chkM 208 && q_all 208 qc_208 qw_208) = true := by decide +kernel
set_option maxRecDepth 100000 in
theorem q_ok_209 : (q_chkM 209 && q_all 209 qc_209 qw_209) = true := by decide +kernel
set_option maxRecDepth 100000 in
theorem q_ok_210 : (q_chkM 210 && q_all 210 qc_210 qw_210) = true := by decide +kernel
set_option maxRecDepth 100000 in
theorem q_ok_211 : (q_chkM 211 && q_all 211 qc_211 qw_211) = true := by decide +kernel
set_option maxRecDepth 100000 in
theorem q_ok_212 : (q_chkM 212 && q_all 212 qc_212 qw_212) = true := by decide +kernel
set_option maxRecDepth 100000 in
theorem q_ok_213 : (q_chkM 213 && q_all 213 qc_213 qw_213) = true := by decide +kernel
set_option maxRecDepth 100000 in
theorem q_ok_214 : (q_chkM 214 && q_all 214 qc_214 qw_214) = true := by decide +kernel
set_option maxRecDepth 100000 in
theorem q_ok_215 : (q_chkM 215 && q_all 215 qc_215 qw_215) = true := by decide +kernel
set_option maxRecDepth 100000 in
theorem q_ok_216 : (q_chkM 216 && q_all 216 qc_216 qw_216) = true := by decide +kernel
set_option maxRecDepth 100000 in
theorem q_ok_217 : (q_chkM 217 && q_all 217 qc_217 qw_217) = true := by decide +kernel
set_option maxRecDepth 100000 in
theorem q_ok_218 : (q_chkM 218 && q_all 218 qc_218 qw_218) = true := by decide +kernel
set_option maxRecDepth 100000 in
theorem q_ok_219 : (q_chkM 219 && q_all 219 qc_219 qw_219) = true := by decide +kernel
set_option maxRecDepth 100000 in
theorem q_ok_220 : (q_chkM 220 && q_all 220 qc_220 qw_220) = true := by decide +kernel
set_option maxRecDepth 100000 in
theorem q_ok_221 : (q_chkM 221 && q_all 221 qc_221 qw_221) = true := by decide +kernel
set_option maxRecDepth 100000 in
theorem q_ok_222 : (q_chkM 222 && q_all 222 qc_222 qw_222) = true := by decide +kernel
set_option maxRecDepth 100000 in
theorem q_ok_223 : (q_chkM 223 && q_all 223 qc_223 qw_223) = true := by decide +kernel
set_option maxRecDepth 100000 in
theorem q_ok_224 : (q_chkM 224 && q_all 224 qc_224 qw_224) = true := by decide +kernel
set_option maxRecDepth 100000 in
theorem q_ok_225 : (q_chkM 225 && q_all 225 qc_225 qw_225) = true := by decide +kernel
set_option maxRecDepth 100000 in
theorem q_ok_226 : (q_chkM 226 && q_all 226 qc_226 qw_226) = true := by decide +kernel
set_option maxRecDepth 100000 in
theorem q_ok_227 : (q_chkM 227 && q_all 227 qc_227 qw_227) = true := by decide +kernel
set_option maxRecDepth 100000 in
theorem q_ok_228 : (q_chkM 228 && q_all 228 qc_228 qw_228) = true := by decide +kernel
set_option maxRecDepth 100000 in
theorem q_ok_229 : (q_chkM 229 && q_all 229 qc_229 qw_229) = true := by decide +kernel
set_option maxRecDepth 100000 in
theorem q_ok_230 : (q_chkM 230 && q_all 230 qc_230 qw_230) = true := by decide +kernel
set_option maxRecDepth 100000 in
theorem q_ok_231 : (q_chkM 231 && q_all 231 qc_231 qw_231) = true := by decide +kernel
set_option maxRecDepth 100000 in
theorem q_ok_232 : (q_chkM 232 && q_all 232 qc_232 qw_232) = true := by decide +kernel
set_option maxRecDepth 100000 in
theorem q_ok_233 : (q_chkM 233 && q_all 233 qc_233 qw_233) = true := by decide +kernel
set_option maxRecDepth 100000 in
theorem q_ok_234 : (q_chkM 234 && q_all 234 qc_234 qw_234) = true := by decide +kernel
set_option maxRecDepth 100000 in
theorem q_ok_235 : (q_chkM 235 && q_all 235 qc_235 qw_235) = true := by decide +kernel
set_option maxRecDepth 100000 in
theorem q_ok_236 : (q_chkM 236 && q_all 236 qc_236 qw_236) = true := by decide +kernel
set_option maxRecDepth 100000 in
theorem q_ok_237 : (q_chkM 237 && q_all 237 qc_237 qw_237) = true := by decide +kernel
set_option maxRecDepth 100000 in
theorem q_ok_238 : (q_chkM 238 && q_all 238 qc_238 qw_238) = true := by decide +kernel
set_option maxRecDepth 100000 in
theorem q_ok_239 : (q_chkM 239 && q_all 239 qc_239 qw_239) = true := by decide +kernel
set_option maxRecDepth 100000 in
theorem q_ok_240 : (q_chkM 240 && q_all 240 qc_240 qw_240) = true := by decide +kernel
set_option maxRecDepth 100000 in
theorem q_ok_241 : (q_chkM 241 && q_all 241 qc_241 qw_241) = true := by decide +kernel
set_option maxRecDepth 100000 in
theorem q_ok_242 : (q_chkM 242 && q_all 242 qc_242 qw_242) = true := by decide +kernel
set_option maxRecDepth 100000 in
theorem q_ok_243 : (q_chkM 243 && q_all 243 qc_243 qw_243) = true := by decide +kernel
set_option maxRecDepth 100000 in
theorem q_ok_244 : (q_chkM 244 && q_all 244 qc_244 qw_244) = true := by decide +kernel
set_option maxRecDepth 100000 in
theorem q_ok_245 : (q_chkM 245 && q_all 245 qc_245 qw_245) = true := by decide +kernel
set_option maxRecDepth 100000 in
theorem q_ok_246 : (q_chkM 246 && q_all 246 qc_246 qw_246) = true := by decide +kernel
set_option maxRecDepth 100000 in
theorem q_ok_247 : (q_chkM 247 && q_all 247 qc_247 qw_247) = true := by decide +kernel
end
section
/-! The words of the entries. -/
set_option maxRecDepth 100000 in
theorem q_ok_248 : (q_chkM 248 && q_all 248 qc_248 qw_248) = true := by decide +kernel
set_option maxRecDepth 100000 in
theorem q_ok_249 : (q_chkM 249 && q_all 249 qc_249 qw_249) = true := by decide +kernel
set_option maxRecDepth 100000 in
theorem q_ok_250 : (q_chkM 250 && q_all 250 qc_250 qw_250) = true := by decide +kernel
set_option maxRecDepth 100000 in
theorem q_ok_251 : (q_chkM 251 && q_all 251 qc_251 qw_251) = true := by decide +kernel
set_option maxRecDepth 100000 in
theorem q_ok_252 : (q_chkM 252 && q_all 252 qc_252 qw_252) = true := by decide +kernel
set_option maxRecDepth 100000 in
theorem q_ok_253 : (q_chkM 253 && q_all 253 qc_253 qw_253) = true := by decide +kernel
set_option maxRecDepth 100000 in
theorem q_ok_254 : (q_chkM 254 && q_all 254 qc_254 qw_254) = true := by decide +kernel
set_option maxRecDepth 100000 in
theorem q_ok_255 : (q_chkM 255 && q_all 255 qc_255 qw_255) = true := by decide +kernel
set_option maxRecDepth 100000 in
theorem q_ok_256 : (q_chkM 256 && q_all 256 qc_256 qw_256) = true := by decide +kernel
set_option maxRecDepth 100000 in
theorem q_ok_257 : (q_chkM 257 && q_all 257 qc_257 qw_257) = true := by decide +kernel
set_option maxRecDepth 100000 in
theorem q_ok_258 : (q_chkM 258 && q_all 258 qc_258 qw_258) = true := by decide +kernel
set_option maxRecDepth 100000 in
theorem q_ok_259 : (q_chkM 259 && q_all 259 qc_259 qw_259) = true := by decide +kernel
set_option maxRecDepth 100000 in
theorem q_ok_260 : (q_chkM 260 && q_all 260 qc_260 qw_260) = true := by decide +kernel
end
section
/-! All entries of all methods, by the method and the place. -/
def q_GG (M : Nat) (l : List (Nat × qI)) : Prop := q_chkM M = true ∧ ∀ e ∈ l, ∃ ws, decode (q_b M) e.1 = .ok (e.2.2.1, e.2.1) ∧ q_chk2 M e.1 e.2.1 e.2.2.1 e.2.2.2.1 e.2.2.2.2 ws = true
theorem q_all_mem {M : Nat} : ∀ (l : List (Nat × qI)) (ws : List (List Nat)), q_all M l ws = true → ∀ e ∈ l, ∃ w, q_chk M e w = true
  | [], _, _, e, he => (by cases he)
  | e :: es, [], h, _, _ => (by cases h)
  | e :: es, w :: ws, h, x, hx => by
    have h' : (q_chk M e w && q_all M es ws) = true := h
    rw [Bool.and_eq_true] at h'
    rcases List.mem_cons.mp hx with rfl | hx
    · exact ⟨w, h'.1⟩
    · exact q_all_mem es ws h'.2 x hx
theorem q_gg {M : Nat} {b : ByteArray} {l : List (Nat × qI)} {ws : List (List Nat)} (hb : q_b M = b) (h1 : (q_chkM M && q_all M l ws) = true) (h2 : q_dec b (l.drop 0) = true) : q_GG M l := by
  rw [Bool.and_eq_true] at h1
  refine ⟨h1.1, fun e he => ?_⟩
  obtain ⟨w, hw⟩ := q_all_mem l ws h1.2 e he
  refine ⟨w, ?_, hw⟩
  have h3 := List.all_eq_true.mp h2 e (by simpa using he)
  rw [hb]
  exact of_decide_eq_true h3
theorem q_d1 {b : ByteArray} {l : List (Nat × qI)} {k : Nat} (h : q_dec b ((l.drop k).take 100) = true) (hl : (l.drop k).length ≤ 100) : q_dec b (l.drop k) = true := by
  rw [List.take_of_length_le hl] at h
  exact h
theorem q_d2 {b : ByteArray} {l : List (Nat × qI)} {k : Nat} (h : q_dec b ((l.drop k).take 100) = true) (h2 : q_dec b (l.drop (k + 100)) = true) : q_dec b (l.drop k) = true := by
  have e : l.drop k = (l.drop k).take 100 ++ l.drop (k + 100) := by
    rw [← List.drop_drop, List.take_append_drop]
  rw [e]
  unfold q_dec at h h2 ⊢
  rw [List.all_append, h, h2]
  rfl
def q_GL : Nat → List (List (Nat × qI)) → Prop
  | _, [] => True
  | M, l :: r => q_GG M l ∧ q_GL (M + 1) r
theorem q_GL_get : ∀ (L : List (List (Nat × qI))) (k : Nat), q_GL k L → ∀ (M : Nat) (l : List (Nat × qI)), L[M]? = some l → q_GG (k + M) l
  | [], _, _, _, _, h => (by simp at h)
  | x :: r, k, H, 0, l, h => (by
    simp at h
    subst h
    exact H.1)
  | x :: r, k, H, M + 1, l, h => (by
    have := q_GL_get r (k + 1) H.2 M l (by simpa using h)
    rw [show k + (M + 1) = k + 1 + M by omega]
    exact this)
theorem q_g_0 : q_GG 0 qc_0 := q_gg (b := code) rfl q_ok_0 (q_d2 q_dc_0_0 (q_d2 q_dc_0_1 (q_d2 q_dc_0_2 (q_d2 q_dc_0_3 (q_d2 q_dc_0_4 (q_d1 q_dc_0_5 (by decide +kernel)))))))
theorem q_g_1 : q_GG 1 qc_1 := q_gg (b := method_3_code) rfl q_ok_1 (q_d1 q_dc_1_0 (by decide +kernel))
theorem q_g_2 : q_GG 2 qc_2 := q_gg (b := method_4_code) rfl q_ok_2 (q_d1 q_dc_2_0 (by decide +kernel))
theorem q_g_3 : q_GG 3 qc_3 := q_gg (b := method_5_code) rfl q_ok_3 (q_d1 q_dc_3_0 (by decide +kernel))
theorem q_g_4 : q_GG 4 qc_4 := q_gg (b := method_6_code) rfl q_ok_4 (q_d1 q_dc_4_0 (by decide +kernel))
theorem q_g_5 : q_GG 5 qc_5 := q_gg (b := method_7_code) rfl q_ok_5 (q_d1 q_dc_5_0 (by decide +kernel))
theorem q_g_6 : q_GG 6 qc_6 := q_gg (b := method_8_code) rfl q_ok_6 (q_d1 q_dc_6_0 (by decide +kernel))
theorem q_g_7 : q_GG 7 qc_7 := q_gg (b := method_9_code) rfl q_ok_7 (q_d1 q_dc_7_0 (by decide +kernel))
theorem q_g_8 : q_GG 8 qc_8 := q_gg (b := method_10_code) rfl q_ok_8 (q_d1 q_dc_8_0 (by decide +kernel))
theorem q_g_9 : q_GG 9 qc_9 := q_gg (b := method_11_code) rfl q_ok_9 (q_d1 q_dc_9_0 (by decide +kernel))
theorem q_g_10 : q_GG 10 qc_10 := q_gg (b := method_12_code) rfl q_ok_10 (q_d1 q_dc_10_0 (by decide +kernel))
theorem q_g_11 : q_GG 11 qc_11 := q_gg (b := method_13_code) rfl q_ok_11 (q_d1 q_dc_11_0 (by decide +kernel))
theorem q_g_12 : q_GG 12 qc_12 := q_gg (b := method_14_code) rfl q_ok_12 (q_d1 q_dc_12_0 (by decide +kernel))
theorem q_g_13 : q_GG 13 qc_13 := q_gg (b := prog_1_method_1_code) rfl q_ok_13 (q_d1 q_dc_13_0 (by decide +kernel))
theorem q_g_14 : q_GG 14 qc_14 := q_gg (b := prog_1_method_2_code) rfl q_ok_14 (q_d1 q_dc_14_0 (by decide +kernel))
theorem q_g_15 : q_GG 15 qc_15 := q_gg (b := prog_1_method_3_code) rfl q_ok_15 (q_d1 q_dc_15_0 (by decide +kernel))
theorem q_g_16 : q_GG 16 qc_16 := q_gg (b := prog_1_method_4_code) rfl q_ok_16 (q_d1 q_dc_16_0 (by decide +kernel))
theorem q_g_17 : q_GG 17 qc_17 := q_gg (b := prog_1_method_5_code) rfl q_ok_17 (q_d1 q_dc_17_0 (by decide +kernel))
theorem q_g_18 : q_GG 18 qc_18 := q_gg (b := prog_1_method_6_code) rfl q_ok_18 (q_d1 q_dc_18_0 (by decide +kernel))
theorem q_g_19 : q_GG 19 qc_19 := q_gg (b := prog_1_method_7_code) rfl q_ok_19 (q_d1 q_dc_19_0 (by decide +kernel))
theorem q_g_20 : q_GG 20 qc_20 := q_gg (b := prog_1_method_8_code) rfl q_ok_20 (q_d1 q_dc_20_0 (by decide +kernel))
theorem q_g_21 : q_GG 21 qc_21 := q_gg (b := prog_1_method_9_code) rfl q_ok_21 (q_d1 q_dc_21_0 (by decide +kernel))
theorem q_g_22 : q_GG 22 qc_22 := q_gg (b := prog_1_method_10_code) rfl q_ok_22 (q_d1 q_dc_22_0 (by decide +kernel))
theorem q_g_23 : q_GG 23 qc_23 := q_gg (b := prog_1_method_11_code) rfl q_ok_23 (q_d1 q_dc_23_0 (by decide +kernel))
theorem q_g_24 : q_GG 24 qc_24 := q_gg (b := prog_1_method_12_code) rfl q_ok_24 (q_d1 q_dc_24_0 (by decide +kernel))
theorem q_g_25 : q_GG 25 qc_25 := q_gg (b := prog_1_method_13_code) rfl q_ok_25 (q_d1 q_dc_25_0 (by decide +kernel))
theorem q_g_26 : q_GG 26 qc_26 := q_gg (b := prog_1_method_14_code) rfl q_ok_26 (q_d1 q_dc_26_0 (by decide +kernel))
theorem q_g_27 : q_GG 27 qc_27 := q_gg (b := prog_1_method_15_code) rfl q_ok_27 (q_d1 q_dc_27_0 (by decide +kernel))
theorem q_g_28 : q_GG 28 qc_28 := q_gg (b := prog_1_method_16_code) rfl q_ok_28 (q_d1 q_dc_28_0 (by decide +kernel))
theorem q_g_29 : q_GG 29 qc_29 := q_gg (b := prog_1_method_17_code) rfl q_ok_29 (q_d1 q_dc_29_0 (by decide +kernel))
theorem q_g_30 : q_GG 30 qc_30 := q_gg (b := prog_1_method_18_code) rfl q_ok_30 (q_d1 q_dc_30_0 (by decide +kernel))
theorem q_g_31 : q_GG 31 qc_31 := q_gg (b := prog_1_method_19_code) rfl q_ok_31 (q_d1 q_dc_31_0 (by decide +kernel))
theorem q_g_32 : q_GG 32 qc_32 := q_gg (b := prog_1_method_20_code) rfl q_ok_32 (q_d1 q_dc_32_0 (by decide +kernel))
theorem q_g_33 : q_GG 33 qc_33 := q_gg (b := prog_1_method_21_code) rfl q_ok_33 (q_d1 q_dc_33_0 (by decide +kernel))
theorem q_g_34 : q_GG 34 qc_34 := q_gg (b := prog_1_method_22_code) rfl q_ok_34 (q_d1 q_dc_34_0 (by decide +kernel))
theorem q_g_35 : q_GG 35 qc_35 := q_gg (b := prog_1_method_23_code) rfl q_ok_35 (q_d1 q_dc_35_0 (by decide +kernel))
theorem q_g_36 : q_GG 36 qc_36 := q_gg (b := prog_1_method_24_code) rfl q_ok_36 (q_d1 q_dc_36_0 (by decide +kernel))
theorem q_g_37 : q_GG 37 qc_37 := q_gg (b := prog_1_method_25_code) rfl q_ok_37 (q_d1 q_dc_37_0 (by decide +kernel))
theorem q_g_38 : q_GG 38 qc_38 := q_gg (b := prog_1_method_26_code) rfl q_ok_38 (q_d1 q_dc_38_0 (by decide +kernel))
theorem q_g_39 : q_GG 39 qc_39 := q_gg (b := prog_1_method_27_code) rfl q_ok_39 (q_d1 q_dc_39_0 (by decide +kernel))
theorem q_g_40 : q_GG 40 qc_40 := q_gg (b := prog_1_method_28_code) rfl q_ok_40 (q_d1 q_dc_40_0 (by decide +kernel))
theorem q_g_41 : q_GG 41 qc_41 := q_gg (b := prog_1_method_29_code) rfl q_ok_41 (q_d1 q_dc_41_0 (by decide +kernel))
theorem q_g_42 : q_GG 42 qc_42 := q_gg (b := prog_1_method_30_code) rfl q_ok_42 (q_d1 q_dc_42_0 (by decide +kernel))
theorem q_g_43 : q_GG 43 qc_43 := q_gg (b := prog_1_method_31_code) rfl q_ok_43 (q_d1 q_dc_43_0 (by decide +kernel))
theorem q_g_44 : q_GG 44 qc_44 := q_gg (b := prog_14_method_1_code) rfl q_ok_44 (q_d2 q_dc_44_0 (q_d1 q_dc_44_1 (by decide +kernel)))
theorem q_g_45 : q_GG 45 qc_45 := q_gg (b := prog_14_method_2_code) rfl q_ok_45 (q_d1 q_dc_45_0 (by decide +kernel))
theorem q_g_46 : q_GG 46 qc_46 := q_gg (b := prog_14_method_3_code) rfl q_ok_46 (q_d1 q_dc_46_0 (by decide +kernel))
theorem q_g_47 : q_GG 47 qc_47 := q_gg (b := prog_14_method_4_code) rfl q_ok_47 (q_d1 q_dc_47_0 (by decide +kernel))
theorem q_g_48 : q_GG 48 qc_48 := q_gg (b := prog_14_method_5_code) rfl q_ok_48 (q_d1 q_dc_48_0 (by decide +kernel))
theorem q_g_49 : q_GG 49 qc_49 := q_gg (b := prog_14_method_6_code) rfl q_ok_49 (q_d1 q_dc_49_0 (by decide +kernel))
theorem q_g_50 : q_GG 50 qc_50 := q_gg (b := prog_14_method_7_code) rfl q_ok_50 (q_d1 q_dc_50_0 (by decide +kernel))
theorem q_g_51 : q_GG 51 qc_51 := q_gg (b := prog_14_method_8_code) rfl q_ok_51 (q_d1 q_dc_51_0 (by decide +kernel))
theorem q_g_52 : q_GG 52 qc_52 := q_gg (b := prog_14_method_9_code) rfl q_ok_52 (q_d1 q_dc_52_0 (by decide +kernel))
theorem q_g_53 : q_GG 53 qc_53 := q_gg (b := prog_14_method_10_code) rfl q_ok_53 (q_d1 q_dc_53_0 (by decide +kernel))
theorem q_g_54 : q_GG 54 qc_54 := q_gg (b := prog_14_method_11_code) rfl q_ok_54 (q_d1 q_dc_54_0 (by decide +kernel))
theorem q_g_55 : q_GG 55 qc_55 := q_gg (b := prog_14_method_12_code) rfl q_ok_55 (q_d1 q_dc_55_0 (by decide +kernel))
theorem q_g_56 : q_GG 56 qc_56 := q_gg (b := prog_14_method_14_code) rfl q_ok_56 (q_d1 q_dc_56_0 (by decide +kernel))
theorem q_g_57 : q_GG 57 qc_57 := q_gg (b := prog_14_method_15_code) rfl q_ok_57 (q_d1 q_dc_57_0 (by decide +kernel))
theorem q_g_58 : q_GG 58 qc_58 := q_gg (b := prog_14_method_16_code) rfl q_ok_58 (q_d1 q_dc_58_0 (by decide +kernel))
theorem q_g_59 : q_GG 59 qc_59 := q_gg (b := prog_14_method_17_code) rfl q_ok_59 (q_d1 q_dc_59_0 (by decide +kernel))
theorem q_g_60 : q_GG 60 qc_60 := q_gg (b := prog_14_method_18_code) rfl q_ok_60 (q_d2 q_dc_60_0 (q_d1 q_dc_60_1 (by decide +kernel)))
theorem q_g_61 : q_GG 61 qc_61 := q_gg (b := prog_14_method_19_code) rfl q_ok_61 (q_d1 q_dc_61_0 (by decide +kernel))
theorem q_g_62 : q_GG 62 qc_62 := q_gg (b := prog_14_method_20_code) rfl q_ok_62 (q_d2 q_dc_62_0 (q_d1 q_dc_62_1 (by decide +kernel)))
theorem q_g_63 : q_GG 63 qc_63 := q_gg (b := prog_14_method_21_code) rfl q_ok_63 (q_d1 q_dc_63_0 (by decide +kernel))
theorem q_g_64 : q_GG 64 qc_64 := q_gg (b := prog_14_method_22_code) rfl q_ok_64 (q_d2 q_dc_64_0 (q_d1 q_dc_64_1 (by decide +kernel)))
theorem q_g_65 : q_GG 65 qc_65 := q_gg (b := prog_14_method_23_code) rfl q_ok_65 (q_d1 q_dc_65_0 (by decide +kernel))
theorem q_g_66 : q_GG 66 qc_66 := q_gg (b := prog_14_method_24_code) rfl q_ok_66 (q_d1 q_dc_66_0 (by decide +kernel))
theorem q_g_67 : q_GG 67 qc_67 := q_gg (b := prog_14_method_25_code) rfl q_ok_67 (q_d1 q_dc_67_0 (by decide +kernel))
theorem q_g_68 : q_GG 68 qc_68 := q_gg (b := prog_14_method_26_code) rfl q_ok_68 (q_d1 q_dc_68_0 (by decide +kernel))
theorem q_g_69 : q_GG 69 qc_69 := q_gg (b := prog_14_method_27_code) rfl q_ok_69 (q_d2 q_dc_69_0 (q_d1 q_dc_69_1 (by decide +kernel)))
theorem q_g_70 : q_GG 70 qc_70 := q_gg (b := prog_14_method_28_code) rfl q_ok_70 (q_d1 q_dc_70_0 (by decide +kernel))
theorem q_g_71 : q_GG 71 qc_71 := q_gg (b := prog_14_method_29_code) rfl q_ok_71 (q_d1 q_dc_71_0 (by decide +kernel))
theorem q_g_72 : q_GG 72 qc_72 := q_gg (b := prog_14_method_30_code) rfl q_ok_72 (q_d1 q_dc_72_0 (by decide +kernel))
theorem q_g_73 : q_GG 73 qc_73 := q_gg (b := prog_14_method_31_code) rfl q_ok_73 (q_d1 q_dc_73_0 (by decide +kernel))
theorem q_g_74 : q_GG 74 qc_74 := q_gg (b := prog_14_method_32_code) rfl q_ok_74 (q_d2 q_dc_74_0 (q_d2 q_dc_74_1 (q_d1 q_dc_74_2 (by decide +kernel))))
theorem q_g_75 : q_GG 75 qc_75 := q_gg (b := prog_14_method_33_code) rfl q_ok_75 (q_d1 q_dc_75_0 (by decide +kernel))
theorem q_g_76 : q_GG 76 qc_76 := q_gg (b := prog_14_method_34_code) rfl q_ok_76 (q_d1 q_dc_76_0 (by decide +kernel))
theorem q_g_77 : q_GG 77 qc_77 := q_gg (b := prog_14_method_35_code) rfl q_ok_77 (q_d1 q_dc_77_0 (by decide +kernel))
theorem q_g_78 : q_GG 78 qc_78 := q_gg (b := prog_14_method_36_code) rfl q_ok_78 (q_d1 q_dc_78_0 (by decide +kernel))
theorem q_g_79 : q_GG 79 qc_79 := q_gg (b := prog_14_method_37_code) rfl q_ok_79 (q_d1 q_dc_79_0 (by decide +kernel))
theorem q_g_80 : q_GG 80 qc_80 := q_gg (b := prog_14_method_38_code) rfl q_ok_80 (q_d1 q_dc_80_0 (by decide +kernel))
theorem q_g_81 : q_GG 81 qc_81 := q_gg (b := prog_14_method_39_code) rfl q_ok_81 (q_d1 q_dc_81_0 (by decide +kernel))
theorem q_g_82 : q_GG 82 qc_82 := q_gg (b := prog_14_method_40_code) rfl q_ok_82 (q_d1 q_dc_82_0 (by decide +kernel))
theorem q_g_83 : q_GG 83 qc_83 := q_gg (b := prog_14_method_41_code) rfl q_ok_83 (q_d1 q_dc_83_0 (by decide +kernel))
theorem q_g_84 : q_GG 84 qc_84 := q_gg (b := prog_14_method_42_code) rfl q_ok_84 (q_d1 q_dc_84_0 (by decide +kernel))
theorem q_g_85 : q_GG 85 qc_85 := q_gg (b := prog_14_method_43_code) rfl q_ok_85 (q_d1 q_dc_85_0 (by decide +kernel))
theorem q_g_86 : q_GG 86 qc_86 := q_gg (b := prog_14_method_44_code) rfl q_ok_86 (q_d1 q_dc_86_0 (by decide +kernel))
theorem q_g_87 : q_GG 87 qc_87 := q_gg (b := prog_14_method_45_code) rfl q_ok_87 (q_d1 q_dc_87_0 (by decide +kernel))
theorem q_g_88 : q_GG 88 qc_88 := q_gg (b := prog_14_method_46_code) rfl q_ok_88 (q_d2 q_dc_88_0 (q_d1 q_dc_88_1 (by decide +kernel)))
theorem q_g_89 : q_GG 89 qc_89 := q_gg (b := prog_14_method_47_code) rfl q_ok_89 (q_d1 q_dc_89_0 (by decide +kernel))
theorem q_g_90 : q_GG 90 qc_90 := q_gg (b := prog_14_method_48_code) rfl q_ok_90 (q_d1 q_dc_90_0 (by decide +kernel))
theorem q_g_91 : q_GG 91 qc_91 := q_gg (b := prog_14_method_49_code) rfl q_ok_91 (q_d2 q_dc_91_0 (q_d1 q_dc_91_1 (by decide +kernel)))
theorem q_g_92 : q_GG 92 qc_92 := q_gg (b := prog_14_method_50_code) rfl q_ok_92 (q_d1 q_dc_92_0 (by decide +kernel))
theorem q_g_93 : q_GG 93 qc_93 := q_gg (b := prog_14_method_51_code) rfl q_ok_93 (q_d1 q_dc_93_0 (by decide +kernel))
theorem q_g_94 : q_GG 94 qc_94 := q_gg (b := prog_14_method_52_code) rfl q_ok_94 (q_d1 q_dc_94_0 (by decide +kernel))
theorem q_g_95 : q_GG 95 qc_95 := q_gg (b := prog_14_method_53_code) rfl q_ok_95 (q_d1 q_dc_95_0 (by decide +kernel))
theorem q_g_96 : q_GG 96 qc_96 := q_gg (b := prog_14_method_54_code) rfl q_ok_96 (q_d1 q_dc_96_0 (by decide +kernel))
theorem q_g_97 : q_GG 97 qc_97 := q_gg (b := prog_14_method_55_code) rfl q_ok_97 (q_d1 q_dc_97_0 (by decide +kernel))
theorem q_g_98 : q_GG 98 qc_98 := q_gg (b := prog_14_method_56_code) rfl q_ok_98 (q_d2 q_dc_98_0 (q_d1 q_dc_98_1 (by decide +kernel)))
theorem q_g_99 : q_GG 99 qc_99 := q_gg (b := prog_14_method_57_code) rfl q_ok_99 (q_d1 q_dc_99_0 (by decide +kernel))
theorem q_g_100 : q_GG 100 qc_100 := q_gg (b := prog_14_method_58_code) rfl q_ok_100 (q_d1 q_dc_100_0 (by decide +kernel))
theorem q_g_101 : q_GG 101 qc_101 := q_gg (b := prog_14_method_59_code) rfl q_ok_101 (q_d1 q_dc_101_0 (by decide +kernel))
theorem q_g_102 : q_GG 102 qc_102 := q_gg (b := prog_14_method_60_code) rfl q_ok_102 (q_d1 q_dc_102_0 (by decide +kernel))
theorem q_g_103 : q_GG 103 qc_103 := q_gg (b := prog_14_method_61_code) rfl q_ok_103 (q_d1 q_dc_103_0 (by decide +kernel))
theorem q_g_104 : q_GG 104 qc_104 := q_gg (b := prog_14_method_62_code) rfl q_ok_104 (q_d1 q_dc_104_0 (by decide +kernel))
theorem q_g_105 : q_GG 105 qc_105 := q_gg (b := prog_14_method_63_code) rfl q_ok_105 (q_d1 q_dc_105_0 (by decide +kernel))
theorem q_g_106 : q_GG 106 qc_106 := q_gg (b := prog_14_method_64_code) rfl q_ok_106 (q_d1 q_dc_106_0 (by decide +kernel))
theorem q_g_107 : q_GG 107 qc_107 := q_gg (b := prog_14_method_65_code) rfl q_ok_107 (q_d1 q_dc_107_0 (by decide +kernel))
theorem q_g_108 : q_GG 108 qc_108 := q_gg (b := prog_14_method_66_code) rfl q_ok_108 (q_d1 q_dc_108_0 (by decide +kernel))
theorem q_g_109 : q_GG 109 qc_109 := q_gg (b := prog_14_method_67_code) rfl q_ok_109 (q_d1 q_dc_109_0 (by decide +kernel))
theorem q_g_110 : q_GG 110 qc_110 := q_gg (b := prog_14_method_68_code) rfl q_ok_110 (q_d2 q_dc_110_0 (q_d1 q_dc_110_1 (by decide +kernel)))
theorem q_g_111 : q_GG 111 qc_111 := q_gg (b := prog_14_method_69_code) rfl q_ok_111 (q_d1 q_dc_111_0 (by decide +kernel))
theorem q_g_112 : q_GG 112 qc_112 := q_gg (b := prog_14_method_70_code) rfl q_ok_112 (q_d1 q_dc_112_0 (by decide +kernel))
theorem q_g_113 : q_GG 113 qc_113 := q_gg (b := prog_14_method_71_code) rfl q_ok_113 (q_d1 q_dc_113_0 (by decide +kernel))
theorem q_g_114 : q_GG 114 qc_114 := q_gg (b := prog_14_method_72_code) rfl q_ok_114 (q_d1 q_dc_114_0 (by decide +kernel))
theorem q_g_115 : q_GG 115 qc_115 := q_gg (b := prog_14_method_73_code) rfl q_ok_115 (q_d1 q_dc_115_0 (by decide +kernel))
theorem q_g_116 : q_GG 116 qc_116 := q_gg (b := prog_14_method_74_code) rfl q_ok_116 (q_d1 q_dc_116_0 (by decide +kernel))
theorem q_g_117 : q_GG 117 qc_117 := q_gg (b := prog_14_method_75_code) rfl q_ok_117 (q_d1 q_dc_117_0 (by decide +kernel))
theorem q_g_118 : q_GG 118 qc_118 := q_gg (b := prog_14_method_76_code) rfl q_ok_118 (q_d1 q_dc_118_0 (by decide +kernel))
theorem q_g_119 : q_GG 119 qc_119 := q_gg (b := prog_14_method_77_code) rfl q_ok_119 (q_d1 q_dc_119_0 (by decide +kernel))
theorem q_g_120 : q_GG 120 qc_120 := q_gg (b := prog_14_method_78_code) rfl q_ok_120 (q_d1 q_dc_120_0 (by decide +kernel))
theorem q_g_121 : q_GG 121 qc_121 := q_gg (b := prog_14_method_79_code) rfl q_ok_121 (q_d1 q_dc_121_0 (by decide +kernel))
theorem q_g_122 : q_GG 122 qc_122 := q_gg (b := prog_14_method_80_code) rfl q_ok_122 (q_d2 q_dc_122_0 (q_d1 q_dc_122_1 (by decide +kernel)))
theorem q_g_123 : q_GG 123 qc_123 := q_gg (b := prog_14_method_81_code) rfl q_ok_123 (q_d1 q_dc_123_0 (by decide +kernel))
theorem q_g_124 : q_GG 124 qc_124 := q_gg (b := prog_14_method_82_code) rfl q_ok_124 (q_d1 q_dc_124_0 (by decide +kernel))
theorem q_g_125 : q_GG 125 qc_125 := q_gg (b := prog_14_method_83_code) rfl q_ok_125 (q_d1 q_dc_125_0 (by decide +kernel))
theorem q_g_126 : q_GG 126 qc_126 := q_gg (b := prog_14_method_84_code) rfl q_ok_126 (q_d2 q_dc_126_0 (q_d2 q_dc_126_1 (q_d1 q_dc_126_2 (by decide +kernel))))
theorem q_g_127 : q_GG 127 qc_127 := q_gg (b := prog_2_method_1_code) rfl q_ok_127 (q_d1 q_dc_127_0 (by decide +kernel))
theorem q_g_128 : q_GG 128 qc_128 := q_gg (b := prog_2_method_2_code) rfl q_ok_128 (q_d1 q_dc_128_0 (by decide +kernel))
theorem q_g_129 : q_GG 129 qc_129 := q_gg (b := prog_2_method_3_code) rfl q_ok_129 (q_d1 q_dc_129_0 (by decide +kernel))
theorem q_g_130 : q_GG 130 qc_130 := q_gg (b := prog_2_method_4_code) rfl q_ok_130 (q_d1 q_dc_130_0 (by decide +kernel))
theorem q_g_131 : q_GG 131 qc_131 := q_gg (b := prog_2_method_5_code) rfl q_ok_131 (q_d1 q_dc_131_0 (by decide +kernel))
theorem q_g_132 : q_GG 132 qc_132 := q_gg (b := prog_2_method_6_code) rfl q_ok_132 (q_d1 q_dc_132_0 (by decide +kernel))
theorem q_g_133 : q_GG 133 qc_133 := q_gg (b := prog_2_method_7_code) rfl q_ok_133 (q_d1 q_dc_133_0 (by decide +kernel))
theorem q_g_134 : q_GG 134 qc_134 := q_gg (b := prog_2_method_8_code) rfl q_ok_134 (q_d1 q_dc_134_0 (by decide +kernel))
theorem q_g_135 : q_GG 135 qc_135 := q_gg (b := prog_2_method_9_code) rfl q_ok_135 (q_d1 q_dc_135_0 (by decide +kernel))
theorem q_g_136 : q_GG 136 qc_136 := q_gg (b := prog_2_method_10_code) rfl q_ok_136 (q_d1 q_dc_136_0 (by decide +kernel))
theorem q_g_137 : q_GG 137 qc_137 := q_gg (b := prog_2_method_11_code) rfl q_ok_137 (q_d1 q_dc_137_0 (by decide +kernel))
theorem q_g_138 : q_GG 138 qc_138 := q_gg (b := prog_2_method_12_code) rfl q_ok_138 (q_d1 q_dc_138_0 (by decide +kernel))
theorem q_g_139 : q_GG 139 qc_139 := q_gg (b := prog_2_method_13_code) rfl q_ok_139 (q_d1 q_dc_139_0 (by decide +kernel))
theorem q_g_140 : q_GG 140 qc_140 := q_gg (b := prog_2_method_14_code) rfl q_ok_140 (q_d1 q_dc_140_0 (by decide +kernel))
theorem q_g_141 : q_GG 141 qc_141 := q_gg (b := prog_2_method_15_code) rfl q_ok_141 (q_d1 q_dc_141_0 (by decide +kernel))
theorem q_g_142 : q_GG 142 qc_142 := q_gg (b := prog_2_method_16_code) rfl q_ok_142 (q_d1 q_dc_142_0 (by decide +kernel))
theorem q_g_143 : q_GG 143 qc_143 := q_gg (b := prog_2_method_17_code) rfl q_ok_143 (q_d1 q_dc_143_0 (by decide +kernel))
theorem q_g_144 : q_GG 144 qc_144 := q_gg (b := prog_2_method_18_code) rfl q_ok_144 (q_d1 q_dc_144_0 (by decide +kernel))
theorem q_g_145 : q_GG 145 qc_145 := q_gg (b := prog_2_method_19_code) rfl q_ok_145 (q_d1 q_dc_145_0 (by decide +kernel))
theorem q_g_146 : q_GG 146 qc_146 := q_gg (b := prog_3_method_1_code) rfl q_ok_146 (q_d1 q_dc_146_0 (by decide +kernel))
theorem q_g_147 : q_GG 147 qc_147 := q_gg (b := prog_3_method_2_code) rfl q_ok_147 (q_d1 q_dc_147_0 (by decide +kernel))
theorem q_g_148 : q_GG 148 qc_148 := q_gg (b := prog_3_method_3_code) rfl q_ok_148 (q_d1 q_dc_148_0 (by decide +kernel))
theorem q_g_149 : q_GG 149 qc_149 := q_gg (b := prog_3_method_4_code) rfl q_ok_149 (q_d1 q_dc_149_0 (by decide +kernel))
theorem q_g_150 : q_GG 150 qc_150 := q_gg (b := prog_3_method_5_code) rfl q_ok_150 (q_d1 q_dc_150_0 (by decide +kernel))
theorem q_g_151 : q_GG 151 qc_151 := q_gg (b := prog_3_method_6_code) rfl q_ok_151 (q_d1 q_dc_151_0 (by decide +kernel))
theorem q_g_152 : q_GG 152 qc_152 := q_gg (b := prog_3_method_7_code) rfl q_ok_152 (q_d1 q_dc_152_0 (by decide +kernel))
theorem q_g_153 : q_GG 153 qc_153 := q_gg (b := prog_3_method_8_code) rfl q_ok_153 (q_d1 q_dc_153_0 (by decide +kernel))
theorem q_g_154 : q_GG 154 qc_154 := q_gg (b := prog_3_method_9_code) rfl q_ok_154 (q_d1 q_dc_154_0 (by decide +kernel))
theorem q_g_155 : q_GG 155 qc_155 := q_gg (b := prog_3_method_10_code) rfl q_ok_155 (q_d1 q_dc_155_0 (by decide +kernel))
theorem q_g_156 : q_GG 156 qc_156 := q_gg (b := prog_3_method_11_code) rfl q_ok_156 (q_d1 q_dc_156_0 (by decide +kernel))
theorem q_g_157 : q_GG 157 qc_157 := q_gg (b := prog_3_method_12_code) rfl q_ok_157 (q_d1 q_dc_157_0 (by decide +kernel))
theorem q_g_158 : q_GG 158 qc_158 := q_gg (b := prog_3_method_13_code) rfl q_ok_158 (q_d1 q_dc_158_0 (by decide +kernel))
theorem q_g_159 : q_GG 159 qc_159 := q_gg (b := prog_3_method_14_code) rfl q_ok_159 (q_d1 q_dc_159_0 (by decide +kernel))
theorem q_g_160 : q_GG 160 qc_160 := q_gg (b := prog_3_method_15_code) rfl q_ok_160 (q_d1 q_dc_160_0 (by decide +kernel))
theorem q_g_161 : q_GG 161 qc_161 := q_gg (b := prog_3_method_16_code) rfl q_ok_161 (q_d1 q_dc_161_0 (by decide +kernel))
theorem q_g_162 : q_GG 162 qc_162 := q_gg (b := prog_3_method_17_code) rfl q_ok_162 (q_d1 q_dc_162_0 (by decide +kernel))
theorem q_g_163 : q_GG 163 qc_163 := q_gg (b := prog_3_method_18_code) rfl q_ok_163 (q_d1 q_dc_163_0 (by decide +kernel))
theorem q_g_164 : q_GG 164 qc_164 := q_gg (b := prog_3_method_19_code) rfl q_ok_164 (q_d1 q_dc_164_0 (by decide +kernel))
theorem q_g_165 : q_GG 165 qc_165 := q_gg (b := prog_3_method_20_code) rfl q_ok_165 (q_d1 q_dc_165_0 (by decide +kernel))
theorem q_g_166 : q_GG 166 qc_166 := q_gg (b := prog_3_method_21_code) rfl q_ok_166 (q_d1 q_dc_166_0 (by decide +kernel))
theorem q_g_167 : q_GG 167 qc_167 := q_gg (b := prog_3_method_22_code) rfl q_ok_167 (q_d1 q_dc_167_0 (by decide +kernel))
theorem q_g_168 : q_GG 168 qc_168 := q_gg (b := prog_3_method_23_code) rfl q_ok_168 (q_d1 q_dc_168_0 (by decide +kernel))
theorem q_g_169 : q_GG 169 qc_169 := q_gg (b := prog_3_method_24_code) rfl q_ok_169 (q_d1 q_dc_169_0 (by decide +kernel))
theorem q_g_170 : q_GG 170 qc_170 := q_gg (b := prog_3_method_25_code) rfl q_ok_170 (q_d1 q_dc_170_0 (by decide +kernel))
theorem q_g_171 : q_GG 171 qc_171 := q_gg (b := prog_3_method_26_code) rfl q_ok_171 (q_d1 q_dc_171_0 (by decide +kernel))
theorem q_g_172 : q_GG 172 qc_172 := q_gg (b := prog_3_method_27_code) rfl q_ok_172 (q_d1 q_dc_172_0 (by decide +kernel))
theorem q_g_173 : q_GG 173 qc_173 := q_gg (b := prog_3_method_28_code) rfl q_ok_173 (q_d1 q_dc_173_0 (by decide +kernel))
theorem q_g_174 : q_GG 174 qc_174 := q_gg (b := prog_4_method_1_code) rfl q_ok_174 (q_d1 q_dc_174_0 (by decide +kernel))
theorem q_g_175 : q_GG 175 qc_175 := q_gg (b := prog_4_method_2_code) rfl q_ok_175 (q_d1 q_dc_175_0 (by decide +kernel))
theorem q_g_176 : q_GG 176 qc_176 := q_gg (b := prog_4_method_3_code) rfl q_ok_176 (q_d1 q_dc_176_0 (by decide +kernel))
theorem q_g_177 : q_GG 177 qc_177 := q_gg (b := prog_4_method_4_code) rfl q_ok_177 (q_d1 q_dc_177_0 (by decide +kernel))
theorem q_g_178 : q_GG 178 qc_178 := q_gg (b := prog_4_method_5_code) rfl q_ok_178 (q_d1 q_dc_178_0 (by decide +kernel))
theorem q_g_179 : q_GG 179 qc_179 := q_gg (b := prog_4_method_6_code) rfl q_ok_179 (q_d1 q_dc_179_0 (by decide +kernel))
theorem q_g_180 : q_GG 180 qc_180 := q_gg (b := prog_4_method_7_code) rfl q_ok_180 (q_d1 q_dc_180_0 (by decide +kernel))
theorem q_g_181 : q_GG 181 qc_181 := q_gg (b := prog_4_method_8_code) rfl q_ok_181 (q_d1 q_dc_181_0 (by decide +kernel))
theorem q_g_182 : q_GG 182 qc_182 := q_gg (b := prog_4_method_9_code) rfl q_ok_182 (q_d1 q_dc_182_0 (by decide +kernel))
theorem q_g_183 : q_GG 183 qc_183 := q_gg (b := prog_4_method_10_code) rfl q_ok_183 (q_d1 q_dc_183_0 (by decide +kernel))
theorem q_g_184 : q_GG 184 qc_184 := q_gg (b := prog_4_method_11_code) rfl q_ok_184 (q_d1 q_dc_184_0 (by decide +kernel))
theorem q_g_185 : q_GG 185 qc_185 := q_gg (b := prog_4_method_12_code) rfl q_ok_185 (q_d1 q_dc_185_0 (by decide +kernel))
theorem q_g_186 : q_GG 186 qc_186 := q_gg (b := prog_4_method_13_code) rfl q_ok_186 (q_d1 q_dc_186_0 (by decide +kernel))
theorem q_g_187 : q_GG 187 qc_187 := q_gg (b := prog_4_method_14_code) rfl q_ok_187 (q_d2 q_dc_187_0 (q_d1 q_dc_187_1 (by decide +kernel)))
theorem q_g_188 : q_GG 188 qc_188 := q_gg (b := prog_4_method_15_code) rfl q_ok_188 (q_d1 q_dc_188_0 (by decide +kernel))
theorem q_g_189 : q_GG 189 qc_189 := q_gg (b := prog_4_method_16_code) rfl q_ok_189 (q_d1 q_dc_189_0 (by decide +kernel))
theorem q_g_190 : q_GG 190 qc_190 := q_gg (b := prog_5_method_1_code) rfl q_ok_190 (q_d1 q_dc_190_0 (by decide +kernel))
theorem q_g_191 : q_GG 191 qc_191 := q_gg (b := prog_5_method_2_code) rfl q_ok_191 (q_d1 q_dc_191_0 (by decide +kernel))
theorem q_g_192 : q_GG 192 qc_192 := q_gg (b := prog_5_method_3_code) rfl q_ok_192 (q_d1 q_dc_192_0 (by decide +kernel))
theorem q_g_193 : q_GG 193 qc_193 := q_gg (b := prog_5_method_4_code) rfl q_ok_193 (q_d1 q_dc_193_0 (by decide +kernel))
theorem q_g_194 : q_GG 194 qc_194 := q_gg (b := prog_5_method_5_code) rfl q_ok_194 (q_d1 q_dc_194_0 (by decide +kernel))
theorem q_g_195 : q_GG 195 qc_195 := q_gg (b := prog_5_method_6_code) rfl q_ok_195 (q_d1 q_dc_195_0 (by decide +kernel))
theorem q_g_196 : q_GG 196 qc_196 := q_gg (b := prog_5_method_7_code) rfl q_ok_196 (q_d1 q_dc_196_0 (by decide +kernel))
theorem q_g_197 : q_GG 197 qc_197 := q_gg (b := prog_6_method_1_code) rfl q_ok_197 (q_d1 q_dc_197_0 (by decide +kernel))
theorem q_g_198 : q_GG 198 qc_198 := q_gg (b := prog_6_method_2_code) rfl q_ok_198 (q_d1 q_dc_198_0 (by decide +kernel))
theorem q_g_199 : q_GG 199 qc_199 := q_gg (b := prog_6_method_3_code) rfl q_ok_199 (q_d1 q_dc_199_0 (by decide +kernel))
theorem q_g_200 : q_GG 200 qc_200 := q_gg (b := prog_6_method_4_code) rfl q_ok_200 (q_d1 q_dc_200_0 (by decide +kernel))
theorem q_g_201 : q_GG 201 qc_201 := q_gg (b := prog_6_method_5_code) rfl q_ok_201 (q_d1 q_dc_201_0 (by decide +kernel))
theorem q_g_202 : q_GG 202 qc_202 := q_gg (b := prog_6_method_6_code) rfl q_ok_202 (q_d1 q_dc_202_0 (by decide +kernel))
theorem q_g_203 : q_GG 203 qc_203 := q_gg (b := prog_6_method_7_code) rfl q_ok_203 (q_d1 q_dc_203_0 (by decide +kernel))
theorem q_g_204 : q_GG 204 qc_204 := q_gg (b := prog_6_method_8_code) rfl q_ok_204 (q_d1 q_dc_204_0 (by decide +kernel))
theorem q_g_205 : q_GG 205 qc_205 := q_gg (b := prog_6_method_9_code) rfl q_ok_205 (q_d1 q_dc_205_0 (by decide +kernel))
theorem q_g_206 : q_GG 206 qc_206 := q_gg (b := prog_7_method_1_code) rfl q_ok_206 (q_d1 q_dc_206_0 (by decide +kernel))
theorem q_g_207 : q_GG 207 qc_207 := q_gg (b := prog_7_method_2_code) rfl q_ok_207 (q_d1 q_dc_207_0 (by decide +kernel))
theorem q_g_208 : q_GG 208 qc_208 := q_gg (b := prog_7_method_3_code) rfl q_ok_208 (q_d1 q_dc_208_0 (by decide +kernel))
theorem q_g_209 : q_GG 209 qc_209 := q_gg (b := prog_7_method_4_code) rfl q_ok_209 (q_d1 q_dc_209_0 (by decide +kernel))
theorem q_g_210 : q_GG 210 qc_210 := q_gg (b := prog_7_method_5_code) rfl q_ok_210 (q_d1 q_dc_210_0 (by decide +kernel))
theorem q_g_211 : q_GG 211 qc_211 := q_gg (b := prog_8_method_1_code) rfl q_ok_211 (q_d1 q_dc_211_0 (by decide +kernel))
theorem q_g_212 : q_GG 212 qc_212 := q_gg (b := prog_8_method_2_code) rfl q_ok_212 (q_d1 q_dc_212_0 (by decide +kernel))
theorem q_g_213 : q_GG 213 qc_213 := q_gg (b := prog_8_method_3_code) rfl q_ok_213 (q_d1 q_dc_213_0 (by decide +kernel))
theorem q_g_214 : q_GG 214 qc_214 := q_gg (b := prog_8_method_4_code) rfl q_ok_214 (q_d1 q_dc_214_0 (by decide +kernel))
theorem q_g_215 : q_GG 215 qc_215 := q_gg (b := prog_8_method_5_code) rfl q_ok_215 (q_d1 q_dc_215_0 (by decide +kernel))
theorem q_g_216 : q_GG 216 qc_216 := q_gg (b := prog_9_method_1_code) rfl q_ok_216 (q_d1 q_dc_216_0 (by decide +kernel))
theorem q_g_217 : q_GG 217 qc_217 := q_gg (b := prog_9_method_2_code) rfl q_ok_217 (q_d1 q_dc_217_0 (by decide +kernel))
theorem q_g_218 : q_GG 218 qc_218 := q_gg (b := prog_9_method_3_code) rfl q_ok_218 (q_d1 q_dc_218_0 (by decide +kernel))
theorem q_g_219 : q_GG 219 qc_219 := q_gg (b := prog_9_method_4_code) rfl q_ok_219 (q_d1 q_dc_219_0 (by decide +kernel))
theorem q_g_220 : q_GG 220 qc_220 := q_gg (b := prog_9_method_5_code) rfl q_ok_220 (q_d1 q_dc_220_0 (by decide +kernel))
theorem q_g_221 : q_GG 221 qc_221 := q_gg (b := prog_9_method_6_code) rfl q_ok_221 (q_d1 q_dc_221_0 (by decide +kernel))
theorem q_g_222 : q_GG 222 qc_222 := q_gg (b := prog_10_method_1_code) rfl q_ok_222 (q_d1 q_dc_222_0 (by decide +kernel))
theorem q_g_223 : q_GG 223 qc_223 := q_gg (b := prog_10_method_2_code) rfl q_ok_223 (q_d1 q_dc_223_0 (by decide +kernel))
theorem q_g_224 : q_GG 224 qc_224 := q_gg (b := prog_10_method_3_code) rfl q_ok_224 (q_d1 q_dc_224_0 (by decide +kernel))
theorem q_g_225 : q_GG 225 qc_225 := q_gg (b := prog_10_method_4_code) rfl q_ok_225 (q_d1 q_dc_225_0 (by decide +kernel))
theorem q_g_226 : q_GG 226 qc_226 := q_gg (b := prog_10_method_5_code) rfl q_ok_226 (q_d1 q_dc_226_0 (by decide +kernel))
theorem q_g_227 : q_GG 227 qc_227 := q_gg (b := prog_10_method_6_code) rfl q_ok_227 (q_d1 q_dc_227_0 (by decide +kernel))
theorem q_g_228 : q_GG 228 qc_228 := q_gg (b := prog_10_method_7_code) rfl q_ok_228 (q_d1 q_dc_228_0 (by decide +kernel))
theorem q_g_229 : q_GG 229 qc_229 := q_gg (b := prog_10_method_8_code) rfl q_ok_229 (q_d1 q_dc_229_0 (by decide +kernel))
theorem q_g_230 : q_GG 230 qc_230 := q_gg (b := prog_10_method_9_code) rfl q_ok_230 (q_d1 q_dc_230_0 (by decide +kernel))
theorem q_g_231 : q_GG 231 qc_231 := q_gg (b := prog_10_method_10_code) rfl q_ok_231 (q_d1 q_dc_231_0 (by decide +kernel))
theorem q_g_232 : q_GG 232 qc_232 := q_gg (b := prog_10_method_11_code) rfl q_ok_232 (q_d1 q_dc_232_0 (by decide +kernel))
theorem q_g_233 : q_GG 233 qc_233 := q_gg (b := prog_11_method_1_code) rfl q_ok_233 (q_d1 q_dc_233_0 (by decide +kernel))
theorem q_g_234 : q_GG 234 qc_234 := q_gg (b := prog_11_method_2_code) rfl q_ok_234 (q_d1 q_dc_234_0 (by decide +kernel))
theorem q_g_235 : q_GG 235 qc_235 := q_gg (b := prog_11_method_3_code) rfl q_ok_235 (q_d1 q_dc_235_0 (by decide +kernel))
theorem q_g_236 : q_GG 236 qc_236 := q_gg (b := prog_11_method_4_code) rfl q_ok_236 (q_d1 q_dc_236_0 (by decide +kernel))
theorem q_g_237 : q_GG 237 qc_237 := q_gg (b := prog_11_method_5_code) rfl q_ok_237 (q_d1 q_dc_237_0 (by decide +kernel))
theorem q_g_238 : q_GG 238 qc_238 := q_gg (b := prog_11_method_6_code) rfl q_ok_238 (q_d1 q_dc_238_0 (by decide +kernel))
theorem q_g_239 : q_GG 239 qc_239 := q_gg (b := prog_11_method_7_code) rfl q_ok_239 (q_d1 q_dc_239_0 (by decide +kernel))
theorem q_g_240 : q_GG 240 qc_240 := q_gg (b := prog_11_method_8_code) rfl q_ok_240 (q_d1 q_dc_240_0 (by decide +kernel))
theorem q_g_241 : q_GG 241 qc_241 := q_gg (b := prog_11_method_9_code) rfl q_ok_241 (q_d1 q_dc_241_0 (by decide +kernel))
theorem q_g_242 : q_GG 242 qc_242 := q_gg (b := prog_11_method_10_code) rfl q_ok_242 (q_d1 q_dc_242_0 (by decide +kernel))
theorem q_g_243 : q_GG 243 qc_243 := q_gg (b := prog_11_method_11_code) rfl q_ok_243 (q_d1 q_dc_243_0 (by decide +kernel))
theorem q_g_244 : q_GG 244 qc_244 := q_gg (b := prog_12_method_1_code) rfl q_ok_244 (q_d1 q_dc_244_0 (by decide +kernel))
theorem q_g_245 : q_GG 245 qc_245 := q_gg (b := prog_12_method_2_code) rfl q_ok_245 (q_d1 q_dc_245_0 (by decide +kernel))
theorem q_g_246 : q_GG 246 qc_246 := q_gg (b := prog_12_method_3_code) rfl q_ok_246 (q_d1 q_dc_246_0 (by decide +kernel))
theorem q_g_247 : q_GG 247 qc_247 := q_gg (b := prog_12_method_4_code) rfl q_ok_247 (q_d1 q_dc_247_0 (by decide +kernel))
theorem q_g_248 : q_GG 248 qc_248 := q_gg (b := prog_12_method_5_code) rfl q_ok_248 (q_d1 q_dc_248_0 (by decide +kernel))
theorem q_g_249 : q_GG 249 qc_249 := q_gg (b := prog_12_method_6_code) rfl q_ok_249 (q_d1 q_dc_249_0 (by decide +kernel))
theorem q_g_250 : q_GG 250 qc_250 := q_gg (b := prog_12_method_7_code) rfl q_ok_250 (q_d1 q_dc_250_0 (by decide +kernel))
theorem q_g_251 : q_GG 251 qc_251 := q_gg (b := prog_12_method_8_code) rfl q_ok_251 (q_d1 q_dc_251_0 (by decide +kernel))
theorem q_g_252 : q_GG 252 qc_252 := q_gg (b := prog_12_method_9_code) rfl q_ok_252 (q_d1 q_dc_252_0 (by decide +kernel))
theorem q_g_253 : q_GG 253 qc_253 := q_gg (b := prog_12_method_10_code) rfl q_ok_253 (q_d1 q_dc_253_0 (by decide +kernel))
theorem q_g_254 : q_GG 254 qc_254 := q_gg (b := prog_12_method_11_code) rfl q_ok_254 (q_d1 q_dc_254_0 (by decide +kernel))
theorem q_g_255 : q_GG 255 qc_255 := q_gg (b := prog_12_method_12_code) rfl q_ok_255 (q_d1 q_dc_255_0 (by decide +kernel))
theorem q_g_256 : q_GG 256 qc_256 := q_gg (b := prog_12_method_13_code) rfl q_ok_256 (q_d1 q_dc_256_0 (by decide +kernel))
theorem q_g_257 : q_GG 257 qc_257 := q_gg (b := prog_12_method_14_code) rfl q_ok_257 (q_d1 q_dc_257_0 (by decide +kernel))
theorem q_g_258 : q_GG 258 qc_258 := q_gg (b := prog_12_method_15_code) rfl q_ok_258 (q_d1 q_dc_258_0 (by decide +kernel))
theorem q_g_259 : q_GG 259 qc_259 := q_gg (b := prog_12_method_16_code) rfl q_ok_259 (q_d1 q_dc_259_0 (by decide +kernel))
theorem q_g_260 : q_GG 260 qc_260 := q_gg (b := prog_12_method_17_code) rfl q_ok_260 (q_d1 q_dc_260_0 (by decide +kernel))
theorem q_GL_app : ∀ (A B : List (List (Nat × qI))) (k : Nat), q_GL k A → q_GL (k + A.length) B → q_GL k (A ++ B)
  | [], _, _, _, h => h
  | x :: r, B, k, H, h => ⟨H.1, q_GL_app r B (k + 1) H.2 (by rw [show k + 1 + r.length = k + (x :: r).length by simp; omega]; exact h)⟩
theorem q_gb_0 : q_GL 0 [qc_0, qc_1, qc_2, qc_3, qc_4, qc_5, qc_6, qc_7, qc_8, qc_9, qc_10, qc_11, qc_12, qc_13, qc_14, qc_15, qc_16, qc_17, qc_18, qc_19, qc_20, qc_21, qc_22, qc_23, qc_24, qc_25, qc_26, qc_27, qc_28, qc_29] := ⟨q_g_0, q_g_1, q_g_2, q_g_3, q_g_4, q_g_5, q_g_6, q_g_7, q_g_8, q_g_9, q_g_10, q_g_11, q_g_12, q_g_13, q_g_14, q_g_15, q_g_16, q_g_17, q_g_18, q_g_19, q_g_20, q_g_21, q_g_22, q_g_23, q_g_24, q_g_25, q_g_26, q_g_27, q_g_28, q_g_29, trivial⟩
theorem q_gb_1 : q_GL 30 [qc_30, qc_31, qc_32, qc_33, qc_34, qc_35, qc_36, qc_37, qc_38, qc_39, qc_40, qc_41, qc_42, qc_43, qc_44, qc_45, qc_46, qc_47, qc_48, qc_49, qc_50, qc_51, qc_52, qc_53, qc_54, qc_55, qc_56, qc_57, qc_58, qc_59] := ⟨q_g_30, q_g_31, q_g_32, q_g_33, q_g_34, q_g_35, q_g_36, q_g_37, q_g_38, q_g_39, q_g_40, q_g_41, q_g_42, q_g_43, q_g_44, q_g_45, q_g_46, q_g_47, q_g_48, q_g_49, q_g_50, q_g_51, q_g_52, q_g_53, q_g_54, q_g_55, q_g_56, q_g_57, q_g_58, q_g_59, trivial⟩
theorem q_gb_2 : q_GL 60 [qc_60, qc_61, qc_62, qc_63, qc_64, qc_65, qc_66, qc_67, qc_68, qc_69, qc_70, qc_71, qc_72, qc_73, qc_74, qc_75, qc_76, qc_77, qc_78, qc_79, qc_80, qc_81, qc_82, qc_83, qc_84, qc_85, qc_86, qc_87, qc_88, qc_89] := ⟨q_g_60, q_g_61, q_g_62, q_g_63, q_g_64, q_g_65, q_g_66, q_g_67, q_g_68, q_g_69, q_g_70, q_g_71, q_g_72, q_g_73, q_g_74, q_g_75, q_g_76, q_g_77, q_g_78, q_g_79, q_g_80, q_g_81, q_g_82, q_g_83, q_g_84, q_g_85, q_g_86, q_g_87, q_g_88, q_g_89, trivial⟩
theorem q_gb_3 : q_GL 90 [qc_90, qc_91, qc_92, qc_93, qc_94, qc_95, qc_96, qc_97, qc_98, qc_99, qc_100, qc_101, qc_102, qc_103, qc_104, qc_105, qc_106, qc_107, qc_108, qc_109, qc_110, qc_111, qc_112, qc_113, qc_114, qc_115, qc_116, qc_117, qc_118, qc_119] := ⟨q_g_90, q_g_91, q_g_92, q_g_93, q_g_94, q_g_95, q_g_96, q_g_97, q_g_98, q_g_99, q_g_100, q_g_101, q_g_102, q_g_103, q_g_104, q_g_105, q_g_106, q_g_107, q_g_108, q_g_109, q_g_110, q_g_111, q_g_112, q_g_113, q_g_114, q_g_115, q_g_116, q_g_117, q_g_118, q_g_119, trivial⟩
theorem q_gb_4 : q_GL 120 [qc_120, qc_121, qc_122, qc_123, qc_124, qc_125, qc_126, qc_127, qc_128, qc_129, qc_130, qc_131, qc_132, qc_133, qc_134, qc_135, qc_136, qc_137, qc_138, qc_139, qc_140, qc_141, qc_142, qc_143, qc_144, qc_145, qc_146, qc_147, qc_148, qc_149] := ⟨q_g_120, q_g_121, q_g_122, q_g_123, q_g_124, q_g_125, q_g_126, q_g_127, q_g_128, q_g_129, q_g_130, q_g_131, q_g_132, q_g_133, q_g_134, q_g_135, q_g_136, q_g_137, q_g_138, q_g_139, q_g_140, q_g_141, q_g_142, q_g_143, q_g_144, q_g_145, q_g_146, q_g_147, q_g_148, q_g_149, trivial⟩
theorem q_gb_5 : q_GL 150 [qc_150, qc_151, qc_152, qc_153, qc_154, qc_155, qc_156, qc_157, qc_158, qc_159, qc_160, qc_161, qc_162, qc_163, qc_164, qc_165, qc_166, qc_167, qc_168, qc_169, qc_170, qc_171, qc_172, qc_173, qc_174, qc_175, qc_176, qc_177, qc_178, qc_179] := ⟨q_g_150, q_g_151, q_g_152, q_g_153, q_g_154, q_g_155, q_g_156, q_g_157, q_g_158, q_g_159, q_g_160, q_g_161, q_g_162, q_g_163, q_g_164, q_g_165, q_g_166, q_g_167, q_g_168, q_g_169, q_g_170, q_g_171, q_g_172, q_g_173, q_g_174, q_g_175, q_g_176, q_g_177, q_g_178, q_g_179, trivial⟩
theorem q_gb_6 : q_GL 180 [qc_180, qc_181, qc_182, qc_183, qc_184, qc_185, qc_186, qc_187, qc_188, qc_189, qc_190, qc_191, qc_192, qc_193, qc_194, qc_195, qc_196, qc_197, qc_198, qc_199, qc_200, qc_201, qc_202, qc_203, qc_204, qc_205, qc_206, qc_207, qc_208, qc_209] := ⟨q_g_180, q_g_181, q_g_182, q_g_183, q_g_184, q_g_185, q_g_186, q_g_187, q_g_188, q_g_189, q_g_190, q_g_191, q_g_192, q_g_193, q_g_194, q_g_195, q_g_196, q_g_197, q_g_198, q_g_199, q_g_200, q_g_201, q_g_202, q_g_203, q_g_204, q_g_205, q_g_206, q_g_207, q_g_208, q_g_209, trivial⟩
theorem q_gb_7 : q_GL 210 [qc_210, qc_211, qc_212, qc_213, qc_214, qc_215, qc_216, qc_217, qc_218, qc_219, qc_220, qc_221, qc_222, qc_223, qc_224, qc_225, qc_226, qc_227, qc_228, qc_229, qc_230, qc_231, qc_232, qc_233, qc_234, qc_235, qc_236, qc_237, qc_238, qc_239] := ⟨q_g_210, q_g_211, q_g_212, q_g_213, q_g_214, q_g_215, q_g_216, q_g_217, q_g_218, q_g_219, q_g_220, q_g_221, q_g_222, q_g_223, q_g_224, q_g_225, q_g_226, q_g_227, q_g_228, q_g_229, q_g_230, q_g_231, q_g_232, q_g_233, q_g_234, q_g_235, q_g_236, q_g_237, q_g_238, q_g_239, trivial⟩
theorem q_gb_8 : q_GL 240 [qc_240, qc_241, qc_242, qc_243, qc_244, qc_245, qc_246, qc_247, qc_248, qc_249, qc_250, qc_251, qc_252, qc_253, qc_254, qc_255, qc_256, qc_257, qc_258, qc_259, qc_260] := ⟨q_g_240, q_g_241, q_g_242, q_g_243, q_g_244, q_g_245, q_g_246, q_g_247, q_g_248, q_g_249, q_g_250, q_g_251, q_g_252, q_g_253, q_g_254, q_g_255, q_g_256, q_g_257, q_g_258, q_g_259, q_g_260, trivial⟩
theorem q_gl : q_GL 0 q_codes := q_GL_app _ _ _ q_gb_0 (q_GL_app _ _ _ q_gb_1 (q_GL_app _ _ _ q_gb_2 (q_GL_app _ _ _ q_gb_3 (q_GL_app _ _ _ q_gb_4 (q_GL_app _ _ _ q_gb_5 (q_GL_app _ _ _ q_gb_6 (q_GL_app _ _ _ q_gb_7 (q_gb_8))))))))
theorem q_entry {M pc len : Nat} {i : Instr} {v : Int} {a : List Nat} (h : q_ft1 M pc = some (len, i, v, a)) : q_chkM M = true ∧ ∃ ws, decode (q_b M) pc = .ok (i, len) ∧ q_chk2 M pc len i v a ws = true := by
  unfold q_ft1 at h
  cases hl : q_codes[M]? with
  | none =>
    rw [List.getD_eq_getElem?_getD, hl] at h
    cases h
  | some l =>
    rw [List.getD_eq_getElem?_getD, hl, Option.getD_some] at h
    have hg := q_GL_get q_codes 0 q_gl M l hl
    rw [Nat.zero_add] at hg
    obtain ⟨l1, l2, e, -⟩ := List.lookup_eq_some_iff.mp h
    have hm : (pc, len, i, v, a) ∈ l := by rw [e]; simp
    obtain ⟨ws, h1, h2⟩ := hg.2 _ hm
    exact ⟨hg.1, ws, h1, h2⟩
end
section
/-! The pure machine: one step. -/
/-- a program: fetch, cells and slots that a method may make, how many locals it has, the script; method 0 is the law -/
abbrev qP : Type := (Nat → Nat → Option qI) × (Nat → Nat) × (Nat → Nat) × (Nat → Nat) × Nat × (Nat → Int)
def q_r32 (x : Int) : Prop := -2147483648 ≤ x ∧ x < 2147483648
def q_r64 (x : Int) : Prop := -9223372036854775808 ≤ x ∧ x < 9223372036854775808
def q_tag (S : qS) (r : Nat) : Option Nat := match S[r]? with
  | some z => some z.1
  | none => none
def q_len (S : qS) (r : Nat) : Nat := match S[r]? with
  | some z => z.2.1
  | none => 0
def q_ref (S : qS) (r k : Nat) : Option Nat := match S[r]? with
  | some z => z.2.2.getD k none
  | none => none
def q_u (f : Int → Int) (j v : Int) : Int → Int := fun i => if i = j then v else f i
def q_up (s : qM) (r : Nat) (j v : Int) : qM := fun q => if q = r then q_u (s r) j v else s q
def q_z (s : qM) (r : Nat) : qM := fun q => if q = r then (fun _ => 0) else s q
/-- a reference is put into an object's slot -/
def q_pr (S : qS) (r k : Nat) (v : Option Nat) : qS := match S[r]? with
  | some z => S.set r (z.1, z.2.1, z.2.2.set k v)
  | none => S
def q_ld (ls : List (Option qV)) (i : Nat) : Option qV := match ls[i]? with
  | some (some v) => some v
  | _ => none
def q_kl (ls : List (Option qV)) (i : Nat) : List (Option qV) := match i with
  | 0 => ls
  | j + 1 => match q_ld ls j with
    | some (.inr (.inl _)) => ls.set j none
    | _ => ls
def q_st (ls : List (Option qV)) (i : Nat) (v : qV) : List (Option qV) := (q_kl ls i).set i (some v)
def q_st2 (ls : List (Option qV)) (i : Nat) (v : qV) : List (Option qV) := ((q_kl ls i).set i (some v)).set (i + 1) none
def q_cat (v : qV) : Nat := match v with
  | .inr (.inl _) => 2
  | _ => 1
def q_sum (st : List qV) : Nat := match st with
  | [] => 0
  | v :: r => q_cat v + q_sum r
def q_and (x y : Int) : Int := (Int32.ofInt x &&& Int32.ofInt y).toInt
def q_land (x y : Int) : Int := (Int64.ofInt x &&& Int64.ofInt y).toInt
def q_lor (x y : Int) : Int := (Int64.ofInt x ||| Int64.ofInt y).toInt
def q_lxor (x y : Int) : Int := (Int64.ofInt x ^^^ Int64.ofInt y).toInt
def q_lushr (x y : Int) : Int := ((Int64.ofInt x).toUInt64 >>> ((Int32.ofInt y).toInt64.toUInt64 &&& Int64.toUInt64 63)).toInt64.toInt
def q_lshl (x y : Int) : Int := (Int64.ofInt x <<< ((Int32.ofInt y).toInt64 &&& 63)).toInt
def q_lcmp (x y : Int) : Int := if x > y then 1 else if x = y then 0 else -1
def q_cmp (c : Jvm.ClassFile.Cond) (x y : Int) : Prop := match c with
  | .eq => x = y
  | .ne => x ≠ y
  | .lt => x < y
  | .ge => y ≤ x
  | .gt => y < x
  | .le => x ≤ y
/-- locals, stack, shapes, contents, cells, slots behind an instruction; what it asks -/
abbrev qD : Type := Prop × List (Option qV) × List qV × qS × qM × Nat × Nat
def q_kind (κ : Nat) (x : Int) : Prop := if κ = 3 then 0 ≤ x ∧ x ≤ 1 else True
/-- constants and locals -/
def q_sim1 (i : Instr) (v : Int) (a : List Nat) (ls : List (Option qV)) (st : List qV) (S : qS) (s : qM) (kc ks : Nat) : Option qD := match i with
  | .iconst _ => some (True, ls, .inl v :: st, S, s, kc, ks)
  | .bipush _ => some (True, ls, .inl v :: st, S, s, kc, ks)
  | .sipush _ => some (True, ls, .inl v :: st, S, s, kc, ks)
  | .ldc _ => some (True, ls, .inl v :: st, S, s, kc, ks)
  | .lconst _ => some (True, ls, .inr (.inl v) :: st, S, s, kc, ks)
  | .ldc2_w _ => some (True, ls, .inr (.inl v) :: st, S, s, kc, ks)
  | .iload _ => match q_ld ls (q_a a 0) with
    | some (.inl x) => some (True, ls, .inl x :: st, S, s, kc, ks)
    | _ => none
  | .iload_n _ => match q_ld ls (q_a a 0) with
    | some (.inl x) => some (True, ls, .inl x :: st, S, s, kc, ks)
    | _ => none
  | .lload _ => match q_ld ls (q_a a 0) with
    | some (.inr (.inl x)) => some (True, ls, .inr (.inl x) :: st, S, s, kc, ks)
    | _ => none
  | .lload_n _ => match q_ld ls (q_a a 0) with
    | some (.inr (.inl x)) => some (True, ls, .inr (.inl x) :: st, S, s, kc, ks)
    | _ => none
  | .aload _ => match q_ld ls (q_a a 0) with
    | some (.inr (.inr (.inl (some r)))) => some (True, ls, .inr (.inr (.inl (some r))) :: st, S, s, kc, ks)
    | some (.inr (.inr (.inr u))) => some (True, ls, .inr (.inr (.inr u)) :: st, S, s, kc, ks)
    | _ => none
  | .aload_n _ => match q_ld ls (q_a a 0) with
    | some (.inr (.inr (.inl (some r)))) => some (True, ls, .inr (.inr (.inl (some r))) :: st, S, s, kc, ks)
    | some (.inr (.inr (.inr u))) => some (True, ls, .inr (.inr (.inr u)) :: st, S, s, kc, ks)
    | _ => none
  | .istore _ => match st with
    | .inl x :: r => some (q_a a 0 < ls.length, q_st ls (q_a a 0) (.inl x), r, S, s, kc, ks)
    | _ => none
  | .istore_n _ => match st with
    | .inl x :: r => some (q_a a 0 < ls.length, q_st ls (q_a a 0) (.inl x), r, S, s, kc, ks)
    | _ => none
  | .lstore _ => match st with
    | .inr (.inl x) :: r => some (q_a a 0 + 1 < ls.length, q_st2 ls (q_a a 0) (.inr (.inl x)), r, S, s, kc, ks)
    | _ => none
  | .lstore_n _ => match st with
    | .inr (.inl x) :: r => some (q_a a 0 + 1 < ls.length, q_st2 ls (q_a a 0) (.inr (.inl x)), r, S, s, kc, ks)
    | _ => none
  | .astore _ => match st with
    | .inr (.inr (.inl (some r0))) :: r => some (q_a a 0 < ls.length, q_st ls (q_a a 0) (.inr (.inr (.inl (some r0)))), r, S, s, kc, ks)
    | _ => none
  | .astore_n _ => match st with
    | .inr (.inr (.inl (some r0))) :: r => some (q_a a 0 < ls.length, q_st ls (q_a a 0) (.inr (.inr (.inl (some r0)))), r, S, s, kc, ks)
    | _ => none
  | .iinc _ _ => match q_ld ls (q_a a 0) with
    | some (.inl x) => some (q_a a 0 < ls.length ∧ q_r32 (x + v), q_st ls (q_a a 0) (.inl (x + v)), st, S, s, kc, ks)
    | _ => none
  | .goto _ => none
  | _ => none
/-- the stack and arithmetic -/
def q_sim2 (i : Instr) (ls : List (Option qV)) (st : List qV) (S : qS) (s : qM) (kc ks : Nat) : Option qD := match i with
  | .iadd => match st with
    | .inl y :: .inl x :: r => some (q_r32 (x + y), ls, .inl (x + y) :: r, S, s, kc, ks)
    | _ => none
  | .isub => match st with
    | .inl y :: .inl x :: r => some (q_r32 (x - y), ls, .inl (x - y) :: r, S, s, kc, ks)
    | _ => none
  | .imul => match st with
    | .inl y :: .inl x :: r => some (q_r32 (x * y), ls, .inl (x * y) :: r, S, s, kc, ks)
    | _ => none
  | .idiv => match st with
    | .inl y :: .inl x :: r => some (0 < y, ls, .inl (x.tdiv y) :: r, S, s, kc, ks)
    | _ => none
  | .irem => match st with
    | .inl y :: .inl x :: r => some (0 < y, ls, .inl (x.tmod y) :: r, S, s, kc, ks)
    | _ => none
  | .iand => match st with
    | .inl y :: .inl x :: r => some (True, ls, .inl (q_and x y) :: r, S, s, kc, ks)
    | _ => none
  | .ladd => match st with
    | .inr (.inl y) :: .inr (.inl x) :: r => some (q_r64 (x + y), ls, .inr (.inl (x + y)) :: r, S, s, kc, ks)
    | _ => none
  | .lmul => match st with
    | .inr (.inl y) :: .inr (.inl x) :: r => some (q_r64 (x * y), ls, .inr (.inl (x * y)) :: r, S, s, kc, ks)
    | _ => none
  | .land => match st with
    | .inr (.inl y) :: .inr (.inl x) :: r => some (True, ls, .inr (.inl (q_land x y)) :: r, S, s, kc, ks)
    | _ => none
  | .lor => match st with
    | .inr (.inl y) :: .inr (.inl x) :: r => some (True, ls, .inr (.inl (q_lor x y)) :: r, S, s, kc, ks)
    | _ => none
  | .lxor => match st with
    | .inr (.inl y) :: .inr (.inl x) :: r => some (True, ls, .inr (.inl (q_lxor x y)) :: r, S, s, kc, ks)
    | _ => none
  | .lushr => match st with
    | .inl y :: .inr (.inl x) :: r => some (True, ls, .inr (.inl (q_lushr x y)) :: r, S, s, kc, ks)
    | _ => none
  | .lshl => match st with
    | .inl y :: .inr (.inl x) :: r => some (True, ls, .inr (.inl (q_lshl x y)) :: r, S, s, kc, ks)
    | _ => none
  | .lcmp => match st with
    | .inr (.inl y) :: .inr (.inl x) :: r => some (True, ls, .inl (q_lcmp x y) :: r, S, s, kc, ks)
    | _ => none
  | .i2l => match st with
    | .inl x :: r => some (True, ls, .inr (.inl x) :: r, S, s, kc, ks)
    | _ => none
  | .dup => match st with
    | v :: r => some (q_cat v = 1, ls, v :: v :: r, S, s, kc, ks)
    | _ => none
  | .dup2 => match st with
    | v :: w :: r => some (q_cat v = 1 ∧ q_cat w = 1, ls, v :: w :: v :: w :: r, S, s, kc, ks)
    | _ => none
  | .pop => match st with
    | v :: r => some (q_cat v = 1, ls, r, S, s, kc, ks)
    | _ => none
  | _ => none
/-- objects and arrays; xl, xs: the script; il: this is the law -/
def q_sim3 (il : Prop) (xl : Nat) (xs : Nat → Int) (mc ms : Nat) (i : Instr) (a : List Nat) (ls : List (Option qV)) (st : List qV) (S : qS) (s : qM) (kc ks : Nat) : Option qD := match i with
  | .getfield _ => match st with
    | .inr (.inr (.inl (some r))) :: z => if q_a a 2 = 1
      then some (q_tag S r = some (3 + q_a a 0) ∧ q_ref S r (q_a a 1) ≠ none, ls, .inr (.inr (.inl (q_ref S r (q_a a 1)))) :: z, S, s, kc, ks)
      else some (q_tag S r = some (3 + q_a a 0), ls, .inl (s r (q_a a 1)) :: z, S, s, kc, ks)
    | _ => none
  | .putfield _ => match st with
    | .inl x :: .inr (.inr (.inl (some r))) :: z => if q_a a 2 = 1 then none
      else some (q_tag S r = some (3 + q_a a 0) ∧ q_kind (q_a a 2) x, ls, z, S, q_up s r (q_a a 1) x, kc, ks)
    | .inr (.inr (.inl v)) :: .inr (.inr (.inl (some r))) :: z => if q_a a 2 = 1
      then some (q_tag S r = some (3 + q_a a 0), ls, z, q_pr S r (q_a a 1) v, s, kc, ks) else none
    | _ => none
  | .arraylength => match st with
    | .inr (.inr (.inl (some r))) :: z => some ((∃ t, t < 3 ∧ q_tag S r = some t) ∧ q_len S r < 2147483648, ls, .inl (q_len S r) :: z, S, s, kc, ks)
    | .inr (.inr (.inr _)) :: z => some (il, ls, .inl xl :: z, S, s, kc, ks)
    | _ => none
  | .iaload => match st with
    | .inl j :: .inr (.inr (.inl (some r))) :: z => some (q_tag S r = some 0 ∧ 0 ≤ j ∧ j < q_len S r, ls, .inl (s r j) :: z, S, s, kc, ks)
    | .inl j :: .inr (.inr (.inr _)) :: z => some (il ∧ 0 ≤ j ∧ j < xl, ls, .inl (xs j.toNat) :: z, S, s, kc, ks)
    | _ => none
  | .baload => match st with
    | .inl j :: .inr (.inr (.inl (some r))) :: z => some (q_tag S r = some 1 ∧ 0 ≤ j ∧ j < q_len S r, ls, .inl (s r j) :: z, S, s, kc, ks)
    | _ => none
  | .laload => match st with
    | .inl j :: .inr (.inr (.inl (some r))) :: z => some (q_tag S r = some 2 ∧ 0 ≤ j ∧ j < q_len S r, ls, .inr (.inl (s r j)) :: z, S, s, kc, ks)
    | _ => none
  | .iastore => match st with
    | .inl x :: .inl j :: .inr (.inr (.inl (some r))) :: z => some (q_tag S r = some 0 ∧ 0 ≤ j ∧ j < q_len S r, ls, z, S, q_up s r j x, kc, ks)
    | _ => none
  | .bastore => match st with
    | .inl x :: .inl j :: .inr (.inr (.inl (some r))) :: z => some (q_tag S r = some 1 ∧ 0 ≤ j ∧ j < q_len S r ∧ 0 ≤ x ∧ x ≤ 1, ls, z, S, q_up s r j x, kc, ks)
    | _ => none
  | .lastore => match st with
    | .inr (.inl x) :: .inl j :: .inr (.inr (.inl (some r))) :: z => some (q_tag S r = some 2 ∧ 0 ≤ j ∧ j < q_len S r, ls, z, S, q_up s r j x, kc, ks)
    | _ => none
  | .new _ => some (kc + 1 ≤ mc ∧ ks + q_a a 1 ≤ ms, ls, .inr (.inr (.inl (some S.length))) :: st, S ++ [(3 + q_a a 0, q_a a 1, List.replicate (q_a a 1) none)], q_z s S.length, kc + 1, ks + q_a a 1)
  | .newarray _ => match st with
    | .inl n :: z => some (0 ≤ n ∧ n ≤ 60000 ∧ kc + 1 ≤ mc ∧ ks + n.toNat ≤ ms, ls, .inr (.inr (.inl (some S.length))) :: z, S ++ [(q_a a 0, n.toNat, [])], q_z s S.length, kc + 1, ks + n.toNat)
    | _ => none
  | _ => none
/-- a switch: the first place whose number it is; else d -/
def q_sw (X : Nat → Prop) (x : Int) (d : Nat) : List Nat → Prop
  | k :: t :: r => (x = (k : Int) → X t) ∧ (x ≠ (k : Int) → q_sw X x d r)
  | _ => X d
/-- the locals of a call -/
def q_en : List qV → List (Option qV)
  | [] => []
  | v :: r => if q_cat v = 2 then some v :: none :: q_en r else some v :: q_en r
def q_pad (n : Nat) (l : List (Option qV)) : List (Option qV) := l ++ List.replicate (n - l.length) none
/-- a call's receiver: of class c -/
def q_rc (S : qS) (k : Nat) (c : Nat) (as : List qV) : Prop := match k with
  | 0 => True
  | _ => match as with
    | .inr (.inr (.inl (some r))) :: _ => q_tag S r = some (3 + c)
    | _ => False
def q_nx (X : qC → Prop) (n : Nat) (d : Option qD) : Prop := match d with
  | some (p, ls, st, S, s, kc, ks) => p ∧ X (n, ls, st, S, s, kc, ks)
  | none => False
/-- one step; X: what later steps come to. Places of a call: method, how many arguments with the receiver, kind (0 static, 1 of an object), class of the receiver, 1 if exceptions are caught here, then exception and place by pairs -/
def q_F (P : qP) (X : Nat → qC → qQ → Prop) (M : Nat) (c : qC) (Q : qQ) : Prop := match c with
  | (pc, ls, st, S, s, kc, ks) => match P.1 M pc with
    | none => False
    | some (len, i, v, a) => match i with
      | .goto _ => X M (q_a a 0, ls, st, S, s, kc, ks) Q
      | .ifCond cn _ => match st with
        | .inl x :: r => (q_cmp cn x 0 → X M (q_a a 0, ls, r, S, s, kc, ks) Q) ∧ (¬ q_cmp cn x 0 → X M (pc + 3, ls, r, S, s, kc, ks) Q)
        | _ => False
      | .if_icmp cn _ => match st with
        | .inl y :: .inl x :: r => (q_cmp cn x y → X M (q_a a 0, ls, r, S, s, kc, ks) Q) ∧ (¬ q_cmp cn x y → X M (pc + 3, ls, r, S, s, kc, ks) Q)
        | _ => False
      | .tableswitch _ _ _ _ => match st with
        | .inl x :: r => q_sw (fun t => X M (t, ls, r, S, s, kc, ks) Q) x (q_a a 0) a.tail
        | _ => False
      | .lookupswitch _ _ => match st with
        | .inl x :: r => q_sw (fun t => X M (t, ls, r, S, s, kc, ks) Q) x (q_a a 0) a.tail
        | _ => False
      | .ireturn => match st with
        | [.inl x] => q_kind (q_a a 0) x ∧ Q (.inl (some (.inl x))) S s
        | _ => False
      | .lreturn => match st with
        | [.inr (.inl x)] => Q (.inl (some (.inr (.inl x)))) S s
        | _ => False
      | .areturn => match st with
        | [.inr (.inr (.inl (some r)))] => Q (.inl (some (.inr (.inr (.inl (some r)))))) S s
        | _ => False
      | .return_ => match st with
        | [] => Q (.inl none) S s
        | _ => False
      | .athrow => False
      | .invokevirtual _ => q_ca X P M (pc, ls, st, S, s, kc, ks) Q a
      | .invokestatic _ => if q_a a 2 = 3
        then match st with
          | .inl y :: .inl x :: r => q_sum r ≤ 8 ∧ X M (pc + 3, ls, .inl (if x < y then y else x) :: r, S, s, kc, ks) Q
          | _ => False
        else q_ca X P M (pc, ls, st, S, s, kc, ks) Q a
      | .invokespecial _ => if q_a a 2 = 2
        then match st with
          | .inr (.inr (.inl (some _))) :: r => q_sum r ≤ 8 ∧ X M (pc + 3, ls, r, S, s, kc, ks) Q
          | _ => False
        else q_ca X P M (pc, ls, st, S, s, kc, ks) Q a
      | .new _ => if q_a a 2 = 1
        then (st = [] ∧ kc + 1 ≤ P.2.1 M ∧ ks + 6 ≤ P.2.2.1 M) ∧ Q (.inr (q_a a 0)) S s
        else q_nx (fun c' => X M c' Q) (pc + len) (q_sim3 (M = 0) P.2.2.2.2.1 P.2.2.2.2.2 (P.2.1 M) (P.2.2.1 M) i a ls st S s kc ks)
      | _ => q_nx (fun c' => X M c' Q) (pc + len) (((q_sim1 i v a ls st S s kc ks).or (q_sim2 i ls st S s kc ks)).or (q_sim3 (M = 0) P.2.2.2.2.1 P.2.2.2.2.2 (P.2.1 M) (P.2.2.1 M) i a ls st S s kc ks))
where
  q_ca (X : Nat → qC → qQ → Prop) (P : qP) (M : Nat) (c : qC) (Q : qQ) (a : List Nat) : Prop := match c with
    | (pc, ls, st, S, s, kc, ks) => q_a a 1 ≤ st.length ∧ q_sum (st.drop (q_a a 1)) ≤ 8 ∧ kc + P.2.1 (q_a a 0) ≤ P.2.1 M ∧ ks + P.2.2.1 (q_a a 0) ≤ P.2.2.1 M ∧
      q_rc S (q_a a 2) (q_a a 3) (st.take (q_a a 1)).reverse ∧
      (q_en (st.take (q_a a 1)).reverse).length ≤ P.2.2.2.1 (q_a a 0) ∧
      ∃ R : qQ, X (q_a a 0) (0, q_pad (P.2.2.2.1 (q_a a 0)) (q_en (st.take (q_a a 1)).reverse), [], S, s, 0, 0) R ∧
        (∀ (v : Option qV) (S' : qS) (s' : qM), R (.inl v) S' s' → X M (pc + 3, ls, v.toList ++ st.drop (q_a a 1), S', s', kc + P.2.1 (q_a a 0), ks + P.2.2.1 (q_a a 0)) Q) ∧
        (∀ (k : Nat) (S' : qS) (s' : qM), R (.inr k) S' s' → q_a a 4 = 1 ∧ q_hd (fun t => X M (t, ls, [], S', s', kc + P.2.1 (q_a a 0), ks + P.2.2.1 (q_a a 0)) Q) k (a.drop 5))
  /-- a handler's place behind its astore -/
  q_hd (X : Nat → Prop) (k : Nat) : List Nat → Prop
    | e :: t :: r => (k = e → X (t + 2)) ∧ (k ≠ e → q_hd X k r)
    | _ => False
end
section
/-! The least predicate, its induction, its rows. -/
theorem q_nx_mono {X Y : qC → Prop} {n : Nat} {d : Option qD} (h : ∀ c, X c → Y c) : q_nx X n d → q_nx Y n d := by
  intro H
  match d, H with
  | some (p, ls, st, S, s, kc, ks), H => exact ⟨H.1, h _ H.2⟩
theorem q_sw_mono {X Y : Nat → Prop} {x : Int} {d : Nat} (h : ∀ t, X t → Y t) : ∀ (l : List Nat), q_sw X x d l → q_sw Y x d l
  | [], H => h _ H
  | [_], H => h _ H
  | _ :: _ :: r, H => ⟨fun e => h _ (H.1 e), fun e => q_sw_mono h r (H.2 e)⟩
theorem q_hd_mono {X Y : Nat → Prop} {k : Nat} (h : ∀ t, X t → Y t) : ∀ (l : List Nat), q_F.q_hd X k l → q_F.q_hd Y k l
  | [], H => H
  | [_], H => H
  | _ :: _ :: r, H => ⟨fun e => h _ (H.1 e), fun e => q_hd_mono h r (H.2 e)⟩
theorem q_ca_mono {P : qP} {X Y : Nat → qC → qQ → Prop} {M : Nat} {c : qC} {Q Q' : qQ} {a : List Nat} (hx : ∀ c, X M c Q → Y M c Q') (hr : ∀ M c R, X M c R → Y M c R) : q_F.q_ca X P M c Q a → q_F.q_ca Y P M c Q' a := by
  obtain ⟨pc, ls, st, S, s, kc, ks⟩ := c
  intro H
  obtain ⟨h1, h2, h3, h4, h5, h9, R, h6, h7, h8⟩ := H
  exact ⟨h1, h2, h3, h4, h5, h9, R, hr _ _ _ h6, fun v S' s' hv => hx _ (h7 v S' s' hv), fun k S' s' hv => ⟨(h8 k S' s' hv).1, q_hd_mono (fun t => hx _) _ (h8 k S' s' hv).2⟩⟩
set_option maxHeartbeats 4000000 in
theorem q_F2 {P : qP} {X Y : Nat → qC → qQ → Prop} {M : Nat} {c : qC} {Q Q' : qQ} (hx : ∀ c, X M c Q → Y M c Q') (hr : ∀ M c R, X M c R → Y M c R) (hq : ∀ r S s, Q r S s → Q' r S s) : q_F P X M c Q → q_F P Y M c Q' := by
  obtain ⟨pc, ls, st, S, s, kc, ks⟩ := c
  intro H
  unfold q_F at H ⊢
  dsimp only at H ⊢
  cases hf : P.1 M pc with
  | none => rw [hf] at H; exact H
  | some z =>
    obtain ⟨len, i, v, a⟩ := z
    rw [hf] at H
    dsimp only at H ⊢
    cases i
    case goto => exact hx _ H
    case ifCond cn off =>
      match st, H with
      | .inl x :: r, H => exact ⟨fun e => hx _ (H.1 e), fun e => hx _ (H.2 e)⟩
    case if_icmp cn off =>
      match st, H with
      | .inl y :: .inl x :: r, H => exact ⟨fun e => hx _ (H.1 e), fun e => hx _ (H.2 e)⟩
    case tableswitch =>
      match st, H with
      | .inl x :: r, H => exact q_sw_mono (fun t => hx _) _ H
    case lookupswitch =>
      match st, H with
      | .inl x :: r, H => exact q_sw_mono (fun t => hx _) _ H
    case ireturn =>
      match st, H with
      | [.inl x], H => exact ⟨H.1, hq _ _ _ H.2⟩
    case lreturn =>
      match st, H with
      | [.inr (.inl x)], H => exact hq _ _ _ H
    case areturn =>
      match st, H with
      | [.inr (.inr (.inl (some r)))], H => exact hq _ _ _ H
    case return_ =>
      match st, H with
      | [], H => exact hq _ _ _ H
    case athrow => exact H
    case invokevirtual => exact q_ca_mono hx hr H
    case invokestatic =>
      by_cases h2 : q_a a 2 = 3
      · rw [if_pos h2] at H ⊢
        match st, H with
        | .inl y :: .inl x :: r, H => exact ⟨H.1, hx _ H.2⟩
      · rw [if_neg h2] at H ⊢
        exact q_ca_mono hx hr H
    case invokespecial =>
      by_cases h2 : q_a a 2 = 2
      · rw [if_pos h2] at H ⊢
        match st, H with
        | .inr (.inr (.inl (some _))) :: r, H => exact ⟨H.1, hx _ H.2⟩
      · rw [if_neg h2] at H ⊢
        exact q_ca_mono hx hr H
    case new =>
      by_cases h2 : q_a a 2 = 1
      · rw [if_pos h2] at H ⊢
        exact ⟨H.1, hq _ _ _ H.2⟩
      · rw [if_neg h2] at H ⊢
        exact q_nx_mono hx H
    all_goals exact q_nx_mono hx H
def q_W (P : qP) (M : Nat) (c : qC) (Q : qQ) : Prop := ∀ X : Nat → qC → qQ → Prop, (∀ M c Q, q_F P X M c Q → X M c Q) → X M c Q
theorem q_W_in {P : qP} {M : Nat} {c : qC} {Q : qQ} (h : q_F P (q_W P) M c Q) : q_W P M c Q := fun X hX => hX _ _ _ (q_F2 (fun c H => H X hX) (fun M c R H => H X hX) (fun _ _ _ H => H) h)
theorem q_W_ind {P : qP} {M : Nat} {c : qC} {Q : qQ} (Y : Nat → qC → qQ → Prop) (h : ∀ M c Q, q_F P Y M c Q → Y M c Q) (w : q_W P M c Q) : Y M c Q := w Y h
theorem q_W_post {P : qP} {M : Nat} {c : qC} {Q Q' : qQ} (w : q_W P M c Q) (hq : ∀ r S s, Q r S s → Q' r S s) : q_W P M c Q' :=
  q_W_ind (fun M c Q => ∀ Q' : qQ, (∀ r S s, Q r S s → Q' r S s) → q_W P M c Q') (fun M c Q H Q' hq => q_W_in (q_F2 (fun c H => H Q' hq) (fun M c R H => H R (fun _ _ _ h => h)) hq H)) w Q' hq
/-- n steps in a row, ending at the places of 'cut' (a step at least) -/
def q_G (P : qP) (cut : Nat → Bool) : Nat → Nat → qC → qQ → Prop
  | 0, M, c, Q => q_W P M c Q
  | n + 1, M, c, Q => if cut c.1 = true then q_W P M c Q else q_F P (fun M' c' Q' => (M' = M → q_G P cut n M c' Q') ∧ (M' ≠ M → q_W P M' c' Q')) M c Q
end
section
/-! Rules of the least predicate, an instruction each. -/
section QRules
variable {P : qP} {M pc p' len n v0 : Nat} {v : Int} {a : List Nat} {ls ls' : List (Option qV)} {st : List qV} {S : qS} {s : qM} {kc ks : Nat} {Q : qQ} {i : Instr}
def q_isC : Instr → Bool
  | .iconst _ | .bipush _ | .sipush _ | .ldc _ => true
  | _ => false
def q_isL : Instr → Bool
  | .lconst _ | .ldc2_w _ => true
  | _ => false
theorem w_const (hf : P.1 M pc = some (len, i, v, a)) (hi : q_isC i = true) (hn : pc + len = p') (k : q_W P M (p', ls, .inl v :: st, S, s, kc, ks) Q) : q_W P M (pc, ls, st, S, s, kc, ks) Q := by
  subst hn
  refine q_W_in ?_
  unfold q_F
  dsimp only
  rw [hf]
  cases i <;> first | (cases hi; done) | exact ⟨trivial, k⟩
theorem w_lconst (hf : P.1 M pc = some (len, i, v, a)) (hi : q_isL i = true) (hn : pc + len = p') (k : q_W P M (p', ls, .inr (.inl v) :: st, S, s, kc, ks) Q) : q_W P M (pc, ls, st, S, s, kc, ks) Q := by
  subst hn
  refine q_W_in ?_
  unfold q_F
  dsimp only
  rw [hf]
  cases i <;> first | (cases hi; done) | exact ⟨trivial, k⟩
def q_isI : Instr → Nat
  | .iload _ | .iload_n _ => 1
  | .lload _ | .lload_n _ => 2
  | .aload _ | .aload_n _ => 3
  | .istore _ | .istore_n _ => 4
  | .lstore _ | .lstore_n _ => 5
  | .astore _ | .astore_n _ => 6
  | _ => 0
theorem w_iload {x : Int} (hf : P.1 M pc = some (len, i, v, a)) (hi : q_isI i = 1) (hn : pc + len = p') (hl : q_ld ls (q_a a 0) = some (.inl x)) (k : q_W P M (p', ls, .inl x :: st, S, s, kc, ks) Q) : q_W P M (pc, ls, st, S, s, kc, ks) Q := by
  subst hn
  refine q_W_in ?_
  unfold q_F
  dsimp only
  rw [hf]
  cases i <;> first | (cases hi; done) | (simp only [q_sim1, q_sim2, q_sim3, hl, Option.or_some, Option.some_or]; exact ⟨trivial, k⟩)
theorem w_lload {x : Int} (hf : P.1 M pc = some (len, i, v, a)) (hi : q_isI i = 2) (hn : pc + len = p') (hl : q_ld ls (q_a a 0) = some (.inr (.inl x))) (k : q_W P M (p', ls, .inr (.inl x) :: st, S, s, kc, ks) Q) : q_W P M (pc, ls, st, S, s, kc, ks) Q := by
  subst hn
  refine q_W_in ?_
  unfold q_F
  dsimp only
  rw [hf]
  cases i <;> first | (cases hi; done) | (simp only [q_sim1, q_sim2, q_sim3, hl, Option.or_some, Option.some_or]; exact ⟨trivial, k⟩)
theorem w_aload {x : Nat} (hf : P.1 M pc = some (len, i, v, a)) (hi : q_isI i = 3) (hn : pc + len = p') (hl : q_ld ls (q_a a 0) = some (.inr (.inr (.inl (some x))))) (k : q_W P M (p', ls, .inr (.inr (.inl (some x))) :: st, S, s, kc, ks) Q) : q_W P M (pc, ls, st, S, s, kc, ks) Q := by
  subst hn
  refine q_W_in ?_
  unfold q_F
  dsimp only
  rw [hf]
  cases i <;> first | (cases hi; done) | (simp only [q_sim1, q_sim2, q_sim3, hl, Option.or_some, Option.some_or]; exact ⟨trivial, k⟩)
theorem w_xload (hf : P.1 M pc = some (len, i, v, a)) (hi : q_isI i = 3) (hn : pc + len = p') (hl : q_ld ls (q_a a 0) = some (.inr (.inr (.inr ())))) (k : q_W P M (p', ls, .inr (.inr (.inr ())) :: st, S, s, kc, ks) Q) : q_W P M (pc, ls, st, S, s, kc, ks) Q := by
  subst hn
  refine q_W_in ?_
  unfold q_F
  dsimp only
  rw [hf]
  cases i <;> first | (cases hi; done) | (simp only [q_sim1, q_sim2, q_sim3, hl, Option.or_some, Option.some_or]; exact ⟨trivial, k⟩)
theorem w_istore {x : Int} (hf : P.1 M pc = some (len, i, v, a)) (hi : q_isI i = 4) (hn : pc + len = p') (hb : q_a a 0 < ls.length) (hl : q_st ls (q_a a 0) (.inl x) = ls') (k : q_W P M (p', ls', st, S, s, kc, ks) Q) : q_W P M (pc, ls, .inl x :: st, S, s, kc, ks) Q := by
  subst hn; subst hl
  refine q_W_in ?_
  unfold q_F
  dsimp only
  rw [hf]
  cases i <;> first | (cases hi; done) | exact ⟨hb, k⟩
theorem w_lstore {x : Int} (hf : P.1 M pc = some (len, i, v, a)) (hi : q_isI i = 5) (hn : pc + len = p') (hb : q_a a 0 + 1 < ls.length) (hl : q_st2 ls (q_a a 0) (.inr (.inl x)) = ls') (k : q_W P M (p', ls', st, S, s, kc, ks) Q) : q_W P M (pc, ls, .inr (.inl x) :: st, S, s, kc, ks) Q := by
  subst hn; subst hl
  refine q_W_in ?_
  unfold q_F
  dsimp only
  rw [hf]
  cases i <;> first | (cases hi; done) | exact ⟨hb, k⟩
theorem w_astore {x : Nat} (hf : P.1 M pc = some (len, i, v, a)) (hi : q_isI i = 6) (hn : pc + len = p') (hb : q_a a 0 < ls.length) (hl : q_st ls (q_a a 0) (.inr (.inr (.inl (some x)))) = ls') (k : q_W P M (p', ls', st, S, s, kc, ks) Q) : q_W P M (pc, ls, .inr (.inr (.inl (some x))) :: st, S, s, kc, ks) Q := by
  subst hn; subst hl
  refine q_W_in ?_
  unfold q_F
  dsimp only
  rw [hf]
  cases i <;> first | (cases hi; done) | exact ⟨hb, k⟩
theorem w_iinc {x : Int} {j : Nat} {m : Int} (hf : P.1 M pc = some (len, .iinc j m, v, a)) (hn : pc + len = p') (hl : q_ld ls (q_a a 0) = some (.inl x)) (hb : q_a a 0 < ls.length) (hr : q_r32 (x + v)) (h2 : q_st ls (q_a a 0) (.inl (x + v)) = ls') (k : q_W P M (p', ls', st, S, s, kc, ks) Q) : q_W P M (pc, ls, st, S, s, kc, ks) Q := by
  subst hn; subst h2
  refine q_W_in ?_
  unfold q_F
  dsimp only
  rw [hf]
  simp only [q_sim1, q_sim2, q_sim3, hl, Option.or_some, Option.some_or]
  exact ⟨⟨hb, hr⟩, k⟩
theorem w_add {x y : Int} (hf : P.1 M pc = some (len, .iadd, v, a)) (hn : pc + len = p') (hr : q_r32 (x + y)) (k : q_W P M (p', ls, .inl (x + y) :: st, S, s, kc, ks) Q) : q_W P M (pc, ls, .inl y :: .inl x :: st, S, s, kc, ks) Q := by
  subst hn; refine q_W_in ?_; unfold q_F; dsimp only; rw [hf]; exact ⟨hr, k⟩
theorem w_sub {x y : Int} (hf : P.1 M pc = some (len, .isub, v, a)) (hn : pc + len = p') (hr : q_r32 (x - y)) (k : q_W P M (p', ls, .inl (x - y) :: st, S, s, kc, ks) Q) : q_W P M (pc, ls, .inl y :: .inl x :: st, S, s, kc, ks) Q := by
  subst hn; refine q_W_in ?_; unfold q_F; dsimp only; rw [hf]; exact ⟨hr, k⟩
theorem w_mul {x y : Int} (hf : P.1 M pc = some (len, .imul, v, a)) (hn : pc + len = p') (hr : q_r32 (x * y)) (k : q_W P M (p', ls, .inl (x * y) :: st, S, s, kc, ks) Q) : q_W P M (pc, ls, .inl y :: .inl x :: st, S, s, kc, ks) Q := by
  subst hn; refine q_W_in ?_; unfold q_F; dsimp only; rw [hf]; exact ⟨hr, k⟩
theorem w_div {x y : Int} (hf : P.1 M pc = some (len, .idiv, v, a)) (hn : pc + len = p') (hr : 0 < y) (k : q_W P M (p', ls, .inl (x.tdiv y) :: st, S, s, kc, ks) Q) : q_W P M (pc, ls, .inl y :: .inl x :: st, S, s, kc, ks) Q := by
  subst hn; refine q_W_in ?_; unfold q_F; dsimp only; rw [hf]; exact ⟨hr, k⟩
theorem w_rem {x y : Int} (hf : P.1 M pc = some (len, .irem, v, a)) (hn : pc + len = p') (hr : 0 < y) (k : q_W P M (p', ls, .inl (x.tmod y) :: st, S, s, kc, ks) Q) : q_W P M (pc, ls, .inl y :: .inl x :: st, S, s, kc, ks) Q := by
  subst hn; refine q_W_in ?_; unfold q_F; dsimp only; rw [hf]; exact ⟨hr, k⟩
theorem w_and {x y : Int} (hf : P.1 M pc = some (len, .iand, v, a)) (hn : pc + len = p') (k : q_W P M (p', ls, .inl (q_and x y) :: st, S, s, kc, ks) Q) : q_W P M (pc, ls, .inl y :: .inl x :: st, S, s, kc, ks) Q := by
  subst hn; refine q_W_in ?_; unfold q_F; dsimp only; rw [hf]; exact ⟨trivial, k⟩
theorem w_ladd {x y : Int} (hf : P.1 M pc = some (len, .ladd, v, a)) (hn : pc + len = p') (hr : q_r64 (x + y)) (k : q_W P M (p', ls, .inr (.inl (x + y)) :: st, S, s, kc, ks) Q) : q_W P M (pc, ls, .inr (.inl y) :: .inr (.inl x) :: st, S, s, kc, ks) Q := by
  subst hn; refine q_W_in ?_; unfold q_F; dsimp only; rw [hf]; exact ⟨hr, k⟩
theorem w_lmul {x y : Int} (hf : P.1 M pc = some (len, .lmul, v, a)) (hn : pc + len = p') (hr : q_r64 (x * y)) (k : q_W P M (p', ls, .inr (.inl (x * y)) :: st, S, s, kc, ks) Q) : q_W P M (pc, ls, .inr (.inl y) :: .inr (.inl x) :: st, S, s, kc, ks) Q := by
  subst hn; refine q_W_in ?_; unfold q_F; dsimp only; rw [hf]; exact ⟨hr, k⟩
theorem w_land {x y : Int} (hf : P.1 M pc = some (len, .land, v, a)) (hn : pc + len = p') (k : q_W P M (p', ls, .inr (.inl (q_land x y)) :: st, S, s, kc, ks) Q) : q_W P M (pc, ls, .inr (.inl y) :: .inr (.inl x) :: st, S, s, kc, ks) Q := by
  subst hn; refine q_W_in ?_; unfold q_F; dsimp only; rw [hf]; exact ⟨trivial, k⟩
theorem w_lor {x y : Int} (hf : P.1 M pc = some (len, .lor, v, a)) (hn : pc + len = p') (k : q_W P M (p', ls, .inr (.inl (q_lor x y)) :: st, S, s, kc, ks) Q) : q_W P M (pc, ls, .inr (.inl y) :: .inr (.inl x) :: st, S, s, kc, ks) Q := by
  subst hn; refine q_W_in ?_; unfold q_F; dsimp only; rw [hf]; exact ⟨trivial, k⟩
theorem w_lxor {x y : Int} (hf : P.1 M pc = some (len, .lxor, v, a)) (hn : pc + len = p') (k : q_W P M (p', ls, .inr (.inl (q_lxor x y)) :: st, S, s, kc, ks) Q) : q_W P M (pc, ls, .inr (.inl y) :: .inr (.inl x) :: st, S, s, kc, ks) Q := by
  subst hn; refine q_W_in ?_; unfold q_F; dsimp only; rw [hf]; exact ⟨trivial, k⟩
theorem w_lushr {x y : Int} (hf : P.1 M pc = some (len, .lushr, v, a)) (hn : pc + len = p') (k : q_W P M (p', ls, .inr (.inl (q_lushr x y)) :: st, S, s, kc, ks) Q) : q_W P M (pc, ls, .inl y :: .inr (.inl x) :: st, S, s, kc, ks) Q := by
  subst hn; refine q_W_in ?_; unfold q_F; dsimp only; rw [hf]; exact ⟨trivial, k⟩
theorem w_lshl {x y : Int} (hf : P.1 M pc = some (len, .lshl, v, a)) (hn : pc + len = p') (k : q_W P M (p', ls, .inr (.inl (q_lshl x y)) :: st, S, s, kc, ks) Q) : q_W P M (pc, ls, .inl y :: .inr (.inl x) :: st, S, s, kc, ks) Q := by
  subst hn; refine q_W_in ?_; unfold q_F; dsimp only; rw [hf]; exact ⟨trivial, k⟩
theorem w_lcmp {x y : Int} (hf : P.1 M pc = some (len, .lcmp, v, a)) (hn : pc + len = p') (k : q_W P M (p', ls, .inl (q_lcmp x y) :: st, S, s, kc, ks) Q) : q_W P M (pc, ls, .inr (.inl y) :: .inr (.inl x) :: st, S, s, kc, ks) Q := by
  subst hn; refine q_W_in ?_; unfold q_F; dsimp only; rw [hf]; exact ⟨trivial, k⟩
theorem w_i2l {x : Int} (hf : P.1 M pc = some (len, .i2l, v, a)) (hn : pc + len = p') (k : q_W P M (p', ls, .inr (.inl x) :: st, S, s, kc, ks) Q) : q_W P M (pc, ls, .inl x :: st, S, s, kc, ks) Q := by
  subst hn; refine q_W_in ?_; unfold q_F; dsimp only; rw [hf]; exact ⟨trivial, k⟩
theorem w_dup {w : qV} (hf : P.1 M pc = some (len, .dup, v, a)) (hn : pc + len = p') (hc : q_cat w = 1) (k : q_W P M (p', ls, w :: w :: st, S, s, kc, ks) Q) : q_W P M (pc, ls, w :: st, S, s, kc, ks) Q := by
  subst hn; refine q_W_in ?_; unfold q_F; dsimp only; rw [hf]; exact ⟨hc, k⟩
theorem w_dup2 {w u : qV} (hf : P.1 M pc = some (len, .dup2, v, a)) (hn : pc + len = p') (hc : q_cat w = 1) (hu : q_cat u = 1) (k : q_W P M (p', ls, w :: u :: w :: u :: st, S, s, kc, ks) Q) : q_W P M (pc, ls, w :: u :: st, S, s, kc, ks) Q := by
  subst hn; refine q_W_in ?_; unfold q_F; dsimp only; rw [hf]; exact ⟨⟨hc, hu⟩, k⟩
theorem w_pop {w : qV} (hf : P.1 M pc = some (len, .pop, v, a)) (hn : pc + len = p') (hc : q_cat w = 1) (k : q_W P M (p', ls, st, S, s, kc, ks) Q) : q_W P M (pc, ls, w :: st, S, s, kc, ks) Q := by
  subst hn; refine q_W_in ?_; unfold q_F; dsimp only; rw [hf]; exact ⟨hc, k⟩
theorem w_getI {r : Nat} {j : Int} (hf : P.1 M pc = some (len, .getfield n, v, a)) (hn : pc + len = p') (hκ : ¬ q_a a 2 = 1) (hj : ((q_a a 1 : Nat) : Int) = j) (ht : q_tag S r = some (3 + q_a a 0)) (k : q_W P M (p', ls, .inl (s r j) :: st, S, s, kc, ks) Q) : q_W P M (pc, ls, .inr (.inr (.inl (some r))) :: st, S, s, kc, ks) Q := by
  subst hn; subst hj; refine q_W_in ?_; unfold q_F; dsimp only; rw [hf]
  simp only [q_sim1, q_sim2, q_sim3, if_neg hκ, Option.none_or]
  exact ⟨ht, k⟩
theorem w_getR {r q : Nat} (hf : P.1 M pc = some (len, .getfield n, v, a)) (hn : pc + len = p') (hκ : q_a a 2 = 1) (ht : q_tag S r = some (3 + q_a a 0)) (hq : q_ref S r (q_a a 1) = some q) (k : q_W P M (p', ls, .inr (.inr (.inl (some q))) :: st, S, s, kc, ks) Q) : q_W P M (pc, ls, .inr (.inr (.inl (some r))) :: st, S, s, kc, ks) Q := by
  subst hn; refine q_W_in ?_; unfold q_F; dsimp only; rw [hf]
  simp only [q_sim1, q_sim2, q_sim3, if_pos hκ, Option.none_or, hq]
  exact ⟨⟨ht, by simp⟩, k⟩
theorem w_putI {r : Nat} {j x : Int} (hf : P.1 M pc = some (len, .putfield n, v, a)) (hn : pc + len = p') (hκ : ¬ q_a a 2 = 1) (hj : ((q_a a 1 : Nat) : Int) = j) (ht : q_tag S r = some (3 + q_a a 0)) (hz : q_kind (q_a a 2) x) (k : q_W P M (p', ls, st, S, q_up s r j x, kc, ks) Q) : q_W P M (pc, ls, .inl x :: .inr (.inr (.inl (some r))) :: st, S, s, kc, ks) Q := by
  subst hn; subst hj; refine q_W_in ?_; unfold q_F; dsimp only; rw [hf]
  simp only [q_sim1, q_sim2, q_sim3, if_neg hκ, Option.none_or]
  exact ⟨⟨ht, hz⟩, k⟩
theorem w_putR {r : Nat} {u : Option Nat} (hf : P.1 M pc = some (len, .putfield n, v, a)) (hn : pc + len = p') (hκ : q_a a 2 = 1) (ht : q_tag S r = some (3 + q_a a 0)) {S' : qS} (hS : q_pr S r (q_a a 1) u = S') (k : q_W P M (p', ls, st, S', s, kc, ks) Q) : q_W P M (pc, ls, .inr (.inr (.inl u)) :: .inr (.inr (.inl (some r))) :: st, S, s, kc, ks) Q := by
  subst hn; subst hS; refine q_W_in ?_; unfold q_F; dsimp only; rw [hf]
  simp only [q_sim1, q_sim2, q_sim3, if_pos hκ, Option.none_or]
  exact ⟨ht, k⟩
theorem w_alen {r : Nat} {t N : Nat} (hf : P.1 M pc = some (len, .arraylength, v, a)) (hn : pc + len = p') (ht : q_tag S r = some t) (ht3 : t < 3) (hN : q_len S r = N) (hb : N < 2147483648) (k : q_W P M (p', ls, .inl (N : Int) :: st, S, s, kc, ks) Q) : q_W P M (pc, ls, .inr (.inr (.inl (some r))) :: st, S, s, kc, ks) Q := by
  subst hn; subst hN; refine q_W_in ?_; unfold q_F; dsimp only; rw [hf]
  exact ⟨⟨⟨t, ht3, ht⟩, hb⟩, k⟩
theorem w_xlen (hf : P.1 M pc = some (len, .arraylength, v, a)) (hn : pc + len = p') (hM : M = 0) (k : q_W P M (p', ls, .inl (P.2.2.2.2.1 : Int) :: st, S, s, kc, ks) Q) : q_W P M (pc, ls, .inr (.inr (.inr ())) :: st, S, s, kc, ks) Q := by
  subst hn; refine q_W_in ?_; unfold q_F; dsimp only; rw [hf]
  exact ⟨hM, k⟩
theorem w_iald {r N : Nat} {j : Int} (hf : P.1 M pc = some (len, .iaload, v, a)) (hn : pc + len = p') (ht : q_tag S r = some 0) (hN : q_len S r = N) (h0 : 0 ≤ j) (h1 : j < N) (k : q_W P M (p', ls, .inl (s r j) :: st, S, s, kc, ks) Q) : q_W P M (pc, ls, .inl j :: .inr (.inr (.inl (some r))) :: st, S, s, kc, ks) Q := by
  subst hn; subst hN; refine q_W_in ?_; unfold q_F; dsimp only; rw [hf]
  exact ⟨⟨ht, h0, h1⟩, k⟩
theorem w_xald {j : Int} (hf : P.1 M pc = some (len, .iaload, v, a)) (hn : pc + len = p') (hM : M = 0) (h0 : 0 ≤ j) (h1 : j < P.2.2.2.2.1) (k : q_W P M (p', ls, .inl (P.2.2.2.2.2 j.toNat) :: st, S, s, kc, ks) Q) : q_W P M (pc, ls, .inl j :: .inr (.inr (.inr ())) :: st, S, s, kc, ks) Q := by
  subst hn; refine q_W_in ?_; unfold q_F; dsimp only; rw [hf]
  exact ⟨⟨hM, h0, h1⟩, k⟩
theorem w_bald {r N : Nat} {j : Int} (hf : P.1 M pc = some (len, .baload, v, a)) (hn : pc + len = p') (ht : q_tag S r = some 1) (hN : q_len S r = N) (h0 : 0 ≤ j) (h1 : j < N) (k : q_W P M (p', ls, .inl (s r j) :: st, S, s, kc, ks) Q) : q_W P M (pc, ls, .inl j :: .inr (.inr (.inl (some r))) :: st, S, s, kc, ks) Q := by
  subst hn; subst hN; refine q_W_in ?_; unfold q_F; dsimp only; rw [hf]
  exact ⟨⟨ht, h0, h1⟩, k⟩
theorem w_lald {r N : Nat} {j : Int} (hf : P.1 M pc = some (len, .laload, v, a)) (hn : pc + len = p') (ht : q_tag S r = some 2) (hN : q_len S r = N) (h0 : 0 ≤ j) (h1 : j < N) (k : q_W P M (p', ls, .inr (.inl (s r j)) :: st, S, s, kc, ks) Q) : q_W P M (pc, ls, .inl j :: .inr (.inr (.inl (some r))) :: st, S, s, kc, ks) Q := by
  subst hn; subst hN; refine q_W_in ?_; unfold q_F; dsimp only; rw [hf]
  exact ⟨⟨ht, h0, h1⟩, k⟩
theorem w_iast {r N : Nat} {j x : Int} (hf : P.1 M pc = some (len, .iastore, v, a)) (hn : pc + len = p') (ht : q_tag S r = some 0) (hN : q_len S r = N) (h0 : 0 ≤ j) (h1 : j < N) (k : q_W P M (p', ls, st, S, q_up s r j x, kc, ks) Q) : q_W P M (pc, ls, .inl x :: .inl j :: .inr (.inr (.inl (some r))) :: st, S, s, kc, ks) Q := by
  subst hn; subst hN; refine q_W_in ?_; unfold q_F; dsimp only; rw [hf]
  exact ⟨⟨ht, h0, h1⟩, k⟩
theorem w_bast {r N : Nat} {j x : Int} (hf : P.1 M pc = some (len, .bastore, v, a)) (hn : pc + len = p') (ht : q_tag S r = some 1) (hN : q_len S r = N) (h0 : 0 ≤ j) (h1 : j < N) (h2 : 0 ≤ x) (h3 : x ≤ 1) (k : q_W P M (p', ls, st, S, q_up s r j x, kc, ks) Q) : q_W P M (pc, ls, .inl x :: .inl j :: .inr (.inr (.inl (some r))) :: st, S, s, kc, ks) Q := by
  subst hn; subst hN; refine q_W_in ?_; unfold q_F; dsimp only; rw [hf]
  exact ⟨⟨ht, h0, h1, h2, h3⟩, k⟩
theorem w_last {r N : Nat} {j x : Int} (hf : P.1 M pc = some (len, .lastore, v, a)) (hn : pc + len = p') (ht : q_tag S r = some 2) (hN : q_len S r = N) (h0 : 0 ≤ j) (h1 : j < N) (k : q_W P M (p', ls, st, S, q_up s r j x, kc, ks) Q) : q_W P M (pc, ls, .inr (.inl x) :: .inl j :: .inr (.inr (.inl (some r))) :: st, S, s, kc, ks) Q := by
  subst hn; subst hN; refine q_W_in ?_; unfold q_F; dsimp only; rw [hf]
  exact ⟨⟨ht, h0, h1⟩, k⟩
theorem w_goto {off : Int} (hf : P.1 M pc = some (len, .goto off, v, a)) (hn : q_a a 0 = p') (k : q_W P M (p', ls, st, S, s, kc, ks) Q) : q_W P M (pc, ls, st, S, s, kc, ks) Q := by
  subst hn; refine q_W_in ?_; unfold q_F; dsimp only; rw [hf]; exact k
theorem w_if {x : Int} {cn : Jvm.ClassFile.Cond} {off : Int} {t e : Nat} (hf : P.1 M pc = some (len, .ifCond cn off, v, a)) (hn : q_a a 0 = t) (he : pc + 3 = e) (k1 : q_cmp cn x 0 → q_W P M (t, ls, st, S, s, kc, ks) Q) (k2 : ¬ q_cmp cn x 0 → q_W P M (e, ls, st, S, s, kc, ks) Q) : q_W P M (pc, ls, .inl x :: st, S, s, kc, ks) Q := by
  subst hn; subst he; refine q_W_in ?_; unfold q_F; dsimp only; rw [hf]; exact ⟨k1, k2⟩
theorem w_icmp {x y : Int} {cn : Jvm.ClassFile.Cond} {off : Int} {t e : Nat} (hf : P.1 M pc = some (len, .if_icmp cn off, v, a)) (hn : q_a a 0 = t) (he : pc + 3 = e) (k1 : q_cmp cn x y → q_W P M (t, ls, st, S, s, kc, ks) Q) (k2 : ¬ q_cmp cn x y → q_W P M (e, ls, st, S, s, kc, ks) Q) : q_W P M (pc, ls, .inl y :: .inl x :: st, S, s, kc, ks) Q := by
  subst hn; subst he; refine q_W_in ?_; unfold q_F; dsimp only; rw [hf]; exact ⟨k1, k2⟩
theorem w_tsw {x d lo hi : Int} {offs : Array Int} (hf : P.1 M pc = some (len, .tableswitch d lo hi offs, v, a)) (k : q_sw (fun t => q_W P M (t, ls, st, S, s, kc, ks) Q) x (q_a a 0) a.tail) : q_W P M (pc, ls, .inl x :: st, S, s, kc, ks) Q := by
  refine q_W_in ?_; unfold q_F; dsimp only; rw [hf]; exact k
theorem w_lsw {x d : Int} {ps : Array (Int × Int)} (hf : P.1 M pc = some (len, .lookupswitch d ps, v, a)) (k : q_sw (fun t => q_W P M (t, ls, st, S, s, kc, ks) Q) x (q_a a 0) a.tail) : q_W P M (pc, ls, .inl x :: st, S, s, kc, ks) Q := by
  refine q_W_in ?_; unfold q_F; dsimp only; rw [hf]; exact k
theorem w_iret {x : Int} (hf : P.1 M pc = some (len, .ireturn, v, a)) (hz : q_kind (q_a a 0) x) (k : Q (.inl (some (.inl x))) S s) : q_W P M (pc, ls, [.inl x], S, s, kc, ks) Q := by
  refine q_W_in ?_; unfold q_F; dsimp only; rw [hf]; exact ⟨hz, k⟩
theorem w_lret {x : Int} (hf : P.1 M pc = some (len, .lreturn, v, a)) (k : Q (.inl (some (.inr (.inl x)))) S s) : q_W P M (pc, ls, [.inr (.inl x)], S, s, kc, ks) Q := by
  refine q_W_in ?_; unfold q_F; dsimp only; rw [hf]; exact k
theorem w_aret {r : Nat} (hf : P.1 M pc = some (len, .areturn, v, a)) (k : Q (.inl (some (.inr (.inr (.inl (some r)))))) S s) : q_W P M (pc, ls, [.inr (.inr (.inl (some r)))], S, s, kc, ks) Q := by
  refine q_W_in ?_; unfold q_F; dsimp only; rw [hf]; exact k
theorem w_vret (hf : P.1 M pc = some (len, .return_, v, a)) (k : Q (.inl none) S s) : q_W P M (pc, ls, [], S, s, kc, ks) Q := by
  refine q_W_in ?_; unfold q_F; dsimp only; rw [hf]; exact k
theorem w_throw (hf : P.1 M pc = some (len, .new n, v, a)) (h2 : q_a a 2 = 1) (hc : kc + 1 ≤ P.2.1 M) (hs : ks + 6 ≤ P.2.2.1 M) (k : Q (.inr (q_a a 0)) S s) : q_W P M (pc, ls, [], S, s, kc, ks) Q := by
  refine q_W_in ?_; unfold q_F; dsimp only; rw [hf]; dsimp only; rw [if_pos h2]; exact ⟨⟨rfl, hc, hs⟩, k⟩
theorem w_new {S' : qS} {r : Nat} (hf : P.1 M pc = some (len, .new n, v, a)) (hn : pc + len = p') (h2 : ¬ q_a a 2 = 1) (hc : kc + 1 ≤ P.2.1 M) (hs : ks + q_a a 1 ≤ P.2.2.1 M) (hr : S.length = r) (hS : S ++ [(3 + q_a a 0, q_a a 1, List.replicate (q_a a 1) none)] = S') (k : q_W P M (p', ls, .inr (.inr (.inl (some r))) :: st, S', q_z s r, kc + 1, ks + q_a a 1) Q) : q_W P M (pc, ls, st, S, s, kc, ks) Q := by
  subst hn; subst hr; subst hS; refine q_W_in ?_; unfold q_F; dsimp only; rw [hf]; dsimp only; rw [if_neg h2]; exact ⟨⟨hc, hs⟩, k⟩
theorem w_newa {S' : qS} {r N : Nat} {t : ArrayType} (hf : P.1 M pc = some (len, .newarray t, v, a)) (hn : pc + len = p') (hN : N ≤ 60000) (hc : kc + 1 ≤ P.2.1 M) (hs : ks + N ≤ P.2.2.1 M) (hr : S.length = r) (hS : S ++ [(q_a a 0, N, [])] = S') (k : q_W P M (p', ls, .inr (.inr (.inl (some r))) :: st, S', q_z s r, kc + 1, ks + N) Q) : q_W P M (pc, ls, .inl (N : Int) :: st, S, s, kc, ks) Q := by
  subst hn; subst hr; subst hS; refine q_W_in ?_; unfold q_F; dsimp only; rw [hf]
  exact ⟨⟨by omega, by omega, hc, by simpa using hs⟩, k⟩
theorem w_obj {r : Nat} (hf : P.1 M pc = some (len, .invokespecial n, v, a)) (hn : pc + 3 = p') (h2 : q_a a 2 = 2) (hs : q_sum st ≤ 8) (k : q_W P M (p', ls, st, S, s, kc, ks) Q) : q_W P M (pc, ls, .inr (.inr (.inl (some r))) :: st, S, s, kc, ks) Q := by
  subst hn; refine q_W_in ?_; unfold q_F; dsimp only; rw [hf]; dsimp only; rw [if_pos h2]; exact ⟨hs, k⟩
theorem w_max {x y : Int} (hf : P.1 M pc = some (len, .invokestatic n, v, a)) (hn : pc + 3 = p') (h2 : q_a a 2 = 3) (hs : q_sum st ≤ 8) (k : q_W P M (p', ls, .inl (if x < y then y else x) :: st, S, s, kc, ks) Q) : q_W P M (pc, ls, .inl y :: .inl x :: st, S, s, kc, ks) Q := by
  subst hn; refine q_W_in ?_; unfold q_F; dsimp only; rw [hf]; dsimp only; rw [if_pos h2]; exact ⟨hs, k⟩
def q_isV : Instr → Bool
  | .invokevirtual _ | .invokespecial _ | .invokestatic _ => true
  | _ => false
/-- a call that doesn't throw: st is the arguments, last first, upon rest -/
theorem w_call {M' : Nat} {as rest : List qV} {R : qQ} (hf : P.1 M pc = some (len, i, v, a)) (hi : q_isV i = true) (h2 : q_a a 2 < 2) (hM : q_a a 0 = M') (hn : pc + 3 = p') (h1 : q_a a 1 ≤ st.length) (ht : (st.take (q_a a 1)).reverse = as) (hd : st.drop (q_a a 1) = rest) (hs : q_sum rest ≤ 8)
    (hc : kc + P.2.1 M' ≤ P.2.1 M) (hk : ks + P.2.2.1 M' ≤ P.2.2.1 M) (hr : q_rc S (q_a a 2) (q_a a 3) as) (hl : (q_en as).length ≤ P.2.2.2.1 M')
    (hR : q_W P M' (0, q_pad (P.2.2.2.1 M') (q_en as), [], S, s, 0, 0) R) (hno : ∀ k S' s', ¬ R (.inr k) S' s')
    (k : ∀ (w : Option qV) (S' : qS) (s' : qM), R (.inl w) S' s' → q_W P M (p', ls, w.toList ++ rest, S', s', kc + P.2.1 M', ks + P.2.2.1 M') Q) : q_W P M (pc, ls, st, S, s, kc, ks) Q := by
  subst hn; subst hM; subst ht; subst hd
  refine q_W_in ?_
  unfold q_F
  dsimp only
  rw [hf]
  have h : q_F.q_ca (q_W P) P M (pc, ls, st, S, s, kc, ks) Q a := ⟨h1, hs, hc, hk, hr, hl, R, hR, k, fun k S' s' h => absurd h (hno k S' s')⟩
  cases i <;> first | (cases hi; done) | exact h | (dsimp only; rw [if_neg (by omega)]; exact h)
end QRules
end
section
/-! Locals of the pure machine. -/
theorem q_ld_iff {ls : List (Option qV)} {i : Nat} {v : qV} : q_ld ls i = some v ↔ ls[i]? = some (some v) := by
  unfold q_ld
  split
  · rename_i w h
    rw [h]
    simp
  · rename_i h
    constructor
    · intro e; cases e
    · intro e; exact absurd e (h v)
theorem q_kl_length (lp : List (Option qV)) (i : Nat) : (q_kl lp i).length = lp.length := by
  unfold q_kl
  split
  · rfl
  · split
    · simp
    · rfl
theorem q_kl_get {lp : List (Option qV)} {i j : Nat} {u : qV} (h : (q_kl lp i)[j]? = some (some u)) : lp[j]? = some (some u) ∧ ¬ (j + 1 = i ∧ q_cat u = 2) := by
  unfold q_kl at h
  split at h
  · exact ⟨h, fun e => by omega⟩
  · rename_i k
    split at h
    · rename_i w hw
      by_cases e : j = k
      · subst e
        rw [List.getElem?_set_self' ] at h
        cases hl : lp[j]? with
        | none => rw [hl] at h; simp at h
        | some z => rw [hl] at h; simp at h
      · rw [List.getElem?_set_ne (fun q => e q.symm)] at h
        exact ⟨h, fun q => e (by omega)⟩
    · rename_i hw
      refine ⟨h, fun q => ?_⟩
      obtain ⟨e, hc⟩ := q
      have e : j = k := by omega
      subst e
      rcases u with x | x | (_ | r) | u
      · cases hc
      · exact hw x (q_ld_iff.mpr h)
      · cases hc
      · cases hc
      · cases hc
theorem q_st_length (lp : List (Option qV)) (i : Nat) (v : qV) : (q_st lp i v).length = lp.length := by rw [q_st, List.length_set, q_kl_length]
theorem q_st2_length (lp : List (Option qV)) (i : Nat) (v : qV) : (q_st2 lp i v).length = lp.length := by rw [q_st2, List.length_set, List.length_set, q_kl_length]
theorem q_st_get {lp : List (Option qV)} {i j : Nat} {v u : qV} (h : (q_st lp i v)[j]? = some (some u)) : (j = i ∧ u = v) ∨ (j ≠ i ∧ lp[j]? = some (some u) ∧ ¬ (j + 1 = i ∧ q_cat u = 2)) := by
  unfold q_st at h
  by_cases e : j = i
  · subst e
    rw [List.getElem?_set_self'] at h
    cases hl : (q_kl lp j)[j]? with
    | none => rw [hl] at h; simp at h
    | some z => rw [hl] at h; simp at h; exact Or.inl ⟨rfl, h.symm⟩
  · rw [List.getElem?_set_ne (fun q => e q.symm)] at h
    exact Or.inr ⟨e, q_kl_get h⟩
theorem q_st2_get {lp : List (Option qV)} {i j : Nat} {v u : qV} (h : (q_st2 lp i v)[j]? = some (some u)) : (j = i ∧ u = v) ∨ (j ≠ i ∧ j ≠ i + 1 ∧ lp[j]? = some (some u) ∧ ¬ (j + 1 = i ∧ q_cat u = 2)) := by
  unfold q_st2 at h
  by_cases e : j = i + 1
  · subst e
    rw [List.getElem?_set_self'] at h
    cases hl : ((q_kl lp i).set i (some v))[i + 1]? with
    | none => rw [hl] at h; simp at h
    | some z => rw [hl] at h; simp at h
  · rw [List.getElem?_set_ne (fun q => e q.symm)] at h
    rcases q_st_get h with h | ⟨h1, h2⟩
    · exact Or.inl h
    · exact Or.inr ⟨h1, e, h2⟩
theorem q_st_put {lp : List (Option qV)} {i j : Nat} {v u : qV} (h1 : j ≠ i) (h2 : lp[j]? = some (some u)) (h3 : ¬ (j + 1 = i ∧ q_cat u = 2)) : (q_st lp i v)[j]? = some (some u) := by
  unfold q_st
  rw [List.getElem?_set_ne (fun q => h1 q.symm)]
  unfold q_kl
  split
  · exact h2
  · rename_i k
    split
    · rename_i w hw
      by_cases e : j = k
      · subst e
        rw [q_ld_iff] at hw
        rw [hw] at h2
        have e2 : u = .inr (.inl w) := by simpa using h2.symm
        exact absurd ⟨rfl, by rw [e2]; rfl⟩ h3
      · rw [List.getElem?_set_ne (fun q => e q.symm)]
        exact h2
    · exact h2
end
section
/-! What locals hold that are read no more may be forgotten. -/
def q_leL : List (Option qV) → List (Option qV) → Prop
  | [], [] => True
  | none :: a, _ :: b => q_leL a b
  | some v :: a, w :: b => w = some v ∧ q_leL a b
  | _, _ => False
def q_le (a b : List (Option qV)) : Prop := a.length = b.length ∧ ∀ (i : Nat) (v : qV), a[i]? = some (some v) → b[i]? = some (some v)
theorem q_le_of : ∀ {a b : List (Option qV)}, q_leL a b → q_le a b
  | [], [], _ => ⟨rfl, fun i v h => by simp at h⟩
  | [], _ :: _, h => h.elim
  | none :: a, [], h => h.elim
  | some v :: a, [], h => h.elim
  | none :: a, w :: b, h => by
    have h : q_leL a b := h
    obtain ⟨h1, h2⟩ := q_le_of h
    refine ⟨by simp [h1], fun i v hi => ?_⟩
    cases i with
    | zero => simp at hi
    | succ i => simpa using h2 i v (by simpa using hi)
  | some x :: a, w :: b, h => by
    obtain ⟨h0, h⟩ : w = some x ∧ q_leL a b := h
    obtain ⟨h1, h2⟩ := q_le_of h
    refine ⟨by simp [h1], fun i v hi => ?_⟩
    cases i with
    | zero => simp at hi; subst hi; simp [h0]
    | succ i => simpa using h2 i v (by simpa using hi)
theorem q_le_n {a b : List (Option qV)} {w : Option qV} (h : q_leL a b) : q_leL (none :: a) (w :: b) := h
theorem q_le_s {a b : List (Option qV)} {v : qV} (h : q_leL a b) : q_leL (some v :: a) (some v :: b) := ⟨rfl, h⟩
theorem q_le_ld {a b : List (Option qV)} (h : q_le a b) {i : Nat} {v : qV} (hv : q_ld a i = some v) : q_ld b i = some v := q_ld_iff.mpr (h.2 i v (q_ld_iff.mp hv))
theorem q_le_st {a b : List (Option qV)} (h : q_le a b) (i : Nat) (v : qV) : q_le (q_st a i v) (q_st b i v) := by
  refine ⟨by rw [q_st_length, q_st_length]; exact h.1, fun j u hu => ?_⟩
  have hj : j < (q_st a i v).length := (List.getElem?_eq_some_iff.mp hu).1
  rw [q_st_length, h.1] at hj
  rcases q_st_get hu with ⟨rfl, rfl⟩ | ⟨h1, h2, h3⟩
  · unfold q_st
    rw [List.getElem?_set_self (by rw [q_kl_length]; exact hj)]
  · exact q_st_put h1 (h.2 j u h2) h3
theorem q_le_st2 {a b : List (Option qV)} (h : q_le a b) (i : Nat) (v : qV) : q_le (q_st2 a i v) (q_st2 b i v) := by
  obtain ⟨h1, h2⟩ := q_le_st h i v
  refine ⟨by unfold q_st2; unfold q_st at h1; simp at h1 ⊢; exact h1, fun j u hu => ?_⟩
  have e1 : q_st2 a i v = (q_st a i v).set (i + 1) none := rfl
  have e2 : q_st2 b i v = (q_st b i v).set (i + 1) none := rfl
  rw [e1] at hu
  rw [e2]
  by_cases e : j = i + 1
  · subst e
    rw [List.getElem?_set_self'] at hu
    cases hl : (q_st a i v)[i + 1]? with
    | none => rw [hl] at hu; simp at hu
    | some z => rw [hl] at hu; simp at hu
  · rw [List.getElem?_set_ne (fun q => e q.symm)] at hu ⊢
    exact h2 j u hu
def q_dle (d d' : Option qD) : Prop := match d with
  | none => True
  | some (p, l1, st, S, s, kc, ks) => ∃ (p' : Prop) (l2 : List (Option qV)), d' = some (p', l2, st, S, s, kc, ks) ∧ (p → p') ∧ q_le l1 l2
theorem q_nx_le {X Y : qC → Prop} {n : Nat} {d d' : Option qD} (h : q_dle d d') (k : ∀ l1 l2 st S s kc ks, q_le l1 l2 → X (n, l1, st, S, s, kc, ks) → Y (n, l2, st, S, s, kc, ks)) : q_nx X n d → q_nx Y n d' := by
  intro H
  match d, H, h with
  | some (p, l1, st, S, s, kc, ks), H, h =>
    obtain ⟨p', l2, e, hp, hl⟩ := h
    rw [e]
    exact ⟨hp H.1, k l1 l2 st S s kc ks hl H.2⟩
theorem q_dle_some {p p' : Prop} {l1 l2 : List (Option qV)} {st : List qV} {S : qS} {s : qM} {kc ks : Nat} (hp : p → p') (hl : q_le l1 l2) : q_dle (some (p, l1, st, S, s, kc, ks)) (some (p', l2, st, S, s, kc, ks)) := ⟨p', l2, rfl, hp, hl⟩
set_option maxHeartbeats 4000000 in
theorem q_sim1_le {a b : List (Option qV)} (h : q_le a b) {i : Instr} {v : Int} {as : List Nat} {st : List qV} {S : qS} {s : qM} {kc ks : Nat} : q_dle (q_sim1 i v as a st S s kc ks) (q_sim1 i v as b st S s kc ks) := by
  cases i
  case iload => 
    simp only [q_sim1]
    split
    · rename_i x hx; rw [q_le_ld h hx]; exact q_dle_some id h
    · trivial
  case iload_n => 
    simp only [q_sim1]
    split
    · rename_i x hx; rw [q_le_ld h hx]; exact q_dle_some id h
    · trivial
  case lload => 
    simp only [q_sim1]
    split
    · rename_i x hx; rw [q_le_ld h hx]; exact q_dle_some id h
    · trivial
  case lload_n => 
    simp only [q_sim1]
    split
    · rename_i x hx; rw [q_le_ld h hx]; exact q_dle_some id h
    · trivial
  case aload => 
    simp only [q_sim1]
    split
    · rename_i x hx; rw [q_le_ld h hx]; exact q_dle_some id h
    · rename_i x hx; rw [q_le_ld h hx]; exact q_dle_some id h
    · trivial
  case aload_n => 
    simp only [q_sim1]
    split
    · rename_i x hx; rw [q_le_ld h hx]; exact q_dle_some id h
    · rename_i x hx; rw [q_le_ld h hx]; exact q_dle_some id h
    · trivial
  case iinc =>
    simp only [q_sim1]
    split
    · rename_i x hx; rw [q_le_ld h hx]; exact q_dle_some (fun p => ⟨by rw [← h.1]; exact p.1, p.2⟩) (q_le_st h _ _)
    · trivial
  case istore =>
    match st with
    | .inl x :: r => exact q_dle_some (fun p => by rw [← h.1]; exact p) (q_le_st h _ _)
    | [] => trivial
    | .inr x :: r => trivial
  case istore_n =>
    match st with
    | .inl x :: r => exact q_dle_some (fun p => by rw [← h.1]; exact p) (q_le_st h _ _)
    | [] => trivial
    | .inr x :: r => trivial
  case lstore =>
    match st with
    | .inr (.inl x) :: r => exact q_dle_some (fun p => by rw [← h.1]; exact p) (q_le_st2 h _ _)
    | [] => trivial
    | .inl x :: r => trivial
    | .inr (.inr x) :: r => trivial
  case lstore_n =>
    match st with
    | .inr (.inl x) :: r => exact q_dle_some (fun p => by rw [← h.1]; exact p) (q_le_st2 h _ _)
    | [] => trivial
    | .inl x :: r => trivial
    | .inr (.inr x) :: r => trivial
  case astore =>
    match st with
    | .inr (.inr (.inl (some x))) :: r => exact q_dle_some (fun p => by rw [← h.1]; exact p) (q_le_st h _ _)
    | [] => trivial
    | .inl x :: r => trivial
    | .inr (.inl x) :: r => trivial
    | .inr (.inr (.inl none)) :: r => trivial
    | .inr (.inr (.inr x)) :: r => trivial
  case astore_n =>
    match st with
    | .inr (.inr (.inl (some x))) :: r => exact q_dle_some (fun p => by rw [← h.1]; exact p) (q_le_st h _ _)
    | [] => trivial
    | .inl x :: r => trivial
    | .inr (.inl x) :: r => trivial
    | .inr (.inr (.inl none)) :: r => trivial
    | .inr (.inr (.inr x)) :: r => trivial
  all_goals first | trivial | exact q_dle_some id h
set_option maxHeartbeats 4000000 in
theorem q_sim2_le {a b : List (Option qV)} (h : q_le a b) {i : Instr} {st : List qV} {S : qS} {s : qM} {kc ks : Nat} : q_dle (q_sim2 i a st S s kc ks) (q_sim2 i b st S s kc ks) := by
  cases i <;> first
    | trivial
    | (simp only [q_sim2]; split <;> first | trivial | exact q_dle_some id h)
set_option maxHeartbeats 4000000 in
theorem q_sim3_le {a b : List (Option qV)} (h : q_le a b) {il : Prop} {xl : Nat} {xs : Nat → Int} {mc ms : Nat} {i : Instr} {as : List Nat} {st : List qV} {S : qS} {s : qM} {kc ks : Nat} : q_dle (q_sim3 il xl xs mc ms i as a st S s kc ks) (q_sim3 il xl xs mc ms i as b st S s kc ks) := by
  cases i <;> first
    | trivial
    | exact q_dle_some id h
    | (simp only [q_sim3]; split <;> first | trivial | exact q_dle_some id h | (split <;> first | trivial | exact q_dle_some id h))
theorem q_or_le {a b : List (Option qV)} (h : q_le a b) {i : Instr} {v : Int} {as : List Nat} {il : Prop} {xl : Nat} {xs : Nat → Int} {mc ms : Nat} {st : List qV} {S : qS} {s : qM} {kc ks : Nat} :
    q_dle (((q_sim1 i v as a st S s kc ks).or (q_sim2 i a st S s kc ks)).or (q_sim3 il xl xs mc ms i as a st S s kc ks)) (((q_sim1 i v as b st S s kc ks).or (q_sim2 i b st S s kc ks)).or (q_sim3 il xl xs mc ms i as b st S s kc ks)) := by
  have h1 := q_sim1_le h (i := i) (v := v) (as := as) (st := st) (S := S) (s := s) (kc := kc) (ks := ks)
  have h2 := q_sim2_le h (i := i) (st := st) (S := S) (s := s) (kc := kc) (ks := ks)
  have h3 := q_sim3_le h (il := il) (xl := xl) (xs := xs) (mc := mc) (ms := ms) (i := i) (as := as) (st := st) (S := S) (s := s) (kc := kc) (ks := ks)
  have key : ∀ x, (q_sim1 i v as b st S s kc ks = none ∨ ((q_sim2 i x st S s kc ks = none) ∧ q_sim3 il xl xs mc ms i as x st S s kc ks = none)) := by
    intro x
    cases i <;> first | (left; rfl) | (right; exact ⟨rfl, rfl⟩)
  have key2 : ∀ x y, (q_sim2 i y st S s kc ks = none ∨ q_sim3 il xl xs mc ms i as x st S s kc ks = none) := by
    intro x y
    cases i <;> first | (left; rfl) | (right; rfl)
  cases e1 : q_sim1 i v as a st S s kc ks with
  | some d =>
    rw [e1] at h1
    obtain ⟨p, l1, st1, S1, s1, k1, k2⟩ := d
    obtain ⟨p', l2, e2, h4⟩ := h1
    rw [e2]
    exact ⟨p', l2, rfl, h4⟩
  | none =>
    rw [Option.none_or]
    rcases key a with e2 | ⟨e2, e3⟩
    · rw [e2, Option.none_or]
      cases e5 : q_sim2 i a st S s kc ks with
      | some d =>
        rw [e5] at h2
        obtain ⟨p, l1, st1, S1, s1, k1, k2⟩ := d
        obtain ⟨p', l2, e6, h4⟩ := h2
        rw [e6]
        exact ⟨p', l2, rfl, h4⟩
      | none =>
        rw [Option.none_or]
        rcases key2 a b with e6 | e6
        · rw [e6, Option.none_or]; exact h3
        · rw [e6]; trivial
    · rw [e2, e3]; trivial
set_option maxHeartbeats 4000000 in
theorem q_W_le {P : qP} {M : Nat} {pc : Nat} {a b : List (Option qV)} {st : List qV} {S : qS} {s : qM} {kc ks : Nat} {Q : qQ} (h : q_le a b) (w : q_W P M (pc, a, st, S, s, kc, ks) Q) : q_W P M (pc, b, st, S, s, kc, ks) Q := by
  refine q_W_ind (P := P) (fun M c Q => ∀ b, q_le c.2.1 b → q_W P M (c.1, b, c.2.2) Q) (fun M c Q H b hb => ?_) w b h
  obtain ⟨pc, a, st, S, s, kc, ks⟩ := c
  refine q_W_in ?_
  unfold q_F at H ⊢
  dsimp only at H hb ⊢
  have call : ∀ as, q_F.q_ca (fun M c Q => ∀ b, q_le c.2.1 b → q_W P M (c.1, b, c.2.2) Q) P M (pc, a, st, S, s, kc, ks) Q as → q_F.q_ca (q_W P) P M (pc, b, st, S, s, kc, ks) Q as := by
    intro as H
    obtain ⟨h1, h2, h3, h4, h5, h9, R, h6, h7, h8⟩ := H
    exact ⟨h1, h2, h3, h4, h5, h9, R, h6 _ ⟨rfl, fun _ _ h => h⟩, fun v S' s' hv => h7 v S' s' hv b hb, fun k S' s' hv => ⟨(h8 k S' s' hv).1, q_hd_mono (fun t ht => ht b hb) _ (h8 k S' s' hv).2⟩⟩
  cases hf : P.1 M pc with
  | none => rw [hf] at H; exact H
  | some z =>
    obtain ⟨len, i, v, as⟩ := z
    rw [hf] at H
    dsimp only at H ⊢
    cases i
    case goto => exact H b hb
    case ifCond cn off =>
      match st, H with
      | .inl x :: r, H => exact ⟨fun e => H.1 e b hb, fun e => H.2 e b hb⟩
    case if_icmp cn off =>
      match st, H with
      | .inl y :: .inl x :: r, H => exact ⟨fun e => H.1 e b hb, fun e => H.2 e b hb⟩
    case tableswitch =>
      match st, H with
      | .inl x :: r, H => exact q_sw_mono (fun t ht => ht b hb) _ H
    case lookupswitch =>
      match st, H with
      | .inl x :: r, H => exact q_sw_mono (fun t ht => ht b hb) _ H
    case ireturn =>
      match st, H with
      | [.inl x], H => exact H
    case lreturn =>
      match st, H with
      | [.inr (.inl x)], H => exact H
    case areturn =>
      match st, H with
      | [.inr (.inr (.inl (some r)))], H => exact H
    case return_ =>
      match st, H with
      | [], H => exact H
    case athrow => exact H
    case invokevirtual => exact call as H
    case invokestatic =>
      by_cases h2 : q_a as 2 = 3
      · rw [if_pos h2] at H ⊢
        match st, H with
        | .inl y :: .inl x :: r, H => exact ⟨H.1, H.2 b hb⟩
      · rw [if_neg h2] at H ⊢
        exact call as H
    case invokespecial =>
      by_cases h2 : q_a as 2 = 2
      · rw [if_pos h2] at H ⊢
        match st, H with
        | .inr (.inr (.inl (some _))) :: r, H => exact ⟨H.1, H.2 b hb⟩
      · rw [if_neg h2] at H ⊢
        exact call as H
    case new =>
      by_cases h2 : q_a as 2 = 1
      · rw [if_pos h2] at H ⊢
        exact H
      · rw [if_neg h2] at H ⊢
        exact q_nx_le (q_sim3_le hb) (fun l1 l2 st S s kc ks hl hx => hx l2 hl) H
    all_goals exact q_nx_le (q_or_le hb) (fun l1 l2 st S s kc ks hl hx => hx l2 hl) H
theorem w_cut {P : qP} {M : Nat} {pc : Nat} {a b : List (Option qV)} {st : List qV} {S : qS} {s : qM} {kc ks : Nat} {Q : qQ} (h : q_leL a b) (w : q_W P M (pc, a, st, S, s, kc, ks) Q) : q_W P M (pc, b, st, S, s, kc, ks) Q := q_W_le (q_le_of h) w
end
section
/-! How the machine's heap and frame stand for the pure machine's. -/
theorem q_t32 {x : Int} (h : q_r32 x) : (Int32.ofInt x).toInt = x := Int32.toInt_ofInt_of_le (by have := h.1; omega) (by have := h.2; omega)
theorem q_t64 {x : Int} (h : q_r64 x) : (Int64.ofInt x).toInt = x := Int64.toInt_ofInt_of_le (by have := h.1; omega) (by have := h.2; omega)
theorem q_r32_of (x : Int32) : q_r32 x.toInt := ⟨by have := Int32.le_toInt x; omega, by have := Int32.toInt_lt x; omega⟩
theorem q_r64_of (x : Int64) : q_r64 x.toInt := ⟨by have := Int64.le_toInt x; omega, by have := Int64.toInt_lt x; omega⟩
theorem q_cn {x : Int} (h : q_r32 x) : (Int32.ofInt x).toNatClampNeg = x.toNat := by
  show (Int32.ofInt x).toInt.toNat = _
  rw [q_t32 h]
theorem q_lt32 {x y : Int} (hx : q_r32 x) (hy : q_r32 y) : Int32.ofInt x < Int32.ofInt y ↔ x < y := by rw [Int32.lt_iff_toInt_lt, q_t32 hx, q_t32 hy]
theorem q_le32 {x y : Int} (hx : q_r32 x) (hy : q_r32 y) : Int32.ofInt x ≤ Int32.ofInt y ↔ x ≤ y := by rw [Int32.le_iff_toInt_le, q_t32 hx, q_t32 hy]
theorem q_eq32 {x y : Int} (hx : q_r32 x) (hy : q_r32 y) : Int32.ofInt x = Int32.ofInt y ↔ x = y := by rw [← Int32.toInt_inj, q_t32 hx, q_t32 hy]
theorem q_lt64 {x y : Int} (hx : q_r64 x) (hy : q_r64 y) : Int64.ofInt x < Int64.ofInt y ↔ x < y := by rw [Int64.lt_iff_toInt_lt, q_t64 hx, q_t64 hy]
theorem q_eq64 {x y : Int} (hx : q_r64 x) (hy : q_r64 y) : Int64.ofInt x = Int64.ofInt y ↔ x = y := by rw [← Int64.toInt_inj, q_t64 hx, q_t64 hy]
theorem q_r32_64 {x : Int} (h : q_r32 x) : q_r64 x := ⟨by have := h.1; omega, by have := h.2; omega⟩
theorem q_r32_0 : q_r32 0 := ⟨by decide, by decide⟩
theorem q_r64_0 : q_r64 0 := ⟨by decide, by decide⟩
theorem q_i32_ok {v : Int} (h : q_i32 v = true) : q_r32 v := by
  simp only [q_i32, Bool.and_eq_true, decide_eq_true_eq] at h
  exact h
/-- a value of the machine for one of the pure machine -/
def q_mv (ad : Nat → Nat) (b : Nat) : qV → Value
  | .inl x => .int (Int32.ofInt x)
  | .inr (.inl x) => .long (Int64.ofInt x)
  | .inr (.inr (.inl none)) => .null
  | .inr (.inr (.inl (some r))) => .ref (ad r)
  | .inr (.inr (.inr _)) => .ref b
def q_ok (n : Nat) : qV → Prop
  | .inl x => q_r32 x
  | .inr (.inl x) => q_r64 x
  | .inr (.inr (.inl (some r))) => r < n
  | _ => True
theorem q_ok_mono {n k : Nat} {v : qV} (h : n ≤ k) (hv : q_ok n v) : q_ok k v := by
  rcases v with x | x | (_ | r) | u
  · exact hv
  · exact hv
  · trivial
  · exact Nat.lt_of_lt_of_le hv h
  · trivial
theorem q_mv_cat (ad : Nat → Nat) (b : Nat) (v : qV) : (q_mv ad b v).category = q_cat v := by
  rcases v with x | x | (_ | r) | u <;> rfl
theorem q_mv_sum (ad : Nat → Nat) (b : Nat) : ∀ st : List qV, ((st.map (q_mv ad b)).map fun v => v.category).sum = q_sum st
  | [] => rfl
  | v :: r => by
    simp only [List.map_cons, List.sum_cons, q_mv_cat, q_sum]
    rw [q_mv_sum ad b r]
theorem q_mv_congr {ad ad' : Nat → Nat} {b n : Nat} {v : qV} (h : ∀ r, r < n → ad' r = ad r) (hv : q_ok n v) : q_mv ad' b v = q_mv ad b v := by
  rcases v with x | x | (_ | r) | u
  · rfl
  · rfl
  · rfl
  · exact congrArg Value.ref (h r hv)
  · rfl
theorem q_mv_list {ad ad' : Nat → Nat} {b n : Nat} (h : ∀ r, r < n → ad' r = ad r) : ∀ {st : List qV}, (∀ v ∈ st, q_ok n v) → st.map (q_mv ad' b) = st.map (q_mv ad b)
  | [], _ => rfl
  | v :: r, hs => by
    rw [List.map_cons, List.map_cons, q_mv_congr h (hs v List.mem_cons_self), q_mv_list h (fun w hw => hs w (List.mem_cons_of_mem _ hw))]
/-- the locals as a list -/
def q_lv (ad : Nat → Nat) (b : Nat) : Nat → List (Option qV) → List (Nat × Value)
  | _, [] => []
  | k, none :: r => q_lv ad b (k + 1) r
  | k, some v :: r => (k, q_mv ad b v) :: q_lv ad b (k + 1) r
theorem q_lv_mem {ad : Nat → Nat} {b : Nat} : ∀ (ls : List (Option qV)) (k : Nat) (q : Nat × Value), q ∈ q_lv ad b k ls ↔ ∃ j v, ls[j]? = some (some v) ∧ q = (k + j, q_mv ad b v)
  | [], k, q => ⟨fun h => (by cases h), fun ⟨j, v, h, _⟩ => (by simp at h)⟩
  | none :: r, k, q => by
    show q ∈ q_lv ad b (k + 1) r ↔ _
    rw [q_lv_mem r (k + 1) q]
    constructor
    · rintro ⟨j, v, h, e⟩
      exact ⟨j + 1, v, by simpa using h, by rw [e]; congr 1; omega⟩
    · rintro ⟨j, v, h, e⟩
      cases j with
      | zero => simp at h
      | succ j => exact ⟨j, v, by simpa using h, by rw [e]; congr 1; omega⟩
  | some w :: r, k, q => by
    show q ∈ (k, q_mv ad b w) :: q_lv ad b (k + 1) r ↔ _
    rw [List.mem_cons, q_lv_mem r (k + 1) q]
    constructor
    · rintro (e | ⟨j, v, h, e⟩)
      · exact ⟨0, w, rfl, e⟩
      · exact ⟨j + 1, v, by simpa using h, by rw [e]; congr 1; omega⟩
    · rintro ⟨j, v, h, e⟩
      cases j with
      | zero =>
        simp at h
        subst h
        exact Or.inl e
      | succ j => exact Or.inr ⟨j, v, by simpa using h, by rw [e]; congr 1; omega⟩
def q_LR (ad : Nat → Nat) (b nL : Nat) (ls : Array Slot) (lp : List (Option qV)) : Prop := lv_has ls nL (q_lv ad b 0 lp) ∧ lp.length = nL
theorem q_LR.mem {ad : Nat → Nat} {b nL : Nat} {ls : Array Slot} {lp : List (Option qV)} {i : Nat} {v : qV} (h : q_ld lp i = some v) : (i, q_mv ad b v) ∈ q_lv ad b 0 lp := (q_lv_mem lp 0 _).mpr ⟨i, v, q_ld_iff.mp h, by rw [Nat.zero_add]⟩
theorem q_LR.at {ad : Nat → Nat} {b nL : Nat} {ls : Array Slot} {lp : List (Option qV)} {i : Nat} {v : qV} (H : q_LR ad b nL ls lp) (h : q_ld lp i = some v) : ls[i]? = some (.val (q_mv ad b v)) := H.1.2.2 _ (q_LR.mem (nL := nL) (ls := ls) h)
theorem q_LR.st1 {ad : Nat → Nat} {b nL : Nat} {ls ls' : Array Slot} {lp : List (Option qV)} {i : Nat} {v : qV} (H : q_LR ad b nL ls lp)
    (h : lv_has ls' nL ((i, q_mv ad b v) :: (q_lv ad b 0 lp).filter (fun q => !(q.1 == i) && !(q.1 + 1 == i && q.2.category == 2)))) : q_LR ad b nL ls' (q_st lp i v) := by
  refine ⟨⟨h.1, h.2.1, fun q hq => h.2.2 q ?_⟩, by rw [q_st_length]; exact H.2⟩
  obtain ⟨j, u, hu, rfl⟩ := (q_lv_mem _ 0 q).mp hq
  rcases q_st_get hu with ⟨rfl, rfl⟩ | ⟨h1, h2, h3⟩
  · rw [Nat.zero_add]; exact List.mem_cons_self
  · refine List.mem_cons_of_mem _ (List.mem_filter.mpr ⟨(q_lv_mem lp 0 _).mpr ⟨j, u, h2, rfl⟩, ?_⟩)
    rw [Nat.zero_add, q_mv_cat]
    simp only [Bool.and_eq_true, Bool.not_eq_true', beq_eq_false_iff_ne, ne_eq, Bool.and_eq_false_imp, beq_iff_eq]
    exact ⟨h1, fun e c => h3 ⟨e, c⟩⟩
theorem q_LR.st2 {ad : Nat → Nat} {b nL : Nat} {ls ls' : Array Slot} {lp : List (Option qV)} {i : Nat} {v : qV} (H : q_LR ad b nL ls lp)
    (h : lv_has ls' nL ((i, q_mv ad b v) :: (q_lv ad b 0 lp).filter (fun q => !(q.1 == i) && (!(q.1 == i + 1) && !(q.1 + 1 == i && q.2.category == 2))))) : q_LR ad b nL ls' (q_st2 lp i v) := by
  refine ⟨⟨h.1, h.2.1, fun q hq => h.2.2 q ?_⟩, by rw [q_st2_length]; exact H.2⟩
  obtain ⟨j, u, hu, rfl⟩ := (q_lv_mem _ 0 q).mp hq
  rcases q_st2_get hu with ⟨rfl, rfl⟩ | ⟨h1, h4, h2, h3⟩
  · rw [Nat.zero_add]; exact List.mem_cons_self
  · refine List.mem_cons_of_mem _ (List.mem_filter.mpr ⟨(q_lv_mem lp 0 _).mpr ⟨j, u, h2, rfl⟩, ?_⟩)
    rw [Nat.zero_add, q_mv_cat]
    simp only [Bool.and_eq_true, Bool.not_eq_true', beq_eq_false_iff_ne, ne_eq, Bool.and_eq_false_imp, beq_iff_eq]
    exact ⟨h1, h4, fun e c => h3 ⟨e, c⟩⟩
theorem q_LR.moved {ad ad' : Nat → Nat} {b nL n : Nat} {ls : Array Slot} {lp : List (Option qV)} (H : q_LR ad b nL ls lp) (h : ∀ r, r < n → ad' r = ad r) (hv : ∀ (i : Nat) (v : qV), lp[i]? = some (some v) → q_ok n v) : q_LR ad' b nL ls lp := by
  refine ⟨⟨H.1.1, H.1.2.1, fun q hq => ?_⟩, H.2⟩
  obtain ⟨j, u, hu, rfl⟩ := (q_lv_mem _ 0 q).mp hq
  rw [q_mv_congr h (hv j u hu)]
  exact H.1.2.2 _ ((q_lv_mem lp 0 _).mpr ⟨j, u, hu, rfl⟩)
end
section
/-! The heap: one world for all objects and arrays. -/
def q_tys (cI cZ cJ : ClassId) : List (ClassId × FieldType) := [(cI, .int), (cZ, .boolean), (cJ, .long)]
def q_fs (ad : Nat → Nat) (k : Nat) (sh : Nat × Nat × List (Option Nat)) (f : Int → Int) : List Value :=
  (List.range sh.2.1).map fun (j : Nat) => if (q_kd.getD k []).getD j 0 = 1 then va_rf ((sh.2.2.getD j none).map ad) else .int (Int32.ofInt (f j))
def q_e1 (cI cZ cJ : ClassId) (ad : Nat → Nat) (sh : Nat × Nat × List (Option Nat)) (f : Int → Int) : va_E := match sh.1 with
  | 0 => .inl (cI, sh.2.1, .inl (fun (j : Nat) => Int32.ofInt (f j)))
  | 1 => .inl (cZ, sh.2.1, .inl (fun (j : Nat) => Int32.ofInt (f j)))
  | 2 => .inl (cJ, sh.2.1, .inr (.inl (fun (j : Nat) => Int64.ofInt (f j))))
  | k + 3 => .inr (k, q_fs ad k sh f)
def q_ws (cI cZ cJ : ClassId) (ad : Nat → Nat) (S : qS) (z : qM) : va_W := (List.range S.length).map fun r => (ad r, q_e1 cI cZ cJ ad (S.getD r (0, 0, [])) (z r))
def q_rg (S : qS) (z : qM) : Prop := ∀ (r : Nat) (j : Int), (q_tag S r = some 2 → q_r64 (z r j)) ∧ (q_tag S r ≠ some 2 → q_r32 (z r j))
def q_wf (S : qS) : Prop := ∀ (r : Nat) (sh : Nat × Nat × List (Option Nat)), S[r]? = some sh → (∀ k, sh.1 = k + 3 → k < q_ft.length ∧ sh.2.1 = q_N k ∧ sh.2.2.length = sh.2.1) ∧ sh.2.1 < 2147483648 ∧ ∀ k q, sh.2.2.getD k none = some q → q < S.length
def q_Wd (D : va_G) (cI cZ cJ : ClassId) (A : Nat → Prop) (H0 : Heap) (ad : Nat → Nat) (S : qS) (z : qM) (H : Heap) (locs : List Loc) : Prop :=
  va_P D q_cl (q_ws cI cZ cJ ad S z) H ∧ va_D A (q_ws cI cZ cJ ad S z) ∧ va_S A H0 H locs ∧ q_rg S z ∧ q_wf S
section QW
variable {cI cZ cJ : ClassId} {ad : Nat → Nat} {S : qS} {z : qM} {r : Nat} {sh : Nat × Nat × List (Option Nat)}
theorem q_lt_of (h : S[r]? = some sh) : r < S.length := (List.getElem?_eq_some_iff.mp h).1
theorem q_ws_len : (q_ws cI cZ cJ ad S z).length = S.length := by simp [q_ws]
theorem q_ws_get (h : S[r]? = some sh) : (q_ws cI cZ cJ ad S z)[r]? = some (ad r, q_e1 cI cZ cJ ad sh (z r)) := by
  have hr := q_lt_of h
  unfold q_ws
  rw [List.getElem?_map, List.getElem?_range hr, Option.map_some, List.getD_eq_getElem?_getD, h, Option.getD_some]
theorem q_ws_none (h : S.length ≤ r) : (q_ws cI cZ cJ ad S z)[r]? = none := by
  simp [q_ws, h]
theorem q_tag_of (h : S[r]? = some sh) : q_tag S r = some sh.1 := by unfold q_tag; rw [h]
theorem q_len_of (h : S[r]? = some sh) : q_len S r = sh.2.1 := by unfold q_len; rw [h]
theorem q_ref_of (h : S[r]? = some sh) (k : Nat) : q_ref S r k = sh.2.2.getD k none := by unfold q_ref; rw [h]
theorem q_tag_get {t : Nat} (h : q_tag S r = some t) : ∃ n rs, S[r]? = some (t, n, rs) := by
  unfold q_tag at h
  split at h
  · rename_i w hw
    obtain ⟨t', n, rs⟩ := w
    cases h
    exact ⟨n, rs, hw⟩
  · cases h
theorem q_e1_0 {n : Nat} {rs : List (Option Nat)} {f : Int → Int} : q_e1 cI cZ cJ ad (0, n, rs) f = .inl (cI, n, .inl (fun (j : Nat) => Int32.ofInt (f j))) := rfl
theorem q_e1_1 {n : Nat} {rs : List (Option Nat)} {f : Int → Int} : q_e1 cI cZ cJ ad (1, n, rs) f = .inl (cZ, n, .inl (fun (j : Nat) => Int32.ofInt (f j))) := rfl
theorem q_e1_2 {n : Nat} {rs : List (Option Nat)} {f : Int → Int} : q_e1 cI cZ cJ ad (2, n, rs) f = .inl (cJ, n, .inr (.inl (fun (j : Nat) => Int64.ofInt (f j)))) := rfl
theorem q_e1_3 {k n : Nat} {rs : List (Option Nat)} {f : Int → Int} : q_e1 cI cZ cJ ad (3 + k, n, rs) f = .inr (k, q_fs ad k (3 + k, n, rs) f) := by
  rw [Nat.add_comm 3 k]
  rfl
theorem q_up_other {q : Nat} {j v : Int} (h : q ≠ r) : q_up z r j v q = z q := by simp [q_up, h]
theorem q_up_same {j v : Int} : q_up z r j v r = q_u (z r) j v := by simp [q_up]
/-- one cell changed -/
theorem q_ws_set {z' : qM} {S' : qS} {e : va_E} (hl : S'.length = S.length) (hr : r < S.length) (ho : ∀ q, q ≠ r → S'[q]? = S[q]? ∧ z' q = z q) (he : ∀ sh', S'[r]? = some sh' → q_e1 cI cZ cJ ad sh' (z' r) = e) :
    q_ws cI cZ cJ ad S' z' = (q_ws cI cZ cJ ad S z).set r (ad r, e) := by
  apply List.ext_getElem?
  intro q
  by_cases hq : q < S.length
  · have h1 : S'[q]? = some S'[q] := List.getElem?_eq_getElem (by omega)
    rw [q_ws_get h1]
    by_cases e1 : q = r
    · subst e1
      rw [List.getElem?_set_self (by rw [q_ws_len]; exact hr), he _ h1]
    · obtain ⟨a, b⟩ := ho q e1
      rw [List.getElem?_set_ne (fun w => e1 w.symm), q_ws_get (sh := S'[q]) (by rw [← a]; exact h1), b]
  · rw [q_ws_none (by omega)]
    have : ((q_ws cI cZ cJ ad S z).set r (ad r, e)).length ≤ q := by rw [List.length_set, q_ws_len]; omega
    exact (List.getElem?_eq_none this).symm
/-- a new cell at the end -/
theorem q_ws_push {a : Nat} (hw : q_wf S) (hs : ∀ k q, sh.2.2.getD k none = some q → q < S.length) : q_ws cI cZ cJ (fun q => if q = S.length then a else ad q) (S ++ [sh]) (q_z z S.length) = q_ws cI cZ cJ ad S z ++ [(a, q_e1 cI cZ cJ ad sh (fun _ => 0))] := by
  have hcg : ∀ (sh' : Nat × Nat × List (Option Nat)) (f : Int → Int), (∀ k q, sh'.2.2.getD k none = some q → q < S.length) → q_e1 cI cZ cJ (fun q => if q = S.length then a else ad q) sh' f = q_e1 cI cZ cJ ad sh' f := by
    intro sh' f hh
    obtain ⟨t, n, rs⟩ := sh'
    match t with
    | 0 => rfl
    | 1 => rfl
    | 2 => rfl
    | k + 3 =>
      show Sum.inr (k, _) = Sum.inr (k, _)
      congr 2
      unfold q_fs
      apply List.map_congr_left
      intro j _
      split
      · cases hq : rs.getD j none with
        | none => rfl
        | some q =>
          have := hh j q hq
          simp [Nat.ne_of_lt this]
      · rfl
  apply List.ext_getElem?
  intro q
  by_cases hq : q < S.length
  · have h1 : S[q]? = some S[q] := List.getElem?_eq_getElem hq
    rw [List.getElem?_append_left (by rw [q_ws_len]; exact hq), q_ws_get h1, q_ws_get (sh := S[q]) (by rw [List.getElem?_append_left hq]; exact h1), hcg _ _ (hw q _ h1).2.2]
    simp [q_z, Nat.ne_of_lt hq]
  · by_cases e : q = S.length
    · subst e
      rw [List.getElem?_append_right (by rw [q_ws_len]; exact Nat.le_refl _), q_ws_len, q_ws_get (sh := sh) (by simp), hcg _ _ hs]
      simp [q_z]
    · rw [q_ws_none (by simp; omega), List.getElem?_append_right (by rw [q_ws_len]; omega)]
      have : ([(a, q_e1 cI cZ cJ ad sh (fun _ => 0))] : va_W).length ≤ q - (q_ws cI cZ cJ ad S z).length := by rw [q_ws_len]; simp; omega
      exact (List.getElem?_eq_none this).symm
theorem q_wf_push (hw : q_wf S) (h1 : ∀ k, sh.1 = k + 3 → k < q_ft.length ∧ sh.2.1 = q_N k ∧ sh.2.2.length = sh.2.1) (hn : sh.2.1 < 2147483648) (h2 : ∀ k q, sh.2.2.getD k none = some q → q < S.length) : q_wf (S ++ [sh]) := by
  intro q sh' hq
  by_cases hl : q < S.length
  · rw [List.getElem?_append_left hl] at hq
    exact ⟨(hw q sh' hq).1, (hw q sh' hq).2.1, fun k x hx => by have := (hw q sh' hq).2.2 k x hx; simp; omega⟩
  · by_cases e : q = S.length
    · subst e
      simp at hq
      subst hq
      exact ⟨h1, hn, fun k x hx => by have := h2 k x hx; simp; omega⟩
    · rw [List.getElem?_eq_none (by simp; omega)] at hq
      cases hq
theorem q_rg_push (hg : q_rg S z) : q_rg (S ++ [sh]) (q_z z S.length) := by
  intro q j
  by_cases e : q = S.length
  · subst e
    refine ⟨fun _ => ?_, fun _ => ?_⟩
    · simp only [q_z, if_true]; exact q_r64_0
    · simp only [q_z, if_true]; exact q_r32_0
  · have ht : q_tag (S ++ [sh]) q = q_tag S q := by
      unfold q_tag
      by_cases hl : q < S.length
      · rw [List.getElem?_append_left hl]
      · rw [List.getElem?_eq_none (by simp; omega), List.getElem?_eq_none (by omega)]
    simp only [q_z, if_neg e, ht]
    exact hg q j
theorem q_rg_up {j v : Int} (hg : q_rg S z) (h2 : q_tag S r = some 2 → q_r64 v) (h3 : q_tag S r ≠ some 2 → q_r32 v) : q_rg S (q_up z r j v) := by
  intro q i
  by_cases e : q = r
  · subst e
    rw [q_up_same]
    unfold q_u
    split
    · exact ⟨h2, h3⟩
    · exact hg q i
  · rw [q_up_other e]
    exact hg q i
end QW
theorem q_cl_get {k : Nat} (h : k < q_ft.length) : q_cl[k]? = some (q_C k, q_T k, q_N k) := by
  have h1 : q_ft[k]? = some q_ft[k] := List.getElem?_eq_getElem h
  unfold q_cl
  rw [List.getElem?_map, h1]
  have e : q_T k = fun j => q_ft[k].2.getD j ("", "", "", false) := by
    funext j
    simp only [q_T, List.getD_eq_getElem?_getD, h1, Option.getD_some]
  rw [e]
  simp only [q_C, q_N, List.getD_eq_getElem?_getD, h1, Option.map_some, Option.getD_some]
end
section
/-! What the checks say, in words. -/
def q_tb : List Jvm.Cond := lw_tbl.filter goodWord
theorem q_has_mem {w : Nat} {c : Jvm.Cond} (h : q_has w c = true) : c ∈ q_tb := by
  simp only [q_has, Bool.and_eq_true, decide_eq_true_eq] at h
  exact List.mem_filter.mpr ⟨List.mem_of_getElem? h.1, h.2⟩
theorem q_hasN_mem {w : Nat} {c : Jvm.Cond} (h : q_hasN w c = true) : c ∈ lw_tbl := by
  simp only [q_hasN, decide_eq_true_eq] at h
  exact List.mem_of_getElem? h
theorem q_tb_good {c : Jvm.Cond} (h : c ∈ q_tb) : goodWord c = true := (List.mem_filter.mp h).2
set_option maxRecDepth 100000 in
theorem q_cf_all : (List.range q_ft.length).all q_chkF = true := by decide +kernel
def q_ty (ci k : Nat) : FieldType := (parseFieldDescriptor (q_T ci k).2.2.1).getD .int
theorem q_cf {ci k : Nat} (hc : ci < q_ft.length) (hk : k < q_N ci) : u_lay (q_C ci) (q_T ci) k ∈ q_tb ∧ q_dk (q_T ci k).2.2.1 = (q_kd.getD ci []).getD k 0 ∧ parseFieldDescriptor (q_T ci k).2.2.1 = some (q_ty ci k) ∧
    (((q_kd.getD ci []).getD k 0 = 0 ∧ q_ty ci k = .int) ∨ ((q_kd.getD ci []).getD k 0 = 3 ∧ q_ty ci k = .boolean) ∨ ((q_kd.getD ci []).getD k 0 = 1 ∧ ((∃ n, q_ty ci k = .object n) ∨ ∃ t, q_ty ci k = .array t))) ∧
    ∀ j, j < q_N ci → j ≠ k → (q_T ci j).2.1 ≠ (q_T ci k).2.1 := by
  have h := List.all_eq_true.mp q_cf_all ci (List.mem_range.mpr hc)
  have h := List.all_eq_true.mp h k (List.mem_range.mpr hk)
  simp only [Bool.and_eq_true, decide_eq_true_eq] at h
  obtain ⟨⟨⟨⟨h1, h2⟩, h3⟩, h4⟩, h5⟩ := h
  obtain ⟨ty, hty⟩ := Option.isSome_iff_exists.mp h3
  have e : q_ty ci k = ty := by unfold q_ty; rw [hty]; rfl
  refine ⟨q_has_mem h1, h2, by rw [e]; exact hty, ?_, fun j hj hne => ?_⟩
  · rw [e]
    rw [hty] at h4
    cases ty with
    | int => exact Or.inl ⟨of_decide_eq_true h4, rfl⟩
    | boolean => exact Or.inr (Or.inl ⟨of_decide_eq_true h4, rfl⟩)
    | object n => exact Or.inr (Or.inr ⟨of_decide_eq_true h4, Or.inl ⟨n, rfl⟩⟩)
    | array t => exact Or.inr (Or.inr ⟨of_decide_eq_true h4, Or.inr ⟨t, rfl⟩⟩)
    | _ => cases h4
  · have h6 := List.all_eq_true.mp h5 j (List.mem_range.mpr hj)
    simp only [Bool.or_eq_true, decide_eq_true_eq] at h6
    rcases h6 with h6 | h6
    · exact absurd h6 hne
    · exact h6
theorem q_cf_in {ci : Nat} (hc : ci < q_ft.length) : ∀ w ∈ u_ws (q_C ci) (q_T ci) (q_N ci), w ∈ q_tb := by
  intro w hw
  unfold u_ws at hw
  obtain ⟨k, hk, rfl⟩ := List.mem_map.mp hw
  exact (q_cf hc (List.mem_range.mp hk)).1
theorem q_cf_ty {ci : Nat} (hc : ci < q_ft.length) : ∀ k, k < q_N ci → parseFieldDescriptor (q_T ci k).2.2.1 = some (q_ty ci k) := fun _ hk => (q_cf hc hk).2.2.1
theorem q_cf_nm {ci : Nat} (hc : ci < q_ft.length) : ∀ a, a < q_N ci → ∀ b, b < q_N ci → a ≠ b → (q_T ci a).2.1 ≠ (q_T ci b).2.1 := fun a ha _ hb hne => (q_cf hc hb).2.2.2.2 a ha hne
end
section
/-! The simple instructions: the machine does as the pure machine does. -/
def q_Cx (D : va_G) (cI cZ cJ : ClassId) (M : Nat) (p : Program) (R : Room) (s : State) (m : MethodId) (args : Array Value) (meth : Method) (c : Code) (A : Nat → Prop) (H0 : Heap) (b xl : Nat) (xs : Nat → Int32) : Prop :=
  p.tables.exec = Jvm.exec ∧ c.code = q_b M ∧ c.maxLocals = q_nL M ∧ s.vm.findClass (q_own M) = some m.cls ∧ (∀ w ∈ q_tb, w.before args s = true) ∧ (∀ o i y h, Jvm.Cond.methodLinkNest o i y h ∈ lw_tbl → va_Nw (.methodLinkNest o i y h) s) ∧
  va_K D q_cl (q_tys cI cZ cJ) s ∧ ((q_y M).name = "<init>" → meth.name = "<init>") ∧ ((q_rm M).1 ≤ R.frames ∧ (q_rm M).2.1 ≤ R.locals ∧ (q_rm M).2.2.1 ≤ R.cells ∧ (q_rm M).2.2.2 ≤ R.slots) ∧ (∀ q, H0.size ≤ q → A q) ∧
  (M = 0 → va_X b xl xs s H0 ∧ b < H0.size ∧ ¬ A b ∧ xl < 2147483648)
def q_Fr (ad : Nat → Nat) (b M : Nat) (ls : Array Slot) (lp : List (Option qV)) (st : List qV) (S : qS) (kc ks : Nat) : Prop :=
  q_LR ad b (q_nL M) ls lp ∧ (∀ (i : Nat) (v : qV), lp[i]? = some (some v) → q_ok S.length v) ∧ (∀ v ∈ st, q_ok S.length v) ∧ kc ≤ (q_rm M).2.2.1 ∧ ks ≤ (q_rm M).2.2.2
section QSim
variable {D : va_G} {cI cZ cJ : ClassId} {M : Nat} {p : Program} {l : Launch} {e : Env} {R : Room} {s : State} {m : MethodId} {args : Array Value} {below : List Frame} {meth : Method} {c : Code} {Qm : State → Prop} {A : Nat → Prop} {H0 H : Heap} {locs : List Loc} {b xl : Nat} {xs : Nat → Int32} {ad : Nat → Nat} {ls : Array Slot} {lp lp' : List (Option qV)} {st st' : List qV} {S S' : qS} {z z' : qM} {kc ks kc' ks' pc len : Nat} {i : Instr} {v : Int} {a ws : List Nat} {P : Prop}
/-- what may be used of the next state -/
def q_KK (D : va_G) (cI cZ cJ : ClassId) (M : Nat) (p : Program) (l : Launch) (e : Env) (R : Room) (s : State) (m : MethodId) (args : Array Value) (below : List Frame) (meth : Method) (c : Code) (Qm : State → Prop) (A : Nat → Prop) (H0 : Heap) (b : Nat) (ad : Nat → Nat) (S : qS) (pc' : Nat) (lp' : List (Option qV)) (st' : List qV) (S' : qS) (z' : qM) (kc' ks' : Nat) : Prop :=
  ∀ (ad' : Nat → Nat) (ls' : Array Slot) (H' : Heap) (locs' : List Loc), S.length ≤ S'.length → (∀ r, r < S.length → ad' r = ad r) → q_Wd D cI cZ cJ A H0 ad' S' z' H' locs' → q_Fr ad' b M ls' lp' st' S' kc' ks' →
    W p l e R s m args below meth c H' locs' kc' ks' Qm (F0 m pc' ls' (st'.map (q_mv ad' b)))
theorem q_push {v : qV} (F : q_Fr ad b M ls lp st S kc ks) (hv : q_ok S.length v) : q_Fr ad b M ls lp (v :: st) S kc ks := ⟨F.1, F.2.1, fun w hw => by
  rcases List.mem_cons.mp hw with rfl | h
  · exact hv
  · exact F.2.2.1 w h, F.2.2.2⟩
theorem q_pop {v : qV} (F : q_Fr ad b M ls lp (v :: st) S kc ks) : q_Fr ad b M ls lp st S kc ks ∧ q_ok S.length v := ⟨⟨F.1, F.2.1, fun w hw => F.2.2.1 w (List.mem_cons_of_mem _ hw), F.2.2.2⟩, F.2.2.1 v List.mem_cons_self⟩
theorem q_ld_ok {v : qV} {k : Nat} (F : q_Fr ad b M ls lp st S kc ks) (h : q_ld lp k = some v) : q_ok S.length v := F.2.1 k v (q_ld_iff.mp h)
theorem q_fr_st {v : qV} {k : Nat} {ls' : Array Slot} (F : q_Fr ad b M ls lp st S kc ks) (hv : q_ok S.length v) (h : q_LR ad b (q_nL M) ls' (q_st lp k v)) : q_Fr ad b M ls' (q_st lp k v) st S kc ks := ⟨h, fun i w hw => by
  rcases q_st_get hw with ⟨-, rfl⟩ | ⟨-, h2, -⟩
  · exact hv
  · exact F.2.1 i w h2, F.2.2⟩
theorem q_fr_st2 {v : qV} {k : Nat} {ls' : Array Slot} (F : q_Fr ad b M ls lp st S kc ks) (hv : q_ok S.length v) (h : q_LR ad b (q_nL M) ls' (q_st2 lp k v)) : q_Fr ad b M ls' (q_st2 lp k v) st S kc ks := ⟨h, fun i w hw => by
  rcases q_st2_get hw with ⟨-, rfl⟩ | ⟨-, -, h2, -⟩
  · exact hv
  · exact F.2.1 i w h2, F.2.2⟩
theorem q_kk0 (K : q_KK D cI cZ cJ M p l e R s m args below meth c Qm A H0 b ad S pc lp' st' S z kc' ks') (Wd : q_Wd D cI cZ cJ A H0 ad S z H locs) {ls' : Array Slot} (F : q_Fr ad b M ls' lp' st' S kc' ks') : W p l e R s m args below meth c H locs kc' ks' Qm (F0 m pc ls' (st'.map (q_mv ad b))) :=
  K ad ls' H locs (Nat.le_refl _) (fun _ _ => rfl) Wd F
set_option maxHeartbeats 4000000 in
theorem q_sim1_ok (C0 : q_Cx D cI cZ cJ M p R s m args meth c A H0 b xl xs) (hd : decode (q_b M) pc = .ok (i, len)) (hk : q_chk2 M pc len i v a ws = true) (Wd : q_Wd D cI cZ cJ A H0 ad S z H locs) (F : q_Fr ad b M ls lp st S kc ks)
    (h : q_sim1 i v a lp st S z kc ks = some (P, lp', st', S', z', kc', ks')) (hp : P) (K : q_KK D cI cZ cJ M p l e R s m args below meth c Qm A H0 b ad S (pc + len) lp' st' S' z' kc' ks') :
    W p l e R s m args below meth c H locs kc ks Qm (F0 m pc ls (st.map (q_mv ad b))) := by
  obtain ⟨hx, hb, hml, hown, hts, hN, hK, hini, hR, hA, hX⟩ := C0
  cases i
  case iconst n =>
    simp only [q_chk2, Bool.and_eq_true, beq_iff_eq, decide_eq_true_eq] at hk
    obtain ⟨⟨rfl, h1⟩, h2⟩ := hk
    cases h
    exact lv_iconst hx hb hd h1 (q_kk0 K Wd (q_push F (q_i32_ok h2)))
  case bipush n =>
    simp only [q_chk2, Bool.and_eq_true, beq_iff_eq, decide_eq_true_eq] at hk
    obtain ⟨⟨rfl, h1⟩, h2⟩ := hk
    cases h
    exact lv_bipush hx hb hd h1 (q_kk0 K Wd (q_push F (q_i32_ok h2)))
  case sipush n =>
    simp only [q_chk2, Bool.and_eq_true, beq_iff_eq, decide_eq_true_eq] at hk
    obtain ⟨⟨rfl, h1⟩, h2⟩ := hk
    cases h
    exact lv_sipush hx hb hd h1 (q_kk0 K Wd (q_push F (q_i32_ok h2)))
  case ldc n =>
    simp only [q_chk2, Bool.and_eq_true, beq_iff_eq] at hk
    obtain ⟨⟨rfl, h1⟩, h2⟩ := hk
    cases h
    exact lv_ldc hx hb hown (hts _ (q_has_mem h1)) hd (q_kk0 K Wd (q_push F (q_i32_ok h2)))
  case lconst n =>
    simp only [q_chk2, Bool.and_eq_true, beq_iff_eq, decide_eq_true_eq] at hk
    obtain ⟨⟨rfl, h1⟩, h2⟩ := hk
    cases h
    exact lv_lconst hx hb hd h1 (q_kk0 K Wd (q_push F (q_r32_64 (q_i32_ok h2))))
  case ldc2_w n =>
    simp only [q_chk2, Bool.and_eq_true, beq_iff_eq] at hk
    obtain ⟨⟨rfl, h1⟩, h2⟩ := hk
    cases h
    exact lv_ldc2 hx hb hown (hts _ (q_has_mem h1)) hd (q_kk0 K Wd (q_push F (q_r32_64 (q_i32_ok h2))))
  case iload n =>
    simp only [q_chk2, Bool.and_eq_true, beq_iff_eq, decide_eq_true_eq] at hk
    obtain ⟨rfl, h1⟩ := hk
    simp only [q_sim1] at h
    split at h
    · rename_i x hl
      cases h
      exact lv_iload hx hb hd (by rw [← h1]; exact F.1.at hl) (q_kk0 K Wd (q_push F (q_ld_ok F hl)))
    · cases h
  case iload_n n =>
    simp only [q_chk2, Bool.and_eq_true, beq_iff_eq, decide_eq_true_eq] at hk
    obtain ⟨rfl, h1⟩ := hk
    simp only [q_sim1] at h
    split at h
    · rename_i x hl
      cases h
      exact lv_iload_n hx hb hd h1.symm (F.1.at hl) (q_kk0 K Wd (q_push F (q_ld_ok F hl)))
    · cases h
  case lload n =>
    simp only [q_chk2, Bool.and_eq_true, beq_iff_eq, decide_eq_true_eq] at hk
    obtain ⟨rfl, h1⟩ := hk
    simp only [q_sim1] at h
    split at h
    · rename_i x hl
      cases h
      exact lv_lload hx hb hd (by rw [← h1]; exact F.1.at hl) (q_kk0 K Wd (q_push F (q_ld_ok F hl)))
    · cases h
  case lload_n n =>
    simp only [q_chk2, Bool.and_eq_true, beq_iff_eq, decide_eq_true_eq] at hk
    obtain ⟨rfl, h1⟩ := hk
    simp only [q_sim1] at h
    split at h
    · rename_i x hl
      cases h
      exact lv_lload_n hx hb hd h1.symm (F.1.at hl) (q_kk0 K Wd (q_push F (q_ld_ok F hl)))
    · cases h
  case aload n =>
    simp only [q_chk2, Bool.and_eq_true, beq_iff_eq, decide_eq_true_eq] at hk
    obtain ⟨rfl, h1⟩ := hk
    simp only [q_sim1] at h
    split at h
    · rename_i x hl
      cases h
      exact lv_aload hx hb hd (by rw [← h1]; exact F.1.at hl) (q_kk0 K Wd (q_push F (q_ld_ok F hl)))
    · rename_i x hl
      cases h
      exact lv_aload hx hb hd (by rw [← h1]; exact F.1.at hl) (q_kk0 K Wd (q_push F (q_ld_ok F hl)))
    · cases h
  case aload_n n =>
    simp only [q_chk2, Bool.and_eq_true, beq_iff_eq, decide_eq_true_eq] at hk
    obtain ⟨rfl, h1⟩ := hk
    simp only [q_sim1] at h
    split at h
    · rename_i x hl
      cases h
      exact lv_aload_n hx hb hd h1.symm (F.1.at hl) (q_kk0 K Wd (q_push F (q_ld_ok F hl)))
    · rename_i x hl
      cases h
      exact lv_aload_n hx hb hd h1.symm (F.1.at hl) (q_kk0 K Wd (q_push F (q_ld_ok F hl)))
    · cases h
  case istore n =>
    simp only [q_chk2, Bool.and_eq_true, beq_iff_eq, decide_eq_true_eq] at hk
    obtain ⟨rfl, h1⟩ := hk
    match st, h with
    | .inl x :: r, h =>
      cases h
      exact lv_istore hx hb (by rw [← h1] at hd; exact hd) F.1.1 (by rw [← F.1.2]; exact hp) rfl (fun ls' h' => q_kk0 K Wd (q_fr_st (q_pop F).1 (q_pop F).2 (F.1.st1 h')))
  case istore_n n =>
    simp only [q_chk2, Bool.and_eq_true, beq_iff_eq, decide_eq_true_eq] at hk
    obtain ⟨rfl, h1⟩ := hk
    match st, h with
    | .inl x :: r, h =>
      cases h
      exact lv_istore_n hx hb hd h1.symm F.1.1 (by rw [← F.1.2]; exact hp) rfl (fun ls' h' => q_kk0 K Wd (q_fr_st (q_pop F).1 (q_pop F).2 (F.1.st1 h')))
  case lstore n =>
    simp only [q_chk2, Bool.and_eq_true, beq_iff_eq, decide_eq_true_eq] at hk
    obtain ⟨rfl, h1⟩ := hk
    match st, h with
    | .inr (.inl x) :: r, h =>
      cases h
      exact lv_lstore hx hb (by rw [← h1] at hd; exact hd) F.1.1 (by rw [← F.1.2]; exact hp) rfl (fun ls' h' => q_kk0 K Wd (q_fr_st2 (q_pop F).1 (q_pop F).2 (F.1.st2 h')))
  case lstore_n n =>
    simp only [q_chk2, Bool.and_eq_true, beq_iff_eq, decide_eq_true_eq] at hk
    obtain ⟨rfl, h1⟩ := hk
    match st, h with
    | .inr (.inl x) :: r, h =>
      cases h
      exact lv_lstore_n hx hb hd h1.symm F.1.1 (by rw [← F.1.2]; exact hp) rfl (fun ls' h' => q_kk0 K Wd (q_fr_st2 (q_pop F).1 (q_pop F).2 (F.1.st2 h')))
  case astore n =>
    simp only [q_chk2, Bool.and_eq_true, beq_iff_eq, decide_eq_true_eq] at hk
    obtain ⟨rfl, h1⟩ := hk
    match st, h with
    | .inr (.inr (.inl (some x))) :: r, h =>
      cases h
      exact lv_astore hx hb (by rw [← h1] at hd; exact hd) F.1.1 (by rw [← F.1.2]; exact hp) rfl (fun ls' h' => q_kk0 K Wd (q_fr_st (q_pop F).1 (q_pop F).2 (F.1.st1 h')))
  case astore_n n =>
    simp only [q_chk2, Bool.and_eq_true, beq_iff_eq, decide_eq_true_eq] at hk
    obtain ⟨rfl, h1⟩ := hk
    match st, h with
    | .inr (.inr (.inl (some x))) :: r, h =>
      cases h
      exact lv_astore_n hx hb hd h1.symm F.1.1 (by rw [← F.1.2]; exact hp) rfl (fun ls' h' => q_kk0 K Wd (q_fr_st (q_pop F).1 (q_pop F).2 (F.1.st1 h')))
  case iinc n k =>
    simp only [q_chk2, Bool.and_eq_true, beq_iff_eq, decide_eq_true_eq] at hk
    obtain ⟨⟨⟨rfl, h1⟩, rfl⟩, h2⟩ := hk
    simp only [q_sim1] at h
    split at h
    · rename_i x hl
      cases h
      subst h1
      obtain ⟨j, hj⟩ := List.getElem?_of_mem (q_LR.mem (ad := ad) (b := b) (nL := q_nL M) (ls := ls) hl)
      exact lv_iinc (v := Int32.ofInt (x + k)) hx hb hd F.1.1 hj (by rw [Int32.ofInt_add]) (by rw [← F.1.2]; exact hp.1) rfl (fun ls' h' => q_kk0 K Wd (q_fr_st (v := .inl (x + k)) F hp.2 (F.1.st1 h')))
    · cases h
  all_goals cases h
end QSim
end
section
/-! The stack and arithmetic; objects and arrays. -/
section QSim2
variable {D : va_G} {cI cZ cJ : ClassId} {M : Nat} {p : Program} {l : Launch} {e : Env} {R : Room} {s : State} {m : MethodId} {args : Array Value} {below : List Frame} {meth : Method} {c : Code} {Qm : State → Prop} {A : Nat → Prop} {H0 H : Heap} {locs : List Loc} {b xl : Nat} {xs : Nat → Int32} {ad : Nat → Nat} {ls : Array Slot} {lp lp' : List (Option qV)} {st st' : List qV} {S S' : qS} {z z' : qM} {kc ks kc' ks' pc len : Nat} {i : Instr} {v : Int} {a ws : List Nat} {P : Prop}
theorem q_div32 {x y : Int} (hx : q_r32 x) (hy : q_r32 y) (h : 0 < y) : Int32.ofInt x / Int32.ofInt y = Int32.ofInt (x.tdiv y) ∧ q_r32 (x.tdiv y) := by
  have h1 := hx.1
  have h2 := hx.2
  have hb1 : x.tdiv y ≤ x.natAbs := by
    have := Int.natAbs_tdiv_le_natAbs x y
    omega
  have hb2 : -(x.natAbs : Int) ≤ x.tdiv y := by
    have := Int.natAbs_tdiv_le_natAbs x y
    omega
  have hr : q_r32 (x.tdiv y) := by
    refine ⟨by omega, ?_⟩
    by_cases h0 : 0 ≤ x
    · omega
    · have h5 : x.tdiv y = -((-x).tdiv y) := by rw [Int.neg_tdiv, Int.neg_neg]
      have h6 : 0 ≤ (-x).tdiv y := Int.tdiv_nonneg (by omega) (by omega)
      omega
  refine ⟨?_, hr⟩
  exact (Int32.ofInt_tdiv (by rw [show Int32.minValue.toInt = -2147483648 from rfl]; omega) (by rw [show Int32.maxValue.toInt = 2147483647 from rfl]; omega) (by rw [show Int32.minValue.toInt = -2147483648 from rfl]; have := hy.1; omega) (by rw [show Int32.maxValue.toInt = 2147483647 from rfl]; have := hy.2; omega)).symm
theorem q_rem32 {x y : Int} (hx : q_r32 x) (hy : q_r32 y) (h : 0 < y) : Int32.ofInt x - Int32.ofInt x / Int32.ofInt y * Int32.ofInt y = Int32.ofInt (x.tmod y) ∧ q_r32 (x.tmod y) := by
  have h5 : (Int32.ofInt x - Int32.ofInt x / Int32.ofInt y * Int32.ofInt y).toInt = x.tmod y := by rw [rem_toInt, q_t32 hx, q_t32 hy]
  have hr : q_r32 (x.tmod y) := by rw [← h5]; exact q_r32_of _
  exact ⟨by rw [← Int32.toInt_inj, h5, q_t32 hr], hr⟩
theorem q_ne0 {y : Int} (hy : q_r32 y) (h : 0 < y) : ¬ Int32.ofInt y = 0 := by
  intro e
  have h1 := congrArg Int32.toInt e
  rw [q_t32 hy, Int32.toInt_zero] at h1
  omega
theorem q_ofi (x : Int32) : Int32.ofInt x.toInt = x := Int32.ofInt_toInt x
theorem q_ofl (x : Int64) : Int64.ofInt x.toInt = x := Int64.ofInt_toInt x
theorem q_lcmp_ok {x y : Int} (hx : q_r64 x) (hy : q_r64 y) : lg_cmp (Int64.ofInt x) (Int64.ofInt y) = Int32.ofInt (q_lcmp x y) := by
  unfold lg_cmp q_lcmp
  simp only [gt_iff_lt, q_lt64 hy hx, q_eq64 hx hy]
  split
  · rfl
  · split
    · rfl
    · rfl
theorem q_lcmp_r (x y : Int) : q_r32 (q_lcmp x y) := by
  unfold q_lcmp
  split
  · exact ⟨by decide, by decide⟩
  · split
    · exact ⟨by decide, by decide⟩
    · exact ⟨by decide, by decide⟩
theorem q_i2l_ok {x : Int} (hx : q_r32 x) : (Int32.ofInt x).toInt64 = Int64.ofInt x := by
  rw [← Int64.toInt_inj, Int32.toInt_toInt64, q_t32 hx, q_t64 (q_r32_64 hx)]
set_option maxHeartbeats 4000000 in
theorem q_sim2_ok (C0 : q_Cx D cI cZ cJ M p R s m args meth c A H0 b xl xs) (hd : decode (q_b M) pc = .ok (i, len)) (hk : q_chk2 M pc len i v a ws = true) (Wd : q_Wd D cI cZ cJ A H0 ad S z H locs) (F : q_Fr ad b M ls lp st S kc ks)
    (h : q_sim2 i lp st S z kc ks = some (P, lp', st', S', z', kc', ks')) (hp : P) (K : q_KK D cI cZ cJ M p l e R s m args below meth c Qm A H0 b ad S (pc + len) lp' st' S' z' kc' ks') :
    W p l e R s m args below meth c H locs kc ks Qm (F0 m pc ls (st.map (q_mv ad b))) := by
  obtain ⟨hx, hb, hml, hown, hts, hN, hK, hini, hR, hA, hX⟩ := C0
  cases i
  case iadd =>
    obtain rfl : len = 1 := by simpa [q_chk2] using hk
    match st, h with
    | .inl y :: .inl x :: r, h =>
      cases h
      refine lv_iadd hx hb hd ?_
      rw [← Int32.ofInt_add]
      exact q_kk0 K Wd (q_push (v := .inl (x + y)) (q_pop (q_pop F).1).1 hp)
  case isub =>
    obtain rfl : len = 1 := by simpa [q_chk2] using hk
    match st, h with
    | .inl y :: .inl x :: r, h =>
      cases h
      refine lv_isub hx hb hd ?_
      rw [← Int32.ofInt_sub]
      exact q_kk0 K Wd (q_push (v := .inl (x - y)) (q_pop (q_pop F).1).1 hp)
  case imul =>
    obtain rfl : len = 1 := by simpa [q_chk2] using hk
    match st, h with
    | .inl y :: .inl x :: r, h =>
      cases h
      refine lv_imul hx hb hd ?_
      rw [← Int32.ofInt_mul]
      exact q_kk0 K Wd (q_push (v := .inl (x * y)) (q_pop (q_pop F).1).1 hp)
  case idiv =>
    obtain rfl : len = 1 := by simpa [q_chk2] using hk
    match st, h with
    | .inl y :: .inl x :: r, h =>
      cases h
      have hy : q_r32 y := (q_pop F).2
      have hxx : q_r32 x := (q_pop (q_pop F).1).2
      refine lv_idiv hx hb hd (q_ne0 hy hp) ?_
      rw [(q_div32 hxx hy hp).1]
      exact q_kk0 K Wd (q_push (v := .inl (x.tdiv y)) (q_pop (q_pop F).1).1 (q_div32 hxx hy hp).2)
  case irem =>
    obtain rfl : len = 1 := by simpa [q_chk2] using hk
    match st, h with
    | .inl y :: .inl x :: r, h =>
      cases h
      have hy : q_r32 y := (q_pop F).2
      have hxx : q_r32 x := (q_pop (q_pop F).1).2
      refine lv_irem hx hb hd (q_ne0 hy hp) ?_
      rw [(q_rem32 hxx hy hp).1]
      exact q_kk0 K Wd (q_push (v := .inl (x.tmod y)) (q_pop (q_pop F).1).1 (q_rem32 hxx hy hp).2)
  case iand =>
    obtain rfl : len = 1 := by simpa [q_chk2] using hk
    match st, h with
    | .inl y :: .inl x :: r, h =>
      cases h
      refine lv_iand hx hb hd ?_
      have := q_kk0 K Wd (q_push (v := .inl (q_and x y)) (q_pop (q_pop F).1).1 (q_r32_of _))
      simp only [List.map_cons, q_mv, q_and, q_ofi] at this
      exact this
  case ladd =>
    obtain rfl : len = 1 := by simpa [q_chk2] using hk
    match st, h with
    | .inr (.inl y) :: .inr (.inl x) :: r, h =>
      cases h
      refine lv_ladd hx hb hd ?_
      rw [← Int64.ofInt_add]
      exact q_kk0 K Wd (q_push (v := .inr (.inl (x + y))) (q_pop (q_pop F).1).1 hp)
  case lmul =>
    obtain rfl : len = 1 := by simpa [q_chk2] using hk
    match st, h with
    | .inr (.inl y) :: .inr (.inl x) :: r, h =>
      cases h
      refine lv_lmul hx hb hd ?_
      rw [← Int64.ofInt_mul]
      exact q_kk0 K Wd (q_push (v := .inr (.inl (x * y))) (q_pop (q_pop F).1).1 hp)
  case land =>
    obtain rfl : len = 1 := by simpa [q_chk2] using hk
    match st, h with
    | .inr (.inl y) :: .inr (.inl x) :: r, h =>
      cases h
      refine lv_land hx hb hd ?_
      have := q_kk0 K Wd (q_push (v := .inr (.inl (q_land x y))) (q_pop (q_pop F).1).1 (q_r64_of _))
      simp only [List.map_cons, q_mv, q_land, q_ofl] at this
      exact this
  case lor =>
    obtain rfl : len = 1 := by simpa [q_chk2] using hk
    match st, h with
    | .inr (.inl y) :: .inr (.inl x) :: r, h =>
      cases h
      refine lv_lor hx hb hd ?_
      have := q_kk0 K Wd (q_push (v := .inr (.inl (q_lor x y))) (q_pop (q_pop F).1).1 (q_r64_of _))
      simp only [List.map_cons, q_mv, q_lor, q_ofl] at this
      exact this
  case lxor =>
    obtain rfl : len = 1 := by simpa [q_chk2] using hk
    match st, h with
    | .inr (.inl y) :: .inr (.inl x) :: r, h =>
      cases h
      refine lv_lxor hx hb hd ?_
      have := q_kk0 K Wd (q_push (v := .inr (.inl (q_lxor x y))) (q_pop (q_pop F).1).1 (q_r64_of _))
      simp only [List.map_cons, q_mv, q_lxor, q_ofl] at this
      exact this
  case lushr =>
    obtain rfl : len = 1 := by simpa [q_chk2] using hk
    match st, h with
    | .inl y :: .inr (.inl x) :: r, h =>
      cases h
      refine lv_lushr hx hb hd rfl ?_
      have := q_kk0 K Wd (q_push (v := .inr (.inl (q_lushr x y))) (q_pop (q_pop F).1).1 (q_r64_of _))
      simp only [List.map_cons, q_mv, q_lushr, q_ofl] at this
      exact this
  case lshl =>
    obtain rfl : len = 1 := by simpa [q_chk2] using hk
    match st, h with
    | .inl y :: .inr (.inl x) :: r, h =>
      cases h
      refine lv_lshl hx hb hd rfl ?_
      have := q_kk0 K Wd (q_push (v := .inr (.inl (q_lshl x y))) (q_pop (q_pop F).1).1 (q_r64_of _))
      simp only [List.map_cons, q_mv, q_lshl, q_ofl] at this
      exact this
  case lcmp =>
    obtain rfl : len = 1 := by simpa [q_chk2] using hk
    match st, h with
    | .inr (.inl y) :: .inr (.inl x) :: r, h =>
      cases h
      refine W.lcmp hx hb hd ?_
      rw [q_lcmp_ok (q_pop (q_pop F).1).2 (q_pop F).2]
      exact q_kk0 K Wd (q_push (v := .inl (q_lcmp x y)) (q_pop (q_pop F).1).1 (q_lcmp_r x y))
  case i2l =>
    obtain rfl : len = 1 := by simpa [q_chk2] using hk
    match st, h with
    | .inl x :: r, h =>
      cases h
      have hxx : q_r32 x := (q_pop F).2
      exact lv_i2l hx hb hd (q_i2l_ok hxx) (q_kk0 K Wd (q_push (v := .inr (.inl x)) (q_pop F).1 (q_r32_64 hxx)))
  case dup =>
    obtain rfl : len = 1 := by simpa [q_chk2] using hk
    match st, h with
    | w :: r, h =>
      cases h
      exact lv_dup hx hb hd (by rw [q_mv_cat]; exact hp) (q_kk0 K Wd (q_push F (q_pop F).2))
  case dup2 =>
    obtain rfl : len = 1 := by simpa [q_chk2] using hk
    match st, h with
    | w :: u :: r, h =>
      cases h
      exact lv_dup2_11 hx hb hd (by rw [q_mv_cat]; exact hp.1) (by rw [q_mv_cat]; exact hp.2) (q_kk0 K Wd (q_push (q_push F (q_pop (q_pop F).1).2) (q_pop F).2))
  case pop =>
    obtain rfl : len = 1 := by simpa [q_chk2] using hk
    match st, h with
    | w :: r, h =>
      cases h
      exact lv_pop hx hb hd (by rw [q_mv_cat]; exact hp) (q_kk0 K Wd (q_pop F).1)
  all_goals cases h
end QSim2
end
section
/-! Objects and arrays: the machine does as the pure machine does. -/
section QSim3
variable {D : va_G} {cI cZ cJ : ClassId} {M : Nat} {p : Program} {l : Launch} {e : Env} {R : Room} {s : State} {m : MethodId} {args : Array Value} {below : List Frame} {meth : Method} {c : Code} {Qm : State → Prop} {A : Nat → Prop} {H0 H : Heap} {locs : List Loc} {b xl : Nat} {xs : Nat → Int32} {ad : Nat → Nat} {ls : Array Slot} {lp lp' : List (Option qV)} {st st' : List qV} {S S' : qS} {z z' : qM} {kc ks kc' ks' pc len : Nat} {i : Instr} {v : Int} {a ws : List Nat} {P : Prop}
theorem q_fs_get {k : Nat} {sh : Nat × Nat × List (Option Nat)} {f : Int → Int} {j : Nat} (h : j < sh.2.1) : (q_fs ad k sh f)[j]? = some (if (q_kd.getD k []).getD j 0 = 1 then va_rf ((sh.2.2.getD j none).map ad) else .int (Int32.ofInt (f j))) := by
  unfold q_fs
  rw [List.getElem?_map, List.getElem?_range h]
  rfl
theorem q_fs_len {k : Nat} {sh : Nat × Nat × List (Option Nat)} {f : Int → Int} : (q_fs ad k sh f).length = sh.2.1 := by simp [q_fs]
theorem q_fs_set {k : Nat} {sh : Nat × Nat × List (Option Nat)} {f : Int → Int} {j : Nat} {x : Int} (hk : ¬ (q_kd.getD k []).getD j 0 = 1) : q_fs ad k sh (q_u f j x) = (q_fs ad k sh f).set j (.int (Int32.ofInt x)) := by
  apply List.ext_getElem?
  intro q
  by_cases hq : q < sh.2.1
  · rw [q_fs_get hq]
    by_cases e : q = j
    · subst e
      rw [List.getElem?_set_self (by rw [q_fs_len]; exact hq), if_neg hk]
      simp [q_u]
    · rw [List.getElem?_set_ne (fun w => e w.symm), q_fs_get hq]
      have : ¬ ((q : Int) = (j : Int)) := by omega
      simp [q_u, this]
  · rw [List.getElem?_eq_none (by rw [q_fs_len]; omega), List.getElem?_eq_none (by rw [List.length_set, q_fs_len]; omega)]
theorem q_fs_setr {k t n : Nat} {rs : List (Option Nat)} {f : Int → Int} {j : Nat} {x : Option Nat} (hk : (q_kd.getD k []).getD j 0 = 1) (hj : j < rs.length) : q_fs ad k (t, n, rs.set j x) f = (q_fs ad k (t, n, rs) f).set j (va_rf (x.map ad)) := by
  apply List.ext_getElem?
  intro q
  by_cases hq : q < n
  · rw [q_fs_get (sh := (t, n, rs.set j x)) hq]
    by_cases e : q = j
    · subst e
      rw [List.getElem?_set_self (by rw [q_fs_len]; exact hq), if_pos hk]
      simp [List.getD_eq_getElem?_getD, hj]
    · rw [List.getElem?_set_ne (fun w => e w.symm), q_fs_get (sh := (t, n, rs)) hq]
      simp [List.getD_eq_getElem?_getD, List.getElem?_set, Ne.symm e]
  · rw [List.getElem?_eq_none (by rw [q_fs_len]; exact Nat.le_of_not_lt hq), List.getElem?_eq_none (by rw [List.length_set, q_fs_len]; exact Nat.le_of_not_lt hq)]
theorem q_in {j : Int} {n : Nat} (hj : q_r32 j) (h0 : 0 ≤ j) (h : j < n) : vp_in (Int32.ofInt j) n := vp_in_iff.mpr ⟨by rw [q_t32 hj]; exact h0, by rw [q_t32 hj]; exact h⟩
theorem q_updI {f : Int → Int} {j x : Int} (h0 : 0 ≤ j) : (fun (k : Nat) => Int32.ofInt (q_u f j x k)) = upd (fun (k : Nat) => Int32.ofInt (f k)) j.toNat (Int32.ofInt x) := by
  funext k
  unfold q_u upd
  by_cases e : (k : Int) = j
  · rw [if_pos e, if_pos (by omega)]
  · rw [if_neg e, if_neg (by omega)]
theorem q_updL {f : Int → Int} {j x : Int} (h0 : 0 ≤ j) : (fun (k : Nat) => Int64.ofInt (q_u f j x k)) = vp_updL (fun (k : Nat) => Int64.ofInt (f k)) j.toNat (Int64.ofInt x) := by
  funext k
  unfold q_u vp_updL
  by_cases e : (k : Int) = j
  · rw [if_pos e, if_pos (by omega)]
  · rw [if_neg e, if_neg (by omega)]
theorem q_01 {x : Int} (h0 : 0 ≤ x) (h1 : x ≤ 1) : x = 0 ∨ x = 1 := by omega
theorem q_narZ {x : Int} (h0 : 0 ≤ x) (h1 : x ≤ 1) : narrow .boolean (.int (Int32.ofInt x)) = .int (Int32.ofInt x) ∧ fits .boolean (.int (Int32.ofInt x)) = true ∧ vp_nar .boolean (Int32.ofInt x) = Int32.ofInt x := by
  rcases q_01 h0 h1 with rfl | rfl
  · exact ⟨rfl, by decide +kernel, rfl⟩
  · exact ⟨rfl, by decide +kernel, rfl⟩
/-- a cell's contents change -/
theorem q_wd_up {r : Nat} {j x : Int} {t n : Nat} {rs : List (Option Nat)} {e : va_E} {H1 : Heap} {locs1 : List Loc} (Wd : q_Wd D cI cZ cJ A H0 ad S z H locs) (hS : S[r]? = some (t, n, rs)) (he : q_e1 cI cZ cJ ad (t, n, rs) (q_u (z r) j x) = e)
    (h2 : t = 2 → q_r64 x) (h3 : t ≠ 2 → q_r32 x) (hP : va_P D q_cl ((q_ws cI cZ cJ ad S z).set r (ad r, e)) H1) (hD : va_D A ((q_ws cI cZ cJ ad S z).set r (ad r, e))) (hS1 : va_S A H0 H1 locs1) : q_Wd D cI cZ cJ A H0 ad S (q_up z r j x) H1 locs1 := by
  have e1 : q_ws cI cZ cJ ad S (q_up z r j x) = (q_ws cI cZ cJ ad S z).set r (ad r, e) := q_ws_set rfl (q_lt_of hS) (fun q hq => ⟨rfl, q_up_other hq⟩) (fun sh' hs => by
    rw [hS] at hs
    cases hs
    rw [q_up_same]
    exact he)
  refine ⟨by rw [e1]; exact hP, by rw [e1]; exact hD, hS1, q_rg_up Wd.2.2.2.1 (fun h => h2 ?_) (fun h => h3 ?_), Wd.2.2.2.2⟩
  · rw [q_tag_of hS] at h; exact Option.some.inj h
  · intro q; exact h (by rw [q_tag_of hS]; exact congrArg some q)
theorem q_tyI (cI cZ cJ : ClassId) : (q_tys cI cZ cJ)[0]? = some (cI, .int) := rfl
theorem q_tyZ (cI cZ cJ : ClassId) : (q_tys cI cZ cJ)[1]? = some (cZ, .boolean) := rfl
theorem q_tyJ (cI cZ cJ : ClassId) : (q_tys cI cZ cJ)[2]? = some (cJ, .long) := rfl
set_option maxHeartbeats 4000000 in
theorem q_arr_ok (C0 : q_Cx D cI cZ cJ M p R s m args meth c A H0 b xl xs) (hd : decode (q_b M) pc = .ok (i, len)) (hk : q_chk2 M pc len i v a ws = true) (Wd : q_Wd D cI cZ cJ A H0 ad S z H locs) (F : q_Fr ad b M ls lp st S kc ks)
    (hi : i = .iaload ∨ i = .baload ∨ i = .laload ∨ i = .iastore ∨ i = .bastore ∨ i = .lastore ∨ i = .arraylength)
    (h : q_sim3 (M = 0) xl (fun j => (xs j).toInt) (q_rm M).2.2.1 (q_rm M).2.2.2 i a lp st S z kc ks = some (P, lp', st', S', z', kc', ks')) (hp : P) (K : q_KK D cI cZ cJ M p l e R s m args below meth c Qm A H0 b ad S (pc + len) lp' st' S' z' kc' ks') :
    W p l e R s m args below meth c H locs kc ks Qm (F0 m pc ls (st.map (q_mv ad b))) := by
  obtain ⟨hx, hb, hml, hown, hts, hN, hK, hini, hR, hA, hX⟩ := C0
  have hrg := Wd.2.2.2.1
  rcases hi with rfl | rfl | rfl | rfl | rfl | rfl | rfl
  · obtain rfl : len = 1 := by simpa [q_chk2] using hk
    match st, h with
    | .inl j :: .inr (.inr (.inl (some r))) :: w, h =>
      cases h
      obtain ⟨ht, h0, h1⟩ := hp
      obtain ⟨n, rs, hS⟩ := q_tag_get ht
      rw [q_len_of hS] at h1
      have hj : q_r32 j := (q_pop F).2
      refine va_iald hx hb hK Wd.1 r 0 ((q_ws_get hS).trans (by rw [q_e1_0])) rfl (q_in hj h0 h1) hd ?_
      have := q_kk0 K Wd (q_push (v := .inl (z r j)) (q_pop (q_pop F).1).1 ((hrg r j).2 (by rw [ht]; decide)))
      simp only [q_cn hj, Int.toNat_of_nonneg h0]
      exact this
    | .inl j :: .inr (.inr (.inr u)) :: w, h =>
      cases h
      obtain ⟨hM, h0, h1⟩ := hp
      obtain ⟨hXX, hbl, hbA, hxl⟩ := hX hM
      have hj : q_r32 j := (q_pop F).2
      refine va_sld hx hb hXX hbl hbA Wd.2.2.1 (q_in hj h0 h1) hd ?_
      have := q_kk0 K Wd (q_push (v := .inl (xs j.toNat).toInt) (q_pop (q_pop F).1).1 (q_r32_of _))
      simp only [List.map_cons, q_mv, q_ofi] at this
      simp only [q_cn hj]
      exact this
  · obtain rfl : len = 1 := by simpa [q_chk2] using hk
    match st, h with
    | .inl j :: .inr (.inr (.inl (some r))) :: w, h =>
      cases h
      obtain ⟨ht, h0, h1⟩ := hp
      obtain ⟨n, rs, hS⟩ := q_tag_get ht
      rw [q_len_of hS] at h1
      have hj : q_r32 j := (q_pop F).2
      refine va_zald hx hb hK Wd.1 r 1 ((q_ws_get hS).trans (by rw [q_e1_1])) rfl (q_in hj h0 h1) hd ?_
      have := q_kk0 K Wd (q_push (v := .inl (z r j)) (q_pop (q_pop F).1).1 ((hrg r j).2 (by rw [ht]; decide)))
      simp only [q_cn hj, Int.toNat_of_nonneg h0]
      exact this
  · obtain rfl : len = 1 := by simpa [q_chk2] using hk
    match st, h with
    | .inl j :: .inr (.inr (.inl (some r))) :: w, h =>
      cases h
      obtain ⟨ht, h0, h1⟩ := hp
      obtain ⟨n, rs, hS⟩ := q_tag_get ht
      rw [q_len_of hS] at h1
      have hj : q_r32 j := (q_pop F).2
      refine va_lald hx hb hK Wd.1 r 2 ((q_ws_get hS).trans (by rw [q_e1_2])) rfl (q_in hj h0 h1) hd ?_
      have := q_kk0 K Wd (q_push (v := .inr (.inl (z r j))) (q_pop (q_pop F).1).1 ((hrg r j).1 ht))
      simp only [q_cn hj, Int.toNat_of_nonneg h0]
      exact this
  · obtain rfl : len = 1 := by simpa [q_chk2] using hk
    match st, h with
    | .inl x :: .inl j :: .inr (.inr (.inl (some r))) :: w, h =>
      cases h
      obtain ⟨ht, h0, h1⟩ := hp
      obtain ⟨n, rs, hS⟩ := q_tag_get ht
      rw [q_len_of hS] at h1
      have hxr : q_r32 x := (q_pop F).2
      have hj : q_r32 j := (q_pop (q_pop F).1).2
      refine va_iast hx hb hK Wd.1 Wd.2.1 Wd.2.2.1 r 0 ((q_ws_get hS).trans (by rw [q_e1_0])) rfl (q_in hj h0 h1) hd (fun H1 locs1 hP1 hD1 hS1 => ?_)
      exact K ad ls H1 locs1 (Nat.le_refl _) (fun _ _ => rfl) (q_wd_up Wd hS (by rw [q_e1_0, q_updI h0, q_cn hj]) (fun h => by cases h) (fun _ => hxr) hP1 hD1 hS1) (q_pop (q_pop (q_pop F).1).1).1
  · obtain rfl : len = 1 := by simpa [q_chk2] using hk
    match st, h with
    | .inl x :: .inl j :: .inr (.inr (.inl (some r))) :: w, h =>
      cases h
      obtain ⟨ht, h0, h1, hx0, hx1⟩ := hp
      obtain ⟨n, rs, hS⟩ := q_tag_get ht
      rw [q_len_of hS] at h1
      have hxr : q_r32 x := (q_pop F).2
      have hj : q_r32 j := (q_pop (q_pop F).1).2
      refine va_zast hx hb hK Wd.1 Wd.2.1 Wd.2.2.1 r 1 ((q_ws_get hS).trans (by rw [q_e1_1])) rfl (q_in hj h0 h1) hd (fun H1 locs1 hP1 hD1 hS1 => ?_)
      exact K ad ls H1 locs1 (Nat.le_refl _) (fun _ _ => rfl) (q_wd_up Wd hS (by rw [q_e1_1, q_updI h0, q_cn hj, (q_narZ hx0 hx1).2.2]) (fun h => by cases h) (fun _ => hxr) hP1 hD1 hS1) (q_pop (q_pop (q_pop F).1).1).1
  · obtain rfl : len = 1 := by simpa [q_chk2] using hk
    match st, h with
    | .inr (.inl x) :: .inl j :: .inr (.inr (.inl (some r))) :: w, h =>
      cases h
      obtain ⟨ht, h0, h1⟩ := hp
      obtain ⟨n, rs, hS⟩ := q_tag_get ht
      rw [q_len_of hS] at h1
      have hxr : q_r64 x := (q_pop F).2
      have hj : q_r32 j := (q_pop (q_pop F).1).2
      refine va_last hx hb hK Wd.1 Wd.2.1 Wd.2.2.1 r 2 ((q_ws_get hS).trans (by rw [q_e1_2])) rfl (q_in hj h0 h1) hd (fun H1 locs1 hP1 hD1 hS1 => ?_)
      exact K ad ls H1 locs1 (Nat.le_refl _) (fun _ _ => rfl) (q_wd_up Wd hS (by rw [q_e1_2, q_updL h0, q_cn hj]) (fun _ => hxr) (fun h => absurd rfl h) hP1 hD1 hS1) (q_pop (q_pop (q_pop F).1).1).1
  · obtain rfl : len = 1 := by simpa [q_chk2] using hk
    match st, h with
    | .inr (.inr (.inl (some r))) :: w, h =>
      cases h
      obtain ⟨⟨t, ht3, ht⟩, hlen⟩ := hp
      obtain ⟨n, rs, hS⟩ := q_tag_get ht
      rw [q_len_of hS] at hlen
      have kk := q_kk0 K Wd (q_push (v := .inl ((q_len S r : Nat) : Int)) (q_pop F).1 (by rw [q_len_of hS]; exact ⟨by omega, by omega⟩))
      simp only [List.map_cons, q_mv, q_len_of hS] at kk
      rcases (show t = 0 ∨ t = 1 ∨ t = 2 by omega) with rfl | rfl | rfl
      · exact va_alen hx hb hK Wd.1 r 0 ((q_ws_get hS).trans (by rw [q_e1_0])) rfl (v := Int32.ofInt (n : Int)) Int32.ofInt_eq_ofNat.symm hd kk
      · exact va_alen hx hb hK Wd.1 r 1 ((q_ws_get hS).trans (by rw [q_e1_1])) rfl (v := Int32.ofInt (n : Int)) Int32.ofInt_eq_ofNat.symm hd kk
      · exact va_alen hx hb hK Wd.1 r 2 ((q_ws_get hS).trans (by rw [q_e1_2])) rfl (v := Int32.ofInt (n : Int)) Int32.ofInt_eq_ofNat.symm hd kk
    | .inr (.inr (.inr u)) :: w, h =>
      cases h
      obtain ⟨hXX, hbl, hbA, hxl⟩ := hX hp
      refine va_slen hx hb hXX hbl hbA Wd.2.2.1 hd ?_
      have := q_kk0 K Wd (q_push (v := .inl (xl : Int)) (q_pop F).1 ⟨by omega, by omega⟩)
      rw [← Int32.ofInt_eq_ofNat]
      exact this
set_option maxHeartbeats 4000000 in
theorem q_fld_ok (C0 : q_Cx D cI cZ cJ M p R s m args meth c A H0 b xl xs) (hd : decode (q_b M) pc = .ok (i, len)) (hk : q_chk2 M pc len i v a ws = true) (Wd : q_Wd D cI cZ cJ A H0 ad S z H locs) (F : q_Fr ad b M ls lp st S kc ks)
    (hi : (∃ n, i = .getfield n) ∨ ∃ n, i = .putfield n)
    (h : q_sim3 (M = 0) xl (fun j => (xs j).toInt) (q_rm M).2.2.1 (q_rm M).2.2.2 i a lp st S z kc ks = some (P, lp', st', S', z', kc', ks')) (hp : P) (K : q_KK D cI cZ cJ M p l e R s m args below meth c Qm A H0 b ad S (pc + len) lp' st' S' z' kc' ks') :
    W p l e R s m args below meth c H locs kc ks Qm (F0 m pc ls (st.map (q_mv ad b))) := by
  obtain ⟨hx, hb, hml, hown, hts, hN, hK, hini, hR, hA, hX⟩ := C0
  have hrg := Wd.2.2.2.1
  have hwf := Wd.2.2.2.2
  rcases hi with ⟨n, rfl⟩ | ⟨n, rfl⟩
  · simp only [q_chk2, Bool.and_eq_true, beq_iff_eq, decide_eq_true_eq] at hk
    obtain ⟨⟨⟨⟨⟨rfl, h1⟩, h2⟩, h3⟩, h4⟩, h5⟩ := hk
    match st, h with
    | .inr (.inr (.inl (some r))) :: w, h =>
      simp only [q_sim3] at h
      by_cases hκ : q_a a 2 = 1
      · rw [if_pos hκ] at h
        cases h
        obtain ⟨ht, hne⟩ := hp
        obtain ⟨N, rs, hS⟩ := q_tag_get ht
        obtain ⟨h6, h7, h8⟩ : _ ∧ N = q_N (q_a a 0) ∧ rs.length = N := (hwf r _ hS).1 (q_a a 0) (Nat.add_comm 3 _)
        rw [q_ref_of hS] at hne
        have hv := q_fs_get (ad := ad) (k := q_a a 0) (sh := (3 + q_a a 0, N, rs)) (f := z r) (j := q_a a 1) (by show _ < N; rw [h7]; exact h3)
        rw [if_pos (by rw [← h4]; exact hκ)] at hv
        refine va_get hx hb hts (q_cf_in h2) hown hK Wd.1 r ((q_ws_get hS).trans (by rw [q_e1_3])) (q_cl_get h2) (q_a a 1) h3 (hts _ (q_has_mem h1)) (fun x hx9 => by rw [h5] at hx9; exact hx9) hv hd ?_
        cases hq : rs.getD (q_a a 1) none with
        | none => exact absurd hq hne
        | some q =>
          have hlt : q < S.length := (hwf r _ hS).2.2 _ _ hq
          have := q_kk0 K Wd (q_push (v := .inr (.inr (.inl (q_ref S r (q_a a 1))))) (q_pop F).1 (by rw [q_ref_of hS]; show q_ok _ (.inr (.inr (.inl (rs.getD (q_a a 1) none)))); rw [hq]; exact hlt))
          rw [q_ref_of hS] at this
          simp only [hq] at this
          exact this
      · rw [if_neg hκ] at h
        cases h
        have ht := hp
        obtain ⟨N, rs, hS⟩ := q_tag_get ht
        obtain ⟨h6, h7, h8⟩ : _ ∧ N = q_N (q_a a 0) ∧ rs.length = N := (hwf r _ hS).1 (q_a a 0) (Nat.add_comm 3 _)
        have hv := q_fs_get (ad := ad) (k := q_a a 0) (sh := (3 + q_a a 0, N, rs)) (f := z r) (j := q_a a 1) (by show _ < N; rw [h7]; exact h3)
        rw [if_neg (by rw [← h4]; exact hκ)] at hv
        exact va_get hx hb hts (q_cf_in h2) hown hK Wd.1 r ((q_ws_get hS).trans (by rw [q_e1_3])) (q_cl_get h2) (q_a a 1) h3 (hts _ (q_has_mem h1)) (fun x hx9 => by rw [h5] at hx9; exact hx9) hv hd
          (q_kk0 K Wd (q_push (v := .inl (z r (q_a a 1))) (q_pop F).1 ((hrg r _).2 (by rw [ht]; intro q; have := Option.some.inj q; omega))))
  · simp only [q_chk2, Bool.and_eq_true, Bool.or_eq_true, beq_iff_eq, decide_eq_true_eq] at hk
    obtain ⟨⟨⟨⟨⟨⟨rfl, h1⟩, h2⟩, h3⟩, h4⟩, h5⟩, h9⟩ := hk
    have hcf := q_cf h2 h3
    match st, h with
    | .inl x :: .inr (.inr (.inl (some r))) :: w, h =>
      simp only [q_sim3] at h
      by_cases hκ : q_a a 2 = 1
      · rw [if_pos hκ] at h; cases h
      · rw [if_neg hκ] at h
        cases h
        obtain ⟨ht, hkd⟩ := hp
        obtain ⟨N, rs, hS⟩ := q_tag_get ht
        obtain ⟨h6, h7, h8⟩ : _ ∧ N = q_N (q_a a 0) ∧ rs.length = N := (hwf r _ hS).1 (q_a a 0) (Nat.add_comm 3 _)
        have hxr : q_r32 x := (q_pop F).2
        have hnf : narrow (q_ty (q_a a 0) (q_a a 1)) (.int (Int32.ofInt x)) = .int (Int32.ofInt x) ∧ fits (q_ty (q_a a 0) (q_a a 1)) (.int (Int32.ofInt x)) = true := by
          rcases hcf.2.2.2.1 with ⟨-, q⟩ | ⟨q0, q⟩ | ⟨q0, -⟩
          · rw [q]; exact ⟨rfl, rfl⟩
          · rw [q]
            rw [← h4] at q0
            unfold q_kind at hkd
            rw [if_pos q0] at hkd
            exact ⟨(q_narZ hkd.1 hkd.2).1, (q_narZ hkd.1 hkd.2).2.1⟩
          · rw [← h4] at q0; exact absurd q0 hκ
        have hfin : ∀ (H1 : Heap) (locs1 : List Loc), va_P D q_cl ((q_ws cI cZ cJ ad S z).set r (ad r, .inr (q_a a 0, (q_fs ad (q_a a 0) (3 + q_a a 0, N, rs) (z r)).set (q_a a 1) (.int (Int32.ofInt x))))) H1 →
            va_D A ((q_ws cI cZ cJ ad S z).set r (ad r, .inr (q_a a 0, (q_fs ad (q_a a 0) (3 + q_a a 0, N, rs) (z r)).set (q_a a 1) (.int (Int32.ofInt x))))) → va_S A H0 H1 locs1 → W p l e R s m args below meth c H1 locs1 kc ks Qm (F0 m (pc + 3) ls (st'.map (q_mv ad b))) := fun H1 locs1 hP1 hD1 hS1 =>
          K ad ls H1 locs1 (Nat.le_refl _) (fun _ _ => rfl) (q_wd_up Wd hS (by rw [q_e1_3, q_fs_set (by rw [← h4]; exact hκ)]) (fun h => by omega) (fun _ => hxr) hP1 hD1 hS1) (q_pop (q_pop F).1).1
        rcases h9 with h9 | ⟨h9, h10⟩
        · exact va_put hx hb hts (q_cf_in h2) (q_ty (q_a a 0)) (q_cf_ty h2) (q_cf_nm h2) hown hK Wd.1 Wd.2.1 Wd.2.2.1 r ((q_ws_get hS).trans (by rw [q_e1_3])) (q_cl_get h2) (q_a a 1) h3 (hts _ (q_has_mem h1)) (fun x hx9 => by rw [h5] at hx9; exact hx9) h9 hcf.2.2.1 hnf.1 hnf.2 (by rw [q_fs_len]; show _ < N; rw [h7]; exact h3) hd hfin
        · by_cases hf : (q_T (q_a a 0) (q_a a 1)).2.2.2 = false
          · exact va_put hx hb hts (q_cf_in h2) (q_ty (q_a a 0)) (q_cf_ty h2) (q_cf_nm h2) hown hK Wd.1 Wd.2.1 Wd.2.2.1 r ((q_ws_get hS).trans (by rw [q_e1_3])) (q_cl_get h2) (q_a a 1) h3 (hts _ (q_has_mem h1)) (fun x hx9 => by rw [h5] at hx9; exact hx9) hf hcf.2.2.1 hnf.1 hnf.2 (by rw [q_fs_len]; show _ < N; rw [h7]; exact h3) hd hfin
          · exact va_putF hx hb hts (q_cf_in h2) (q_ty (q_a a 0)) (q_cf_ty h2) (q_cf_nm h2) hown hK Wd.1 Wd.2.1 Wd.2.2.1 r ((q_ws_get hS).trans (by rw [q_e1_3])) (q_cl_get h2) (q_a a 1) h3 (hts _ (q_has_mem h1)) (fun x hx9 => by rw [h5] at hx9; exact hx9) (by simpa using hf) (hini h9) (by rw [h5, h10]) hcf.2.2.1 hnf.1 hnf.2 (by rw [q_fs_len]; show _ < N; rw [h7]; exact h3) hd hfin
    | .inr (.inr (.inl u)) :: .inr (.inr (.inl (some r))) :: w, h =>
      simp only [q_sim3] at h
      by_cases hκ : q_a a 2 = 1
      · rw [if_pos hκ] at h
        cases h
        have ht := hp
        obtain ⟨N, rs, hS⟩ := q_tag_get ht
        obtain ⟨h6, h7, h8⟩ : _ ∧ N = q_N (q_a a 0) ∧ rs.length = N := (hwf r _ hS).1 (q_a a 0) (Nat.add_comm 3 _)
        have hj : q_a a 1 < rs.length := by rw [h8, h7]; exact h3
        have ev : q_mv ad b (.inr (.inr (.inl u))) = va_rf (u.map ad) := by cases u <;> rfl
        have hku : (q_kd.getD (q_a a 0) []).getD (q_a a 1) 0 = 1 := by rw [← h4]; exact hκ
        have hu : ∀ q, u = some q → q < S.length := fun q hq => by subst hq; exact (q_pop F).2
        have hnf : narrow (q_ty (q_a a 0) (q_a a 1)) (va_rf (u.map ad)) = va_rf (u.map ad) ∧ fits (q_ty (q_a a 0) (q_a a 1)) (va_rf (u.map ad)) = true := by
          rcases hcf.2.2.2.1 with ⟨q, -⟩ | ⟨q, -⟩ | ⟨-, ⟨n, q⟩ | ⟨t, q⟩⟩
          · omega
          · omega
          · rw [q]; cases u <;> exact ⟨rfl, rfl⟩
          · rw [q]; cases u <;> exact ⟨rfl, rfl⟩
        have hpr : q_pr S r (q_a a 1) u = S.set r (3 + q_a a 0, N, rs.set (q_a a 1) u) := by unfold q_pr; rw [hS]
        have hrl := q_lt_of hS
        have htag : ∀ q, q_tag (q_pr S r (q_a a 1) u) q = q_tag S q := by
          intro q
          rw [hpr]
          by_cases e : q = r
          · subst e
            rw [ht]
            unfold q_tag
            rw [List.getElem?_set_self hrl]
          · unfold q_tag
            rw [List.getElem?_set_ne (fun w => e w.symm)]
        have hfin : ∀ (H1 : Heap) (locs1 : List Loc), va_P D q_cl ((q_ws cI cZ cJ ad S z).set r (ad r, .inr (q_a a 0, (q_fs ad (q_a a 0) (3 + q_a a 0, N, rs) (z r)).set (q_a a 1) (va_rf (u.map ad))))) H1 →
            va_D A ((q_ws cI cZ cJ ad S z).set r (ad r, .inr (q_a a 0, (q_fs ad (q_a a 0) (3 + q_a a 0, N, rs) (z r)).set (q_a a 1) (va_rf (u.map ad))))) → va_S A H0 H1 locs1 → W p l e R s m args below meth c H1 locs1 kc ks Qm (F0 m (pc + 3) ls (st'.map (q_mv ad b))) := by
          intro H1 locs1 hP1 hD1 hS1
          have e1 : q_ws cI cZ cJ ad (q_pr S r (q_a a 1) u) z = (q_ws cI cZ cJ ad S z).set r (ad r, .inr (q_a a 0, (q_fs ad (q_a a 0) (3 + q_a a 0, N, rs) (z r)).set (q_a a 1) (va_rf (u.map ad)))) := by
            rw [hpr]
            refine q_ws_set (by simp) hrl (fun q hq => ⟨by rw [List.getElem?_set_ne (fun w => hq w.symm)], rfl⟩) (fun sh' hs => ?_)
            rw [List.getElem?_set_self hrl] at hs
            cases hs
            rw [q_e1_3, q_fs_setr hku hj]
          have hlen : (q_pr S r (q_a a 1) u).length = S.length := by rw [hpr]; simp
          have hF' := (q_pop (q_pop F).1).1
          refine K ad ls H1 locs1 (by rw [hlen]; exact Nat.le_refl _) (fun _ _ => rfl) ⟨by rw [e1]; exact hP1, by rw [e1]; exact hD1, hS1, fun q j => by rw [htag]; exact hrg q j, fun q sh' hs => ?_⟩ ⟨hF'.1, fun i v hv => by rw [hlen]; exact hF'.2.1 i v hv, fun v hv => by rw [hlen]; exact hF'.2.2.1 v hv, hF'.2.2.2⟩
          rw [hlen]
          rw [hpr] at hs
          by_cases e : q = r
          · subst e
            rw [List.getElem?_set_self hrl] at hs
            cases hs
            refine ⟨fun k hk => ?_, (hwf q _ hS).2.1, fun k x hx => ?_⟩
            · have := (hwf q _ hS).1 k hk
              exact ⟨this.1, this.2.1, by simpa using this.2.2⟩
            · by_cases e2 : k = q_a a 1
              · subst e2
                simp [List.getD_eq_getElem?_getD, hj] at hx
                exact hu x hx
              · exact (hwf q _ hS).2.2 k x (by simpa [List.getD_eq_getElem?_getD, List.getElem?_set, Ne.symm e2] using hx)
          · rw [List.getElem?_set_ne (fun w => e w.symm)] at hs
            exact hwf q sh' hs
        show W p l e R s m args below meth c H locs kc ks Qm (F0 m pc ls (q_mv ad b (.inr (.inr (.inl u))) :: .ref (ad r) :: st'.map (q_mv ad b)))
        rw [ev]
        rcases h9 with h9 | ⟨h9, h10⟩
        · exact va_put hx hb hts (q_cf_in h2) (q_ty (q_a a 0)) (q_cf_ty h2) (q_cf_nm h2) hown hK Wd.1 Wd.2.1 Wd.2.2.1 r ((q_ws_get hS).trans (by rw [q_e1_3])) (q_cl_get h2) (q_a a 1) h3 (hts _ (q_has_mem h1)) (fun x hx9 => by rw [h5] at hx9; exact hx9) h9 hcf.2.2.1 hnf.1 hnf.2 (by rw [q_fs_len]; show _ < N; rw [h7]; exact h3) hd hfin
        · by_cases hf : (q_T (q_a a 0) (q_a a 1)).2.2.2 = false
          · exact va_put hx hb hts (q_cf_in h2) (q_ty (q_a a 0)) (q_cf_ty h2) (q_cf_nm h2) hown hK Wd.1 Wd.2.1 Wd.2.2.1 r ((q_ws_get hS).trans (by rw [q_e1_3])) (q_cl_get h2) (q_a a 1) h3 (hts _ (q_has_mem h1)) (fun x hx9 => by rw [h5] at hx9; exact hx9) hf hcf.2.2.1 hnf.1 hnf.2 (by rw [q_fs_len]; show _ < N; rw [h7]; exact h3) hd hfin
          · exact va_putF hx hb hts (q_cf_in h2) (q_ty (q_a a 0)) (q_cf_ty h2) (q_cf_nm h2) hown hK Wd.1 Wd.2.1 Wd.2.2.1 r ((q_ws_get hS).trans (by rw [q_e1_3])) (q_cl_get h2) (q_a a 1) h3 (hts _ (q_has_mem h1)) (fun x hx9 => by rw [h5] at hx9; exact hx9) (by simpa using hf) (hini h9) (by rw [h5, h10]) hcf.2.2.1 hnf.1 hnf.2 (by rw [q_fs_len]; show _ < N; rw [h7]; exact h3) hd hfin
      · rw [if_neg hκ] at h; cases h
end QSim3
end
section
/-! Making objects and arrays. -/
section QNew
variable {D : va_G} {cI cZ cJ : ClassId} {M : Nat} {p : Program} {l : Launch} {e : Env} {R : Room} {s : State} {m : MethodId} {args : Array Value} {below : List Frame} {meth : Method} {c : Code} {Qm : State → Prop} {A : Nat → Prop} {H0 H : Heap} {locs : List Loc} {b xl : Nat} {xs : Nat → Int32} {ad : Nat → Nat} {ls : Array Slot} {lp lp' : List (Option qV)} {st st' : List qV} {S S' : qS} {z z' : qM} {kc ks kc' ks' pc len : Nat} {i : Instr} {v : Int} {a ws : List Nat} {P : Prop}
/-- the world with a cell more -/
theorem q_grow {sh : Nat × Nat × List (Option Nat)} {q : Nat} {H1 : Heap} {kc1 ks1 : Nat} (Wd : q_Wd D cI cZ cJ A H0 ad S z H locs) (F : q_Fr ad b M ls lp st S kc ks)
    (h1 : ∀ k, sh.1 = k + 3 → k < q_ft.length ∧ sh.2.1 = q_N k ∧ sh.2.2.length = sh.2.1) (hn : sh.2.1 < 2147483648) (h2 : ∀ k x, sh.2.2.getD k none = some x → x < S.length)
    (hP : va_P D q_cl (q_ws cI cZ cJ ad S z ++ [(q, q_e1 cI cZ cJ ad sh (fun _ => 0))]) H1) (hD : va_D A (q_ws cI cZ cJ ad S z ++ [(q, q_e1 cI cZ cJ ad sh (fun _ => 0))])) (hS : va_S A H0 H1 locs)
    (hc : kc1 ≤ (q_rm M).2.2.1) (hs : ks1 ≤ (q_rm M).2.2.2)
    (K : q_KK D cI cZ cJ M p l e R s m args below meth c Qm A H0 b ad S pc lp (.inr (.inr (.inl (some S.length))) :: st) (S ++ [sh]) (q_z z S.length) kc1 ks1) :
    W p l e R s m args below meth c H1 locs kc1 ks1 Qm (F0 m pc ls (.ref q :: st.map (q_mv ad b))) := by
  have hag : ∀ r, r < S.length → (fun r => if r = S.length then q else ad r) r = ad r := fun r hr => by
    show (if r = S.length then q else ad r) = ad r
    rw [if_neg (by omega)]
  have hlen : S.length ≤ (S ++ [sh]).length := by simp
  have hw := q_ws_push (cI := cI) (cZ := cZ) (cJ := cJ) (ad := ad) (z := z) (a := q) Wd.2.2.2.2 h2
  have kk := K (fun r => if r = S.length then q else ad r) ls H1 locs hlen hag ⟨by rw [hw]; exact hP, by rw [hw]; exact hD, hS, q_rg_push Wd.2.2.2.1, q_wf_push Wd.2.2.2.2 h1 hn h2⟩
    ⟨F.1.moved hag F.2.1, fun i v hv => q_ok_mono hlen (F.2.1 i v hv), fun v hv => by
      rcases List.mem_cons.mp hv with rfl | hv
      · show S.length < (S ++ [sh]).length
        simp
      · exact q_ok_mono hlen (F.2.2.1 v hv), hc, hs⟩
  rw [List.map_cons, q_mv_list hag F.2.2.1] at kk
  simp only [q_mv, if_true] at kk
  exact kk
theorem q_rep {n k x : Nat} (h : (List.replicate n (none : Option Nat)).getD k none = some x) : False := by
  simp only [List.getD_eq_getElem?_getD, List.getElem?_replicate] at h
  split at h <;> cases h
set_option maxHeartbeats 4000000 in
theorem q_new_ok (C0 : q_Cx D cI cZ cJ M p R s m args meth c A H0 b xl xs) {n : Nat} (hd : decode (q_b M) pc = .ok (.new n, len)) (hk : q_chk2 M pc len (.new n) v a ws = true) (h1 : ¬ q_a a 2 = 1) (Wd : q_Wd D cI cZ cJ A H0 ad S z H locs) (F : q_Fr ad b M ls lp st S kc ks)
    (h : q_sim3 (M = 0) xl (fun j => (xs j).toInt) (q_rm M).2.2.1 (q_rm M).2.2.2 (.new n) a lp st S z kc ks = some (P, lp', st', S', z', kc', ks')) (hp : P) (K : q_KK D cI cZ cJ M p l e R s m args below meth c Qm A H0 b ad S (pc + len) lp' st' S' z' kc' ks') :
    W p l e R s m args below meth c H locs kc ks Qm (F0 m pc ls (st.map (q_mv ad b))) := by
  obtain ⟨hx, hb, hml, hown, hts, hN, hK, hini, hR, hA, hX⟩ := C0
  simp only [q_chk2, Bool.and_eq_true, Bool.or_eq_true, beq_iff_eq, decide_eq_true_eq] at hk
  obtain ⟨rfl, hk⟩ := hk
  rcases hk with hk | ⟨⟨⟨⟨⟨h2, h3⟩, h4⟩, h5⟩, h6⟩, h7⟩
  · exact absurd hk h1
  · cases h
    obtain ⟨hp1, hp2⟩ := hp
    have hlt : q_N (q_a a 0) < 2147483648 := by
      have hall : ((List.range q_ft.length).all fun k => decide (q_N k < 2147483648)) = true := by decide +kernel
      exact of_decide_eq_true (List.all_eq_true.mp hall (q_a a 0) (List.mem_range.mpr h2))
    rw [h3] at hp2
    refine va_new (fs := q_fs ad (q_a a 0) (3 + q_a a 0, q_N (q_a a 0), List.replicate (q_N (q_a a 0)) none) (fun _ => 0)) hx hb hts (q_cf_in h2) (q_ty (q_a a 0)) (q_cf_ty h2) hown (hts _ (q_has_mem h5)) (hts _ (q_has_mem h6)) (hts _ (q_has_mem h7)) hK Wd.1 Wd.2.1 Wd.2.2.1 hA (q_cl_get h2)
      (fun j hj => ?_) (by have := hR.2.2.1; omega) (by have := hR.2.2.2; omega) hd (fun q H1 hP1 hD1 hS1 => ?_)
    · unfold vp_V
      rw [List.getD_eq_getElem?_getD, q_fs_get (sh := (3 + q_a a 0, q_N (q_a a 0), List.replicate (q_N (q_a a 0)) none)) hj, Option.getD_some]
      rcases (q_cf h2 hj).2.2.2.1 with ⟨k0, q⟩ | ⟨k0, q⟩ | ⟨k0, ⟨n, q⟩ | ⟨t, q⟩⟩
      · rw [q, if_neg (by omega)]; rfl
      · rw [q, if_neg (by omega)]; rfl
      · rw [q, if_pos k0]
        cases hq : (List.replicate (q_N (q_a a 0)) (none : Option Nat)).getD j none with
        | none => rfl
        | some x => exact (q_rep hq).elim
      · rw [q, if_pos k0]
        cases hq : (List.replicate (q_N (q_a a 0)) (none : Option Nat)).getD j none with
        | none => rfl
        | some x => exact (q_rep hq).elim
    · rw [h3] at K
      exact q_grow (sh := (3 + q_a a 0, q_N (q_a a 0), List.replicate (q_N (q_a a 0)) none)) Wd F (fun k hk => by
          have e9 : k = q_a a 0 := by have : 3 + q_a a 0 = k + 3 := hk; omega
          subst e9
          exact ⟨h2, rfl, by simp⟩) hlt (fun k x hx => (q_rep hx).elim) (by rw [q_e1_3]; exact hP1) (by rw [q_e1_3]; exact hD1) hS1 hp1 hp2 K
theorem q_cA {cA c0 : ClassId} {ty : FieldType} {k : Nat} (hK : va_K D q_cl (q_tys cI cZ cJ ++ [(cA, ty)]) s) (hk : k < 3) (hc : (q_tys cI cZ cJ)[k]? = some (c0, ty)) (hty : ty = .int ∨ ty = .boolean ∨ ty = .long) : cA = c0 := by
  have h1 := (hK.2 3 (cA, ty) rfl).2
  have h2 := (hK.2 k (c0, ty) (by rw [List.getElem?_append_left (by exact hk)]; exact hc)).2
  rcases hty with rfl | rfl | rfl
  · exact Option.some.inj (h1.symm.trans h2)
  · exact Option.some.inj (h1.symm.trans h2)
  · exact Option.some.inj (h1.symm.trans h2)
set_option maxHeartbeats 4000000 in
theorem q_newa_ok (C0 : q_Cx D cI cZ cJ M p R s m args meth c A H0 b xl xs) {t : ArrayType} (hd : decode (q_b M) pc = .ok (.newarray t, len)) (hk : q_chk2 M pc len (.newarray t) v a ws = true) (Wd : q_Wd D cI cZ cJ A H0 ad S z H locs) (F : q_Fr ad b M ls lp st S kc ks)
    (h : q_sim3 (M = 0) xl (fun j => (xs j).toInt) (q_rm M).2.2.1 (q_rm M).2.2.2 (.newarray t) a lp st S z kc ks = some (P, lp', st', S', z', kc', ks')) (hp : P) (K : q_KK D cI cZ cJ M p l e R s m args below meth c Qm A H0 b ad S (pc + len) lp' st' S' z' kc' ks') :
    W p l e R s m args below meth c H locs kc ks Qm (F0 m pc ls (st.map (q_mv ad b))) := by
  obtain ⟨hx, hb, hml, hown, hts, hN, hK, hini, hR, hA, hX⟩ := C0
  simp only [q_chk2, Bool.and_eq_true, beq_iff_eq] at hk
  obtain ⟨rfl, hk⟩ := hk
  match st, h with
  | .inl n :: w, h =>
    cases h
    obtain ⟨hp0, hp1, hp2, hp3⟩ := hp
    have hn : q_r32 n := (q_pop F).2
    have hcn := q_cn hn
    have hneg : ¬ Int32.ofInt n < 0 := by
      rw [Int32.lt_iff_toInt_lt, q_t32 hn, Int32.toInt_zero]
      omega
    have hb60 : n.toNat ≤ 60000 := by omega
    cases t with
    | int =>
      simp only [Bool.and_eq_true, decide_eq_true_eq] at hk
      rw [hk.1] at K
      refine va_newa (a0 := (n.toNat, .inl (fun _ => Int32.ofInt 0))) (N' := n.toNat) (ty := .int) hx hb (hts _ (q_has_mem hk.2)) rfl hK Wd.1 Wd.2.1 Wd.2.2.1 hA (fun _ => rfl) hneg hcn (by show n.toNat * 4 ≤ _; omega) (by have := hR.2.2.1; omega) (by have := hR.2.2.2; omega) hd (fun q cA H1 hK1 hP1 hD1 hS1 => ?_)
      obtain rfl := q_cA hK1 (by decide) (q_tyI _ cZ cJ) (Or.inl rfl)
      exact q_grow (sh := (0, n.toNat, [])) Wd (q_pop F).1 (fun k hk => by cases hk) (by show n.toNat < _; omega) (fun k x hx => by cases hx) hP1 hD1 hS1 hp2 hp3 K
    | boolean =>
      simp only [Bool.and_eq_true, decide_eq_true_eq] at hk
      rw [hk.1] at K
      refine va_newa (a0 := (n.toNat, .inl (fun _ => Int32.ofInt 0))) (N' := n.toNat) (ty := .boolean) hx hb (hts _ (q_has_mem hk.2)) rfl hK Wd.1 Wd.2.1 Wd.2.2.1 hA (fun _ => rfl) hneg hcn (by show n.toNat * 1 ≤ _; omega) (by have := hR.2.2.1; omega) (by have := hR.2.2.2; omega) hd (fun q cA H1 hK1 hP1 hD1 hS1 => ?_)
      obtain rfl := q_cA hK1 (by decide) (q_tyZ cI _ cJ) (Or.inr (Or.inl rfl))
      exact q_grow (sh := (1, n.toNat, [])) Wd (q_pop F).1 (fun k hk => by cases hk) (by show n.toNat < _; omega) (fun k x hx => by cases hx) hP1 hD1 hS1 hp2 hp3 K
    | long =>
      simp only [Bool.and_eq_true, decide_eq_true_eq] at hk
      rw [hk.1] at K
      refine va_newa (a0 := (n.toNat, .inr (.inl (fun _ => Int64.ofInt 0)))) (N' := n.toNat) (ty := .long) hx hb (hts _ (q_has_mem hk.2)) rfl hK Wd.1 Wd.2.1 Wd.2.2.1 hA (fun _ => rfl) hneg hcn (by show n.toNat * 8 ≤ _; omega) (by have := hR.2.2.1; omega) (by have := hR.2.2.2; omega) hd (fun q cA H1 hK1 hP1 hD1 hS1 => ?_)
      obtain rfl := q_cA hK1 (by decide) (q_tyJ cI cZ _) (Or.inr (Or.inr rfl))
      exact q_grow (sh := (2, n.toNat, [])) Wd (q_pop F).1 (fun k hk => by cases hk) (by show n.toNat < _; omega) (fun k x hx => by cases hx) hP1 hD1 hS1 hp2 hp3 K
    | _ => cases hk
end QNew
end
section
/-! What a frame owes; calls; the whole step. -/
def q_Pr (xl : Nat) (xs : Nat → Int32) : qP := (q_ft1, fun M => (q_rm M).2.2.1, fun M => (q_rm M).2.2.2, q_nL, xl, fun j => (xs j).toInt)
def q_rok (M pc : Nat) (v : Option qV) : Prop := match v with
  | none => decode (q_b M) pc = .ok (.return_, 1) ∧ q_rt M = none
  | some (.inl x) => decode (q_b M) pc = .ok (.ireturn, 1) ∧ (q_rt M = some .int ∨ (q_rt M = some .boolean ∧ 0 ≤ x ∧ x ≤ 1))
  | some (.inr (.inl _)) => decode (q_b M) pc = .ok (.lreturn, 1) ∧ q_rt M = some .long
  | some (.inr (.inr (.inl (some _)))) => decode (q_b M) pc = .ok (.areturn, 1) ∧ ∃ n, q_rt M = some (.object n)
  | _ => False
def q_thr (M pc k : Nat) : Prop := ∃ (idx : Nat) (v : Int) (a : List Nat), q_ft1 M pc = some (3, .new idx, v, a) ∧ q_a a 2 = 1 ∧ q_a a 0 = k
section QMain
variable (D : va_G) (cI cZ cJ : ClassId) (M : Nat) (p : Program) (l : Launch) (e : Env) (R : Room) (s : State) (m : MethodId) (args : Array Value) (below : List Frame) (meth : Method) (c : Code) (Qm : State → Prop) (A : Nat → Prop) (H0 : Heap) (b : Nat)
/-- what a frame's end gives, where it returns -/
def q_HR (Q : qQ) (n : Nat) (ad : Nat → Nat) : Prop := ∀ (pc' : Nat) (ls' : Array Slot) (v : Option qV) (S' : qS) (z' : qM) (ad' : Nat → Nat) (H' : Heap) (locs' : List Loc) (kc' ks' : Nat),
  Q (.inl v) S' z' → q_rok M pc' v → n ≤ S'.length → (∀ r, r < n → ad' r = ad r) → q_Wd D cI cZ cJ A H0 ad' S' z' H' locs' → (∀ w, v = some w → q_ok S'.length w) → kc' ≤ (q_rm M).2.2.1 → ks' ≤ (q_rm M).2.2.2 →
  W p l e R s m args below meth c H' locs' kc' ks' Qm (F0 m pc' ls' (v.toList.map (q_mv ad' b)))
/-- .. where it throws -/
def q_HT (Q : qQ) (n : Nat) (ad : Nat → Nat) : Prop := ∀ (pc' : Nat) (ls' : Array Slot) (k : Nat) (S' : qS) (z' : qM) (ad' : Nat → Nat) (H' : Heap) (locs' : List Loc) (kc' ks' : Nat),
  Q (.inr k) S' z' → q_thr M pc' k → n ≤ S'.length → (∀ r, r < n → ad' r = ad r) → q_Wd D cI cZ cJ A H0 ad' S' z' H' locs' → ls'.size = q_nL M → kc' + 1 ≤ (q_rm M).2.2.1 → ks' + 6 ≤ (q_rm M).2.2.2 →
  W p l e R s m args below meth c H' locs' kc' ks' Qm (F0 m pc' ls' [])
end QMain
theorem q_HR.moved {D : va_G} {cI cZ cJ : ClassId} {M : Nat} {p : Program} {l : Launch} {e : Env} {R : Room} {s : State} {m : MethodId} {args : Array Value} {below : List Frame} {meth : Method} {c : Code} {Qm : State → Prop} {A : Nat → Prop} {H0 : Heap} {b n n' : Nat} {Q : qQ} {ad ad' : Nat → Nat}
    (h : q_HR D cI cZ cJ M p l e R s m args below meth c Qm A H0 b Q n ad) (hn : n ≤ n') (ha : ∀ r, r < n → ad' r = ad r) : q_HR D cI cZ cJ M p l e R s m args below meth c Qm A H0 b Q n' ad' :=
  fun pc' ls' v S' z' ad2 H' locs' kc' ks' h1 h2 h3 h4 => h pc' ls' v S' z' ad2 H' locs' kc' ks' h1 h2 (Nat.le_trans hn h3) (fun r hr => (h4 r (Nat.lt_of_lt_of_le hr hn)).trans (ha r hr))
theorem q_HT.moved {D : va_G} {cI cZ cJ : ClassId} {M : Nat} {p : Program} {l : Launch} {e : Env} {R : Room} {s : State} {m : MethodId} {args : Array Value} {below : List Frame} {meth : Method} {c : Code} {Qm : State → Prop} {A : Nat → Prop} {H0 : Heap} {n n' : Nat} {Q : qQ} {ad ad' : Nat → Nat}
    (h : q_HT D cI cZ cJ M p l e R s m args below meth c Qm A H0 Q n ad) (hn : n ≤ n') (ha : ∀ r, r < n → ad' r = ad r) : q_HT D cI cZ cJ M p l e R s m args below meth c Qm A H0 Q n' ad' :=
  fun pc' ls' v S' z' ad2 H' locs' kc' ks' h1 h2 h3 h4 => h pc' ls' v S' z' ad2 H' locs' kc' ks' h1 h2 (Nat.le_trans hn h3) (fun r hr => (h4 r (Nat.lt_of_lt_of_le hr hn)).trans (ha r hr))
def q_Y (l : Launch) (D : va_G) (cI cZ cJ : ClassId) (xl : Nat) (xs : Nat → Int32) (M : Nat) (q : qC) (Q : qQ) : Prop := match q with
  | (pc, lp, st, S, z, kc, ks) => ∀ (p : Program) (e : Env) (R : Room) (s : State) (m : MethodId) (args : Array Value) (below : List Frame) (meth : Method) (c : Code) (Qm : State → Prop) (A : Nat → Prop) (H0 H : Heap) (locs : List Loc) (b : Nat) (ad : Nat → Nat) (ls : Array Slot),
    q_Cx D cI cZ cJ M p R s m args meth c A H0 b xl xs → q_Wd D cI cZ cJ A H0 ad S z H locs → q_Fr ad b M ls lp st S kc ks → q_HR D cI cZ cJ M p l e R s m args below meth c Qm A H0 b Q S.length ad → q_HT D cI cZ cJ M p l e R s m args below meth c Qm A H0 Q S.length ad →
    W p l e R s m args below meth c H locs kc ks Qm (F0 m pc ls (st.map (q_mv ad b)))
section QStep
variable {D : va_G} {cI cZ cJ : ClassId} {M : Nat} {p : Program} {l : Launch} {e : Env} {R : Room} {s : State} {m : MethodId} {args : Array Value} {below : List Frame} {meth : Method} {c : Code} {Qm : State → Prop} {A : Nat → Prop} {H0 H : Heap} {locs : List Loc} {b xl : Nat} {xs : Nat → Int32} {ad : Nat → Nat} {ls : Array Slot} {lp lp' : List (Option qV)} {st st' : List qV} {S S' : qS} {z z' : qM} {kc ks kc' ks' pc len : Nat} {i : Instr} {v : Int} {a ws : List Nat} {P : Prop} {Q : qQ}
theorem q_Y_KK (C0 : q_Cx D cI cZ cJ M p R s m args meth c A H0 b xl xs) (HR : q_HR D cI cZ cJ M p l e R s m args below meth c Qm A H0 b Q S.length ad) (HT : q_HT D cI cZ cJ M p l e R s m args below meth c Qm A H0 Q S.length ad)
    (h : q_Y l D cI cZ cJ xl xs M (pc, lp', st', S', z', kc', ks') Q) : q_KK D cI cZ cJ M p l e R s m args below meth c Qm A H0 b ad S pc lp' st' S' z' kc' ks' :=
  fun ad' ls' H' locs' hl hag Wd' F' => h p e R s m args below meth c Qm A H0 H' locs' b ad' ls' C0 Wd' F' (HR.moved hl hag) (HT.moved hl hag)
/-- the contract of a plain method, out of one run of the pure machine -/
def q_wsM (M : Nat) : List Jvm.Cond := .code (q_y M) (q_b M) (q_nL M) (q_rt M) :: q_tb
def q_rmM (M : Nat) : Room := { frames := (q_rm M).1, cells := (q_rm M).2.2.1, slots := (q_rm M).2.2.2, locals := (q_rm M).2.1 }
def q_Pc (D : va_G) (cI cZ cJ : ClassId) (av : List Value) (Hc : Heap) : Array Value → State → Prop := fun v U => v = av.toArray ∧ U.heap = Hc ∧ va_K D q_cl (q_tys cI cZ cJ) U ∧ ∀ o i y h, Jvm.Cond.methodLinkNest o i y h ∈ lw_tbl → va_Nw (.methodLinkNest o i y h) U
def q_Qb (D : va_G) (cI cZ cJ : ClassId) (R : qQ) (ad : Nat → Nat) (b : Nat) (S : qS) (A1 : Nat → Prop) (k : qR) (ad' : Nat → Nat) (S' : qS) (z' : qM) (t : State) : Prop :=
  R k S' z' ∧ S.length ≤ S'.length ∧ (∀ r, r < S.length → ad' r = ad r) ∧ va_P D q_cl (q_ws cI cZ cJ ad' S' z') t.heap ∧ va_D A1 (q_ws cI cZ cJ ad' S' z') ∧ q_rg S' z' ∧ q_wf S'
def q_Qc (D : va_G) (cI cZ cJ : ClassId) (R : qQ) (ad : Nat → Nat) (b : Nat) (S : qS) (A1 : Nat → Prop) : Array Value → State → Outcome → State → Prop := fun _ st oc t =>
  (∃ (v : Option qV) (ad' : Nat → Nat) (S' : qS) (z' : qM), oc = .returned (v.map (q_mv ad' b)) ∧ q_Qb D cI cZ cJ R ad b S A1 (.inl v) ad' S' z' t ∧ ∀ w, v = some w → q_ok S'.length w) ∧ va_F A1 st t
theorem q_chkM_of {M : Nat} (h : q_chkM M = true) : (q_y M).cls ≠ "java/lang/invoke/MethodHandle" ∧ (q_y M).cls ≠ "java/lang/invoke/VarHandle" ∧ plainName (q_y M).cls = true ∧ (q_mk M = 0 → Jvm.Cond.code (q_y M) (q_b M) (q_nL M) (q_rt M) ∈ q_tb) := by
  unfold q_chkM at h
  simp only [Bool.and_eq_true, decide_eq_true_eq] at h
  obtain ⟨⟨⟨h1, h2⟩, h3⟩, h4⟩ := h
  refine ⟨h1, h2, h3, fun h0 => ?_⟩
  rw [if_pos h0] at h4
  exact q_has_mem h4
theorem q_lv_pad : ∀ (as : List qV) (k n : Nat), q_lv ad b k (q_en as ++ List.replicate n none) = lv_args k (as.map (q_mv ad b))
  | [], k, n => by
    show q_lv ad b k (List.replicate n none) = []
    induction n generalizing k with
    | zero => rfl
    | succ n ih => exact ih (k + 1)
  | v :: r, k, n => by
    show q_lv ad b k ((if q_cat v = 2 then some v :: none :: q_en r else some v :: q_en r) ++ List.replicate n none) = (k, q_mv ad b v) :: lv_args (if (q_mv ad b v).category = 2 then k + 2 else k + 1) (r.map (q_mv ad b))
    rw [q_mv_cat]
    by_cases h : q_cat v = 2
    · rw [if_pos h, if_pos h]
      show (k, q_mv ad b v) :: q_lv ad b (k + 1 + 1) (q_en r ++ _) = _
      rw [q_lv_pad r]
    · rw [if_neg h, if_neg h]
      show (k, q_mv ad b v) :: q_lv ad b (k + 1) (q_en r ++ _) = _
      rw [q_lv_pad r]
theorem q_sl_len : ∀ (as : List qV), (lg_sl (as.map (q_mv ad b))).length = (q_en as).length
  | [] => rfl
  | v :: r => by
    have ih := q_sl_len r
    unfold lg_sl at ih ⊢
    rw [List.map_cons, List.flatMap_cons, List.length_append, ih, q_mv_cat]
    show _ = (if q_cat v = 2 then some v :: none :: q_en r else some v :: q_en r).length
    by_cases h : q_cat v = 2
    · rw [if_pos h, if_pos h]; simp; omega
    · rw [if_neg h, if_neg h]; simp; omega
theorem q_en_mem : ∀ (as : List qV) {j : Nat} {u : qV}, (q_en as)[j]? = some (some u) → u ∈ as
  | [], j, u, h => by simp [q_en] at h
  | v :: r, j, u, h => by
    have h : (if q_cat v = 2 then some v :: none :: q_en r else some v :: q_en r)[j]? = some (some u) := h
    by_cases hc : q_cat v = 2
    · rw [if_pos hc] at h
      match j, h with
      | 0, h => simp at h; subst h; exact List.mem_cons_self
      | 1, h => simp at h
      | j + 2, h => exact List.mem_cons_of_mem _ (q_en_mem r (j := j) (by simpa using h))
    · rw [if_neg hc] at h
      match j, h with
      | 0, h => simp at h; subst h; exact List.mem_cons_self
      | j + 1, h => exact List.mem_cons_of_mem _ (q_en_mem r (j := j) (by simpa using h))
theorem q_pad_mem {as : List qV} {n j : Nat} {u : qV} (h : (q_pad n (q_en as))[j]? = some (some u)) : u ∈ as := by
  unfold q_pad at h
  by_cases hj : j < (q_en as).length
  · rw [List.getElem?_append_left hj] at h
    exact q_en_mem as h
  · rw [List.getElem?_append_right (by omega), List.getElem?_replicate] at h
    split at h <;> simp at h
/-- the locals at a method's start -/
theorem q_start {as : List qV} (h : (q_en as).length ≤ q_nL M) : q_LR ad b (q_nL M) ((lg_sl (as.map (q_mv ad b)) ++ List.replicate (q_nL M - (lg_sl (as.map (q_mv ad b))).length) Slot.unset).toArray) (q_pad (q_nL M) (q_en as)) := by
  refine ⟨?_, by unfold q_pad; simp; omega⟩
  unfold q_pad
  rw [q_lv_pad]
  exact lv_entry _ (by rw [q_sl_len]; exact h)
set_option maxHeartbeats 4000000 in
theorem q_met {as : List qV} {Rq : qQ} (hm : q_chkM M = true) (hM0 : M ≠ 0) (hlen : (q_en as).length ≤ q_nL M) (hP : va_P D q_cl (q_ws cI cZ cJ ad S z) H) (hD : va_D A (q_ws cI cZ cJ ad S z)) (hrg : q_rg S z) (hwf : q_wf S) (hok : ∀ v ∈ as, q_ok S.length v)
    (hY : q_Y l D cI cZ cJ xl xs M (0, q_pad (q_nL M) (q_en as), [], S, z, 0, 0) Rq) (hno : ∀ k S' z', ¬ Rq (.inr k) S' z') :
    Met l (q_y M) (q_wsM M) (q_rmM M) (q_Pc D cI cZ cJ (as.map (q_mv ad b)) H) (q_Qc D cI cZ cJ Rq ad b S (va_A (q_ws cI cZ cJ ad S z) H.size)) (q_rm M).2.2.1 (q_rm M).2.2.2 (va_A (q_ws cI cZ cJ ad S z) H.size) := by
  refine Met.ofW (cc := q_b M) (maxL := q_nL M) (ret := q_rt M) (q_chkM_of hm).2.2.1 rfl ?_
  intro p e s m args below meth c s₁ B hml hv
  obtain ⟨rfl, hsz, hK, hN⟩ := hv
  have hx := B.exec
  have hb := B.bytes
  have hr := B.returns
  have hts := atoms_spec (ws := q_wsM M) B.pre
  have hlocks := B.notSynchronized
  rw [hsz, lg_entry_eq]
  refine hY p e _ s m _ below meth c _ (va_A (q_ws cI cZ cJ ad S z) H.size) H H [] b ad _ ⟨hx, hb, hml, findClass_of_methodNamed B.named, fun w hw => hts w (List.mem_cons_of_mem _ hw), hN, hK, fun h => ((name_of_methodNamed B.named B.method).1).trans h, ⟨Nat.le_refl _, Nat.le_refl _, Nat.le_refl _, Nat.le_refl _⟩, fun q h => Or.inr h, fun h => absurd h hM0⟩
    ⟨hP, hD.self, va_S.rf, hrg, hwf⟩ ⟨q_start hlen, fun i v hv => hok v (q_pad_mem hv), fun v hv => (by cases hv), Nat.zero_le _, Nat.zero_le _⟩ ?_ ?_
  · intro pc' ls' v S' z' ad' H' locs' kc' ks' hq hrok hn hag Wd' hvok hkc hks
    refine W.widen hkc hks ?_
    have post : ∀ t : State, t.heap = H' → q_Qc D cI cZ cJ Rq ad b S (va_A (q_ws cI cZ cJ ad S z) H.size) (as.map (q_mv ad b)).toArray s (.returned (v.map (q_mv ad' b))) t := fun t ht =>
      ⟨⟨v, ad', S', z', rfl, ⟨hq, hn, hag, by rw [ht]; exact Wd'.1, Wd'.2.1, Wd'.2.2.2.1, Wd'.2.2.2.2⟩, hvok⟩, ⟨by rw [ht, hsz]; exact Wd'.2.2.1.1, fun q h1 h2 => by rw [ht, hsz]; rw [hsz] at h1; exact Wd'.2.2.1.2.1 q h1 h2⟩⟩
    match v, hrok, hvok with
    | none, hrok, hvok => exact W.vret hx hb (hr.trans hrok.2) (fun t ht hW => post t ht) Wd'.2.2.1.2.2 hrok.1
    | some (.inl x), hrok, hvok =>
      rcases hrok.2 with h2 | ⟨h2, h3, h4⟩
      · exact W.iret hx hb (hr.trans h2) (fun t ht hW => post t ht) Wd'.2.2.1.2.2 hrok.1
      · exact W.zret hx hb (hr.trans h2) (q_narZ h3 h4).1 (fun t ht hW => post t ht) Wd'.2.2.1.2.2 hrok.1
    | some (.inr (.inl x)), hrok, hvok => exact W.lret hx hb (hr.trans hrok.2) (fun t ht hW => post t ht) Wd'.2.2.1.2.2 hrok.1
    | some (.inr (.inr (.inl (some r)))), hrok, hvok =>
      obtain ⟨h1, n, h2⟩ := hrok
      exact W.aret hx hb (hr.trans h2) (Or.inl ⟨n, rfl⟩) (Or.inr ⟨_, rfl⟩) (fun t ht hW => post t ht) Wd'.2.2.1.2.2 h1
    | some (.inr (.inr (.inl none))), hrok, hvok => exact hrok.elim
    | some (.inr (.inr (.inr u))), hrok, hvok => exact hrok.elim
  · intro pc' ls' k S' z' ad' H' locs' kc' ks' hq
    exact absurd hq (hno k S' z')
end QStep
end
section
/-! Calls of plain methods. -/
section QCall
variable {D : va_G} {cI cZ cJ : ClassId} {M : Nat} {p : Program} {l : Launch} {e : Env} {R : Room} {s : State} {m : MethodId} {args : Array Value} {below : List Frame} {meth : Method} {c : Code} {Qm : State → Prop} {A : Nat → Prop} {H0 H : Heap} {locs : List Loc} {b xl : Nat} {xs : Nat → Int32} {ad : Nat → Nat} {ls : Array Slot} {lp lp' : List (Option qV)} {st st' : List qV} {S S' : qS} {z z' : qM} {kc ks kc' ks' pc len : Nat} {i : Instr} {v : Int} {a ws : List Nat} {P : Prop} {Q : qQ}
theorem q_A1 (Wd : q_Wd D cI cZ cJ A H0 ad S z H locs) (hA : ∀ q, H0.size ≤ q → A q) : ∀ q, va_A (q_ws cI cZ cJ ad S z) H.size q → A q := by
  intro q h
  rcases h with ⟨k, x, h⟩ | h
  · exact Wd.2.1.2 k (q, x) h
  · exact hA q (Nat.le_trans Wd.2.2.1.1 h)
theorem q_after {Rq : qQ} {mc ms : Nat} {st0 rest : List Value} {av : Array Value} (Wd : q_Wd D cI cZ cJ A H0 ad S z H locs) (hA : ∀ q, H0.size ≤ q → A q)
    (hr : va_Run p l e R s m args below meth c H locs kc ks mc ms (F0 m pc ls st0) rest (q_Qc D cI cZ cJ Rq ad b S (va_A (q_ws cI cZ cJ ad S z) H.size) av) (va_A (q_ws cI cZ cJ ad S z) H.size))
    (kk : ∀ (w : Option qV) (ad' : Nat → Nat) (S' : qS) (z' : qM) (H' : Heap) (locs' : List Loc), Rq (.inl w) S' z' → S.length ≤ S'.length → (∀ r, r < S.length → ad' r = ad r) → q_Wd D cI cZ cJ A H0 ad' S' z' H' locs' → (∀ u, w = some u → q_ok S'.length u) →
      W p l e R s m args below meth c H' locs' (kc + mc) (ks + ms) Qm (F0 m (pc + 3) ls ((w.map (q_mv ad' b)).toList ++ rest))) : W p l e R s m args below meth c H locs kc ks Qm (F0 m pc ls st0) := by
  have hA1 := q_A1 Wd hA
  have hS := Wd.2.2.1
  intro T hT X
  obtain ⟨v, st₀, t, T', L, h0, X', hL, e1, e2, ⟨⟨w, ad', S', z', hv, ⟨hq, hn, hag, hP1, hD1, hrg1, hwf1⟩, hok⟩, hz, hk⟩, st⟩ := hr T hT X
  cases hv
  rw [h0] at hz hk
  obtain ⟨t2, a1, b1⟩ := kk w ad' S' z' T'.heap (locs ++ L) hq hn hag ⟨by rw [e1]; exact hP1, hD1.weaken (fun k q _ h => hA1 q.1 h),
    ⟨Nat.le_trans hS.1 (by rw [e1]; exact hz), fun q h1 h2 => by rw [e1, hk q (Nat.lt_of_lt_of_le h1 hS.1) (fun z => h2 (hA1 q z))]; exact hS.2.1 q h1 h2, fun q hq => by
      rcases List.mem_append.mp hq with h | h
      · exact hS.2.2 q h
      · exact hA1 _ (hL q h)⟩, hrg1, hwf1⟩ hok T' rfl X'
  exact ⟨t2, st t2 a1, b1⟩
theorem q_blind {av : List Value} : FrameBlind (q_Pc D cI cZ cJ av H) := fun a U g mk q => by
  obtain ⟨q0, q1, q2, q3⟩ := q
  exact ⟨q0, q1, va_K.moved (u := U) (U := U.calling g mk a) (Vm.Alike.refl U.vm) q2, fun o i y h hm => va_Nw.same rfl rfl (q3 o i y h hm)⟩
theorem q_preS (C0 : q_Cx D cI cZ cJ M p R s m args meth c A H0 b xl xs) (av : List Value) : PreS s H (q_Pc D cI cZ cJ av H) av :=
  ⟨q_blind, fun U hU hW => ⟨rfl, hU, va_K.moved hW.alike C0.2.2.2.2.2.2.1, fun o i y h hm => va_Nw.warmM hW (C0.2.2.2.2.2.1 o i y h hm)⟩⟩
theorem q_take {n : Nat} (h : n ≤ st.length) : st.map (q_mv ad b) = ((st.take n).reverse.map (q_mv ad b)).reverse ++ (st.drop n).map (q_mv ad b) := by
  rw [← List.map_reverse, List.reverse_reverse, ← List.map_append, List.take_append_drop]
theorem q_mw {w : Option qV} {ad' : Nat → Nat} : (w.map (q_mv ad' b)).toList = w.toList.map (q_mv ad' b) := by cases w <;> rfl
theorem q_par_ok {d : String} {n : Nat} (h : q_par d = some n) : (parseMethodDescriptor d).map (fun d => d.parameters.length) = some n := h
theorem q_chkC_ok {idx : Nat} (h : q_chkC M idx a ws = true) : ((q_a ws 1 = 1 ∧ Jvm.Cond.methodLinkNest (q_own M) idx (q_y (q_a a 0)) "Marktongue" ∈ lw_tbl) ∨ (q_a ws 1 ≠ 1 ∧ Jvm.Cond.methodLink (q_own M) idx (q_y (q_a a 0)) ∈ q_tb)) ∧
    Jvm.Cond.initialized (q_own (q_a a 0)) ∈ q_tb ∧ q_par (q_y (q_a a 0)).desc = some (q_a a 1 - q_a a 2) ∧ q_a a 2 ≤ 1 ∧ q_a a 2 ≤ q_a a 1 ∧ (q_rm (q_a a 0)).1 + 1 ≤ (q_rm M).1 ∧ 8 + (q_nL (q_a a 0) + 11) + (q_rm (q_a a 0)).2.1 ≤ (q_rm M).2.1 := by
  unfold q_chkC at h
  simp only [Bool.and_eq_true, decide_eq_true_eq] at h
  obtain ⟨⟨⟨⟨⟨⟨⟨h1, h2⟩, h3⟩, h4⟩, h5⟩, h6⟩, h7⟩, h8⟩ := h
  refine ⟨?_, q_has_mem h2, h4, h5, h6, h7, h8⟩
  split at h1
  · rename_i e1; exact Or.inl ⟨e1, q_hasN_mem h1⟩
  · rename_i e1; exact Or.inr ⟨e1, q_has_mem h1⟩
theorem q_good (M' : Nat) (hm : q_chkM M' = true) (h0 : q_mk M' = 0) : GoodIn q_tb (q_wsM M') := by
  intro w hw
  rcases List.mem_cons.mp hw with rfl | hw
  · exact ⟨(q_chkM_of hm).2.2.2 h0, good_of_word (q_tb_good ((q_chkM_of hm).2.2.2 h0))⟩
  · exact ⟨hw, good_of_word (q_tb_good hw)⟩
set_option maxHeartbeats 4000000 in
theorem q_call_ok (C0 : q_Cx D cI cZ cJ M p R s m args meth c A H0 b xl xs) (hd : decode (q_b M) pc = .ok (i, len)) (hk : q_chk2 M pc len i v a ws = true) (Wd : q_Wd D cI cZ cJ A H0 ad S z H locs) (F : q_Fr ad b M ls lp st S kc ks)
    (HR : q_HR D cI cZ cJ M p l e R s m args below meth c Qm A H0 b Q S.length ad) (HT : q_HT D cI cZ cJ M p l e R s m args below meth c Qm A H0 Q S.length ad)
    (hi : ((∃ n, i = .invokestatic n) ∧ q_a a 2 ≠ 3) ∨ (∃ n, i = .invokevirtual n) ∨ ((∃ n, i = .invokespecial n) ∧ q_a a 2 ≠ 2))
    (hm : q_chkM (q_a a 0) = true) (h0 : q_mk (q_a a 0) = 0) (hM0 : q_a a 0 ≠ 0) (h4 : q_a a 4 ≠ 1)
    (h : q_F.q_ca (q_Y l D cI cZ cJ xl xs) (q_Pr xl xs) M (pc, lp, st, S, z, kc, ks) Q a) :
    W p l e R s m args below meth c H locs kc ks Qm (F0 m pc ls (st.map (q_mv ad b))) := by
  obtain ⟨h1, h2, h3, h5, h6, h7, Rq, h8, h9, h10⟩ := h
  have hno : ∀ k S' z', ¬ Rq (.inr k) S' z' := fun k S' z' hq => h4 (h10 k S' z' hq).1
  have hx := C0.1
  have hts := C0.2.2.2.2.1
  have hR := C0.2.2.2.2.2.2.2.2.1
  have hA := C0.2.2.2.2.2.2.2.2.2.1
  have hok : ∀ w ∈ (st.take (q_a a 1)).reverse, q_ok S.length w := fun w hw => F.2.2.1 w (List.mem_of_mem_take (List.mem_reverse.mp hw))
  have hM := q_met (b := b) hm hM0 h7 Wd.1 Wd.2.1 Wd.2.2.2.1 Wd.2.2.2.2 hok h8 hno
  have hsize : ls.size = q_nL M := F.1.1.1
  have hW8 : (((st.drop (q_a a 1)).map (q_mv ad b)).map fun v => v.category).sum ≤ 8 := by rw [q_mv_sum]; exact h2
  have hcf : CallFix p m c (q_b M) (q_nL M) s args q_tb (q_own M) := ⟨C0.1, C0.2.1, C0.2.2.1, C0.2.2.2.1, hts⟩
  have hf : kc + (q_rm (q_a a 0)).2.2.1 ≤ R.cells ∧ ks + (q_rm (q_a a 0)).2.2.2 ≤ R.slots := ⟨Nat.le_trans h3 hR.2.2.1, Nat.le_trans h5 hR.2.2.2⟩
  -- behind the call
  have fin : ∀ (w : Option qV) (ad' : Nat → Nat) (S' : qS) (z' : qM) (H' : Heap) (locs' : List Loc), Rq (.inl w) S' z' → S.length ≤ S'.length → (∀ r, r < S.length → ad' r = ad r) → q_Wd D cI cZ cJ A H0 ad' S' z' H' locs' → (∀ u, w = some u → q_ok S'.length u) →
      W p l e R s m args below meth c H' locs' (kc + (q_rm (q_a a 0)).2.2.1) (ks + (q_rm (q_a a 0)).2.2.2) Qm (F0 m (pc + 3) ls ((w.map (q_mv ad' b)).toList ++ (st.drop (q_a a 1)).map (q_mv ad b))) := by
    intro w ad' S' z' H' locs' hq hn hag Wd' hu
    have hdr : ∀ v ∈ st.drop (q_a a 1), q_ok S.length v := fun v hv => F.2.2.1 v (List.mem_of_mem_drop hv)
    have K := q_Y_KK C0 HR HT (h9 w S' z' hq) ad' ls H' locs' hn hag Wd' ⟨F.1.moved hag F.2.1, fun i v hv => q_ok_mono hn (F.2.1 i v hv), fun v hv => by
      rcases List.mem_append.mp hv with hv | hv
      · exact hu v (by cases w with
          | none => cases hv
          | some u => simp at hv; rw [hv])
      · exact q_ok_mono hn (hdr v hv), h3, h5⟩
    rw [List.map_append, q_mv_list hag hdr, ← q_mw] at K
    exact K
  rcases hi with ⟨⟨n, rfl⟩, hne⟩ | ⟨n, rfl⟩ | ⟨⟨n, rfl⟩, hne⟩
  · simp only [q_chk2, Bool.and_eq_true, beq_iff_eq, if_neg hne, decide_eq_true_eq] at hk
    obtain ⟨rfl, ⟨hk0, hkc⟩, hks⟩ := hk
    obtain ⟨hlk, hin, hpar, -, hle, hfr, hlo⟩ := q_chkC_ok hkc
    rw [hk0] at hpar
    have hst := q_take (ad := ad) (b := b) h1
    have hlen : ((st.take (q_a a 1)).reverse.map (q_mv ad b)).length = q_a a 1 - 0 := by simp; omega
    rw [hst]
    rcases hlk with ⟨-, hlk⟩ | ⟨-, hlk⟩
    · exact q_after Wd hA (va_runSN hcf hM ⟨va_cnB (q_a a 1 - 0) hts (q_good _ hm h0) rfl rfl rfl (C0.2.2.2.2.2.1 _ _ _ _ hlk) (hts _ hin) ⟨(q_chkM_of hm).1, (q_chkM_of hm).2.1, q_par_ok hpar⟩ ⟨Nat.le_trans hfr hR.1, Nat.le_trans hlo hR.2.1⟩, hts _ (q_has_mem hks), trivial⟩ (q_preS C0 _) rfl hlen hsize rfl (lv_room hW8) hd hf) fin
    · exact q_after Wd hA (va_runS hcf hM ⟨callB_of (q_a a 1 - 0) hts (q_good _ hm h0) rfl rfl rfl (hts _ hin) (hts _ hlk) ⟨(q_chkM_of hm).1, (q_chkM_of hm).2.1, q_par_ok hpar⟩ ⟨Nat.le_trans hfr hR.1, Nat.le_trans hlo hR.2.1⟩, hts _ (q_has_mem hks)⟩ (q_preS C0 _) rfl hlen hsize rfl (lv_room hW8) hd hf) fin
  · simp only [q_chk2, Bool.and_eq_true, beq_iff_eq, decide_eq_true_eq] at hk
    obtain ⟨⟨⟨⟨⟨rfl, hk0⟩, hkc⟩, hks⟩, hsel⟩, hc3⟩ := hk
    obtain ⟨hlk, hin, hpar, -, hle, hfr, hlo⟩ := q_chkC_ok hkc
    rw [hk0] at hpar h6 hle
    have hst := q_take (ad := ad) (b := b) h1
    rw [hst]
    match hrv : (st.take (q_a a 1)).reverse, h6 with
    | .inr (.inr (.inl (some r))) :: as, h6 =>
      have hl2 : (st.take (q_a a 1)).reverse.length = q_a a 1 := by simp; omega
      rw [hrv] at hM hl2
      obtain ⟨N, rs, hS⟩ := q_tag_get (show q_tag S r = some (3 + q_a a 3) from h6)
      have hpre : PreV s H (q_C (q_a a 3)) (ad r) (q_Pc D cI cZ cJ (((.inr (.inr (.inl (some r)))) :: as).map (q_mv ad b)) H) (as.map (q_mv ad b)) :=
        ⟨q_blind, va_recv C0.2.2.2.2.2.2.1 Wd.1 (q_cl_get hc3) ((q_ws_get hS).trans (by rw [q_e1_3])), (q_preS C0 (((.inr (.inr (.inl (some r)))) :: as).map (q_mv ad b))).2⟩
      have hlen : (as.map (q_mv ad b)).length = q_a a 1 - 1 := by simp at hl2 ⊢; omega
      have hstk : ((((.inr (.inr (.inl (some r)))) :: as : List qV).map (q_mv ad b)).reverse ++ (st.drop (q_a a 1)).map (q_mv ad b)) = (as.map (q_mv ad b)).reverse ++ .ref (ad r) :: (st.drop (q_a a 1)).map (q_mv ad b) := by simp [q_mv]
      rw [hstk]
      rcases hlk with ⟨-, hlk⟩ | ⟨-, hlk⟩
      · exact q_after Wd hA (va_runVN hcf hM ⟨va_cnB (q_a a 1 - 1) hts (q_good _ hm h0) rfl rfl rfl (C0.2.2.2.2.2.1 _ _ _ _ hlk) (hts _ hin) ⟨(q_chkM_of hm).1, (q_chkM_of hm).2.1, q_par_ok hpar⟩ ⟨Nat.le_trans hfr hR.1, Nat.le_trans hlo hR.2.1⟩, hts _ (q_has_mem hks), hts _ (q_has_mem hsel)⟩ hpre rfl hlen hsize rfl (lv_room hW8) hd hf) fin
      · exact q_after Wd hA (va_runV hcf hM ⟨callB_of (q_a a 1 - 1) hts (q_good _ hm h0) rfl rfl rfl (hts _ hin) (hts _ hlk) ⟨(q_chkM_of hm).1, (q_chkM_of hm).2.1, q_par_ok hpar⟩ ⟨Nat.le_trans hfr hR.1, Nat.le_trans hlo hR.2.1⟩, hts _ (q_has_mem hks), hts _ (q_has_mem hsel)⟩ hpre rfl hlen hsize rfl (lv_room hW8) hd hf) fin
  · simp only [q_chk2, Bool.and_eq_true, beq_iff_eq, if_neg hne, decide_eq_true_eq] at hk
    obtain ⟨rfl, ⟨⟨⟨⟨hk0, hkc⟩, hks⟩, hnm⟩, hrt⟩, hc3⟩ := hk
    obtain ⟨hlk, hin, hpar, -, hle, hfr, hlo⟩ := q_chkC_ok hkc
    rw [hk0] at hpar h6 hle
    have hst := q_take (ad := ad) (b := b) h1
    rw [hst]
    match hrv : (st.take (q_a a 1)).reverse, h6 with
    | .inr (.inr (.inl (some r))) :: as, h6 =>
      have hl2 : (st.take (q_a a 1)).reverse.length = q_a a 1 := by simp; omega
      rw [hrv] at hM hl2
      have hlen : (as.map (q_mv ad b)).length = q_a a 1 - 1 := by simp at hl2 ⊢; omega
      have hstk : ((((.inr (.inr (.inl (some r)))) :: as : List qV).map (q_mv ad b)).reverse ++ (st.drop (q_a a 1)).map (q_mv ad b)) = (as.map (q_mv ad b)).reverse ++ .ref (ad r) :: (st.drop (q_a a 1)).map (q_mv ad b) := by simp [q_mv]
      rw [hstk]
      have hg := q_good _ hm h0
      unfold q_wsM at hM hg
      rw [hrt] at hM hg
      rcases hlk with ⟨-, hlk⟩ | ⟨-, hlk⟩
      · exact q_after Wd hA (va_runIN hcf hM ⟨va_cnB (q_a a 1 - 1) hts hg rfl rfl rfl (C0.2.2.2.2.2.1 _ _ _ _ hlk) (hts _ hin) ⟨(q_chkM_of hm).1, (q_chkM_of hm).2.1, q_par_ok hpar⟩ ⟨Nat.le_trans hfr hR.1, Nat.le_trans hlo hR.2.1⟩, hnm, hts _ (q_has_mem hks)⟩ (q_preS C0 _) rfl hlen hsize rfl (lv_room hW8) hd hf) fin
      · exact q_after Wd hA (va_runI hcf hM ⟨callB_of (q_a a 1 - 1) hts hg rfl rfl rfl (hts _ hin) (hts _ hlk) ⟨(q_chkM_of hm).1, (q_chkM_of hm).2.1, q_par_ok hpar⟩ ⟨Nat.le_trans hfr hR.1, Nat.le_trans hlo hR.2.1⟩, hnm, hts _ (q_has_mem hks)⟩ (q_preS C0 _) rfl hlen hsize rfl (lv_room hW8) hd hf) fin
end QCall
end
section
/-! The whole step. -/
section QWhole
variable {D : va_G} {cI cZ cJ : ClassId} {M : Nat} {p : Program} {l : Launch} {e : Env} {R : Room} {s : State} {m : MethodId} {args : Array Value} {below : List Frame} {meth : Method} {c : Code} {Qm : State → Prop} {A : Nat → Prop} {H0 H : Heap} {locs : List Loc} {b xl : Nat} {xs : Nat → Int32} {ad : Nat → Nat} {ls : Array Slot} {lp lp' : List (Option qV)} {st st' : List qV} {S S' : qS} {z z' : qM} {kc ks kc' ks' pc len : Nat} {i : Instr} {v : Int} {a ws : List Nat} {P : Prop} {Q : qQ}
theorem q_cmp_eq {x y : Int} (hx : q_r32 x) (hy : q_r32 y) (cn : Jvm.ClassFile.Cond) {off : Int} {tgt : Nat} {rest : List Value} (C0 : q_Cx D cI cZ cJ M p R s m args meth c A H0 b xl xs) (hd : decode (q_b M) pc = .ok (.if_icmp cn off, 3)) (ht : (pc : Int) + off = (tgt : Int))
    (k1 : q_cmp cn x y → W p l e R s m args below meth c H locs kc ks Qm (F0 m tgt ls rest)) (k2 : ¬ q_cmp cn x y → W p l e R s m args below meth c H locs kc ks Qm (F0 m (pc + 3) ls rest)) :
    W p l e R s m args below meth c H locs kc ks Qm (F0 m pc ls (.int (Int32.ofInt y) :: .int (Int32.ofInt x) :: rest)) := by
  have hx1 := C0.1
  have hb := C0.2.1
  cases cn with
  | eq => exact lv_icmp_eq hx1 hb hd ht (fun h => k1 ((q_eq32 hx hy).mp h)) (fun h => k2 (fun q => h ((q_eq32 hx hy).mpr q)))
  | ne => exact lv_icmp_ne hx1 hb hd ht (fun h => k1 (fun q => h ((q_eq32 hx hy).mpr q))) (fun h => k2 (fun q => q ((q_eq32 hx hy).mp h)))
  | lt => exact lv_icmp_lt hx1 hb hd ht (fun h => k1 ((q_lt32 hx hy).mp h)) (fun h => k2 (fun q => h ((q_lt32 hx hy).mpr q)))
  | ge => exact lv_icmp_ge hx1 hb hd ht (fun h => k1 ((q_le32 hy hx).mp h)) (fun h => k2 (fun q => h ((q_le32 hy hx).mpr q)))
  | gt => exact lv_icmp_gt hx1 hb hd ht (fun h => k1 ((q_lt32 hy hx).mp h)) (fun h => k2 (fun q => h ((q_lt32 hy hx).mpr q)))
  | le => exact lv_icmp_le hx1 hb hd ht (fun h => k1 ((q_le32 hx hy).mp h)) (fun h => k2 (fun q => h ((q_le32 hx hy).mpr q)))
theorem q_cmp_0 {x : Int} (hx : q_r32 x) (cn : Jvm.ClassFile.Cond) {off : Int} {tgt : Nat} {rest : List Value} (C0 : q_Cx D cI cZ cJ M p R s m args meth c A H0 b xl xs) (hd : decode (q_b M) pc = .ok (.ifCond cn off, 3)) (ht : (pc : Int) + off = (tgt : Int))
    (k1 : q_cmp cn x 0 → W p l e R s m args below meth c H locs kc ks Qm (F0 m tgt ls rest)) (k2 : ¬ q_cmp cn x 0 → W p l e R s m args below meth c H locs kc ks Qm (F0 m (pc + 3) ls rest)) :
    W p l e R s m args below meth c H locs kc ks Qm (F0 m pc ls (.int (Int32.ofInt x) :: rest)) := by
  have hx1 := C0.1
  have hb := C0.2.1
  have hy := q_r32_0
  have e0 : Int32.ofInt 0 = 0 := rfl
  cases cn with
  | eq => exact lv_if_eq hx1 hb hd ht (fun h => k1 ((q_eq32 hx hy).mp (by rw [e0]; exact h))) (fun h => k2 (fun q => h (by rw [← e0]; exact (q_eq32 hx hy).mpr q)))
  | ne => exact lv_if_ne hx1 hb hd ht (fun h => k1 (fun q => h (by rw [← e0]; exact (q_eq32 hx hy).mpr q))) (fun h => k2 (fun q => q ((q_eq32 hx hy).mp (by rw [e0]; exact h))))
  | lt => exact lv_if_lt hx1 hb hd ht (fun h => k1 ((q_lt32 hx hy).mp (by rw [e0]; exact h))) (fun h => k2 (fun q => h (by rw [← e0]; exact (q_lt32 hx hy).mpr q)))
  | ge => exact lv_if_ge hx1 hb hd ht (fun h => k1 ((q_le32 hy hx).mp (by rw [e0]; exact h))) (fun h => k2 (fun q => h (by rw [← e0]; exact (q_le32 hy hx).mpr q)))
  | gt => exact lv_if_gt hx1 hb hd ht (fun h => k1 ((q_lt32 hy hx).mp (by rw [e0]; exact h))) (fun h => k2 (fun q => h (by rw [← e0]; exact (q_lt32 hy hx).mpr q)))
  | le => exact lv_if_le hx1 hb hd ht (fun h => k1 ((q_le32 hx hy).mp (by rw [e0]; exact h))) (fun h => k2 (fun q => h (by rw [← e0]; exact (q_le32 hx hy).mpr q)))
/-- where a table switch goes -/
theorem q_tsw {X : Nat → Prop} {x : Int} {d : Nat} : ∀ (os : List Int) (as : List Nat) (lo : Int), q_tsc pc lo os as = true → q_sw X x d as →
    (∀ (k : Nat) (o : Int), os[k]? = some o → x = lo + k → ∃ t : Nat, (pc : Int) + o = t ∧ X t) ∧ ((x < lo ∨ lo + os.length ≤ x) → X d)
  | [], [], lo, _, h => ⟨fun k o hk => by simp at hk, fun _ => h⟩
  | o :: os, k :: t :: r, lo, hc, h => by
    unfold q_tsc at hc
    simp only [Bool.and_eq_true, decide_eq_true_eq] at hc
    obtain ⟨⟨h1, h2⟩, h3⟩ := hc
    unfold q_sw at h
    refine ⟨fun j o' hj hx => ?_, fun hx => ?_⟩
    · cases j with
      | zero =>
        simp at hj
        subst hj
        exact ⟨t, h2, h.1 (by omega)⟩
      | succ j => exact (q_tsw os r (lo + 1) h3 (h.2 (by omega))).1 j o' (by simpa using hj) (by omega)
    · simp at hx
      exact (q_tsw os r (lo + 1) h3 (h.2 (by omega))).2 (by omega)
  | [], _ :: _, _, hc, _ => by simp [q_tsc] at hc
  | _ :: _, [], _, hc, _ => by simp [q_tsc] at hc
  | _ :: _, [_], _, hc, _ => by simp [q_tsc] at hc
theorem q_lsw {X : Nat → Prop} {x : Int} {d : Nat} {dd : Int} (hdd : (pc : Int) + dd = (d : Int)) : ∀ (os : List (Int × Int)) (as : List Nat), q_lsc pc os as = true → q_sw X x d as →
    ∃ t : Nat, (pc : Int) + Op.lookupswitch.offset os dd x = t ∧ X t
  | [], [], _, h => ⟨d, hdd, h⟩
  | o :: os, k :: t :: r, hc, h => by
    unfold q_lsc at hc
    simp only [Bool.and_eq_true, decide_eq_true_eq] at hc
    obtain ⟨⟨h1, h2⟩, h3⟩ := hc
    unfold q_sw at h
    obtain ⟨o1, o2⟩ := o
    by_cases hx : x = (k : Int)
    · refine ⟨t, ?_, h.1 hx⟩
      unfold Op.lookupswitch.offset
      rw [if_pos (by rw [hx]; exact h1.symm)]
      exact h2
    · obtain ⟨t', h5, h6⟩ := q_lsw hdd os r h3 (h.2 hx)
      refine ⟨t', ?_, h6⟩
      unfold Op.lookupswitch.offset
      rw [if_neg (fun q => hx (q.symm.trans h1.symm))]
      exact h5
  | [], _ :: _, hc, _ => by simp [q_lsc] at hc
  | _ :: _, [], hc, _ => by simp [q_lsc] at hc
  | _ :: _, [_], hc, _ => by simp [q_lsc] at hc
def q_cc (M : Nat) (e : Nat × qI) : Bool := match e.2.2.1 with
  | .invokestatic _ | .invokevirtual _ | .invokespecial _ => decide (2 ≤ q_a e.2.2.2.2 2) || (decide (q_a e.2.2.2.2 0 ≠ 0) && (decide (M = 0) || decide (q_mk (q_a e.2.2.2.2 0) = 0)) && (decide (q_a e.2.2.2.2 4 ≠ 1) || decide (q_mk M = 1)) && decide (q_a e.2.2.2.2 0 < q_codes.length))
  | _ => true
set_option maxRecDepth 100000 in
theorem q_cc_all : ((List.range q_codes.length).all fun M => (q_codes.getD M []).all (q_cc M)) = true := by decide +kernel
theorem q_cc_of {M pc len : Nat} {i : Instr} {v : Int} {a : List Nat} (h : q_ft1 M pc = some (len, i, v, a)) : q_cc M (pc, len, i, v, a) = true := by
  unfold q_ft1 at h
  obtain ⟨l1, l2, e, -⟩ := List.lookup_eq_some_iff.mp h
  have hM : M < q_codes.length := by
    refine Nat.lt_of_not_le fun hle => ?_
    rw [List.getD_eq_getElem?_getD, List.getElem?_eq_none hle] at h
    cases h
  exact List.all_eq_true.mp (List.all_eq_true.mp q_cc_all M (List.mem_range.mpr hM)) _ (by rw [e]; simp)
theorem q_chkM_lt {M : Nat} (h : M < q_codes.length) : q_chkM M = true := by
  have := q_GL_get q_codes 0 q_gl M q_codes[M] (List.getElem?_eq_getElem h)
  rw [Nat.zero_add] at this
  exact this.1
/-- a call in a method with handlers -/
theorem q_callX_ok (C0 : q_Cx D cI cZ cJ M p R s m args meth c A H0 b xl xs) (hd : decode (q_b M) pc = .ok (i, len)) (hk : q_chk2 M pc len i v a ws = true) (Wd : q_Wd D cI cZ cJ A H0 ad S z H locs) (F : q_Fr ad b M ls lp st S kc ks)
    (HR : q_HR D cI cZ cJ M p l e R s m args below meth c Qm A H0 b Q S.length ad) (HT : q_HT D cI cZ cJ M p l e R s m args below meth c Qm A H0 Q S.length ad)
    (hM1 : q_mk M = 1) (hm : q_chkM (q_a a 0) = true) (h0 : q_mk (q_a a 0) = 0) (hM0 : q_a a 0 ≠ 0)
    (h : q_F.q_ca (q_Y l D cI cZ cJ xl xs) (q_Pr xl xs) M (pc, lp, st, S, z, kc, ks) Q a) :
    W p l e R s m args below meth c H locs kc ks Qm (F0 m pc ls (st.map (q_mv ad b))) := by
  sorry
/-- the law calls a method with handlers -/
theorem q_callW_ok (C0 : q_Cx D cI cZ cJ M p R s m args meth c A H0 b xl xs) (hd : decode (q_b M) pc = .ok (i, len)) (hk : q_chk2 M pc len i v a ws = true) (Wd : q_Wd D cI cZ cJ A H0 ad S z H locs) (F : q_Fr ad b M ls lp st S kc ks)
    (HR : q_HR D cI cZ cJ M p l e R s m args below meth c Qm A H0 b Q S.length ad) (HT : q_HT D cI cZ cJ M p l e R s m args below meth c Qm A H0 Q S.length ad)
    (hM : M = 0) (hm : q_chkM (q_a a 0) = true) (h0 : q_mk (q_a a 0) ≠ 0) (hM0 : q_a a 0 ≠ 0) (h4 : q_a a 4 ≠ 1)
    (h : q_F.q_ca (q_Y l D cI cZ cJ xl xs) (q_Pr xl xs) M (pc, lp, st, S, z, kc, ks) Q a) :
    W p l e R s m args below meth c H locs kc ks Qm (F0 m pc ls (st.map (q_mv ad b))) := by
  sorry
set_option maxHeartbeats 4000000 in
theorem q_step {q : qC} : q_F (q_Pr xl xs) (q_Y l D cI cZ cJ xl xs) M q Q → q_Y l D cI cZ cJ xl xs M q Q := by
  obtain ⟨pc, lp, st, S, z, kc, ks⟩ := q
  intro h p e R s m args below meth c Qm A H0 H locs b ad ls C0 Wd F HR HT
  unfold q_F at h
  dsimp only at h
  cases hf : (q_Pr xl xs).1 M pc with
  | none => rw [hf] at h; exact h.elim
  | some z1 =>
    obtain ⟨len, i, v, a⟩ := z1
    rw [hf] at h
    obtain ⟨hcm, ws, hd, hk⟩ := q_entry hf
    have hcc := q_cc_of hf
    have hx := C0.1
    have hb := C0.2.1
    dsimp only at h
    -- a call
    have call : ((∃ n, i = .invokestatic n) ∧ q_a a 2 ≠ 3) ∨ (∃ n, i = .invokevirtual n) ∨ ((∃ n, i = .invokespecial n) ∧ q_a a 2 ≠ 2) → ¬ 2 ≤ q_a a 2 → q_F.q_ca (q_Y l D cI cZ cJ xl xs) (q_Pr xl xs) M (pc, lp, st, S, z, kc, ks) Q a →
        W p l e R s m args below meth c H locs kc ks Qm (F0 m pc ls (st.map (q_mv ad b))) := by
      intro hi h2 hca
      have hcc2 : q_a a 0 ≠ 0 ∧ (M = 0 ∨ q_mk (q_a a 0) = 0) ∧ (q_a a 4 ≠ 1 ∨ q_mk M = 1) ∧ q_a a 0 < q_codes.length := by
        rcases hi with ⟨⟨n, rfl⟩, -⟩ | ⟨n, rfl⟩ | ⟨⟨n, rfl⟩, -⟩ <;>
        · simp only [q_cc, Bool.or_eq_true, Bool.and_eq_true, decide_eq_true_eq] at hcc
          rcases hcc with hcc | ⟨⟨⟨c1, c2⟩, c3⟩, c4⟩
          · exact absurd hcc h2
          · exact ⟨c1, c2, c3, c4⟩
      obtain ⟨c1, c2, c3, c4⟩ := hcc2
      have hm := q_chkM_lt c4
      by_cases h4 : q_a a 4 = 1
      · have hM1 : q_mk M = 1 := c3.resolve_left (fun q => q h4)
        have h0 : q_mk (q_a a 0) = 0 := c2.resolve_left (fun q => by rw [q] at hM1; revert hM1; decide +kernel)
        exact q_callX_ok C0 hd hk Wd F HR HT hM1 hm h0 c1 hca
      · by_cases h0 : q_mk (q_a a 0) = 0
        · exact q_call_ok C0 hd hk Wd F HR HT hi hm h0 c1 h4 hca
        · exact q_callW_ok C0 hd hk Wd F HR HT (c2.resolve_right h0) hm h0 c1 h4 hca
    -- a simple one
    have sim : ∀ d : Option qD, q_nx (fun c' => q_Y l D cI cZ cJ xl xs M c' Q) (pc + len) d →
        (∀ (P : Prop) lp' st' S' z' kc' ks', d = some (P, lp', st', S', z', kc', ks') → P → q_KK D cI cZ cJ M p l e R s m args below meth c Qm A H0 b ad S (pc + len) lp' st' S' z' kc' ks' → W p l e R s m args below meth c H locs kc ks Qm (F0 m pc ls (st.map (q_mv ad b)))) →
        W p l e R s m args below meth c H locs kc ks Qm (F0 m pc ls (st.map (q_mv ad b))) := by
      intro d hn hh
      match d, hn with
      | some (P, lp', st', S', z', kc', ks'), hn => exact hh P lp' st' S' z' kc' ks' rfl hn.1 (q_Y_KK C0 HR HT hn.2)
    have KK0 : ∀ {pc' : Nat} {st' : List qV}, q_Y l D cI cZ cJ xl xs M (pc', lp, st', S, z, kc, ks) Q → q_Fr ad b M ls lp st' S kc ks → W p l e R s m args below meth c H locs kc ks Qm (F0 m pc' ls (st'.map (q_mv ad b))) := fun hy F' => q_kk0 (q_Y_KK C0 HR HT hy) Wd F'
    have ret : ∀ (w : Option qV), Q (.inl w) S z → q_rok M pc w → (∀ u, w = some u → q_ok S.length u) → W p l e R s m args below meth c H locs kc ks Qm (F0 m pc ls (w.toList.map (q_mv ad b))) := fun w hq hr hu =>
      HR pc ls w S z ad H locs kc ks hq hr (Nat.le_refl _) (fun _ _ => rfl) Wd hu F.2.2.2.1 F.2.2.2.2
    cases i
    case goto off =>
      simp only [q_chk2, Bool.and_eq_true, beq_iff_eq, decide_eq_true_eq] at hk
      obtain ⟨rfl, h1⟩ := hk
      exact lv_goto hx hb hd h1 (KK0 h F)
    case ifCond cn off =>
      simp only [q_chk2, Bool.and_eq_true, beq_iff_eq, decide_eq_true_eq] at hk
      obtain ⟨rfl, h1⟩ := hk
      match st, h with
      | .inl x :: r, h => exact q_cmp_0 (q_pop F).2 cn C0 hd h1 (fun q => KK0 (h.1 q) (q_pop F).1) (fun q => KK0 (h.2 q) (q_pop F).1)
    case if_icmp cn off =>
      simp only [q_chk2, Bool.and_eq_true, beq_iff_eq, decide_eq_true_eq] at hk
      obtain ⟨rfl, h1⟩ := hk
      match st, h with
      | .inl y :: .inl x :: r, h => exact q_cmp_eq (q_pop (q_pop F).1).2 (q_pop F).2 cn C0 hd h1 (fun q => KK0 (h.1 q) (q_pop (q_pop F).1).1) (fun q => KK0 (h.2 q) (q_pop (q_pop F).1).1)
    case tableswitch dd lo hi offs =>
      simp only [q_chk2, Bool.and_eq_true, decide_eq_true_eq] at hk
      obtain ⟨⟨⟨h1, h2⟩, h3⟩, h4⟩ := hk
      match st, h with
      | .inl x :: r, h =>
        obtain ⟨g1, g2⟩ := q_tsw _ _ _ h2 h
        have hxr : q_r32 x := (q_pop F).2
        by_cases hx1 : x < lo ∨ hi < x
        · exact lv_tableOut (x := Int32.ofInt x) hx hb hd (by rw [q_t32 hxr]; exact hx1) h1 (KK0 (g2 (by omega)) (q_pop F).1)
        · have hlt : (x - lo).toNat < offs.toList.length := by omega
          obtain ⟨t, h5, h6⟩ := g1 (x - lo).toNat offs.toList[(x - lo).toNat] (List.getElem?_eq_getElem hlt) (by omega)
          exact lv_tableIn (x := Int32.ofInt x) hx hb hd (by rw [q_t32 hxr]; omega) (by rw [q_t32 hxr]; omega) (by rw [q_t32 hxr, ← Array.getElem?_toList]; exact List.getElem?_eq_getElem hlt) h5 (KK0 h6 (q_pop F).1)
    case lookupswitch dd ps =>
      simp only [q_chk2, Bool.and_eq_true, decide_eq_true_eq] at hk
      obtain ⟨⟨⟨h1, h2⟩, h3⟩, h4⟩ := hk
      match st, h with
      | .inl x :: r, h =>
        have hxr : q_r32 x := (q_pop F).2
        obtain ⟨t, h5, h6⟩ := q_lsw h1 _ _ h2 h
        exact lv_lookup (x := Int32.ofInt x) hx hb hd h3 (by rw [q_t32 hxr]) h5 (KK0 h6 (q_pop F).1)
    case ireturn =>
      simp only [q_chk2, Bool.and_eq_true, beq_iff_eq] at hk
      obtain ⟨rfl, h1⟩ := hk
      match st, h with
      | [.inl x], h =>
        refine ret (some (.inl x)) h.2 ⟨hd, ?_⟩ (fun u hu => by cases hu; exact (q_pop F).2)
        by_cases h3 : q_a a 0 = 3
        · rw [if_pos h3] at h1
          have h2 := h.1
          unfold q_kind at h2
          rw [if_pos h3] at h2
          exact Or.inr ⟨of_decide_eq_true h1, h2⟩
        · rw [if_neg h3] at h1
          exact Or.inl (of_decide_eq_true h1)
    case lreturn =>
      simp only [q_chk2, Bool.and_eq_true, beq_iff_eq, decide_eq_true_eq] at hk
      obtain ⟨rfl, h1⟩ := hk
      match st, h with
      | [.inr (.inl x)], h => exact ret (some (.inr (.inl x))) h ⟨hd, h1⟩ (fun u hu => by cases hu; exact (q_pop F).2)
    case areturn =>
      simp only [q_chk2, Bool.and_eq_true, beq_iff_eq] at hk
      obtain ⟨rfl, h1⟩ := hk
      match st, h with
      | [.inr (.inr (.inl (some r)))], h =>
        refine ret (some (.inr (.inr (.inl (some r))))) h ⟨hd, ?_⟩ (fun u hu => by cases hu; exact (q_pop F).2)
        split at h1
        · rename_i n hn; exact ⟨n, hn⟩
        · cases h1
    case return_ =>
      simp only [q_chk2, Bool.and_eq_true, beq_iff_eq, decide_eq_true_eq] at hk
      obtain ⟨rfl, h1⟩ := hk
      match st, h with
      | [], h => exact ret none h ⟨hd, h1⟩ (fun u hu => by cases hu)
    case athrow => exact h.elim
    case invokevirtual n =>
      refine call (Or.inr (Or.inl ⟨n, rfl⟩)) ?_ h
      simp only [q_chk2, Bool.and_eq_true, decide_eq_true_eq] at hk
      have := hk.1.1.1.1.2
      omega
    case invokestatic n =>
      by_cases h3 : q_a a 2 = 3
      · rw [if_pos h3] at h
        simp only [q_chk2, Bool.and_eq_true, beq_iff_eq, if_pos h3, decide_eq_true_eq] at hk
        obtain ⟨rfl, ⟨⟨⟨⟨k1, k2⟩, k3⟩, k4⟩, k5⟩, k6⟩ := hk
        have hts := C0.2.2.2.2.1
        have hR := C0.2.2.2.2.2.2.2.2.1
        match st, h with
        | .inl y :: .inl x :: r, h =>
          have hy : q_r32 y := (q_pop F).2
          have hxr : q_r32 x := (q_pop (q_pop F).1).2
          refine va_mmax hx hb (by rw [C0.2.2.1]; exact F.1.1.1.symm) C0.2.2.2.1 (hts _ (q_has_mem k1)) (hts _ (q_has_mem k2)) (hts _ (q_has_mem k3)) (hts _ (q_has_mem k4)) (Nat.le_trans k5 hR.1) (by rw [q_mv_sum]; have := h.1; have := hR.2.1; omega) (Nat.le_trans F.2.2.2.1 hR.2.2.1) (Nat.le_trans F.2.2.2.2 hR.2.2.2) hd ?_
          have kk := KK0 h.2 (q_push (v := .inl (if x < y then y else x)) (q_pop (q_pop F).1).1 (by split; exact hy; exact hxr))
          have e9 : (if Int32.ofInt x < Int32.ofInt y then Int32.ofInt y else Int32.ofInt x) = Int32.ofInt (if x < y then y else x) := by
            by_cases hl : x < y
            · rw [if_pos hl, if_pos ((q_lt32 hxr hy).mpr hl)]
            · rw [if_neg hl, if_neg (fun q => hl ((q_lt32 hxr hy).mp q))]
          rw [e9]
          exact kk
      · rw [if_neg h3] at h
        refine call (Or.inl ⟨⟨n, rfl⟩, h3⟩) ?_ h
        simp only [q_chk2, Bool.and_eq_true, if_neg h3, decide_eq_true_eq] at hk
        have := hk.2.1.1
        omega
    case invokespecial n =>
      by_cases h2 : q_a a 2 = 2
      · rw [if_pos h2] at h
        simp only [q_chk2, Bool.and_eq_true, beq_iff_eq, if_pos h2, decide_eq_true_eq] at hk
        obtain ⟨rfl, ⟨⟨⟨k1, k2⟩, k3⟩, k4⟩, k5⟩ := hk
        have hts := C0.2.2.2.2.1
        have hR := C0.2.2.2.2.2.2.2.2.1
        match st, h with
        | .inr (.inr (.inl (some r0))) :: r, h =>
          refine W.objInit hx hb C0.2.2.2.1 (hts _ (q_has_mem k1)) (hts _ (q_has_mem k2)) (hts _ (q_has_mem k3)) rfl (by rw [C0.2.2.1]; exact F.1.1.1) rfl hd (Nat.le_trans k4 hR.1) (by have h9 := h.1; have := hR.2.1; show 2 * 0 + _ + 12 ≤ _; rw [q_mv_sum]; omega) ?_
          exact KK0 h.2 (q_pop F).1
      · rw [if_neg h2] at h
        refine call (Or.inr (Or.inr ⟨⟨n, rfl⟩, h2⟩)) ?_ h
        simp only [q_chk2, Bool.and_eq_true, if_neg h2, decide_eq_true_eq] at hk
        have := hk.2.1.1.1.1.1
        omega
    case new n =>
      by_cases h2 : q_a a 2 = 1
      · rw [if_pos h2] at h
        obtain ⟨⟨rfl, g1, g2⟩, h3⟩ := h
        have hl3 : len = 3 := by simp only [q_chk2, Bool.and_eq_true, beq_iff_eq] at hk; exact hk.1
        subst hl3
        exact HT pc ls (q_a a 0) S z ad H locs kc ks h3 ⟨n, v, a, hf, h2, rfl⟩ (Nat.le_refl _) (fun _ _ => rfl) Wd F.1.1.1 g1 g2
      · rw [if_neg h2] at h
        exact sim _ h (fun P lp' st' S' z' kc' ks' hs hp K => q_new_ok C0 hd hk h2 Wd F hs hp K)
    case newarray t => exact sim _ h (fun P lp' st' S' z' kc' ks' hs hp K => q_newa_ok C0 hd hk Wd F (by have h9 := hs; simp only [q_sim1, q_sim2, Option.none_or, Option.or_none] at h9; exact h9) hp K)
    case getfield n => exact sim _ h (fun P lp' st' S' z' kc' ks' hs hp K => q_fld_ok C0 hd hk Wd F (Or.inl ⟨n, rfl⟩) (by have h9 := hs; simp only [q_sim1, q_sim2, Option.none_or, Option.or_none] at h9; exact h9) hp K)
    case putfield n => exact sim _ h (fun P lp' st' S' z' kc' ks' hs hp K => q_fld_ok C0 hd hk Wd F (Or.inr ⟨n, rfl⟩) (by have h9 := hs; simp only [q_sim1, q_sim2, Option.none_or, Option.or_none] at h9; exact h9) hp K)
    case iaload => exact sim _ h (fun P lp' st' S' z' kc' ks' hs hp K => q_arr_ok C0 hd hk Wd F (Or.inl rfl) (by have h9 := hs; simp only [q_sim1, q_sim2, Option.none_or, Option.or_none] at h9; exact h9) hp K)
    case baload => exact sim _ h (fun P lp' st' S' z' kc' ks' hs hp K => q_arr_ok C0 hd hk Wd F (Or.inr (Or.inl rfl)) (by have h9 := hs; simp only [q_sim1, q_sim2, Option.none_or, Option.or_none] at h9; exact h9) hp K)
    case laload => exact sim _ h (fun P lp' st' S' z' kc' ks' hs hp K => q_arr_ok C0 hd hk Wd F (Or.inr (Or.inr (Or.inl rfl))) (by have h9 := hs; simp only [q_sim1, q_sim2, Option.none_or, Option.or_none] at h9; exact h9) hp K)
    case iastore => exact sim _ h (fun P lp' st' S' z' kc' ks' hs hp K => q_arr_ok C0 hd hk Wd F (Or.inr (Or.inr (Or.inr (Or.inl rfl)))) (by have h9 := hs; simp only [q_sim1, q_sim2, Option.none_or, Option.or_none] at h9; exact h9) hp K)
    case bastore => exact sim _ h (fun P lp' st' S' z' kc' ks' hs hp K => q_arr_ok C0 hd hk Wd F (Or.inr (Or.inr (Or.inr (Or.inr (Or.inl rfl))))) (by have h9 := hs; simp only [q_sim1, q_sim2, Option.none_or, Option.or_none] at h9; exact h9) hp K)
    case lastore => exact sim _ h (fun P lp' st' S' z' kc' ks' hs hp K => q_arr_ok C0 hd hk Wd F (Or.inr (Or.inr (Or.inr (Or.inr (Or.inr (Or.inl rfl)))))) (by have h9 := hs; simp only [q_sim1, q_sim2, Option.none_or, Option.or_none] at h9; exact h9) hp K)
    case arraylength => exact sim _ h (fun P lp' st' S' z' kc' ks' hs hp K => q_arr_ok C0 hd hk Wd F (Or.inr (Or.inr (Or.inr (Or.inr (Or.inr (Or.inr rfl)))))) (by have h9 := hs; simp only [q_sim1, q_sim2, Option.none_or, Option.or_none] at h9; exact h9) hp K)
    all_goals first
      | exact sim _ h (fun P lp' st' S' z' kc' ks' hs hp K => q_sim1_ok C0 hd hk Wd F (by have h9 := hs; simp only [q_sim2, q_sim3, Option.none_or, Option.or_none] at h9; exact h9) hp K)
      | exact sim _ h (fun P lp' st' S' z' kc' ks' hs hp K => q_sim2_ok C0 hd hk Wd F (by have h9 := hs; simp only [q_sim1, q_sim3, Option.none_or, Option.or_none] at h9; exact h9) hp K)
      | exact sim _ h (fun P lp' st' S' z' kc' ks' hs hp K => by simp [q_sim1, q_sim2, q_sim3] at hs)
end QWhole
end
section
theorem zz_last : True := trivial
end
