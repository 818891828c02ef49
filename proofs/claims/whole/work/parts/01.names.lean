-- ===== PART A: goes FIRST, ahead of the names: the tables' words, and 'selects' of the private methods out of them =====
/-- a private method of a class that the tables say can be made, by its rows of tables_1 -/
def lw_okq (q : MethodName × Nat) : Prop := (q.1.cls ≠ "java/lang/invoke/MethodHandle" ∧ q.1.cls ≠ "java/lang/invoke/VarHandle") ∧ Cond.instantiable q.1.cls q.2 ∈ tables_1 ∧ Cond.privateMethod q.1 ∈ tables_1 ∧ Cond.instanceMethod q.1 ∈ tables_1
theorem lw_p0 : lw_okq (⟨"UnevenWax", "putBytes", "(I)V"⟩, 15) := ⟨⟨by decide +kernel, by decide +kernel⟩, List.mem_of_getElem? (i := 22) (by decide +kernel), List.mem_of_getElem? (i := 428) (by decide +kernel), List.mem_of_getElem? (i := 429) (by decide +kernel)⟩
theorem lw_p1 : lw_okq (⟨"UnevenWax$Reader", "begin", "(I)V"⟩, 8) := ⟨⟨by decide +kernel, by decide +kernel⟩, List.mem_of_getElem? (i := 30) (by decide +kernel), List.mem_of_getElem? (i := 440) (by decide +kernel), List.mem_of_getElem? (i := 441) (by decide +kernel)⟩
theorem lw_p2 : lw_okq (⟨"UnevenWax$Reader", "advance", "()V"⟩, 8) := ⟨⟨by decide +kernel, by decide +kernel⟩, List.mem_of_getElem? (i := 30) (by decide +kernel), List.mem_of_getElem? (i := 450) (by decide +kernel), List.mem_of_getElem? (i := 451) (by decide +kernel)⟩
theorem lw_p3 : lw_okq (⟨"UnevenWax$Reader", "advanceDigits", "()V"⟩, 8) := ⟨⟨by decide +kernel, by decide +kernel⟩, List.mem_of_getElem? (i := 30) (by decide +kernel), List.mem_of_getElem? (i := 460) (by decide +kernel), List.mem_of_getElem? (i := 461) (by decide +kernel)⟩
theorem lw_p4 : lw_okq (⟨"UnevenWax$Reader", "readLine", "(LUnevenWax$Cellar;)Z"⟩, 8) := ⟨⟨by decide +kernel, by decide +kernel⟩, List.mem_of_getElem? (i := 30) (by decide +kernel), List.mem_of_getElem? (i := 464) (by decide +kernel), List.mem_of_getElem? (i := 465) (by decide +kernel)⟩
theorem lw_p5 : lw_okq (⟨"UnevenWax$Reader", "isWord", "(Ljava/lang/String;)Z"⟩, 8) := ⟨⟨by decide +kernel, by decide +kernel⟩, List.mem_of_getElem? (i := 30) (by decide +kernel), List.mem_of_getElem? (i := 469) (by decide +kernel), List.mem_of_getElem? (i := 470) (by decide +kernel)⟩
theorem lw_p6 : lw_okq (⟨"UnevenWax$Reader", "refuse", "(I)Z"⟩, 8) := ⟨⟨by decide +kernel, by decide +kernel⟩, List.mem_of_getElem? (i := 30) (by decide +kernel), List.mem_of_getElem? (i := 521) (by decide +kernel), List.mem_of_getElem? (i := 522) (by decide +kernel)⟩
theorem lw_p7 : lw_okq (⟨"UnevenWax$Reader", "readPieces", "(LUnevenWax$Cellar;I)Z"⟩, 8) := ⟨⟨by decide +kernel, by decide +kernel⟩, List.mem_of_getElem? (i := 30) (by decide +kernel), List.mem_of_getElem? (i := 529) (by decide +kernel), List.mem_of_getElem? (i := 530) (by decide +kernel)⟩
theorem lw_p8 : lw_okq (⟨"UnevenWax$Reader", "isNumber", "(II)Z"⟩, 8) := ⟨⟨by decide +kernel, by decide +kernel⟩, List.mem_of_getElem? (i := 30) (by decide +kernel), List.mem_of_getElem? (i := 533) (by decide +kernel), List.mem_of_getElem? (i := 534) (by decide +kernel)⟩
theorem lw_p9 : lw_okq (⟨"UnevenWax$Reader", "advanceTo", "(II)Z"⟩, 8) := ⟨⟨by decide +kernel, by decide +kernel⟩, List.mem_of_getElem? (i := 30) (by decide +kernel), List.mem_of_getElem? (i := 546) (by decide +kernel), List.mem_of_getElem? (i := 547) (by decide +kernel)⟩
theorem lw_p10 : lw_okq (⟨"UnevenWax", "forgetCellar", "()V"⟩, 15) := ⟨⟨by decide +kernel, by decide +kernel⟩, List.mem_of_getElem? (i := 22) (by decide +kernel), List.mem_of_getElem? (i := 558) (by decide +kernel), List.mem_of_getElem? (i := 559) (by decide +kernel)⟩
theorem lw_p11 : lw_okq (⟨"UnevenWax$Reader", "readRule", "(LUnevenWax$Plan;)Z"⟩, 8) := ⟨⟨by decide +kernel, by decide +kernel⟩, List.mem_of_getElem? (i := 30) (by decide +kernel), List.mem_of_getElem? (i := 578) (by decide +kernel), List.mem_of_getElem? (i := 579) (by decide +kernel)⟩
theorem lw_p12 : lw_okq (⟨"UnevenWax$Reader", "readAct", "(LUnevenWax$Plan;)Z"⟩, 8) := ⟨⟨by decide +kernel, by decide +kernel⟩, List.mem_of_getElem? (i := 30) (by decide +kernel), List.mem_of_getElem? (i := 588) (by decide +kernel), List.mem_of_getElem? (i := 589) (by decide +kernel)⟩
theorem lw_p13 : lw_okq (⟨"UnevenWax$Reader", "actAtHand", "()I"⟩, 8) := ⟨⟨by decide +kernel, by decide +kernel⟩, List.mem_of_getElem? (i := 30) (by decide +kernel), List.mem_of_getElem? (i := 592) (by decide +kernel), List.mem_of_getElem? (i := 593) (by decide +kernel)⟩
theorem lw_p14 : lw_okq (⟨"UnevenWax", "playAsTold", "(I)V"⟩, 15) := ⟨⟨by decide +kernel, by decide +kernel⟩, List.mem_of_getElem? (i := 22) (by decide +kernel), List.mem_of_getElem? (i := 664) (by decide +kernel), List.mem_of_getElem? (i := 665) (by decide +kernel)⟩
theorem lw_p15 : lw_okq (⟨"UnevenWax$Run", "begin", "(LUnevenWax$Plan;I)V"⟩, 16) := ⟨⟨by decide +kernel, by decide +kernel⟩, List.mem_of_getElem? (i := 161) (by decide +kernel), List.mem_of_getElem? (i := 678) (by decide +kernel), List.mem_of_getElem? (i := 679) (by decide +kernel)⟩
def lw_privs_1 : List (MethodName × Nat) := [(⟨"UnevenWax", "putBytes", "(I)V"⟩, 15), (⟨"UnevenWax$Reader", "begin", "(I)V"⟩, 8), (⟨"UnevenWax$Reader", "advance", "()V"⟩, 8), (⟨"UnevenWax$Reader", "advanceDigits", "()V"⟩, 8), (⟨"UnevenWax$Reader", "readLine", "(LUnevenWax$Cellar;)Z"⟩, 8), (⟨"UnevenWax$Reader", "isWord", "(Ljava/lang/String;)Z"⟩, 8), (⟨"UnevenWax$Reader", "refuse", "(I)Z"⟩, 8), (⟨"UnevenWax$Reader", "readPieces", "(LUnevenWax$Cellar;I)Z"⟩, 8), (⟨"UnevenWax$Reader", "isNumber", "(II)Z"⟩, 8), (⟨"UnevenWax$Reader", "advanceTo", "(II)Z"⟩, 8), (⟨"UnevenWax", "forgetCellar", "()V"⟩, 15), (⟨"UnevenWax$Reader", "readRule", "(LUnevenWax$Plan;)Z"⟩, 8), (⟨"UnevenWax$Reader", "readAct", "(LUnevenWax$Plan;)Z"⟩, 8), (⟨"UnevenWax$Reader", "actAtHand", "()I"⟩, 8), (⟨"UnevenWax", "playAsTold", "(I)V"⟩, 15), (⟨"UnevenWax$Run", "begin", "(LUnevenWax$Plan;I)V"⟩, 16)]
theorem lw_r1 : ∀ q ∈ lw_privs_1, lw_okq q := List.forall_mem_cons.mpr ⟨lw_p0, List.forall_mem_cons.mpr ⟨lw_p1, List.forall_mem_cons.mpr ⟨lw_p2, List.forall_mem_cons.mpr ⟨lw_p3, List.forall_mem_cons.mpr ⟨lw_p4, List.forall_mem_cons.mpr ⟨lw_p5, List.forall_mem_cons.mpr ⟨lw_p6, List.forall_mem_cons.mpr ⟨lw_p7, List.forall_mem_cons.mpr ⟨lw_p8, List.forall_mem_cons.mpr ⟨lw_p9, List.forall_mem_cons.mpr ⟨lw_p10, List.forall_mem_cons.mpr ⟨lw_p11, List.forall_mem_cons.mpr ⟨lw_p12, List.forall_mem_cons.mpr ⟨lw_p13, List.forall_mem_cons.mpr ⟨lw_p14, List.forall_mem_cons.mpr ⟨lw_p15, fun _ h => absurd h List.not_mem_nil⟩⟩⟩⟩⟩⟩⟩⟩⟩⟩⟩⟩⟩⟩⟩⟩
theorem lw_p16 : lw_okq (⟨"UnevenWax$Run", "doRules", "(I)V"⟩, 16) := ⟨⟨by decide +kernel, by decide +kernel⟩, List.mem_of_getElem? (i := 161) (by decide +kernel), List.mem_of_getElem? (i := 682) (by decide +kernel), List.mem_of_getElem? (i := 683) (by decide +kernel)⟩
theorem lw_p17 : lw_okq (⟨"UnevenWax$Run", "doAct", "(I)Z"⟩, 16) := ⟨⟨by decide +kernel, by decide +kernel⟩, List.mem_of_getElem? (i := 161) (by decide +kernel), List.mem_of_getElem? (i := 690) (by decide +kernel), List.mem_of_getElem? (i := 691) (by decide +kernel)⟩
theorem lw_p18 : lw_okq (⟨"UnevenWax$Run", "stands", "(I)Z"⟩, 16) := ⟨⟨by decide +kernel, by decide +kernel⟩, List.mem_of_getElem? (i := 161) (by decide +kernel), List.mem_of_getElem? (i := 694) (by decide +kernel), List.mem_of_getElem? (i := 695) (by decide +kernel)⟩
theorem lw_p19 : lw_okq (⟨"UnevenWax$Run", "giveFlames", "(II)Z"⟩, 16) := ⟨⟨by decide +kernel, by decide +kernel⟩, List.mem_of_getElem? (i := 161) (by decide +kernel), List.mem_of_getElem? (i := 698) (by decide +kernel), List.mem_of_getElem? (i := 699) (by decide +kernel)⟩
theorem lw_p20 : lw_okq (⟨"UnevenWax$Run", "join", "(II)Z"⟩, 16) := ⟨⟨by decide +kernel, by decide +kernel⟩, List.mem_of_getElem? (i := 161) (by decide +kernel), List.mem_of_getElem? (i := 703) (by decide +kernel), List.mem_of_getElem? (i := 704) (by decide +kernel)⟩
theorem lw_p21 : lw_okq (⟨"UnevenWax$Run", "ring", "()V"⟩, 16) := ⟨⟨by decide +kernel, by decide +kernel⟩, List.mem_of_getElem? (i := 161) (by decide +kernel), List.mem_of_getElem? (i := 707) (by decide +kernel), List.mem_of_getElem? (i := 708) (by decide +kernel)⟩
theorem lw_p22 : lw_okq (⟨"UnevenWax$Run", "untilNextEnd", "()I"⟩, 16) := ⟨⟨by decide +kernel, by decide +kernel⟩, List.mem_of_getElem? (i := 161) (by decide +kernel), List.mem_of_getElem? (i := 711) (by decide +kernel), List.mem_of_getElem? (i := 712) (by decide +kernel)⟩
theorem lw_p23 : lw_okq (⟨"UnevenWax$Run", "burn", "(I)V"⟩, 16) := ⟨⟨by decide +kernel, by decide +kernel⟩, List.mem_of_getElem? (i := 161) (by decide +kernel), List.mem_of_getElem? (i := 716) (by decide +kernel), List.mem_of_getElem? (i := 717) (by decide +kernel)⟩
theorem lw_p24 : lw_okq (⟨"UnevenWax$Run", "burnOwn", "(II)V"⟩, 16) := ⟨⟨by decide +kernel, by decide +kernel⟩, List.mem_of_getElem? (i := 161) (by decide +kernel), List.mem_of_getElem? (i := 720) (by decide +kernel), List.mem_of_getElem? (i := 721) (by decide +kernel)⟩
theorem lw_p25 : lw_okq (⟨"UnevenWax$Run", "putAwayEnded", "()I"⟩, 16) := ⟨⟨by decide +kernel, by decide +kernel⟩, List.mem_of_getElem? (i := 161) (by decide +kernel), List.mem_of_getElem? (i := 724) (by decide +kernel), List.mem_of_getElem? (i := 725) (by decide +kernel)⟩
theorem lw_p26 : lw_okq (⟨"UnevenWax", "waxOfRun", "()I"⟩, 15) := ⟨⟨by decide +kernel, by decide +kernel⟩, List.mem_of_getElem? (i := 22) (by decide +kernel), List.mem_of_getElem? (i := 734) (by decide +kernel), List.mem_of_getElem? (i := 735) (by decide +kernel)⟩
theorem lw_p27 : lw_okq (⟨"UnevenWax", "playUntil", "(II)V"⟩, 15) := ⟨⟨by decide +kernel, by decide +kernel⟩, List.mem_of_getElem? (i := 22) (by decide +kernel), List.mem_of_getElem? (i := 754) (by decide +kernel), List.mem_of_getElem? (i := 755) (by decide +kernel)⟩
theorem lw_p28 : lw_okq (⟨"UnevenWax", "keepBells", "()I"⟩, 15) := ⟨⟨by decide +kernel, by decide +kernel⟩, List.mem_of_getElem? (i := 22) (by decide +kernel), List.mem_of_getElem? (i := 775) (by decide +kernel), List.mem_of_getElem? (i := 776) (by decide +kernel)⟩
theorem lw_p29 : lw_okq (⟨"UnevenWax", "ringsAsKept", "(I)Z"⟩, 15) := ⟨⟨by decide +kernel, by decide +kernel⟩, List.mem_of_getElem? (i := 22) (by decide +kernel), List.mem_of_getElem? (i := 780) (by decide +kernel), List.mem_of_getElem? (i := 781) (by decide +kernel)⟩
theorem lw_p30 : lw_okq (⟨"UnevenWax$Offs", "note", "(LUnevenWax$Run;)V"⟩, 5) := ⟨⟨by decide +kernel, by decide +kernel⟩, List.mem_of_getElem? (i := 230) (by decide +kernel), List.mem_of_getElem? (i := 804) (by decide +kernel), List.mem_of_getElem? (i := 805) (by decide +kernel)⟩
theorem lw_p31 : lw_okq (⟨"UnevenWax$Offs", "turnNext", "(LUnevenWax$Run;LUnevenWax$Cellar;I)Z"⟩, 5) := ⟨⟨by decide +kernel, by decide +kernel⟩, List.mem_of_getElem? (i := 230) (by decide +kernel), List.mem_of_getElem? (i := 810) (by decide +kernel), List.mem_of_getElem? (i := 811) (by decide +kernel)⟩
def lw_privs_2 : List (MethodName × Nat) := [(⟨"UnevenWax$Run", "doRules", "(I)V"⟩, 16), (⟨"UnevenWax$Run", "doAct", "(I)Z"⟩, 16), (⟨"UnevenWax$Run", "stands", "(I)Z"⟩, 16), (⟨"UnevenWax$Run", "giveFlames", "(II)Z"⟩, 16), (⟨"UnevenWax$Run", "join", "(II)Z"⟩, 16), (⟨"UnevenWax$Run", "ring", "()V"⟩, 16), (⟨"UnevenWax$Run", "untilNextEnd", "()I"⟩, 16), (⟨"UnevenWax$Run", "burn", "(I)V"⟩, 16), (⟨"UnevenWax$Run", "burnOwn", "(II)V"⟩, 16), (⟨"UnevenWax$Run", "putAwayEnded", "()I"⟩, 16), (⟨"UnevenWax", "waxOfRun", "()I"⟩, 15), (⟨"UnevenWax", "playUntil", "(II)V"⟩, 15), (⟨"UnevenWax", "keepBells", "()I"⟩, 15), (⟨"UnevenWax", "ringsAsKept", "(I)Z"⟩, 15), (⟨"UnevenWax$Offs", "note", "(LUnevenWax$Run;)V"⟩, 5), (⟨"UnevenWax$Offs", "turnNext", "(LUnevenWax$Run;LUnevenWax$Cellar;I)Z"⟩, 5)]
theorem lw_r2 : ∀ q ∈ lw_privs_2, lw_okq q := List.forall_mem_cons.mpr ⟨lw_p16, List.forall_mem_cons.mpr ⟨lw_p17, List.forall_mem_cons.mpr ⟨lw_p18, List.forall_mem_cons.mpr ⟨lw_p19, List.forall_mem_cons.mpr ⟨lw_p20, List.forall_mem_cons.mpr ⟨lw_p21, List.forall_mem_cons.mpr ⟨lw_p22, List.forall_mem_cons.mpr ⟨lw_p23, List.forall_mem_cons.mpr ⟨lw_p24, List.forall_mem_cons.mpr ⟨lw_p25, List.forall_mem_cons.mpr ⟨lw_p26, List.forall_mem_cons.mpr ⟨lw_p27, List.forall_mem_cons.mpr ⟨lw_p28, List.forall_mem_cons.mpr ⟨lw_p29, List.forall_mem_cons.mpr ⟨lw_p30, List.forall_mem_cons.mpr ⟨lw_p31, fun _ h => absurd h List.not_mem_nil⟩⟩⟩⟩⟩⟩⟩⟩⟩⟩⟩⟩⟩⟩⟩⟩
theorem lw_p32 : lw_okq (⟨"UnevenWax", "isSet", "(II)Z"⟩, 15) := ⟨⟨by decide +kernel, by decide +kernel⟩, List.mem_of_getElem? (i := 22) (by decide +kernel), List.mem_of_getElem? (i := 832) (by decide +kernel), List.mem_of_getElem? (i := 833) (by decide +kernel)⟩
theorem lw_p33 : lw_okq (⟨"UnevenWax", "isTold", "(IZI)Z"⟩, 15) := ⟨⟨by decide +kernel, by decide +kernel⟩, List.mem_of_getElem? (i := 22) (by decide +kernel), List.mem_of_getElem? (i := 842) (by decide +kernel), List.mem_of_getElem? (i := 843) (by decide +kernel)⟩
theorem lw_p34 : lw_okq (⟨"UnevenWax$Marks", "hasMark", "(I)Z"⟩, 2) := ⟨⟨by decide +kernel, by decide +kernel⟩, List.mem_of_getElem? (i := 341) (by decide +kernel), List.mem_of_getElem? (i := 850) (by decide +kernel), List.mem_of_getElem? (i := 851) (by decide +kernel)⟩
theorem lw_p35 : lw_okq (⟨"UnevenWax$Ways", "onGrid", "(I)Z"⟩, 16) := ⟨⟨by decide +kernel, by decide +kernel⟩, List.mem_of_getElem? (i := 256) (by decide +kernel), List.mem_of_getElem? (i := 866) (by decide +kernel), List.mem_of_getElem? (i := 867) (by decide +kernel)⟩
theorem lw_p36 : lw_okq (⟨"UnevenWax$Ways", "begin", "()V"⟩, 16) := ⟨⟨by decide +kernel, by decide +kernel⟩, List.mem_of_getElem? (i := 256) (by decide +kernel), List.mem_of_getElem? (i := 870) (by decide +kernel), List.mem_of_getElem? (i := 871) (by decide +kernel)⟩
theorem lw_p37 : lw_okq (⟨"UnevenWax$Ways", "go", "(III)V"⟩, 16) := ⟨⟨by decide +kernel, by decide +kernel⟩, List.mem_of_getElem? (i := 256) (by decide +kernel), List.mem_of_getElem? (i := 874) (by decide +kernel), List.mem_of_getElem? (i := 875) (by decide +kernel)⟩
theorem lw_p38 : lw_okq (⟨"UnevenWax$Ways", "fewestFor", "(II)I"⟩, 16) := ⟨⟨by decide +kernel, by decide +kernel⟩, List.mem_of_getElem? (i := 256) (by decide +kernel), List.mem_of_getElem? (i := 878) (by decide +kernel), List.mem_of_getElem? (i := 879) (by decide +kernel)⟩
theorem lw_p39 : lw_okq (⟨"UnevenWax$Ways", "follow", "(III)V"⟩, 16) := ⟨⟨by decide +kernel, by decide +kernel⟩, List.mem_of_getElem? (i := 256) (by decide +kernel), List.mem_of_getElem? (i := 882) (by decide +kernel), List.mem_of_getElem? (i := 883) (by decide +kernel)⟩
theorem lw_p40 : lw_okq (⟨"UnevenWax$Ways", "arrive", "(III)V"⟩, 16) := ⟨⟨by decide +kernel, by decide +kernel⟩, List.mem_of_getElem? (i := 256) (by decide +kernel), List.mem_of_getElem? (i := 887) (by decide +kernel), List.mem_of_getElem? (i := 888) (by decide +kernel)⟩
theorem lw_p41 : lw_okq (⟨"UnevenWax$Ways", "liesBetween", "(I)Z"⟩, 16) := ⟨⟨by decide +kernel, by decide +kernel⟩, List.mem_of_getElem? (i := 256) (by decide +kernel), List.mem_of_getElem? (i := 895) (by decide +kernel), List.mem_of_getElem? (i := 896) (by decide +kernel)⟩
theorem lw_p42 : lw_okq (⟨"UnevenWax$Ways", "arriveWanting", "(III)V"⟩, 16) := ⟨⟨by decide +kernel, by decide +kernel⟩, List.mem_of_getElem? (i := 256) (by decide +kernel), List.mem_of_getElem? (i := 899) (by decide +kernel), List.mem_of_getElem? (i := 900) (by decide +kernel)⟩
theorem lw_p43 : lw_okq (⟨"UnevenWax$Ways", "mayTell", "(II)Z"⟩, 16) := ⟨⟨by decide +kernel, by decide +kernel⟩, List.mem_of_getElem? (i := 256) (by decide +kernel), List.mem_of_getElem? (i := 903) (by decide +kernel), List.mem_of_getElem? (i := 904) (by decide +kernel)⟩
theorem lw_p44 : lw_okq (⟨"UnevenWax$Ways", "newFlames", "(I)I"⟩, 16) := ⟨⟨by decide +kernel, by decide +kernel⟩, List.mem_of_getElem? (i := 256) (by decide +kernel), List.mem_of_getElem? (i := 907) (by decide +kernel), List.mem_of_getElem? (i := 908) (by decide +kernel)⟩
theorem lw_p45 : lw_okq (⟨"UnevenWax$Ways", "arriveSeeking", "(III)V"⟩, 16) := ⟨⟨by decide +kernel, by decide +kernel⟩, List.mem_of_getElem? (i := 256) (by decide +kernel), List.mem_of_getElem? (i := 912) (by decide +kernel), List.mem_of_getElem? (i := 913) (by decide +kernel)⟩
theorem lw_p46 : lw_okq (⟨"UnevenWax$Ways", "giveNext", "(I)Z"⟩, 16) := ⟨⟨by decide +kernel, by decide +kernel⟩, List.mem_of_getElem? (i := 256) (by decide +kernel), List.mem_of_getElem? (i := 916) (by decide +kernel), List.mem_of_getElem? (i := 917) (by decide +kernel)⟩
theorem lw_p47 : lw_okq (⟨"UnevenWax", "allTold", "(IZ)LUnevenWax$Marks;"⟩, 15) := ⟨⟨by decide +kernel, by decide +kernel⟩, List.mem_of_getElem? (i := 22) (by decide +kernel), List.mem_of_getElem? (i := 924) (by decide +kernel), List.mem_of_getElem? (i := 925) (by decide +kernel)⟩
def lw_privs_3 : List (MethodName × Nat) := [(⟨"UnevenWax", "isSet", "(II)Z"⟩, 15), (⟨"UnevenWax", "isTold", "(IZI)Z"⟩, 15), (⟨"UnevenWax$Marks", "hasMark", "(I)Z"⟩, 2), (⟨"UnevenWax$Ways", "onGrid", "(I)Z"⟩, 16), (⟨"UnevenWax$Ways", "begin", "()V"⟩, 16), (⟨"UnevenWax$Ways", "go", "(III)V"⟩, 16), (⟨"UnevenWax$Ways", "fewestFor", "(II)I"⟩, 16), (⟨"UnevenWax$Ways", "follow", "(III)V"⟩, 16), (⟨"UnevenWax$Ways", "arrive", "(III)V"⟩, 16), (⟨"UnevenWax$Ways", "liesBetween", "(I)Z"⟩, 16), (⟨"UnevenWax$Ways", "arriveWanting", "(III)V"⟩, 16), (⟨"UnevenWax$Ways", "mayTell", "(II)Z"⟩, 16), (⟨"UnevenWax$Ways", "newFlames", "(I)I"⟩, 16), (⟨"UnevenWax$Ways", "arriveSeeking", "(III)V"⟩, 16), (⟨"UnevenWax$Ways", "giveNext", "(I)Z"⟩, 16), (⟨"UnevenWax", "allTold", "(IZ)LUnevenWax$Marks;"⟩, 15)]
theorem lw_r3 : ∀ q ∈ lw_privs_3, lw_okq q := List.forall_mem_cons.mpr ⟨lw_p32, List.forall_mem_cons.mpr ⟨lw_p33, List.forall_mem_cons.mpr ⟨lw_p34, List.forall_mem_cons.mpr ⟨lw_p35, List.forall_mem_cons.mpr ⟨lw_p36, List.forall_mem_cons.mpr ⟨lw_p37, List.forall_mem_cons.mpr ⟨lw_p38, List.forall_mem_cons.mpr ⟨lw_p39, List.forall_mem_cons.mpr ⟨lw_p40, List.forall_mem_cons.mpr ⟨lw_p41, List.forall_mem_cons.mpr ⟨lw_p42, List.forall_mem_cons.mpr ⟨lw_p43, List.forall_mem_cons.mpr ⟨lw_p44, List.forall_mem_cons.mpr ⟨lw_p45, List.forall_mem_cons.mpr ⟨lw_p46, List.forall_mem_cons.mpr ⟨lw_p47, fun _ h => absurd h List.not_mem_nil⟩⟩⟩⟩⟩⟩⟩⟩⟩⟩⟩⟩⟩⟩⟩⟩
theorem lw_p48 : lw_okq (⟨"UnevenWax$Marks", "nthOfWord", "(II)I"⟩, 2) := ⟨⟨by decide +kernel, by decide +kernel⟩, List.mem_of_getElem? (i := 341) (by decide +kernel), List.mem_of_getElem? (i := 948) (by decide +kernel), List.mem_of_getElem? (i := 949) (by decide +kernel)⟩
theorem lw_p49 : lw_okq (⟨"UnevenWax$Ways", "wantAlso", "(I)Z"⟩, 16) := ⟨⟨by decide +kernel, by decide +kernel⟩, List.mem_of_getElem? (i := 256) (by decide +kernel), List.mem_of_getElem? (i := 997) (by decide +kernel), List.mem_of_getElem? (i := 998) (by decide +kernel)⟩
theorem lw_p50 : lw_okq (⟨"UnevenWax", "areTogether", "(IZ)Z"⟩, 15) := ⟨⟨by decide +kernel, by decide +kernel⟩, List.mem_of_getElem? (i := 22) (by decide +kernel), List.mem_of_getElem? (i := 1001) (by decide +kernel), List.mem_of_getElem? (i := 1002) (by decide +kernel)⟩
theorem lw_p51 : lw_okq (⟨"UnevenWax", "allAlong", "(I)LUnevenWax$Marks;"⟩, 15) := ⟨⟨by decide +kernel, by decide +kernel⟩, List.mem_of_getElem? (i := 22) (by decide +kernel), List.mem_of_getElem? (i := 1031) (by decide +kernel), List.mem_of_getElem? (i := 1032) (by decide +kernel)⟩
theorem lw_p52 : lw_okq (⟨"UnevenWax$Along", "go", "(III)V"⟩, 6) := ⟨⟨by decide +kernel, by decide +kernel⟩, List.mem_of_getElem? (i := 315) (by decide +kernel), List.mem_of_getElem? (i := 1045) (by decide +kernel), List.mem_of_getElem? (i := 1046) (by decide +kernel)⟩
theorem lw_p53 : lw_okq (⟨"UnevenWax$Along", "places", "(I)I"⟩, 6) := ⟨⟨by decide +kernel, by decide +kernel⟩, List.mem_of_getElem? (i := 315) (by decide +kernel), List.mem_of_getElem? (i := 1049) (by decide +kernel), List.mem_of_getElem? (i := 1050) (by decide +kernel)⟩
theorem lw_p54 : lw_okq (⟨"UnevenWax$Along", "follow", "(III)V"⟩, 6) := ⟨⟨by decide +kernel, by decide +kernel⟩, List.mem_of_getElem? (i := 315) (by decide +kernel), List.mem_of_getElem? (i := 1053) (by decide +kernel), List.mem_of_getElem? (i := 1054) (by decide +kernel)⟩
theorem lw_p55 : lw_okq (⟨"UnevenWax$Along", "untilNext", "(II)I"⟩, 6) := ⟨⟨by decide +kernel, by decide +kernel⟩, List.mem_of_getElem? (i := 315) (by decide +kernel), List.mem_of_getElem? (i := 1057) (by decide +kernel), List.mem_of_getElem? (i := 1058) (by decide +kernel)⟩
theorem lw_p56 : lw_okq (⟨"UnevenWax$Along", "untilEdge", "(II)I"⟩, 6) := ⟨⟨by decide +kernel, by decide +kernel⟩, List.mem_of_getElem? (i := 315) (by decide +kernel), List.mem_of_getElem? (i := 1062) (by decide +kernel), List.mem_of_getElem? (i := 1063) (by decide +kernel)⟩
theorem lw_p57 : lw_okq (⟨"UnevenWax$Along", "untilEdgeFromEnd", "(II)I"⟩, 6) := ⟨⟨by decide +kernel, by decide +kernel⟩, List.mem_of_getElem? (i := 315) (by decide +kernel), List.mem_of_getElem? (i := 1067) (by decide +kernel), List.mem_of_getElem? (i := 1068) (by decide +kernel)⟩
theorem lw_p58 : lw_okq (⟨"UnevenWax", "served", "(ILUnevenWax$Row;I)I"⟩, 15) := ⟨⟨by decide +kernel, by decide +kernel⟩, List.mem_of_getElem? (i := 22) (by decide +kernel), List.mem_of_getElem? (i := 1080) (by decide +kernel), List.mem_of_getElem? (i := 1081) (by decide +kernel)⟩
theorem lw_p59 : lw_okq (⟨"UnevenWax", "plansOfLog", "(LUnevenWax$Row;I)I"⟩, 15) := ⟨⟨by decide +kernel, by decide +kernel⟩, List.mem_of_getElem? (i := 22) (by decide +kernel), List.mem_of_getElem? (i := 1096) (by decide +kernel), List.mem_of_getElem? (i := 1097) (by decide +kernel)⟩
theorem lw_p60 : lw_okq (⟨"UnevenWax", "heard", "(LUnevenWax$Row;I)J"⟩, 15) := ⟨⟨by decide +kernel, by decide +kernel⟩, List.mem_of_getElem? (i := 22) (by decide +kernel), List.mem_of_getElem? (i := 1100) (by decide +kernel), List.mem_of_getElem? (i := 1101) (by decide +kernel)⟩
theorem lw_p61 : lw_okq (⟨"UnevenWax$Row", "cut", "(J)J"⟩, 4) := ⟨⟨by decide +kernel, by decide +kernel⟩, List.mem_of_getElem? (i := 354) (by decide +kernel), List.mem_of_getElem? (i := 1136) (by decide +kernel), List.mem_of_getElem? (i := 1137) (by decide +kernel)⟩
theorem lw_p62 : lw_okq (⟨"UnevenWaxModel", "begins", "(I)V"⟩, 56) := ⟨⟨by decide +kernel, by decide +kernel⟩, List.mem_of_getElem? (i := 1166) (by decide +kernel), List.mem_of_getElem? (i := 1353) (by decide +kernel), List.mem_of_getElem? (i := 1354) (by decide +kernel)⟩
theorem lw_p63 : lw_okq (⟨"UnevenWaxModel", "next", "()V"⟩, 56) := ⟨⟨by decide +kernel, by decide +kernel⟩, List.mem_of_getElem? (i := 1166) (by decide +kernel), List.mem_of_getElem? (i := 1357) (by decide +kernel), List.mem_of_getElem? (i := 1358) (by decide +kernel)⟩
def lw_privs_4 : List (MethodName × Nat) := [(⟨"UnevenWax$Marks", "nthOfWord", "(II)I"⟩, 2), (⟨"UnevenWax$Ways", "wantAlso", "(I)Z"⟩, 16), (⟨"UnevenWax", "areTogether", "(IZ)Z"⟩, 15), (⟨"UnevenWax", "allAlong", "(I)LUnevenWax$Marks;"⟩, 15), (⟨"UnevenWax$Along", "go", "(III)V"⟩, 6), (⟨"UnevenWax$Along", "places", "(I)I"⟩, 6), (⟨"UnevenWax$Along", "follow", "(III)V"⟩, 6), (⟨"UnevenWax$Along", "untilNext", "(II)I"⟩, 6), (⟨"UnevenWax$Along", "untilEdge", "(II)I"⟩, 6), (⟨"UnevenWax$Along", "untilEdgeFromEnd", "(II)I"⟩, 6), (⟨"UnevenWax", "served", "(ILUnevenWax$Row;I)I"⟩, 15), (⟨"UnevenWax", "plansOfLog", "(LUnevenWax$Row;I)I"⟩, 15), (⟨"UnevenWax", "heard", "(LUnevenWax$Row;I)J"⟩, 15), (⟨"UnevenWax$Row", "cut", "(J)J"⟩, 4), (⟨"UnevenWaxModel", "begins", "(I)V"⟩, 56), (⟨"UnevenWaxModel", "next", "()V"⟩, 56)]
theorem lw_r4 : ∀ q ∈ lw_privs_4, lw_okq q := List.forall_mem_cons.mpr ⟨lw_p48, List.forall_mem_cons.mpr ⟨lw_p49, List.forall_mem_cons.mpr ⟨lw_p50, List.forall_mem_cons.mpr ⟨lw_p51, List.forall_mem_cons.mpr ⟨lw_p52, List.forall_mem_cons.mpr ⟨lw_p53, List.forall_mem_cons.mpr ⟨lw_p54, List.forall_mem_cons.mpr ⟨lw_p55, List.forall_mem_cons.mpr ⟨lw_p56, List.forall_mem_cons.mpr ⟨lw_p57, List.forall_mem_cons.mpr ⟨lw_p58, List.forall_mem_cons.mpr ⟨lw_p59, List.forall_mem_cons.mpr ⟨lw_p60, List.forall_mem_cons.mpr ⟨lw_p61, List.forall_mem_cons.mpr ⟨lw_p62, List.forall_mem_cons.mpr ⟨lw_p63, fun _ h => absurd h List.not_mem_nil⟩⟩⟩⟩⟩⟩⟩⟩⟩⟩⟩⟩⟩⟩⟩⟩
theorem lw_p64 : lw_okq (⟨"UnevenWaxModel", "see", "(I)I"⟩, 56) := ⟨⟨by decide +kernel, by decide +kernel⟩, List.mem_of_getElem? (i := 1166) (by decide +kernel), List.mem_of_getElem? (i := 1361) (by decide +kernel), List.mem_of_getElem? (i := 1362) (by decide +kernel)⟩
theorem lw_p65 : lw_okq (⟨"UnevenWaxModel", "keyAt", "()I"⟩, 56) := ⟨⟨by decide +kernel, by decide +kernel⟩, List.mem_of_getElem? (i := 1166) (by decide +kernel), List.mem_of_getElem? (i := 1368) (by decide +kernel), List.mem_of_getElem? (i := 1369) (by decide +kernel)⟩
theorem lw_p66 : lw_okq (⟨"UnevenWaxModel", "readCandle", "()V"⟩, 56) := ⟨⟨by decide +kernel, by decide +kernel⟩, List.mem_of_getElem? (i := 1166) (by decide +kernel), List.mem_of_getElem? (i := 1378) (by decide +kernel), List.mem_of_getElem? (i := 1379) (by decide +kernel)⟩
theorem lw_p67 : lw_okq (⟨"UnevenWaxModel", "is", "(I)Z"⟩, 56) := ⟨⟨by decide +kernel, by decide +kernel⟩, List.mem_of_getElem? (i := 1166) (by decide +kernel), List.mem_of_getElem? (i := 1382) (by decide +kernel), List.mem_of_getElem? (i := 1383) (by decide +kernel)⟩
theorem lw_p68 : lw_okq (⟨"UnevenWaxModel", "fails", "(I)V"⟩, 56) := ⟨⟨by decide +kernel, by decide +kernel⟩, List.mem_of_getElem? (i := 1166) (by decide +kernel), List.mem_of_getElem? (i := 1386) (by decide +kernel), List.mem_of_getElem? (i := 1387) (by decide +kernel)⟩
theorem lw_p69 : lw_okq (⟨"UnevenWaxModel", "takes", "(II)I"⟩, 56) := ⟨⟨by decide +kernel, by decide +kernel⟩, List.mem_of_getElem? (i := 1166) (by decide +kernel), List.mem_of_getElem? (i := 1391) (by decide +kernel), List.mem_of_getElem? (i := 1392) (by decide +kernel)⟩
theorem lw_p70 : lw_okq (⟨"UnevenWaxModel", "eats", "(I)Z"⟩, 56) := ⟨⟨by decide +kernel, by decide +kernel⟩, List.mem_of_getElem? (i := 1166) (by decide +kernel), List.mem_of_getElem? (i := 1395) (by decide +kernel), List.mem_of_getElem? (i := 1396) (by decide +kernel)⟩
theorem lw_p71 : lw_okq (⟨"UnevenWaxModel", "needs", "(I)V"⟩, 56) := ⟨⟨by decide +kernel, by decide +kernel⟩, List.mem_of_getElem? (i := 1166) (by decide +kernel), List.mem_of_getElem? (i := 1399) (by decide +kernel), List.mem_of_getElem? (i := 1400) (by decide +kernel)⟩
theorem lw_p72 : lw_okq (⟨"UnevenWaxModel", "told", "()I"⟩, 56) := ⟨⟨by decide +kernel, by decide +kernel⟩, List.mem_of_getElem? (i := 1166) (by decide +kernel), List.mem_of_getElem? (i := 1403) (by decide +kernel), List.mem_of_getElem? (i := 1404) (by decide +kernel)⟩
theorem lw_p73 : lw_okq (⟨"UnevenWaxModel", "readRule", "()V"⟩, 56) := ⟨⟨by decide +kernel, by decide +kernel⟩, List.mem_of_getElem? (i := 1166) (by decide +kernel), List.mem_of_getElem? (i := 1412) (by decide +kernel), List.mem_of_getElem? (i := 1413) (by decide +kernel)⟩
theorem lw_p74 : lw_okq (⟨"UnevenWaxModel", "readAct", "()V"⟩, 56) := ⟨⟨by decide +kernel, by decide +kernel⟩, List.mem_of_getElem? (i := 1166) (by decide +kernel), List.mem_of_getElem? (i := 1416) (by decide +kernel), List.mem_of_getElem? (i := 1417) (by decide +kernel)⟩
theorem lw_p75 : lw_okq (⟨"UnevenWaxModel", "isCandle", "(I)Z"⟩, 56) := ⟨⟨by decide +kernel, by decide +kernel⟩, List.mem_of_getElem? (i := 1166) (by decide +kernel), List.mem_of_getElem? (i := 1433) (by decide +kernel), List.mem_of_getElem? (i := 1434) (by decide +kernel)⟩
theorem lw_p76 : lw_okq (⟨"UnevenWaxModel", "minuteOf", "(II)I"⟩, 56) := ⟨⟨by decide +kernel, by decide +kernel⟩, List.mem_of_getElem? (i := 1166) (by decide +kernel), List.mem_of_getElem? (i := 1437) (by decide +kernel), List.mem_of_getElem? (i := 1438) (by decide +kernel)⟩
theorem lw_p77 : lw_okq (⟨"UnevenWaxModel", "restOf", "(I)I"⟩, 56) := ⟨⟨by decide +kernel, by decide +kernel⟩, List.mem_of_getElem? (i := 1166) (by decide +kernel), List.mem_of_getElem? (i := 1441) (by decide +kernel), List.mem_of_getElem? (i := 1442) (by decide +kernel)⟩
theorem lw_p78 : lw_okq (⟨"UnevenWaxModel", "burntOf", "(IIZ)I"⟩, 56) := ⟨⟨by decide +kernel, by decide +kernel⟩, List.mem_of_getElem? (i := 1166) (by decide +kernel), List.mem_of_getElem? (i := 1449) (by decide +kernel), List.mem_of_getElem? (i := 1450) (by decide +kernel)⟩
theorem lw_p79 : lw_okq (⟨"UnevenWaxModel", "asTold", "()V"⟩, 56) := ⟨⟨by decide +kernel, by decide +kernel⟩, List.mem_of_getElem? (i := 1166) (by decide +kernel), List.mem_of_getElem? (i := 1474) (by decide +kernel), List.mem_of_getElem? (i := 1475) (by decide +kernel)⟩
def lw_privs_5 : List (MethodName × Nat) := [(⟨"UnevenWaxModel", "see", "(I)I"⟩, 56), (⟨"UnevenWaxModel", "keyAt", "()I"⟩, 56), (⟨"UnevenWaxModel", "readCandle", "()V"⟩, 56), (⟨"UnevenWaxModel", "is", "(I)Z"⟩, 56), (⟨"UnevenWaxModel", "fails", "(I)V"⟩, 56), (⟨"UnevenWaxModel", "takes", "(II)I"⟩, 56), (⟨"UnevenWaxModel", "eats", "(I)Z"⟩, 56), (⟨"UnevenWaxModel", "needs", "(I)V"⟩, 56), (⟨"UnevenWaxModel", "told", "()I"⟩, 56), (⟨"UnevenWaxModel", "readRule", "()V"⟩, 56), (⟨"UnevenWaxModel", "readAct", "()V"⟩, 56), (⟨"UnevenWaxModel", "isCandle", "(I)Z"⟩, 56), (⟨"UnevenWaxModel", "minuteOf", "(II)I"⟩, 56), (⟨"UnevenWaxModel", "restOf", "(I)I"⟩, 56), (⟨"UnevenWaxModel", "burntOf", "(IIZ)I"⟩, 56), (⟨"UnevenWaxModel", "asTold", "()V"⟩, 56)]
theorem lw_r5 : ∀ q ∈ lw_privs_5, lw_okq q := List.forall_mem_cons.mpr ⟨lw_p64, List.forall_mem_cons.mpr ⟨lw_p65, List.forall_mem_cons.mpr ⟨lw_p66, List.forall_mem_cons.mpr ⟨lw_p67, List.forall_mem_cons.mpr ⟨lw_p68, List.forall_mem_cons.mpr ⟨lw_p69, List.forall_mem_cons.mpr ⟨lw_p70, List.forall_mem_cons.mpr ⟨lw_p71, List.forall_mem_cons.mpr ⟨lw_p72, List.forall_mem_cons.mpr ⟨lw_p73, List.forall_mem_cons.mpr ⟨lw_p74, List.forall_mem_cons.mpr ⟨lw_p75, List.forall_mem_cons.mpr ⟨lw_p76, List.forall_mem_cons.mpr ⟨lw_p77, List.forall_mem_cons.mpr ⟨lw_p78, List.forall_mem_cons.mpr ⟨lw_p79, fun _ h => absurd h List.not_mem_nil⟩⟩⟩⟩⟩⟩⟩⟩⟩⟩⟩⟩⟩⟩⟩⟩
theorem lw_p80 : lw_okq (⟨"UnevenWaxModel", "runs", "(II)V"⟩, 56) := ⟨⟨by decide +kernel, by decide +kernel⟩, List.mem_of_getElem? (i := 1166) (by decide +kernel), List.mem_of_getElem? (i := 1478) (by decide +kernel), List.mem_of_getElem? (i := 1479) (by decide +kernel)⟩
theorem lw_p81 : lw_okq (⟨"UnevenWaxModel", "doesRules", "(II)V"⟩, 56) := ⟨⟨by decide +kernel, by decide +kernel⟩, List.mem_of_getElem? (i := 1166) (by decide +kernel), List.mem_of_getElem? (i := 1482) (by decide +kernel), List.mem_of_getElem? (i := 1483) (by decide +kernel)⟩
theorem lw_p82 : lw_okq (⟨"UnevenWaxModel", "doesAct", "(II)V"⟩, 56) := ⟨⟨by decide +kernel, by decide +kernel⟩, List.mem_of_getElem? (i := 1166) (by decide +kernel), List.mem_of_getElem? (i := 1486) (by decide +kernel), List.mem_of_getElem? (i := 1487) (by decide +kernel)⟩
theorem lw_p83 : lw_okq (⟨"UnevenWaxModel", "tillNext", "()I"⟩, 56) := ⟨⟨by decide +kernel, by decide +kernel⟩, List.mem_of_getElem? (i := 1166) (by decide +kernel), List.mem_of_getElem? (i := 1490) (by decide +kernel), List.mem_of_getElem? (i := 1491) (by decide +kernel)⟩
theorem lw_p84 : lw_okq (⟨"UnevenWaxModel", "burns", "(I)V"⟩, 56) := ⟨⟨by decide +kernel, by decide +kernel⟩, List.mem_of_getElem? (i := 1166) (by decide +kernel), List.mem_of_getElem? (i := 1494) (by decide +kernel), List.mem_of_getElem? (i := 1495) (by decide +kernel)⟩
theorem lw_p85 : lw_okq (⟨"UnevenWaxModel", "waxBurnt", "()I"⟩, 56) := ⟨⟨by decide +kernel, by decide +kernel⟩, List.mem_of_getElem? (i := 1166) (by decide +kernel), List.mem_of_getElem? (i := 1498) (by decide +kernel), List.mem_of_getElem? (i := 1499) (by decide +kernel)⟩
theorem lw_p86 : lw_okq (⟨"UnevenWaxModel", "runsTo", "(II)V"⟩, 56) := ⟨⟨by decide +kernel, by decide +kernel⟩, List.mem_of_getElem? (i := 1166) (by decide +kernel), List.mem_of_getElem? (i := 1514) (by decide +kernel), List.mem_of_getElem? (i := 1515) (by decide +kernel)⟩
theorem lw_p87 : lw_okq (⟨"UnevenWaxModel", "hears", "(I)V"⟩, 56) := ⟨⟨by decide +kernel, by decide +kernel⟩, List.mem_of_getElem? (i := 1166) (by decide +kernel), List.mem_of_getElem? (i := 1534) (by decide +kernel), List.mem_of_getElem? (i := 1535) (by decide +kernel)⟩
theorem lw_p88 : lw_okq (⟨"UnevenWaxModel", "isSpare", "(II)Z"⟩, 56) := ⟨⟨by decide +kernel, by decide +kernel⟩, List.mem_of_getElem? (i := 1166) (by decide +kernel), List.mem_of_getElem? (i := 1538) (by decide +kernel), List.mem_of_getElem? (i := 1539) (by decide +kernel)⟩
theorem lw_p89 : lw_okq (⟨"UnevenWaxModel", "isSet", "(I)Z"⟩, 56) := ⟨⟨by decide +kernel, by decide +kernel⟩, List.mem_of_getElem? (i := 1166) (by decide +kernel), List.mem_of_getElem? (i := 1569) (by decide +kernel), List.mem_of_getElem? (i := 1570) (by decide +kernel)⟩
theorem lw_p90 : lw_okq (⟨"UnevenWaxModel", "isTold", "(IZI)Z"⟩, 56) := ⟨⟨by decide +kernel, by decide +kernel⟩, List.mem_of_getElem? (i := 1166) (by decide +kernel), List.mem_of_getElem? (i := 1573) (by decide +kernel), List.mem_of_getElem? (i := 1574) (by decide +kernel)⟩
theorem lw_p91 : lw_okq (⟨"UnevenWaxModel", "seeks", "(IZI)V"⟩, 56) := ⟨⟨by decide +kernel, by decide +kernel⟩, List.mem_of_getElem? (i := 1166) (by decide +kernel), List.mem_of_getElem? (i := 1577) (by decide +kernel), List.mem_of_getElem? (i := 1578) (by decide +kernel)⟩
theorem lw_p92 : lw_okq (⟨"UnevenWaxModel", "goes", "(I)V"⟩, 56) := ⟨⟨by decide +kernel, by decide +kernel⟩, List.mem_of_getElem? (i := 1166) (by decide +kernel), List.mem_of_getElem? (i := 1581) (by decide +kernel), List.mem_of_getElem? (i := 1582) (by decide +kernel)⟩
theorem lw_p93 : lw_okq (⟨"UnevenWaxModel", "meets", "(I)V"⟩, 56) := ⟨⟨by decide +kernel, by decide +kernel⟩, List.mem_of_getElem? (i := 1166) (by decide +kernel), List.mem_of_getElem? (i := 1585) (by decide +kernel), List.mem_of_getElem? (i := 1586) (by decide +kernel)⟩
theorem lw_p94 : lw_okq (⟨"UnevenWaxModel", "adds", "(I)V"⟩, 56) := ⟨⟨by decide +kernel, by decide +kernel⟩, List.mem_of_getElem? (i := 1166) (by decide +kernel), List.mem_of_getElem? (i := 1589) (by decide +kernel), List.mem_of_getElem? (i := 1590) (by decide +kernel)⟩
theorem lw_p95 : lw_okq (⟨"UnevenWaxModel", "areTold", "(I)Z"⟩, 56) := ⟨⟨by decide +kernel, by decide +kernel⟩, List.mem_of_getElem? (i := 1166) (by decide +kernel), List.mem_of_getElem? (i := 1593) (by decide +kernel), List.mem_of_getElem? (i := 1594) (by decide +kernel)⟩
def lw_privs_6 : List (MethodName × Nat) := [(⟨"UnevenWaxModel", "runs", "(II)V"⟩, 56), (⟨"UnevenWaxModel", "doesRules", "(II)V"⟩, 56), (⟨"UnevenWaxModel", "doesAct", "(II)V"⟩, 56), (⟨"UnevenWaxModel", "tillNext", "()I"⟩, 56), (⟨"UnevenWaxModel", "burns", "(I)V"⟩, 56), (⟨"UnevenWaxModel", "waxBurnt", "()I"⟩, 56), (⟨"UnevenWaxModel", "runsTo", "(II)V"⟩, 56), (⟨"UnevenWaxModel", "hears", "(I)V"⟩, 56), (⟨"UnevenWaxModel", "isSpare", "(II)Z"⟩, 56), (⟨"UnevenWaxModel", "isSet", "(I)Z"⟩, 56), (⟨"UnevenWaxModel", "isTold", "(IZI)Z"⟩, 56), (⟨"UnevenWaxModel", "seeks", "(IZI)V"⟩, 56), (⟨"UnevenWaxModel", "goes", "(I)V"⟩, 56), (⟨"UnevenWaxModel", "meets", "(I)V"⟩, 56), (⟨"UnevenWaxModel", "adds", "(I)V"⟩, 56), (⟨"UnevenWaxModel", "areTold", "(I)Z"⟩, 56)]
theorem lw_r6 : ∀ q ∈ lw_privs_6, lw_okq q := List.forall_mem_cons.mpr ⟨lw_p80, List.forall_mem_cons.mpr ⟨lw_p81, List.forall_mem_cons.mpr ⟨lw_p82, List.forall_mem_cons.mpr ⟨lw_p83, List.forall_mem_cons.mpr ⟨lw_p84, List.forall_mem_cons.mpr ⟨lw_p85, List.forall_mem_cons.mpr ⟨lw_p86, List.forall_mem_cons.mpr ⟨lw_p87, List.forall_mem_cons.mpr ⟨lw_p88, List.forall_mem_cons.mpr ⟨lw_p89, List.forall_mem_cons.mpr ⟨lw_p90, List.forall_mem_cons.mpr ⟨lw_p91, List.forall_mem_cons.mpr ⟨lw_p92, List.forall_mem_cons.mpr ⟨lw_p93, List.forall_mem_cons.mpr ⟨lw_p94, List.forall_mem_cons.mpr ⟨lw_p95, fun _ h => absurd h List.not_mem_nil⟩⟩⟩⟩⟩⟩⟩⟩⟩⟩⟩⟩⟩⟩⟩⟩
theorem lw_p96 : lw_okq (⟨"UnevenWaxModel", "laysTimes", "(IZ)V"⟩, 56) := ⟨⟨by decide +kernel, by decide +kernel⟩, List.mem_of_getElem? (i := 1166) (by decide +kernel), List.mem_of_getElem? (i := 1601) (by decide +kernel), List.mem_of_getElem? (i := 1602) (by decide +kernel)⟩
theorem lw_p97 : lw_okq (⟨"UnevenWaxModel", "timeAt", "(I)I"⟩, 56) := ⟨⟨by decide +kernel, by decide +kernel⟩, List.mem_of_getElem? (i := 1166) (by decide +kernel), List.mem_of_getElem? (i := 1605) (by decide +kernel), List.mem_of_getElem? (i := 1606) (by decide +kernel)⟩
theorem lw_p98 : lw_okq (⟨"UnevenWaxModel", "isTime", "(I)Z"⟩, 56) := ⟨⟨by decide +kernel, by decide +kernel⟩, List.mem_of_getElem? (i := 1166) (by decide +kernel), List.mem_of_getElem? (i := 1609) (by decide +kernel), List.mem_of_getElem? (i := 1610) (by decide +kernel)⟩
theorem lw_p99 : lw_okq (⟨"UnevenWaxModel", "wants", "(I)V"⟩, 56) := ⟨⟨by decide +kernel, by decide +kernel⟩, List.mem_of_getElem? (i := 1166) (by decide +kernel), List.mem_of_getElem? (i := 1644) (by decide +kernel), List.mem_of_getElem? (i := 1645) (by decide +kernel)⟩
theorem lw_p100 : lw_okq (⟨"UnevenWaxModel", "areTogether", "(IZ)Z"⟩, 56) := ⟨⟨by decide +kernel, by decide +kernel⟩, List.mem_of_getElem? (i := 1166) (by decide +kernel), List.mem_of_getElem? (i := 1649) (by decide +kernel), List.mem_of_getElem? (i := 1650) (by decide +kernel)⟩
theorem lw_p101 : lw_okq (⟨"UnevenWaxModel", "isFew", "(I)Z"⟩, 56) := ⟨⟨by decide +kernel, by decide +kernel⟩, List.mem_of_getElem? (i := 1166) (by decide +kernel), List.mem_of_getElem? (i := 1665) (by decide +kernel), List.mem_of_getElem? (i := 1666) (by decide +kernel)⟩
theorem lw_p102 : lw_okq (⟨"UnevenWaxModel", "laysAlong", "(I)V"⟩, 56) := ⟨⟨by decide +kernel, by decide +kernel⟩, List.mem_of_getElem? (i := 1166) (by decide +kernel), List.mem_of_getElem? (i := 1669) (by decide +kernel), List.mem_of_getElem? (i := 1670) (by decide +kernel)⟩
theorem lw_p103 : lw_okq (⟨"UnevenWaxModel", "goesAlong", "(II)V"⟩, 56) := ⟨⟨by decide +kernel, by decide +kernel⟩, List.mem_of_getElem? (i := 1166) (by decide +kernel), List.mem_of_getElem? (i := 1673) (by decide +kernel), List.mem_of_getElem? (i := 1674) (by decide +kernel)⟩
theorem lw_p104 : lw_okq (⟨"UnevenWaxModel", "isBurnt", "(II)Z"⟩, 56) := ⟨⟨by decide +kernel, by decide +kernel⟩, List.mem_of_getElem? (i := 1166) (by decide +kernel), List.mem_of_getElem? (i := 1677) (by decide +kernel), List.mem_of_getElem? (i := 1678) (by decide +kernel)⟩
theorem lw_p105 : lw_okq (⟨"UnevenWaxModel", "spanAlong", "(IIII)I"⟩, 56) := ⟨⟨by decide +kernel, by decide +kernel⟩, List.mem_of_getElem? (i := 1166) (by decide +kernel), List.mem_of_getElem? (i := 1681) (by decide +kernel), List.mem_of_getElem? (i := 1682) (by decide +kernel)⟩
theorem lw_p106 : lw_okq (⟨"UnevenWaxModel", "served", "(III)I"⟩, 56) := ⟨⟨by decide +kernel, by decide +kernel⟩, List.mem_of_getElem? (i := 1166) (by decide +kernel), List.mem_of_getElem? (i := 1693) (by decide +kernel), List.mem_of_getElem? (i := 1694) (by decide +kernel)⟩
theorem lw_p107 : lw_okq (⟨"UnevenWaxModel", "plansOf", "(II)I"⟩, 56) := ⟨⟨by decide +kernel, by decide +kernel⟩, List.mem_of_getElem? (i := 1166) (by decide +kernel), List.mem_of_getElem? (i := 1708) (by decide +kernel), List.mem_of_getElem? (i := 1709) (by decide +kernel)⟩
theorem lw_p108 : lw_okq (⟨"UnevenWaxModel", "mayBe", "(III)Z"⟩, 56) := ⟨⟨by decide +kernel, by decide +kernel⟩, List.mem_of_getElem? (i := 1166) (by decide +kernel), List.mem_of_getElem? (i := 1712) (by decide +kernel), List.mem_of_getElem? (i := 1713) (by decide +kernel)⟩
def lw_privs_7 : List (MethodName × Nat) := [(⟨"UnevenWaxModel", "laysTimes", "(IZ)V"⟩, 56), (⟨"UnevenWaxModel", "timeAt", "(I)I"⟩, 56), (⟨"UnevenWaxModel", "isTime", "(I)Z"⟩, 56), (⟨"UnevenWaxModel", "wants", "(I)V"⟩, 56), (⟨"UnevenWaxModel", "areTogether", "(IZ)Z"⟩, 56), (⟨"UnevenWaxModel", "isFew", "(I)Z"⟩, 56), (⟨"UnevenWaxModel", "laysAlong", "(I)V"⟩, 56), (⟨"UnevenWaxModel", "goesAlong", "(II)V"⟩, 56), (⟨"UnevenWaxModel", "isBurnt", "(II)Z"⟩, 56), (⟨"UnevenWaxModel", "spanAlong", "(IIII)I"⟩, 56), (⟨"UnevenWaxModel", "served", "(III)I"⟩, 56), (⟨"UnevenWaxModel", "plansOf", "(II)I"⟩, 56), (⟨"UnevenWaxModel", "mayBe", "(III)Z"⟩, 56)]
theorem lw_r7 : ∀ q ∈ lw_privs_7, lw_okq q := List.forall_mem_cons.mpr ⟨lw_p96, List.forall_mem_cons.mpr ⟨lw_p97, List.forall_mem_cons.mpr ⟨lw_p98, List.forall_mem_cons.mpr ⟨lw_p99, List.forall_mem_cons.mpr ⟨lw_p100, List.forall_mem_cons.mpr ⟨lw_p101, List.forall_mem_cons.mpr ⟨lw_p102, List.forall_mem_cons.mpr ⟨lw_p103, List.forall_mem_cons.mpr ⟨lw_p104, List.forall_mem_cons.mpr ⟨lw_p105, List.forall_mem_cons.mpr ⟨lw_p106, List.forall_mem_cons.mpr ⟨lw_p107, List.forall_mem_cons.mpr ⟨lw_p108, fun _ h => absurd h List.not_mem_nil⟩⟩⟩⟩⟩⟩⟩⟩⟩⟩⟩⟩⟩
def lw_privs : List (MethodName × Nat) := lw_privs_1 ++ (lw_privs_2 ++ (lw_privs_3 ++ (lw_privs_4 ++ (lw_privs_5 ++ (lw_privs_6 ++ (lw_privs_7))))))
def lw_tbl : List Cond := k2_sels lw_privs ++ tables_1
theorem lw_privs_ok : ∀ q ∈ lw_privs, lw_okq q := by
  show ∀ q ∈ lw_privs_1 ++ (lw_privs_2 ++ (lw_privs_3 ++ (lw_privs_4 ++ (lw_privs_5 ++ (lw_privs_6 ++ (lw_privs_7)))))), lw_okq q
  exact List.forall_mem_append.mpr ⟨lw_r1, List.forall_mem_append.mpr ⟨lw_r2, List.forall_mem_append.mpr ⟨lw_r3, List.forall_mem_append.mpr ⟨lw_r4, List.forall_mem_append.mpr ⟨lw_r5, List.forall_mem_append.mpr ⟨lw_r6, lw_r7⟩⟩⟩⟩⟩⟩
def RX0 : String := "UnevenWax$Along"
def TX0 : u_T := fun k => match k with
  | 0 => ("UnevenWax$Along", "size", "I", false)
  | 1 => ("UnevenWax$Along", "marks", "LUnevenWax$Marks;", false)
  | 2 => ("UnevenWax$Along", "pieces", "[I", true)
  | 3 => ("UnevenWax$Along", "all", "[I", true)
  | 4 => ("UnevenWax$Along", "edges", "[[I", true)
  | _ => ("UnevenWax$Along", "gone", "[[I", true)
def tyX0 : Nat → FieldType := fun k => match k with
  | 0 => .int
  | 1 => .object "UnevenWax$Marks"
  | 2 => .array .int
  | 3 => .array .int
  | 4 => .array (.array .int)
  | _ => .array (.array .int)
abbrev wsX00 : List Cond := u_ws RX0 TX0 6
theorem nmX0 : ∀ a, a < 6 → ∀ b, b < 6 → a ≠ b → (TX0 a).2.1 ≠ (TX0 b).2.1 := by decide +kernel
theorem tyX0_ok : ∀ k, k < 6 → parseFieldDescriptor (TX0 k).2.2.1 = some (tyX0 k) := by decide +kernel
abbrev cX0_init : ByteArray := prog_2_method_1_code
def yX0_init : MethodName := ⟨RX0, "<init>", "()V"⟩
abbrev cX0_lay : ByteArray := prog_2_method_2_code
def yX0_lay : MethodName := ⟨RX0, "lay", "(LUnevenWax$Cellar;I)V"⟩
abbrev cX0_markAll : ByteArray := prog_2_method_3_code
def yX0_markAll : MethodName := ⟨RX0, "markAll", "(LUnevenWax$Marks;)V"⟩
abbrev cX0_go : ByteArray := prog_2_method_4_code
def yX0_go : MethodName := ⟨RX0, "go", "(III)V"⟩
abbrev cX0_places : ByteArray := prog_2_method_5_code
def yX0_places : MethodName := ⟨RX0, "places", "(I)I"⟩
abbrev cX0_follow : ByteArray := prog_2_method_6_code
def yX0_follow : MethodName := ⟨RX0, "follow", "(III)V"⟩
abbrev cX0_untilNext : ByteArray := prog_2_method_7_code
def yX0_untilNext : MethodName := ⟨RX0, "untilNext", "(II)I"⟩
abbrev cX0_untilEdge : ByteArray := prog_2_method_8_code
def yX0_untilEdge : MethodName := ⟨RX0, "untilEdge", "(II)I"⟩
abbrev cX0_untilEdgeFromEnd : ByteArray := prog_2_method_9_code
def yX0_untilEdgeFromEnd : MethodName := ⟨RX0, "untilEdgeFromEnd", "(II)I"⟩
def RX1 : String := "UnevenWax$Book"
def TX1 : u_T := fun k => match k with
  | 0 => ("UnevenWax$Book", "cellar", "LUnevenWax$Cellar;", true)
  | _ => ("UnevenWax$Book", "plans", "[LUnevenWax$Plan;", true)
def tyX1 : Nat → FieldType := fun k => match k with
  | 0 => .object "UnevenWax$Cellar"
  | _ => .array (.object "UnevenWax$Plan")
abbrev wsX10 : List Cond := u_ws RX1 TX1 2
theorem nmX1 : ∀ a, a < 2 → ∀ b, b < 2 → a ≠ b → (TX1 a).2.1 ≠ (TX1 b).2.1 := by decide +kernel
theorem tyX1_ok : ∀ k, k < 2 → parseFieldDescriptor (TX1 k).2.2.1 = some (tyX1 k) := by decide +kernel
abbrev cX1_init : ByteArray := prog_3_method_1_code
def yX1_init : MethodName := ⟨RX1, "<init>", "()V"⟩
abbrev cX1_takeFrom : ByteArray := prog_3_method_2_code
def yX1_takeFrom : MethodName := ⟨RX1, "takeFrom", "(LUnevenWax$Book;)V"⟩
def RX2 : String := "UnevenWax$Cellar"
def TX2 : u_T := fun k => match k with
  | 0 => ("UnevenWax$Cellar", "candles", "I", false)
  | 1 => ("UnevenWax$Cellar", "pieces", "[I", true)
  | 2 => ("UnevenWax$Cellar", "minutes", "[I", true)
  | 3 => ("UnevenWax$Cellar", "wax", "[I", true)
  | _ => ("UnevenWax$Cellar", "draught", "[I", true)
def tyX2 : Nat → FieldType := fun k => match k with
  | 0 => .int
  | 1 => .array .int
  | 2 => .array .int
  | 3 => .array .int
  | _ => .array .int
abbrev wsX20 : List Cond := u_ws RX2 TX2 5
theorem nmX2 : ∀ a, a < 5 → ∀ b, b < 5 → a ≠ b → (TX2 a).2.1 ≠ (TX2 b).2.1 := by decide +kernel
theorem tyX2_ok : ∀ k, k < 5 → parseFieldDescriptor (TX2 k).2.2.1 = some (tyX2 k) := by decide +kernel
abbrev cX2_init : ByteArray := prog_4_method_1_code
def yX2_init : MethodName := ⟨RX2, "<init>", "()V"⟩
abbrev cX2_has : ByteArray := prog_4_method_2_code
def yX2_has : MethodName := ⟨RX2, "has", "(I)Z"⟩
abbrev cX2_takeFrom : ByteArray := prog_4_method_3_code
def yX2_takeFrom : MethodName := ⟨RX2, "takeFrom", "(LUnevenWax$Cellar;)V"⟩
abbrev cX2_open : ByteArray := prog_4_method_4_code
def yX2_open : MethodName := ⟨RX2, "open", "()I"⟩
abbrev cX2_addPiece : ByteArray := prog_4_method_5_code
def yX2_addPiece : MethodName := ⟨RX2, "addPiece", "(II)Z"⟩
abbrev cX2_sparksOfPiece : ByteArray := prog_4_method_6_code
def yX2_sparksOfPiece : MethodName := ⟨RX2, "sparksOfPiece", "(II)I"⟩
abbrev cX2_sparksBefore : ByteArray := prog_4_method_7_code
def yX2_sparksBefore : MethodName := ⟨RX2, "sparksBefore", "(II)I"⟩
abbrev cX2_sparksOf : ByteArray := prog_4_method_8_code
def yX2_sparksOf : MethodName := ⟨RX2, "sparksOf", "(I)I"⟩
abbrev cX2_sparksOfSet : ByteArray := prog_4_method_9_code
def yX2_sparksOfSet : MethodName := ⟨RX2, "sparksOfSet", "(I)I"⟩
abbrev cX2_allWax : ByteArray := prog_4_method_10_code
def yX2_allWax : MethodName := ⟨RX2, "allWax", "()I"⟩
abbrev cX2_nextPiece : ByteArray := prog_4_method_11_code
def yX2_nextPiece : MethodName := ⟨RX2, "nextPiece", "(IIZ)I"⟩
abbrev cX2_thousandths : ByteArray := prog_4_method_12_code
def yX2_thousandths : MethodName := ⟨RX2, "thousandths", "(IIZ)I"⟩
def RX3 : String := "UnevenWax$Marks"
def TX3 : u_T := fun k => match k with
  | 0 => ("UnevenWax$Marks", "ofSet", "I", false)
  | _ => ("UnevenWax$Marks", "words", "[J", true)
def tyX3 : Nat → FieldType := fun k => match k with
  | 0 => .int
  | _ => .array .long
abbrev wsX30 : List Cond := u_ws RX3 TX3 2
theorem nmX3 : ∀ a, a < 2 → ∀ b, b < 2 → a ≠ b → (TX3 a).2.1 ≠ (TX3 b).2.1 := by decide +kernel
theorem tyX3_ok : ∀ k, k < 2 → parseFieldDescriptor (TX3 k).2.2.1 = some (tyX3 k) := by decide +kernel
abbrev cX3_init : ByteArray := prog_5_method_1_code
def yX3_init : MethodName := ⟨RX3, "<init>", "()V"⟩
abbrev cX3_clear : ByteArray := prog_5_method_2_code
def yX3_clear : MethodName := ⟨RX3, "clear", "()V"⟩
abbrev cX3_add : ByteArray := prog_5_method_3_code
def yX3_add : MethodName := ⟨RX3, "add", "(I)V"⟩
abbrev cX3_has : ByteArray := prog_5_method_4_code
def yX3_has : MethodName := ⟨RX3, "has", "(I)Z"⟩
abbrev cX3_hasMark : ByteArray := prog_5_method_5_code
def yX3_hasMark : MethodName := ⟨RX3, "hasMark", "(I)Z"⟩
abbrev cX3_size : ByteArray := prog_5_method_6_code
def yX3_size : MethodName := ⟨RX3, "size", "()I"⟩
abbrev cX3_nth : ByteArray := prog_5_method_7_code
def yX3_nth : MethodName := ⟨RX3, "nth", "(I)I"⟩
abbrev cX3_nthOfWord : ByteArray := prog_5_method_8_code
def yX3_nthOfWord : MethodName := ⟨RX3, "nthOfWord", "(II)I"⟩
abbrev cX3_lastUpTo : ByteArray := prog_5_method_9_code
def yX3_lastUpTo : MethodName := ⟨RX3, "lastUpTo", "(I)I"⟩
abbrev cX3_firstFrom : ByteArray := prog_5_method_10_code
def yX3_firstFrom : MethodName := ⟨RX3, "firstFrom", "(I)I"⟩
def RX4 : String := "UnevenWax$Offs"
def TX4 : u_T := fun k => match k with
  | 0 => ("UnevenWax$Offs", "ofPlan", "I", false)
  | 1 => ("UnevenWax$Offs", "most", "I", false)
  | 2 => ("UnevenWax$Offs", "low", "[I", true)
  | 3 => ("UnevenWax$Offs", "high", "[I", true)
  | _ => ("UnevenWax$Offs", "turn", "[I", true)
def tyX4 : Nat → FieldType := fun k => match k with
  | 0 => .int
  | 1 => .int
  | 2 => .array .int
  | 3 => .array .int
  | _ => .array .int
abbrev wsX40 : List Cond := u_ws RX4 TX4 5
theorem nmX4 : ∀ a, a < 5 → ∀ b, b < 5 → a ≠ b → (TX4 a).2.1 ≠ (TX4 b).2.1 := by decide +kernel
theorem tyX4_ok : ∀ k, k < 5 → parseFieldDescriptor (TX4 k).2.2.1 = some (tyX4 k) := by decide +kernel
abbrev cX4_init : ByteArray := prog_6_method_1_code
def yX4_init : MethodName := ⟨RX4, "<init>", "()V"⟩
abbrev cX4_tryAll : ByteArray := prog_6_method_2_code
def yX4_tryAll : MethodName := ⟨RX4, "tryAll", "(LUnevenWax$Run;LUnevenWax$Cellar;LUnevenWax$Plan;)V"⟩
abbrev cX4_note : ByteArray := prog_6_method_3_code
def yX4_note : MethodName := ⟨RX4, "note", "(LUnevenWax$Run;)V"⟩
abbrev cX4_turnNext : ByteArray := prog_6_method_4_code
def yX4_turnNext : MethodName := ⟨RX4, "turnNext", "(LUnevenWax$Run;LUnevenWax$Cellar;I)Z"⟩
def RX5 : String := "UnevenWax$Plan"
def TX5 : u_T := fun k => match k with
  | 0 => ("UnevenWax$Plan", "rules", "I", false)
  | 1 => ("UnevenWax$Plan", "acts", "I", false)
  | 2 => ("UnevenWax$Plan", "waitsFor", "[I", true)
  | 3 => ("UnevenWax$Plan", "actsUpTo", "[I", true)
  | 4 => ("UnevenWax$Plan", "kind", "[I", true)
  | 5 => ("UnevenWax$Plan", "one", "[I", true)
  | _ => ("UnevenWax$Plan", "other", "[I", true)
def tyX5 : Nat → FieldType := fun k => match k with
  | 0 => .int
  | 1 => .int
  | 2 => .array .int
  | 3 => .array .int
  | 4 => .array .int
  | 5 => .array .int
  | _ => .array .int
abbrev wsX50 : List Cond := u_ws RX5 TX5 7
theorem nmX5 : ∀ a, a < 7 → ∀ b, b < 7 → a ≠ b → (TX5 a).2.1 ≠ (TX5 b).2.1 := by decide +kernel
theorem tyX5_ok : ∀ k, k < 7 → parseFieldDescriptor (TX5 k).2.2.1 = some (tyX5 k) := by decide +kernel
abbrev cX5_init : ByteArray := prog_7_method_1_code
def yX5_init : MethodName := ⟨RX5, "<init>", "()V"⟩
abbrev cX5_clear : ByteArray := prog_7_method_2_code
def yX5_clear : MethodName := ⟨RX5, "clear", "()V"⟩
abbrev cX5_takeFrom : ByteArray := prog_7_method_3_code
def yX5_takeFrom : MethodName := ⟨RX5, "takeFrom", "(LUnevenWax$Plan;)V"⟩
abbrev cX5_addRule : ByteArray := prog_7_method_4_code
def yX5_addRule : MethodName := ⟨RX5, "addRule", "(I)V"⟩
abbrev cX5_addAct : ByteArray := prog_7_method_5_code
def yX5_addAct : MethodName := ⟨RX5, "addAct", "(III)V"⟩
abbrev cX5_actsFrom : ByteArray := prog_7_method_6_code
def yX5_actsFrom : MethodName := ⟨RX5, "actsFrom", "(I)I"⟩
abbrev cX5_used : ByteArray := prog_7_method_7_code
def yX5_used : MethodName := ⟨RX5, "used", "()I"⟩
def RX6 : String := "UnevenWax$Reader"
def TX6 : u_T := fun k => match k with
  | 0 => ("UnevenWax$Reader", "tape", "[I", true)
  | 1 => ("UnevenWax$Reader", "size", "I", false)
  | 2 => ("UnevenWax$Reader", "at", "I", false)
  | 3 => ("UnevenWax$Reader", "token", "I", false)
  | 4 => ("UnevenWax$Reader", "start", "I", false)
  | 5 => ("UnevenWax$Reader", "value", "I", false)
  | 6 => ("UnevenWax$Reader", "fault", "I", false)
  | _ => ("UnevenWax$Reader", "place", "I", false)
def tyX6 : Nat → FieldType := fun k => match k with
  | 0 => .array .int
  | 1 => .int
  | 2 => .int
  | 3 => .int
  | 4 => .int
  | 5 => .int
  | 6 => .int
  | _ => .int
abbrev wsX60 : List Cond := u_ws RX6 TX6 8
theorem nmX6 : ∀ a, a < 8 → ∀ b, b < 8 → a ≠ b → (TX6 a).2.1 ≠ (TX6 b).2.1 := by decide +kernel
theorem tyX6_ok : ∀ k, k < 8 → parseFieldDescriptor (TX6 k).2.2.1 = some (tyX6 k) := by decide +kernel
abbrev cX6_init : ByteArray := prog_8_method_1_code
def yX6_init : MethodName := ⟨RX6, "<init>", "()V"⟩
abbrev cX6_readCellar : ByteArray := prog_8_method_2_code
def yX6_readCellar : MethodName := ⟨RX6, "readCellar", "(LUnevenWax$Cellar;I)Z"⟩
abbrev cX6_readLine : ByteArray := prog_8_method_3_code
def yX6_readLine : MethodName := ⟨RX6, "readLine", "(LUnevenWax$Cellar;)Z"⟩
abbrev cX6_readPieces : ByteArray := prog_8_method_4_code
def yX6_readPieces : MethodName := ⟨RX6, "readPieces", "(LUnevenWax$Cellar;I)Z"⟩
abbrev cX6_readPlan : ByteArray := prog_8_method_5_code
def yX6_readPlan : MethodName := ⟨RX6, "readPlan", "(LUnevenWax$Plan;I)Z"⟩
abbrev cX6_readRule : ByteArray := prog_8_method_6_code
def yX6_readRule : MethodName := ⟨RX6, "readRule", "(LUnevenWax$Plan;)Z"⟩
abbrev cX6_readAct : ByteArray := prog_8_method_7_code
def yX6_readAct : MethodName := ⟨RX6, "readAct", "(LUnevenWax$Plan;)Z"⟩
abbrev cX6_actAtHand : ByteArray := prog_8_method_8_code
def yX6_actAtHand : MethodName := ⟨RX6, "actAtHand", "()I"⟩
abbrev cX6_begin : ByteArray := prog_8_method_9_code
def yX6_begin : MethodName := ⟨RX6, "begin", "(I)V"⟩
abbrev cX6_refuse : ByteArray := prog_8_method_10_code
def yX6_refuse : MethodName := ⟨RX6, "refuse", "(I)Z"⟩
abbrev cX6_advanceTo : ByteArray := prog_8_method_11_code
def yX6_advanceTo : MethodName := ⟨RX6, "advanceTo", "(II)Z"⟩
abbrev cX6_isNumber : ByteArray := prog_8_method_12_code
def yX6_isNumber : MethodName := ⟨RX6, "isNumber", "(II)Z"⟩
abbrev cX6_isWord : ByteArray := prog_8_method_13_code
def yX6_isWord : MethodName := ⟨RX6, "isWord", "(Ljava/lang/String;)Z"⟩
abbrev cX6_advance : ByteArray := prog_8_method_14_code
def yX6_advance : MethodName := ⟨RX6, "advance", "()V"⟩
abbrev cX6_advanceDigits : ByteArray := prog_8_method_15_code
def yX6_advanceDigits : MethodName := ⟨RX6, "advanceDigits", "()V"⟩
abbrev cX6_isLetter : ByteArray := prog_8_method_16_code
def yX6_isLetter : MethodName := ⟨RX6, "isLetter", "(I)Z"⟩
abbrev cX6_isDigit : ByteArray := prog_8_method_17_code
def yX6_isDigit : MethodName := ⟨RX6, "isDigit", "(I)Z"⟩
def RX7 : String := "UnevenWax$Row"
def TX7 : u_T := fun k => match k with
  | 0 => ("UnevenWax$Row", "there", "Z", false)
  | 1 => ("UnevenWax$Row", "sort", "I", false)
  | 2 => ("UnevenWax$Row", "size", "I", false)
  | _ => ("UnevenWax$Row", "numbers", "[J", true)
def tyX7 : Nat → FieldType := fun k => match k with
  | 0 => .boolean
  | 1 => .int
  | 2 => .int
  | _ => .array .long
abbrev wsX70 : List Cond := u_ws RX7 TX7 4
theorem nmX7 : ∀ a, a < 4 → ∀ b, b < 4 → a ≠ b → (TX7 a).2.1 ≠ (TX7 b).2.1 := by decide +kernel
theorem tyX7_ok : ∀ k, k < 4 → parseFieldDescriptor (TX7 k).2.2.1 = some (tyX7 k) := by decide +kernel
abbrev cX7_init : ByteArray := prog_9_method_1_code
def yX7_init : MethodName := ⟨RX7, "<init>", "()V"⟩
abbrev cX7_begin : ByteArray := prog_9_method_2_code
def yX7_begin : MethodName := ⟨RX7, "begin", "(II)V"⟩
abbrev cX7_put : ByteArray := prog_9_method_3_code
def yX7_put : MethodName := ⟨RX7, "put", "(IJ)V"⟩
abbrev cX7_cut : ByteArray := prog_9_method_4_code
def yX7_cut : MethodName := ⟨RX7, "cut", "(J)J"⟩
def RX8 : String := "UnevenWax$Run"
def TX8 : u_T := fun k => match k with
  | 0 => ("UnevenWax$Run", "candles", "I", false)
  | 1 => ("UnevenWax$Run", "first", "[I", true)
  | 2 => ("UnevenWax$Run", "rest", "[I", true)
  | 3 => ("UnevenWax$Run", "flames", "[I", true)
  | 4 => ("UnevenWax$Run", "own", "[I", true)
  | 5 => ("UnevenWax$Run", "next", "[I", true)
  | 6 => ("UnevenWax$Run", "last", "[I", true)
  | 7 => ("UnevenWax$Run", "endAt", "[I", true)
  | 8 => ("UnevenWax$Run", "bells", "[I", true)
  | 9 => ("UnevenWax$Run", "bellCount", "I", false)
  | 10 => ("UnevenWax$Run", "vain", "J", false)
  | 11 => ("UnevenWax$Run", "doneRules", "I", false)
  | 12 => ("UnevenWax$Run", "lit", "I", false)
  | 13 => ("UnevenWax$Run", "now", "I", false)
  | 14 => ("UnevenWax$Run", "plan", "LUnevenWax$Plan;", false)
  | _ => ("UnevenWax$Run", "leftOut", "I", false)
def tyX8 : Nat → FieldType := fun k => match k with
  | 0 => .int
  | 1 => .array .int
  | 2 => .array .int
  | 3 => .array .int
  | 4 => .array .int
  | 5 => .array .int
  | 6 => .array .int
  | 7 => .array .int
  | 8 => .array .int
  | 9 => .int
  | 10 => .long
  | 11 => .int
  | 12 => .int
  | 13 => .int
  | 14 => .object "UnevenWax$Plan"
  | _ => .int
abbrev wsX80 : List Cond := u_ws RX8 TX8 16
theorem nmX8 : ∀ a, a < 16 → ∀ b, b < 16 → a ≠ b → (TX8 a).2.1 ≠ (TX8 b).2.1 := by decide +kernel
theorem tyX8_ok : ∀ k, k < 16 → parseFieldDescriptor (TX8 k).2.2.1 = some (tyX8 k) := by decide +kernel
abbrev cX8_init : ByteArray := prog_10_method_1_code
def yX8_init : MethodName := ⟨RX8, "<init>", "()V"⟩
abbrev cX8_lay : ByteArray := prog_10_method_2_code
def yX8_lay : MethodName := ⟨RX8, "lay", "(LUnevenWax$Cellar;)V"⟩
abbrev cX8_play : ByteArray := prog_10_method_3_code
def yX8_play : MethodName := ⟨RX8, "play", "(LUnevenWax$Plan;II)V"⟩
abbrev cX8_bellAt : ByteArray := prog_10_method_4_code
def yX8_bellAt : MethodName := ⟨RX8, "bellAt", "(I)I"⟩
abbrev cX8_bellNear : ByteArray := prog_10_method_5_code
def yX8_bellNear : MethodName := ⟨RX8, "bellNear", "(IJI)I"⟩
abbrev cX8_begin : ByteArray := prog_10_method_6_code
def yX8_begin : MethodName := ⟨RX8, "begin", "(LUnevenWax$Plan;I)V"⟩
abbrev cX8_untilNextEnd : ByteArray := prog_10_method_7_code
def yX8_untilNextEnd : MethodName := ⟨RX8, "untilNextEnd", "()I"⟩
abbrev cX8_burn : ByteArray := prog_10_method_8_code
def yX8_burn : MethodName := ⟨RX8, "burn", "(I)V"⟩
abbrev cX8_burnOwn : ByteArray := prog_10_method_9_code
def yX8_burnOwn : MethodName := ⟨RX8, "burnOwn", "(II)V"⟩
abbrev cX8_putAwayEnded : ByteArray := prog_10_method_10_code
def yX8_putAwayEnded : MethodName := ⟨RX8, "putAwayEnded", "()I"⟩
abbrev cX8_doRules : ByteArray := prog_10_method_11_code
def yX8_doRules : MethodName := ⟨RX8, "doRules", "(I)V"⟩
abbrev cX8_doAct : ByteArray := prog_10_method_12_code
def yX8_doAct : MethodName := ⟨RX8, "doAct", "(I)Z"⟩
abbrev cX8_stands : ByteArray := prog_10_method_13_code
def yX8_stands : MethodName := ⟨RX8, "stands", "(I)Z"⟩
abbrev cX8_giveFlames : ByteArray := prog_10_method_14_code
def yX8_giveFlames : MethodName := ⟨RX8, "giveFlames", "(II)Z"⟩
abbrev cX8_join : ByteArray := prog_10_method_15_code
def yX8_join : MethodName := ⟨RX8, "join", "(II)Z"⟩
abbrev cX8_ring : ByteArray := prog_10_method_16_code
def yX8_ring : MethodName := ⟨RX8, "ring", "()V"⟩
def RX9 : String := "UnevenWax$Ways"
def TX9 : u_T := fun k => match k with
  | 0 => ("UnevenWax$Ways", "size", "I", false)
  | 1 => ("UnevenWax$Ways", "out", "Z", false)
  | 2 => ("UnevenWax$Ways", "all", "I", false)
  | 3 => ("UnevenWax$Ways", "measure", "I", false)
  | 4 => ("UnevenWax$Ways", "goal", "I", false)
  | 5 => ("UnevenWax$Ways", "target", "I", false)
  | 6 => ("UnevenWax$Ways", "found", "Z", false)
  | 7 => ("UnevenWax$Ways", "over", "Z", false)
  | 8 => ("UnevenWax$Ways", "best", "I", false)
  | 9 => ("UnevenWax$Ways", "reached", "I", false)
  | 10 => ("UnevenWax$Ways", "wanted", "I", false)
  | 11 => ("UnevenWax$Ways", "marks", "LUnevenWax$Marks;", false)
  | 12 => ("UnevenWax$Ways", "wants", "[I", true)
  | 13 => ("UnevenWax$Ways", "moment", "[I", true)
  | 14 => ("UnevenWax$Ways", "rest", "[[I", true)
  | _ => ("UnevenWax$Ways", "flames", "[[I", true)
def tyX9 : Nat → FieldType := fun k => match k with
  | 0 => .int
  | 1 => .boolean
  | 2 => .int
  | 3 => .int
  | 4 => .int
  | 5 => .int
  | 6 => .boolean
  | 7 => .boolean
  | 8 => .int
  | 9 => .int
  | 10 => .int
  | 11 => .object "UnevenWax$Marks"
  | 12 => .array .int
  | 13 => .array .int
  | 14 => .array (.array .int)
  | _ => .array (.array .int)
abbrev wsX90 : List Cond := u_ws RX9 TX9 16
theorem nmX9 : ∀ a, a < 16 → ∀ b, b < 16 → a ≠ b → (TX9 a).2.1 ≠ (TX9 b).2.1 := by decide +kernel
theorem tyX9_ok : ∀ k, k < 16 → parseFieldDescriptor (TX9 k).2.2.1 = some (tyX9 k) := by decide +kernel
abbrev cX9_init : ByteArray := prog_11_method_1_code
def yX9_init : MethodName := ⟨RX9, "<init>", "()V"⟩
abbrev cX9_lay : ByteArray := prog_11_method_2_code
def yX9_lay : MethodName := ⟨RX9, "lay", "(LUnevenWax$Cellar;IZ)V"⟩
abbrev cX9_commonMeasure : ByteArray := prog_11_method_3_code
def yX9_commonMeasure : MethodName := ⟨RX9, "commonMeasure", "(II)I"⟩
abbrev cX9_onGrid : ByteArray := prog_11_method_4_code
def yX9_onGrid : MethodName := ⟨RX9, "onGrid", "(I)Z"⟩
abbrev cX9_markAll : ByteArray := prog_11_method_5_code
def yX9_markAll : MethodName := ⟨RX9, "markAll", "(LUnevenWax$Marks;)V"⟩
abbrev cX9_seek : ByteArray := prog_11_method_6_code
def yX9_seek : MethodName := ⟨RX9, "seek", "(II)Z"⟩
abbrev cX9_want : ByteArray := prog_11_method_7_code
def yX9_want : MethodName := ⟨RX9, "want", "(LUnevenWax$Row;)Z"⟩
abbrev cX9_wantAlso : ByteArray := prog_11_method_8_code
def yX9_wantAlso : MethodName := ⟨RX9, "wantAlso", "(I)Z"⟩
abbrev cX9_seekWanted : ByteArray := prog_11_method_9_code
def yX9_seekWanted : MethodName := ⟨RX9, "seekWanted", "()Z"⟩
abbrev cX9_digits : ByteArray := prog_11_method_10_code
def yX9_digits : MethodName := ⟨RX9, "digits", "(I)I"⟩
abbrev cX9_begin : ByteArray := prog_11_method_11_code
def yX9_begin : MethodName := ⟨RX9, "begin", "()V"⟩
abbrev cX9_go : ByteArray := prog_11_method_12_code
def yX9_go : MethodName := ⟨RX9, "go", "(III)V"⟩
abbrev cX9_fewestFor : ByteArray := prog_11_method_13_code
def yX9_fewestFor : MethodName := ⟨RX9, "fewestFor", "(II)I"⟩
abbrev cX9_giveNext : ByteArray := prog_11_method_14_code
def yX9_giveNext : MethodName := ⟨RX9, "giveNext", "(I)Z"⟩
abbrev cX9_follow : ByteArray := prog_11_method_15_code
def yX9_follow : MethodName := ⟨RX9, "follow", "(III)V"⟩
abbrev cX9_arrive : ByteArray := prog_11_method_16_code
def yX9_arrive : MethodName := ⟨RX9, "arrive", "(III)V"⟩
abbrev cX9_liesBetween : ByteArray := prog_11_method_17_code
def yX9_liesBetween : MethodName := ⟨RX9, "liesBetween", "(I)Z"⟩
abbrev cX9_arriveWanting : ByteArray := prog_11_method_18_code
def yX9_arriveWanting : MethodName := ⟨RX9, "arriveWanting", "(III)V"⟩
abbrev cX9_arriveSeeking : ByteArray := prog_11_method_19_code
def yX9_arriveSeeking : MethodName := ⟨RX9, "arriveSeeking", "(III)V"⟩
abbrev cX9_mayTell : ByteArray := prog_11_method_20_code
def yX9_mayTell : MethodName := ⟨RX9, "mayTell", "(II)Z"⟩
abbrev cX9_newFlames : ByteArray := prog_11_method_21_code
def yX9_newFlames : MethodName := ⟨RX9, "newFlames", "(I)I"⟩
def RX10 : String := "UnevenWax"
def TX10 : u_T := fun k => match k with
  | 0 => ("UnevenWax", "tapeSize", "I", false)
  | 1 => ("UnevenWax", "reader", "LUnevenWax$Reader;", true)
  | 2 => ("UnevenWax", "draftCellar", "LUnevenWax$Cellar;", true)
  | 3 => ("UnevenWax", "draftPlan", "LUnevenWax$Plan;", true)
  | 4 => ("UnevenWax", "book", "LUnevenWax$Book;", true)
  | 5 => ("UnevenWax", "images", "[LUnevenWax$Book;", true)
  | 6 => ("UnevenWax", "rows", "[LUnevenWax$Row;", true)
  | 7 => ("UnevenWax", "run", "LUnevenWax$Run;", true)
  | 8 => ("UnevenWax", "keptBells", "[I", true)
  | 9 => ("UnevenWax", "offs", "LUnevenWax$Offs;", true)
  | 10 => ("UnevenWax", "ways", "LUnevenWax$Ways;", true)
  | 11 => ("UnevenWax", "alongWays", "LUnevenWax$Along;", true)
  | 12 => ("UnevenWax", "toldKeeping", "LUnevenWax$Marks;", true)
  | 13 => ("UnevenWax", "toldPuttingOut", "LUnevenWax$Marks;", true)
  | _ => ("UnevenWax", "toldAlong", "LUnevenWax$Marks;", true)
def tyX10 : Nat → FieldType := fun k => match k with
  | 0 => .int
  | 1 => .object "UnevenWax$Reader"
  | 2 => .object "UnevenWax$Cellar"
  | 3 => .object "UnevenWax$Plan"
  | 4 => .object "UnevenWax$Book"
  | 5 => .array (.object "UnevenWax$Book")
  | 6 => .array (.object "UnevenWax$Row")
  | 7 => .object "UnevenWax$Run"
  | 8 => .array .int
  | 9 => .object "UnevenWax$Offs"
  | 10 => .object "UnevenWax$Ways"
  | 11 => .object "UnevenWax$Along"
  | 12 => .object "UnevenWax$Marks"
  | 13 => .object "UnevenWax$Marks"
  | _ => .object "UnevenWax$Marks"
abbrev wsX100 : List Cond := u_ws RX10 TX10 15
theorem nmX10 : ∀ a, a < 15 → ∀ b, b < 15 → a ≠ b → (TX10 a).2.1 ≠ (TX10 b).2.1 := by decide +kernel
theorem tyX10_ok : ∀ k, k < 15 → parseFieldDescriptor (TX10 k).2.2.1 = some (tyX10 k) := by decide +kernel
abbrev cX10_init : ByteArray := prog_1_method_1_code
def yX10_init : MethodName := ⟨RX10, "<init>", "()V"⟩
abbrev cX10_feed : ByteArray := prog_1_method_2_code
def yX10_feed : MethodName := ⟨RX10, "feed", "(IIIII)I"⟩
abbrev cX10_putBytes : ByteArray := prog_1_method_3_code
def yX10_putBytes : MethodName := ⟨RX10, "putBytes", "(I)V"⟩
abbrev cX10_cellar : ByteArray := prog_1_method_4_code
def yX10_cellar : MethodName := ⟨RX10, "cellar", "(I)I"⟩
abbrev cX10_plan : ByteArray := prog_1_method_5_code
def yX10_plan : MethodName := ⟨RX10, "plan", "(II)I"⟩
abbrev cX10_fault : ByteArray := prog_1_method_6_code
def yX10_fault : MethodName := ⟨RX10, "fault", "(I)I"⟩
abbrev cX10_candle : ByteArray := prog_1_method_7_code
def yX10_candle : MethodName := ⟨RX10, "candle", "(II)I"⟩
abbrev cX10_forgetCellar : ByteArray := prog_1_method_8_code
def yX10_forgetCellar : MethodName := ⟨RX10, "forgetCellar", "()V"⟩
abbrev cX10_isPlan : ByteArray := prog_1_method_9_code
def yX10_isPlan : MethodName := ⟨RX10, "isPlan", "(I)Z"⟩
abbrev cX10_length : ByteArray := prog_1_method_10_code
def yX10_length : MethodName := ⟨RX10, "length", "(II)I"⟩
abbrev cX10_meet : ByteArray := prog_1_method_11_code
def yX10_meet : MethodName := ⟨RX10, "meet", "(I)I"⟩
abbrev cX10_halves : ByteArray := prog_1_method_12_code
def yX10_halves : MethodName := ⟨RX10, "halves", "(I)I"⟩
abbrev cX10_piece : ByteArray := prog_1_method_13_code
def yX10_piece : MethodName := ⟨RX10, "piece", "(IIZ)I"⟩
abbrev cX10_run : ByteArray := prog_1_method_14_code
def yX10_run : MethodName := ⟨RX10, "run", "(II)I"⟩
abbrev cX10_playAsTold : ByteArray := prog_1_method_15_code
def yX10_playAsTold : MethodName := ⟨RX10, "playAsTold", "(I)V"⟩
abbrev cX10_waxOfRun : ByteArray := prog_1_method_16_code
def yX10_waxOfRun : MethodName := ⟨RX10, "waxOfRun", "()I"⟩
abbrev cX10_bell : ByteArray := prog_1_method_17_code
def yX10_bell : MethodName := ⟨RX10, "bell", "(II)I"⟩
abbrev cX10_ends : ByteArray := prog_1_method_18_code
def yX10_ends : MethodName := ⟨RX10, "ends", "(II)I"⟩
abbrev cX10_rest : ByteArray := prog_1_method_19_code
def yX10_rest : MethodName := ⟨RX10, "rest", "(III)I"⟩
abbrev cX10_flames : ByteArray := prog_1_method_20_code
def yX10_flames : MethodName := ⟨RX10, "flames", "(III)I"⟩
abbrev cX10_playUntil : ByteArray := prog_1_method_21_code
def yX10_playUntil : MethodName := ⟨RX10, "playUntil", "(II)V"⟩
abbrev cX10_idle : ByteArray := prog_1_method_22_code
def yX10_idle : MethodName := ⟨RX10, "idle", "(I)I"⟩
abbrev cX10_vain : ByteArray := prog_1_method_23_code
def yX10_vain : MethodName := ⟨RX10, "vain", "(II)I"⟩
abbrev cX10_spare : ByteArray := prog_1_method_24_code
def yX10_spare : MethodName := ⟨RX10, "spare", "(II)I"⟩
abbrev cX10_keepBells : ByteArray := prog_1_method_25_code
def yX10_keepBells : MethodName := ⟨RX10, "keepBells", "()I"⟩
abbrev cX10_ringsAsKept : ByteArray := prog_1_method_26_code
def yX10_ringsAsKept : MethodName := ⟨RX10, "ringsAsKept", "(I)Z"⟩
abbrev cX10_would : ByteArray := prog_1_method_27_code
def yX10_would : MethodName := ⟨RX10, "would", "(IIII)I"⟩
abbrev cX10_off : ByteArray := prog_1_method_28_code
def yX10_off : MethodName := ⟨RX10, "off", "(III)I"⟩
abbrev cX10_night : ByteArray := prog_1_method_29_code
def yX10_night : MethodName := ⟨RX10, "night", "(III)I"⟩
abbrev cX10_chime : ByteArray := prog_1_method_30_code
def yX10_chime : MethodName := ⟨RX10, "chime", "(II)I"⟩
abbrev cX10_days : ByteArray := prog_1_method_31_code
def yX10_days : MethodName := ⟨RX10, "days", "(III)I"⟩
abbrev cX10_can : ByteArray := prog_1_method_32_code
def yX10_can : MethodName := ⟨RX10, "can", "(IZI)I"⟩
abbrev cX10_isSet : ByteArray := prog_1_method_33_code
def yX10_isSet : MethodName := ⟨RX10, "isSet", "(II)Z"⟩
abbrev cX10_isTold : ByteArray := prog_1_method_34_code
def yX10_isTold : MethodName := ⟨RX10, "isTold", "(IZI)Z"⟩
abbrev cX10_allTold : ByteArray := prog_1_method_35_code
def yX10_allTold : MethodName := ⟨RX10, "allTold", "(IZ)LUnevenWax$Marks;"⟩
abbrev cX10_time : ByteArray := prog_1_method_36_code
def yX10_time : MethodName := ⟨RX10, "time", "(IZI)I"⟩
abbrev cX10_pick : ByteArray := prog_1_method_37_code
def yX10_pick : MethodName := ⟨RX10, "pick", "(LUnevenWax$Marks;I)I"⟩
abbrev cX10_between : ByteArray := prog_1_method_38_code
def yX10_between : MethodName := ⟨RX10, "between", "(IZI)I"⟩
abbrev cX10_least : ByteArray := prog_1_method_39_code
def yX10_least : MethodName := ⟨RX10, "least", "(IZI)I"⟩
abbrev cX10_fewest : ByteArray := prog_1_method_40_code
def yX10_fewest : MethodName := ⟨RX10, "fewest", "(IZI)I"⟩
abbrev cX10_burnt : ByteArray := prog_1_method_41_code
def yX10_burnt : MethodName := ⟨RX10, "burnt", "(IZI)I"⟩
abbrev cX10_given : ByteArray := prog_1_method_42_code
def yX10_given : MethodName := ⟨RX10, "given", "(IZII)I"⟩
abbrev cX10_lacks : ByteArray := prog_1_method_43_code
def yX10_lacks : MethodName := ⟨RX10, "lacks", "(IZII)I"⟩
abbrev cX10_together : ByteArray := prog_1_method_44_code
def yX10_together : MethodName := ⟨RX10, "together", "(IZI)I"⟩
abbrev cX10_areTogether : ByteArray := prog_1_method_45_code
def yX10_areTogether : MethodName := ⟨RX10, "areTogether", "(IZ)Z"⟩
abbrev cX10_leastFor : ByteArray := prog_1_method_46_code
def yX10_leastFor : MethodName := ⟨RX10, "leastFor", "(IZ)I"⟩
abbrev cX10_nearest : ByteArray := prog_1_method_47_code
def yX10_nearest : MethodName := ⟨RX10, "nearest", "(IZI)I"⟩
abbrev cX10_along : ByteArray := prog_1_method_48_code
def yX10_along : MethodName := ⟨RX10, "along", "(II)I"⟩
abbrev cX10_alongs : ByteArray := prog_1_method_49_code
def yX10_alongs : MethodName := ⟨RX10, "alongs", "(II)I"⟩
abbrev cX10_allAlong : ByteArray := prog_1_method_50_code
def yX10_allAlong : MethodName := ⟨RX10, "allAlong", "(I)LUnevenWax$Marks;"⟩
abbrev cX10_serves : ByteArray := prog_1_method_51_code
def yX10_serves : MethodName := ⟨RX10, "serves", "(III)I"⟩
abbrev cX10_served : ByteArray := prog_1_method_52_code
def yX10_served : MethodName := ⟨RX10, "served", "(ILUnevenWax$Row;I)I"⟩
abbrev cX10_fittest : ByteArray := prog_1_method_53_code
def yX10_fittest : MethodName := ⟨RX10, "fittest", "(II)I"⟩
abbrev cX10_log : ByteArray := prog_1_method_54_code
def yX10_log : MethodName := ⟨RX10, "log", "(I)I"⟩
abbrev cX10_nearly : ByteArray := prog_1_method_55_code
def yX10_nearly : MethodName := ⟨RX10, "nearly", "(II)I"⟩
abbrev cX10_plansOfLog : ByteArray := prog_1_method_56_code
def yX10_plansOfLog : MethodName := ⟨RX10, "plansOfLog", "(LUnevenWax$Row;I)I"⟩
abbrev cX10_heard : ByteArray := prog_1_method_57_code
def yX10_heard : MethodName := ⟨RX10, "heard", "(LUnevenWax$Row;I)J"⟩
abbrev cX10_missed : ByteArray := prog_1_method_58_code
def yX10_missed : MethodName := ⟨RX10, "missed", "(III)I"⟩
abbrev cX10_stolen : ByteArray := prog_1_method_59_code
def yX10_stolen : MethodName := ⟨RX10, "stolen", "(II)I"⟩
abbrev cX10_isRow : ByteArray := prog_1_method_60_code
def yX10_isRow : MethodName := ⟨RX10, "isRow", "(I)Z"⟩
abbrev cX10_numbers : ByteArray := prog_1_method_61_code
def yX10_numbers : MethodName := ⟨RX10, "numbers", "(III)I"⟩
abbrev cX10_write : ByteArray := prog_1_method_62_code
def yX10_write : MethodName := ⟨RX10, "write", "(IIJ)J"⟩
abbrev cX10_copy : ByteArray := prog_1_method_63_code
def yX10_copy : MethodName := ⟨RX10, "copy", "(II)I"⟩
abbrev cX10_image : ByteArray := prog_1_method_64_code
def yX10_image : MethodName := ⟨RX10, "image", "(I)I"⟩
abbrev cX10_restore : ByteArray := prog_1_method_65_code
def yX10_restore : MethodName := ⟨RX10, "restore", "(I)I"⟩
abbrev cX10_count : ByteArray := prog_1_method_66_code
def yX10_count : MethodName := ⟨RX10, "count", "(I)I"⟩
def RX11 : String := "UnevenWaxModel"
def TX11 : u_T := fun k => match k with
  | 0 => ("UnevenWaxModel", "thrown", "I", false)
  | 1 => ("UnevenWaxModel", "all", "[I", true)
  | 2 => ("UnevenWaxModel", "hasImage", "[Z", true)
  | 3 => ("UnevenWaxModel", "tape", "[I", true)
  | 4 => ("UnevenWaxModel", "fresh", "[I", true)
  | 5 => ("UnevenWaxModel", "taped", "I", false)
  | 6 => ("UnevenWaxModel", "at", "I", false)
  | 7 => ("UnevenWaxModel", "behind", "I", false)
  | 8 => ("UnevenWaxModel", "size", "I", false)
  | 9 => ("UnevenWaxModel", "kind", "I", false)
  | 10 => ("UnevenWaxModel", "number", "I", false)
  | 11 => ("UnevenWaxModel", "wrong", "I", false)
  | 12 => ("UnevenWaxModel", "wrongAt", "I", false)
  | 13 => ("UnevenWaxModel", "faultKind", "I", false)
  | 14 => ("UnevenWaxModel", "faultPlace", "I", false)
  | 15 => ("UnevenWaxModel", "first", "[I", true)
  | 16 => ("UnevenWaxModel", "rest", "[I", true)
  | 17 => ("UnevenWaxModel", "flames", "[I", true)
  | 18 => ("UnevenWaxModel", "state", "[I", true)
  | 19 => ("UnevenWaxModel", "endedAt", "[I", true)
  | 20 => ("UnevenWaxModel", "own", "[I", true)
  | 21 => ("UnevenWaxModel", "chain", "[I", true)
  | 22 => ("UnevenWaxModel", "chained", "[I", true)
  | 23 => ("UnevenWaxModel", "bells", "[I", true)
  | 24 => ("UnevenWaxModel", "time", "I", false)
  | 25 => ("UnevenWaxModel", "bellMany", "I", false)
  | 26 => ("UnevenWaxModel", "vain", "I", false)
  | 27 => ("UnevenWaxModel", "lit", "I", false)
  | 28 => ("UnevenWaxModel", "leftOut", "I", false)
  | 29 => ("UnevenWaxModel", "rulesDone", "I", false)
  | 30 => ("UnevenWaxModel", "inVain", "[Z", true)
  | 31 => ("UnevenWaxModel", "heard", "[I", true)
  | 32 => ("UnevenWaxModel", "heardMany", "I", false)
  | 33 => ("UnevenWaxModel", "of", "[I", true)
  | 34 => ("UnevenWaxModel", "left", "[I", true)
  | 35 => ("UnevenWaxModel", "fires", "[I", true)
  | 36 => ("UnevenWaxModel", "moment", "[I", true)
  | 37 => ("UnevenWaxModel", "litTill", "[I", true)
  | 38 => ("UnevenWaxModel", "many", "I", false)
  | 39 => ("UnevenWaxModel", "sought", "I", false)
  | 40 => ("UnevenWaxModel", "seekKind", "I", false)
  | 41 => ("UnevenWaxModel", "best1", "I", false)
  | 42 => ("UnevenWaxModel", "mayOut", "Z", false)
  | 43 => ("UnevenWaxModel", "times", "[I", true)
  | 44 => ("UnevenWaxModel", "wanted", "[I", true)
  | 45 => ("UnevenWaxModel", "givenNow", "[I", true)
  | 46 => ("UnevenWaxModel", "givenFirst", "[I", true)
  | 47 => ("UnevenWaxModel", "wantedMany", "I", false)
  | 48 => ("UnevenWaxModel", "firstLong", "I", false)
  | 49 => ("UnevenWaxModel", "front", "[I", true)
  | 50 => ("UnevenWaxModel", "back", "[I", true)
  | 51 => ("UnevenWaxModel", "litEnds", "[I", true)
  | 52 => ("UnevenWaxModel", "isTaken", "[Z", true)
  | 53 => ("UnevenWaxModel", "rowSort", "[I", true)
  | 54 => ("UnevenWaxModel", "rowMany", "[I", true)
  | _ => ("UnevenWaxModel", "numbers", "[J", true)
def tyX11 : Nat → FieldType := fun k => match k with
  | 0 => .int
  | 1 => .array .int
  | 2 => .array .boolean
  | 3 => .array .int
  | 4 => .array .int
  | 5 => .int
  | 6 => .int
  | 7 => .int
  | 8 => .int
  | 9 => .int
  | 10 => .int
  | 11 => .int
  | 12 => .int
  | 13 => .int
  | 14 => .int
  | 15 => .array .int
  | 16 => .array .int
  | 17 => .array .int
  | 18 => .array .int
  | 19 => .array .int
  | 20 => .array .int
  | 21 => .array .int
  | 22 => .array .int
  | 23 => .array .int
  | 24 => .int
  | 25 => .int
  | 26 => .int
  | 27 => .int
  | 28 => .int
  | 29 => .int
  | 30 => .array .boolean
  | 31 => .array .int
  | 32 => .int
  | 33 => .array .int
  | 34 => .array .int
  | 35 => .array .int
  | 36 => .array .int
  | 37 => .array .int
  | 38 => .int
  | 39 => .int
  | 40 => .int
  | 41 => .int
  | 42 => .boolean
  | 43 => .array .int
  | 44 => .array .int
  | 45 => .array .int
  | 46 => .array .int
  | 47 => .int
  | 48 => .int
  | 49 => .array .int
  | 50 => .array .int
  | 51 => .array .int
  | 52 => .array .boolean
  | 53 => .array .int
  | 54 => .array .int
  | _ => .array .long
abbrev wsX110 : List Cond := u_ws RX11 TX11 56
theorem nmX11 : ∀ a, a < 56 → ∀ b, b < 56 → a ≠ b → (TX11 a).2.1 ≠ (TX11 b).2.1 := by decide +kernel
theorem tyX11_ok : ∀ k, k < 56 → parseFieldDescriptor (TX11 k).2.2.1 = some (tyX11 k) := by decide +kernel
abbrev cX11_within : ByteArray := prog_13_method_2_code
def yX11_within : MethodName := ⟨RX11, "within", "(JJJ)Z"⟩
abbrev cX11_init : ByteArray := prog_13_method_3_code
def yX11_init : MethodName := ⟨RX11, "<init>", "()V"⟩
abbrev cX11_planAt : ByteArray := prog_13_method_4_code
def yX11_planAt : MethodName := ⟨RX11, "planAt", "(I)I"⟩
abbrev cX11_feed : ByteArray := prog_13_method_5_code
def yX11_feed : MethodName := ⟨RX11, "feed", "(IIIII)I"⟩
abbrev cX11_see : ByteArray := prog_13_method_6_code
def yX11_see : MethodName := ⟨RX11, "see", "(I)I"⟩
abbrev cX11_isSmall : ByteArray := prog_13_method_7_code
def yX11_isSmall : MethodName := ⟨RX11, "isSmall", "(I)Z"⟩
abbrev cX11_isDigit : ByteArray := prog_13_method_8_code
def yX11_isDigit : MethodName := ⟨RX11, "isDigit", "(I)Z"⟩
abbrev cX11_keyAt : ByteArray := prog_13_method_9_code
def yX11_keyAt : MethodName := ⟨RX11, "keyAt", "()I"⟩
abbrev cX11_next : ByteArray := prog_13_method_10_code
def yX11_next : MethodName := ⟨RX11, "next", "()V"⟩
abbrev cX11_fails : ByteArray := prog_13_method_11_code
def yX11_fails : MethodName := ⟨RX11, "fails", "(I)V"⟩
abbrev cX11_is : ByteArray := prog_13_method_12_code
def yX11_is : MethodName := ⟨RX11, "is", "(I)Z"⟩
abbrev cX11_eats : ByteArray := prog_13_method_13_code
def yX11_eats : MethodName := ⟨RX11, "eats", "(I)Z"⟩
abbrev cX11_needs : ByteArray := prog_13_method_14_code
def yX11_needs : MethodName := ⟨RX11, "needs", "(I)V"⟩
abbrev cX11_takes : ByteArray := prog_13_method_15_code
def yX11_takes : MethodName := ⟨RX11, "takes", "(II)I"⟩
abbrev cX11_begins : ByteArray := prog_13_method_16_code
def yX11_begins : MethodName := ⟨RX11, "begins", "(I)V"⟩
abbrev cX11_told : ByteArray := prog_13_method_17_code
def yX11_told : MethodName := ⟨RX11, "told", "()I"⟩
abbrev cX11_readCandle : ByteArray := prog_13_method_18_code
def yX11_readCandle : MethodName := ⟨RX11, "readCandle", "()V"⟩
abbrev cX11_cellar : ByteArray := prog_13_method_19_code
def yX11_cellar : MethodName := ⟨RX11, "cellar", "(I)I"⟩
abbrev cX11_readAct : ByteArray := prog_13_method_20_code
def yX11_readAct : MethodName := ⟨RX11, "readAct", "()V"⟩
abbrev cX11_readRule : ByteArray := prog_13_method_21_code
def yX11_readRule : MethodName := ⟨RX11, "readRule", "()V"⟩
abbrev cX11_plan : ByteArray := prog_13_method_22_code
def yX11_plan : MethodName := ⟨RX11, "plan", "(II)I"⟩
abbrev cX11_fault : ByteArray := prog_13_method_23_code
def yX11_fault : MethodName := ⟨RX11, "fault", "(I)I"⟩
abbrev cX11_isCandle : ByteArray := prog_13_method_24_code
def yX11_isCandle : MethodName := ⟨RX11, "isCandle", "(I)Z"⟩
abbrev cX11_isPlan : ByteArray := prog_13_method_25_code
def yX11_isPlan : MethodName := ⟨RX11, "isPlan", "(I)Z"⟩
abbrev cX11_minuteOf : ByteArray := prog_13_method_26_code
def yX11_minuteOf : MethodName := ⟨RX11, "minuteOf", "(II)I"⟩
abbrev cX11_restOf : ByteArray := prog_13_method_27_code
def yX11_restOf : MethodName := ⟨RX11, "restOf", "(I)I"⟩
abbrev cX11_candle : ByteArray := prog_13_method_28_code
def yX11_candle : MethodName := ⟨RX11, "candle", "(II)I"⟩
abbrev cX11_burntOf : ByteArray := prog_13_method_29_code
def yX11_burntOf : MethodName := ⟨RX11, "burntOf", "(IIZ)I"⟩
abbrev cX11_length : ByteArray := prog_13_method_30_code
def yX11_length : MethodName := ⟨RX11, "length", "(II)I"⟩
abbrev cX11_meet : ByteArray := prog_13_method_31_code
def yX11_meet : MethodName := ⟨RX11, "meet", "(I)I"⟩
abbrev cX11_halves : ByteArray := prog_13_method_32_code
def yX11_halves : MethodName := ⟨RX11, "halves", "(I)I"⟩
abbrev cX11_piece : ByteArray := prog_13_method_33_code
def yX11_piece : MethodName := ⟨RX11, "piece", "(IIZ)I"⟩
abbrev cX11_asTold : ByteArray := prog_13_method_34_code
def yX11_asTold : MethodName := ⟨RX11, "asTold", "()V"⟩
abbrev cX11_doesAct : ByteArray := prog_13_method_35_code
def yX11_doesAct : MethodName := ⟨RX11, "doesAct", "(II)V"⟩
abbrev cX11_doesRules : ByteArray := prog_13_method_36_code
def yX11_doesRules : MethodName := ⟨RX11, "doesRules", "(II)V"⟩
abbrev cX11_tillNext : ByteArray := prog_13_method_37_code
def yX11_tillNext : MethodName := ⟨RX11, "tillNext", "()I"⟩
abbrev cX11_burns : ByteArray := prog_13_method_38_code
def yX11_burns : MethodName := ⟨RX11, "burns", "(I)V"⟩
abbrev cX11_runs : ByteArray := prog_13_method_39_code
def yX11_runs : MethodName := ⟨RX11, "runs", "(II)V"⟩
abbrev cX11_waxBurnt : ByteArray := prog_13_method_40_code
def yX11_waxBurnt : MethodName := ⟨RX11, "waxBurnt", "()I"⟩
abbrev cX11_run : ByteArray := prog_13_method_41_code
def yX11_run : MethodName := ⟨RX11, "run", "(II)I"⟩
abbrev cX11_bell : ByteArray := prog_13_method_42_code
def yX11_bell : MethodName := ⟨RX11, "bell", "(II)I"⟩
abbrev cX11_ends : ByteArray := prog_13_method_43_code
def yX11_ends : MethodName := ⟨RX11, "ends", "(II)I"⟩
abbrev cX11_runsTo : ByteArray := prog_13_method_44_code
def yX11_runsTo : MethodName := ⟨RX11, "runsTo", "(II)V"⟩
abbrev cX11_rest : ByteArray := prog_13_method_45_code
def yX11_rest : MethodName := ⟨RX11, "rest", "(III)I"⟩
abbrev cX11_flames : ByteArray := prog_13_method_46_code
def yX11_flames : MethodName := ⟨RX11, "flames", "(III)I"⟩
abbrev cX11_idle : ByteArray := prog_13_method_47_code
def yX11_idle : MethodName := ⟨RX11, "idle", "(I)I"⟩
abbrev cX11_vain : ByteArray := prog_13_method_48_code
def yX11_vain : MethodName := ⟨RX11, "vain", "(II)I"⟩
abbrev cX11_isSpare : ByteArray := prog_13_method_49_code
def yX11_isSpare : MethodName := ⟨RX11, "isSpare", "(II)Z"⟩
abbrev cX11_spare : ByteArray := prog_13_method_50_code
def yX11_spare : MethodName := ⟨RX11, "spare", "(II)I"⟩
abbrev cX11_would : ByteArray := prog_13_method_51_code
def yX11_would : MethodName := ⟨RX11, "would", "(IIII)I"⟩
abbrev cX11_off : ByteArray := prog_13_method_52_code
def yX11_off : MethodName := ⟨RX11, "off", "(III)I"⟩
abbrev cX11_night : ByteArray := prog_13_method_53_code
def yX11_night : MethodName := ⟨RX11, "night", "(III)I"⟩
abbrev cX11_hears : ByteArray := prog_13_method_54_code
def yX11_hears : MethodName := ⟨RX11, "hears", "(I)V"⟩
abbrev cX11_chime : ByteArray := prog_13_method_55_code
def yX11_chime : MethodName := ⟨RX11, "chime", "(II)I"⟩
abbrev cX11_days : ByteArray := prog_13_method_56_code
def yX11_days : MethodName := ⟨RX11, "days", "(III)I"⟩
abbrev cX11_isSet : ByteArray := prog_13_method_57_code
def yX11_isSet : MethodName := ⟨RX11, "isSet", "(I)Z"⟩
abbrev cX11_seeks : ByteArray := prog_13_method_58_code
def yX11_seeks : MethodName := ⟨RX11, "seeks", "(IZI)V"⟩
abbrev cX11_meets : ByteArray := prog_13_method_59_code
def yX11_meets : MethodName := ⟨RX11, "meets", "(I)V"⟩
abbrev cX11_areTold : ByteArray := prog_13_method_60_code
def yX11_areTold : MethodName := ⟨RX11, "areTold", "(I)Z"⟩
abbrev cX11_adds : ByteArray := prog_13_method_61_code
def yX11_adds : MethodName := ⟨RX11, "adds", "(I)V"⟩
abbrev cX11_isTime : ByteArray := prog_13_method_62_code
def yX11_isTime : MethodName := ⟨RX11, "isTime", "(I)Z"⟩
abbrev cX11_timeAt : ByteArray := prog_13_method_63_code
def yX11_timeAt : MethodName := ⟨RX11, "timeAt", "(I)I"⟩
abbrev cX11_laysTimes : ByteArray := prog_13_method_64_code
def yX11_laysTimes : MethodName := ⟨RX11, "laysTimes", "(IZ)V"⟩
abbrev cX11_goes : ByteArray := prog_13_method_65_code
def yX11_goes : MethodName := ⟨RX11, "goes", "(I)V"⟩
abbrev cX11_can : ByteArray := prog_13_method_66_code
def yX11_can : MethodName := ⟨RX11, "can", "(IZI)I"⟩
abbrev cX11_isTold : ByteArray := prog_13_method_67_code
def yX11_isTold : MethodName := ⟨RX11, "isTold", "(IZI)Z"⟩
abbrev cX11_time : ByteArray := prog_13_method_68_code
def yX11_time : MethodName := ⟨RX11, "time", "(IZI)I"⟩
abbrev cX11_between : ByteArray := prog_13_method_69_code
def yX11_between : MethodName := ⟨RX11, "between", "(IZI)I"⟩
abbrev cX11_bitsOf : ByteArray := prog_13_method_70_code
def yX11_bitsOf : MethodName := ⟨RX11, "bitsOf", "(I)I"⟩
abbrev cX11_least : ByteArray := prog_13_method_71_code
def yX11_least : MethodName := ⟨RX11, "least", "(IZI)I"⟩
abbrev cX11_fewest : ByteArray := prog_13_method_72_code
def yX11_fewest : MethodName := ⟨RX11, "fewest", "(IZI)I"⟩
abbrev cX11_burnt : ByteArray := prog_13_method_73_code
def yX11_burnt : MethodName := ⟨RX11, "burnt", "(IZI)I"⟩
abbrev cX11_given : ByteArray := prog_13_method_74_code
def yX11_given : MethodName := ⟨RX11, "given", "(IZII)I"⟩
abbrev cX11_lacks : ByteArray := prog_13_method_75_code
def yX11_lacks : MethodName := ⟨RX11, "lacks", "(IZII)I"⟩
abbrev cX11_wants : ByteArray := prog_13_method_76_code
def yX11_wants : MethodName := ⟨RX11, "wants", "(I)V"⟩
abbrev cX11_areTogether : ByteArray := prog_13_method_77_code
def yX11_areTogether : MethodName := ⟨RX11, "areTogether", "(IZ)Z"⟩
abbrev cX11_leastFor : ByteArray := prog_13_method_78_code
def yX11_leastFor : MethodName := ⟨RX11, "leastFor", "(IZ)I"⟩
abbrev cX11_together : ByteArray := prog_13_method_79_code
def yX11_together : MethodName := ⟨RX11, "together", "(IZI)I"⟩
abbrev cX11_nearest : ByteArray := prog_13_method_80_code
def yX11_nearest : MethodName := ⟨RX11, "nearest", "(IZI)I"⟩
abbrev cX11_isFew : ByteArray := prog_13_method_81_code
def yX11_isFew : MethodName := ⟨RX11, "isFew", "(I)Z"⟩
abbrev cX11_spanAlong : ByteArray := prog_13_method_82_code
def yX11_spanAlong : MethodName := ⟨RX11, "spanAlong", "(IIII)I"⟩
abbrev cX11_isBurnt : ByteArray := prog_13_method_83_code
def yX11_isBurnt : MethodName := ⟨RX11, "isBurnt", "(II)Z"⟩
abbrev cX11_goesAlong : ByteArray := prog_13_method_84_code
def yX11_goesAlong : MethodName := ⟨RX11, "goesAlong", "(II)V"⟩
abbrev cX11_laysAlong : ByteArray := prog_13_method_85_code
def yX11_laysAlong : MethodName := ⟨RX11, "laysAlong", "(I)V"⟩
abbrev cX11_along : ByteArray := prog_13_method_86_code
def yX11_along : MethodName := ⟨RX11, "along", "(II)I"⟩
abbrev cX11_alongs : ByteArray := prog_13_method_87_code
def yX11_alongs : MethodName := ⟨RX11, "alongs", "(II)I"⟩
abbrev cX11_served : ByteArray := prog_13_method_88_code
def yX11_served : MethodName := ⟨RX11, "served", "(III)I"⟩
abbrev cX11_isNear : ByteArray := prog_13_method_89_code
def yX11_isNear : MethodName := ⟨RX11, "isNear", "(JII)Z"⟩
abbrev cX11_serves : ByteArray := prog_13_method_90_code
def yX11_serves : MethodName := ⟨RX11, "serves", "(III)I"⟩
abbrev cX11_fittest : ByteArray := prog_13_method_91_code
def yX11_fittest : MethodName := ⟨RX11, "fittest", "(II)I"⟩
abbrev cX11_mayBe : ByteArray := prog_13_method_92_code
def yX11_mayBe : MethodName := ⟨RX11, "mayBe", "(III)Z"⟩
abbrev cX11_log : ByteArray := prog_13_method_93_code
def yX11_log : MethodName := ⟨RX11, "log", "(I)I"⟩
abbrev cX11_plansOf : ByteArray := prog_13_method_94_code
def yX11_plansOf : MethodName := ⟨RX11, "plansOf", "(II)I"⟩
abbrev cX11_nearly : ByteArray := prog_13_method_95_code
def yX11_nearly : MethodName := ⟨RX11, "nearly", "(II)I"⟩
abbrev cX11_missed : ByteArray := prog_13_method_96_code
def yX11_missed : MethodName := ⟨RX11, "missed", "(III)I"⟩
abbrev cX11_stolen : ByteArray := prog_13_method_97_code
def yX11_stolen : MethodName := ⟨RX11, "stolen", "(II)I"⟩
abbrev cX11_cut : ByteArray := prog_13_method_98_code
def yX11_cut : MethodName := ⟨RX11, "cut", "(JI)J"⟩
abbrev cX11_numbers : ByteArray := prog_13_method_99_code
def yX11_numbers : MethodName := ⟨RX11, "numbers", "(III)I"⟩
abbrev cX11_write : ByteArray := prog_13_method_100_code
def yX11_write : MethodName := ⟨RX11, "write", "(IIJ)J"⟩
abbrev cX11_copy : ByteArray := prog_13_method_101_code
def yX11_copy : MethodName := ⟨RX11, "copy", "(II)I"⟩
abbrev cX11_image : ByteArray := prog_13_method_102_code
def yX11_image : MethodName := ⟨RX11, "image", "(I)I"⟩
abbrev cX11_restore : ByteArray := prog_13_method_103_code
def yX11_restore : MethodName := ⟨RX11, "restore", "(I)I"⟩
abbrev cX11_count : ByteArray := prog_13_method_104_code
def yX11_count : MethodName := ⟨RX11, "count", "(I)I"⟩
def RJ6 : String := "java/lang/Integer"
def TJ6 : u_T := fun k => match k with
  | _ => ("", "", "", false)
def tyJ6 : Nat → FieldType := fun k => match k with
  | _ => .int
abbrev wsJ60 : List Cond := u_ws RJ6 TJ6 0
theorem nmJ6 : ∀ a, a < 0 → ∀ b, b < 0 → a ≠ b → (TJ6 a).2.1 ≠ (TJ6 b).2.1 := by decide +kernel
theorem tyJ6_ok : ∀ k, k < 0 → parseFieldDescriptor (TJ6 k).2.2.1 = some (tyJ6 k) := by decide +kernel
abbrev cJ6_bitCount_0f7a4 : ByteArray := prog_14_method_49_code
def yJ6_bitCount_0f7a4 : MethodName := ⟨RJ6, "bitCount", "(I)I"⟩
def RJ13 : String := "java/lang/Long"
def TJ13 : u_T := fun k => match k with
  | _ => ("", "", "", false)
def tyJ13 : Nat → FieldType := fun k => match k with
  | _ => .int
abbrev wsJ130 : List Cond := u_ws RJ13 TJ13 0
theorem nmJ13 : ∀ a, a < 0 → ∀ b, b < 0 → a ≠ b → (TJ13 a).2.1 ≠ (TJ13 b).2.1 := by decide +kernel
theorem tyJ13_ok : ∀ k, k < 0 → parseFieldDescriptor (TJ13 k).2.2.1 = some (tyJ13 k) := by decide +kernel
abbrev cJ13_bitCount_95d88 : ByteArray := prog_15_method_50_code
def yJ13_bitCount_95d88 : MethodName := ⟨RJ13, "bitCount", "(J)I"⟩
def RJ9 : String := "java/lang/Math"
def TJ9 : u_T := fun k => match k with
  | _ => ("", "", "", false)
def tyJ9 : Nat → FieldType := fun k => match k with
  | _ => .int
abbrev wsJ90 : List Cond := u_ws RJ9 TJ9 0
theorem nmJ9 : ∀ a, a < 0 → ∀ b, b < 0 → a ≠ b → (TJ9 a).2.1 ≠ (TJ9 b).2.1 := by decide +kernel
theorem tyJ9_ok : ∀ k, k < 0 → parseFieldDescriptor (TJ9 k).2.2.1 = some (tyJ9 k) := by decide +kernel
abbrev cJ9_max_7cf53 : ByteArray := prog_16_method_65_code
def yJ9_max_7cf53 : MethodName := ⟨RJ9, "max", "(II)I"⟩
abbrev cJ9_min_7cf53 : ByteArray := prog_16_method_69_code
def yJ9_min_7cf53 : MethodName := ⟨RJ9, "min", "(II)I"⟩
def RJ0 : String := "java/lang/String"
def TJ0 : u_T := fun k => match k with
  | _ => ("", "", "", false)
def tyJ0 : Nat → FieldType := fun k => match k with
  | _ => .int
abbrev wsJ00 : List Cond := u_ws RJ0 TJ0 0
theorem nmJ0 : ∀ a, a < 0 → ∀ b, b < 0 → a ≠ b → (TJ0 a).2.1 ≠ (TJ0 b).2.1 := by decide +kernel
theorem tyJ0_ok : ∀ k, k < 0 → parseFieldDescriptor (TJ0 k).2.2.1 = some (tyJ0 k) := by decide +kernel
abbrev cJ0_length_8abf5 : ByteArray := prog_17_method_54_code
def yJ0_length_8abf5 : MethodName := ⟨RJ0, "length", "()I"⟩
abbrev cJ0_charAt_5068e : ByteArray := prog_17_method_56_code
def yJ0_charAt_5068e : MethodName := ⟨RJ0, "charAt", "(I)C"⟩
abbrev cJ0_coder_7d493 : ByteArray := prog_17_method_152_code
def yJ0_coder_7d493 : MethodName := ⟨RJ0, "coder", "()B"⟩
abbrev cJ0_isLatin1_aae02 : ByteArray := prog_17_method_154_code
def yJ0_isLatin1_aae02 : MethodName := ⟨RJ0, "isLatin1", "()Z"⟩
abbrev cJ0_checkIndex_df160 : ByteArray := prog_17_method_155_code
def yJ0_checkIndex_df160 : MethodName := ⟨RJ0, "checkIndex", "(II)V"⟩
def RJ1 : String := "java/lang/StringLatin1"
def TJ1 : u_T := fun k => match k with
  | _ => ("", "", "", false)
def tyJ1 : Nat → FieldType := fun k => match k with
  | _ => .int
abbrev wsJ10 : List Cond := u_ws RJ1 TJ1 0
theorem nmJ1 : ∀ a, a < 0 → ∀ b, b < 0 → a ≠ b → (TJ1 a).2.1 ≠ (TJ1 b).2.1 := by decide +kernel
theorem tyJ1_ok : ∀ k, k < 0 → parseFieldDescriptor (TJ1 k).2.2.1 = some (tyJ1 k) := by decide +kernel
abbrev cJ1_charAt_3b067 : ByteArray := prog_18_method_2_code
def yJ1_charAt_3b067 : MethodName := ⟨RJ1, "charAt", "([BI)C"⟩
def RJ2 : String := "java/lang/StringUTF16"
def TJ2 : u_T := fun k => match k with
  | _ => ("", "", "", false)
def tyJ2 : Nat → FieldType := fun k => match k with
  | _ => .int
abbrev wsJ20 : List Cond := u_ws RJ2 TJ2 0
theorem nmJ2 : ∀ a, a < 0 → ∀ b, b < 0 → a ≠ b → (TJ2 a).2.1 ≠ (TJ2 b).2.1 := by decide +kernel
theorem tyJ2_ok : ∀ k, k < 0 → parseFieldDescriptor (TJ2 k).2.2.1 = some (tyJ2 k) := by decide +kernel
abbrev cJ2_getChar_3b067 : ByteArray := prog_19_method_5_code
def yJ2_getChar_3b067 : MethodName := ⟨RJ2, "getChar", "([BI)C"⟩
abbrev cJ2_length_9d52b : ByteArray := prog_19_method_6_code
def yJ2_length_9d52b : MethodName := ⟨RJ2, "length", "([B)I"⟩
abbrev cJ2_charAt_3b067 : ByteArray := prog_19_method_83_code
def yJ2_charAt_3b067 : MethodName := ⟨RJ2, "charAt", "([BI)C"⟩
abbrev cJ2_checkIndex_2214a : ByteArray := prog_19_method_91_code
def yJ2_checkIndex_2214a : MethodName := ⟨RJ2, "checkIndex", "(I[B)V"⟩
def RJ10 : String := "java/lang/System"
def TJ10 : u_T := fun k => match k with
  | _ => ("", "", "", false)
def tyJ10 : Nat → FieldType := fun k => match k with
  | _ => .int
abbrev wsJ100 : List Cond := u_ws RJ10 TJ10 0
theorem nmJ10 : ∀ a, a < 0 → ∀ b, b < 0 → a ≠ b → (TJ10 a).2.1 ≠ (TJ10 b).2.1 := by decide +kernel
theorem tyJ10_ok : ∀ k, k < 0 → parseFieldDescriptor (TJ10 k).2.2.1 = some (tyJ10 k) := by decide +kernel
def RJ3 : String := "jdk/internal/util/Preconditions"
def TJ3 : u_T := fun k => match k with
  | _ => ("", "", "", false)
def tyJ3 : Nat → FieldType := fun k => match k with
  | _ => .int
abbrev wsJ30 : List Cond := u_ws RJ3 TJ3 0
theorem nmJ3 : ∀ a, a < 0 → ∀ b, b < 0 → a ≠ b → (TJ3 a).2.1 ≠ (TJ3 b).2.1 := by decide +kernel
theorem tyJ3_ok : ∀ k, k < 0 → parseFieldDescriptor (TJ3 k).2.2.1 = some (tyJ3 k) := by decide +kernel
abbrev cJ3_checkIndex_8e157 : ByteArray := prog_21_method_11_code
def yJ3_checkIndex_8e157 : MethodName := ⟨RJ3, "checkIndex", "(IILjava/util/function/BiFunction;)I"⟩
def RL : String := "UnevenWaxLaw"
abbrev cL_law : ByteArray := code
def yL_law : MethodName := ⟨RL, "law", "([I)Z"⟩
abbrev vwCl : List vw_C := [(RX0, TX0, 6), (RX1, TX1, 2), (RX2, TX2, 5), (RX3, TX3, 2), (RX4, TX4, 5), (RX5, TX5, 7), (RX6, TX6, 8), (RX7, TX7, 4), (RX8, TX8, 16), (RX9, TX9, 16), (RX10, TX10, 15), (RX11, TX11, 56)]
